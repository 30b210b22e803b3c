/-! ===== the class's calls ===== -/
theorem cl_nI {j : Nat} (h : j < 2 ^ 31) : cl (nI j) = j := nI_clamp h
section PUB1
variable {X : a_X} {m : Nat → Nat → Int32} {S : ST} {Q : Int32 → (Nat → Nat → Int32) → Prop}
theorem c_fault (hC : CI m S) (h : Q (qW S) m) : CallI X mX8_fault [.ref 0] m Q := by
  refine eX8_fault_0 ?_
  rw [hC.2.2.2.2.2.1.2.2]
  exact qI h
theorem c_told (hC : CI m S) {x : Int32} (h : Q (aTold S x) m) : CallI X mX8_told [.ref 0, .int x] m Q := by
  obtain ⟨hP, hB, -, -, hF, hT, -⟩ := hC
  refine eX8_told_0 ?_
  rw [hP.1 0 (by omega), hP.1 1 (by omega), hP.1 2 (by omega), hP.1 3 (by omega), hP.1 4 (by omega), hP.1 5 (by omega), hP.1 6 (by omega), hB.1, hB.2.1, hT.1, hF.1]
  refine ⟨fun c => ?_, fun c => ?_, fun c => ?_, fun c => ?_, fun c => ?_, fun c => ?_, fun c => ?_, fun c => ?_, fun c => ?_, fun c => ?_, fun c => ?_, fun c => ?_⟩
  · subst c; exact qI h
  · subst c; exact qI h
  · subst c; exact qI h
  · subst c; exact qI h
  · subst c; exact qI h
  · subst c; exact qI h
  · subst c; exact qI h
  · subst c; exact qI h
  · subst c; exact qI h
  · subst c; exact qI h
  · subst c; exact qI h
  · have : aTold S x = OUT := by
      have n : ∀ k : Int32, ¬ (k.toInt < 0 ∨ 10 < k.toInt) → ¬ x = k := fun k hk q => hk (q ▸ c)
      unfold aTold
      rw [if_neg (n 0 (by decide)), if_neg (n 1 (by decide)), if_neg (n 2 (by decide)), if_neg (n 3 (by decide)), if_neg (n 4 (by decide)), if_neg (n 5 (by decide)), if_neg (n 6 (by decide)), if_neg (n 7 (by decide)), if_neg (n 8 (by decide)), if_neg (n 9 (by decide)), if_neg (n 10 (by decide))]
    rw [this] at h
    exact qI h
theorem c_kind (hC : CI m S) (hV : VS S) {k x : Int32} (h : Q (aKind S k x) m) : CallI X mX8_kind [.ref 0, .int k, .int x] m Q := by
  obtain ⟨hP, -⟩ := hC
  have h6 := hV.1.2.2.2.2.2.2.1
  unfold aKind at h
  refine eX8_kind_0 (s_hasKind hP ?_)
  rcases ink_cases k (show pn (qP S) 6 < 2 ^ 31 by omega) with e | ⟨j, hj, rfl, e⟩
  · rw [e] at h ⊢
    exact ⟨fun c => absurd rfl c, fun _ => qI h⟩
  · rw [e, if_pos rfl, cl_nI (by omega)] at h
    rw [e, nI_clamp (n := j) (by omega), (hP.2.2.2 j hj).1, (hP.2.2.2 j hj).2.1, (hP.2.2.2 j hj).2.2]
    have J : vp_in (nI j) 12 := pk_in j 12 (by omega)
    refine ⟨fun _ => ⟨fun c => ⟨J, ?_⟩, fun c => ⟨J, ?_⟩, fun c => ⟨J, ?_⟩, fun c => ?_⟩, fun c => absurd c (by decide)⟩
    · subst c; exact qI h
    · subst c; exact qI h
    · subst c; exact qI h
    · have n : ∀ k : Int32, ¬ (k.toInt < 0 ∨ 2 < k.toInt) → ¬ x = k := fun k hk q => hk (q ▸ c)
      rw [if_neg (n 0 (by decide)), if_neg (n 1 (by decide)), if_neg (n 2 (by decide))] at h
      exact qI h
theorem c_passes (hC : CI m S) (hV : VS S) {x : Int32} (h : Q (aPasses S x) m) : CallI X mX8_passes [.ref 0, .int x] m Q := by
  obtain ⟨hP, -⟩ := hC
  have h0 := hV.1.1
  have h1 := hV.1.2.1
  unfold aPasses at h
  refine eX8_passes_0 (s_hasCell hP ?_)
  have e0 : ink 0 (pn (qP S) 1) = true := ink_nI (j := 0) (by omega) (by omega)
  rw [e0, Bool.and_true]
  rcases ink_cases x (show pn (qP S) 0 < 2 ^ 31 by omega) with e | ⟨j, hj, rfl, e⟩
  · rw [e] at h ⊢
    exact ⟨fun _ => qI h, fun c => absurd rfl c⟩
  · rw [e, if_pos rfl, cl_nI (by omega)] at h
    rw [e, nI_clamp (n := j) (by omega), hP.2.1 j (by omega)]
    exact ⟨fun c => absurd c (by decide), fun _ => ⟨pk_in j 16 (by omega), qI h⟩⟩
/-- a cell of the wall, or not -/
theorem isC_cases {P : PT} (hVP : VP P) (x y : Int32) : isC P x y = false ∨ ∃ i j, i < pn P 0 ∧ j < pn P 1 ∧ i < 16 ∧ j < 8 ∧ x = nI i ∧ y = nI j ∧ isC P x y = true ∧ cel x y = 16 * j + i ∧ 16 * j + i < 128 := by
  have h0 := hVP.1
  have h1 := hVP.2.1
  unfold isC
  rcases ink_cases x (show pn P 0 < 2 ^ 31 by omega) with e | ⟨i, hi, rfl, e⟩
  · rw [e]; exact Or.inl rfl
  · rcases ink_cases y (show pn P 1 < 2 ^ 31 by omega) with f | ⟨j, hj, rfl, f⟩
    · rw [e, f]; exact Or.inl rfl
    · rw [e, f]
      refine Or.inr ⟨i, j, hi, hj, by omega, by omega, rfl, rfl, rfl, ?_, by omega⟩
      show 16 * cl (nI j) + cl (nI i) = _
      rw [cl_nI (by omega), cl_nI (by omega)]
theorem c_bare (hC : CI m S) (hV : VS S) {x y : Int32} (h : Q (aBare S x y) m) : CallI X mX8_bare [.ref 0, .int x, .int y] m Q := by
  obtain ⟨hP, -⟩ := hC
  unfold aBare at h
  refine eX8_bare_0 (s_hasCell hP ?_)
  show _ ∧ _
  rcases isC_cases hV.1 x y with e | ⟨i, j, hi, hj, hi2, hj2, rfl, rfl, e, ec, hc⟩
  · rw [e, if_neg (by decide)] at h
    unfold isC at e
    rw [e]
    exact ⟨fun c => absurd rfl c, fun _ => qI h⟩
  · rw [e, if_pos rfl, ec] at h
    unfold isC at e
    rw [e, nI_clamp (n := j) (by omega)]
    refine ⟨fun _ => ⟨pk_in j 8 hj2, s_isIn (by omega) ?_⟩, fun c => absurd c (by decide)⟩
    rw [(hP.2.2.1 j hj2).nth (by omega) hi2 rfl]
    refine ⟨fun z => ?_, fun z => ?_⟩
    · rw [bI_0] at z
      rw [z] at h; exact qI h
    · rw [bI_n0] at z
      rw [z] at h; exact qI h
theorem c_days (hC : CI m S) {n : Int32} (h : ∀ m', Fr (fun c => c ≤ 76) m m' → CI m' (nDays S n) → Q (aDays S n) m') : CallI X mX8_days [.ref 0, .int n] m Q := by
  have hB := hC.2.1
  unfold aDays nDays at h
  refine eX8_days_0 ⟨fun c => ?_, fun c => ?_⟩
  · rw [if_neg (by rw [ink_n c]; decide), if_neg (by rw [ink_n c]; decide)] at h
    exact qI (h m Fr.rf hC)
  · obtain ⟨j, hj, rfl⟩ := nI_of c
    refine pk_le j 999 (fun d m1 e1 => ?_) (fun d => ?_)
    · have e : ink (nI j) 1000 = true := ink_nI (by omega) (by omega)
      rw [if_pos e, if_pos e] at h
      rw [e1, a_up_s, hB.2.1, ← hB.2.1, ← e1, hB.2.1]
      rw [hB.2.1] at e1
      refine qI (h m1 (e1 ▸ Fr.up Fr.rf (by omega)) (hC.bills (fun c hc => by rw [e1, a_up_c _ _ (by omega)]) ?_ (hC.2.2.2.2.2.2.1.fr (by rw [e1, a_up_c _ _ (by omega)]) (by rw [e1, a_up_c _ _ (by omega)])) (hC.2.2.2.2.2.2.2.1.fr (by rw [e1, a_up_c _ _ (by omega)]) (by rw [e1, a_up_c _ _ (by omega)])) (hC.2.2.2.2.2.2.2.2.fr (by rw [e1, a_up_c _ _ (by omega)]) (by rw [e1, a_up_c _ _ (by omega)]))))
      obtain ⟨E1, E2, E3, E9, EA, EF, EC⟩ := hB
      have e0 : ∀ i, i ≠ 2 → m1 15 i = m 15 i := fun i hi => by rw [e1, a_up_n _ _ (Or.inr hi)]
      have k0 : ∀ c, c ≠ 15 → m1 c = m c := fun c hc => by rw [e1, a_up_c _ _ hc]
      refine ⟨?_, ?_, ?_, ?_, ?_, ?_, ?_⟩
      · rw [e0 _ (by omega)]; exact E1
      · rw [e1, a_up_s]; rfl
      · rw [e0 _ (by omega)]; exact E3
      · rw [e0 _ (by omega)]; exact E9
      · intro i hi
        rw [k0 _ (by omega), k0 _ (by omega), k0 _ (by omega), k0 _ (by omega)]; exact EA i hi
      · rw [k0 _ (by omega)]; exact EF
      · rw [k0 _ (by omega), k0 _ (by omega)]; exact EC
    · have e : ink (nI j) 1000 = false := decide_eq_false fun q => q.2 (nI_le (by omega) hj)
      rw [if_neg (by rw [e]; decide), if_neg (by rw [e]; decide)] at h
      exact qI (h m Fr.rf hC)
theorem c_above (hC : CI m S) (hV : VS S) {x y : Int32} (h : Q (aAbove S x y) m) : CallI X mX8_above [.ref 0, .int x, .int y] m Q := by
  obtain ⟨hP, hB, -⟩ := hC
  unfold aAbove at h
  refine eX8_above_0 (s_hasCell hP ?_)
  show _ ∧ _
  rcases isC_cases hV.1 x y with e | ⟨i, j, hi, hj, hi2, hj2, rfl, rfl, e, ec, hc⟩
  · rw [e, if_neg (by decide)] at h
    unfold isC at e
    rw [e]
    exact ⟨fun _ => qI h, fun c => absurd rfl c⟩
  · rw [e, if_pos rfl, ec] at h
    unfold isC at e
    rw [e]
    exact ⟨fun c => absurd c (by decide), fun _ => s_cellAt (s_above sB15 hB hV.2.1 hc (qI h))⟩
theorem c_bill (hC : CI m S) (hV : VS S) {b x : Int32} (h : ∀ m', Fr (fun c => c ≤ 76) m m' → CI m' S → Q (aBill S b x) m') : CallI X mX8_bill [.ref 0, .int b, .int x] m Q := by
  obtain ⟨hP, hB, -⟩ := id hC
  have vP := hV.1
  have vB := hV.2.1
  have hn := vB.1
  have h6 := vP.2.2.2.2.2.2.1
  unfold aBill at h
  refine eX8_bill_0 (s_has sB15 hB.1 ?_)
  rcases ink_cases b (show bn (qB S) < 2 ^ 31 by omega) with e | ⟨j, hj, rfl, e⟩
  · rw [e, if_neg (by decide)] at h
    rw [e]
    exact ⟨fun c => absurd rfl c, fun _ => qI (h m Fr.rf hC)⟩
  · rw [e, if_pos rfl, cl_nI (by omega)] at h
    rw [e]
    refine ⟨fun _ => s_lookAt sS41 sB15 (by omega) (by omega) hP vP hB vB fun m3 f3 S3 => ?_, fun c => absurd c (by decide)⟩
    have P3 : EP m3 (qP S) := hP.fr fun c h1 h2 => f3 c (by omega)
    have B3 : EB m3 15 (qP S) (qB S) := hB.fr fun c h1 h2 => f3 c (by omega)
    have h := h m3 (f3.mono fun c hc => by omega) (hC.scr (fun c hc => f3 c (by omega)) (hC.2.2.2.2.2.2.1.fr (f3 _ (by omega)) (f3 _ (by omega))) (hC.2.2.2.2.2.2.2.1.fr (f3 _ (by omega)) (f3 _ (by omega))) (hC.2.2.2.2.2.2.2.2.fr (f3 _ (by omega)) (f3 _ (by omega))))
    have J : vp_in (nI j) 20 := pk_in j 20 (by omega)
    obtain ⟨hk, -⟩ := vB.2 j hj
    obtain ⟨a1, a2, a3, a4⟩ := B3.2.2.2.2.1 j hj
    have s2 := (S3.2 j (by omega)).1
    rw [nI_clamp (n := j) (by omega), a1, a2, a3, a4, s2]
    have q1 := seen_le (qP S) (qB S) j
    have q2 := siz_le vP hk
    refine ⟨fun c => ⟨J, ?_⟩, fun c => ⟨J, ?_⟩, fun c => ⟨J, ?_⟩, fun c => ⟨J, ?_⟩, fun c => ⟨J, ?_⟩, fun c => ?_, fun c => ⟨J, ?_⟩, fun c => ?_, fun c => ?_, fun c => ?_⟩
    · subst c; exact qI h
    · subst c; exact qI h
    · subst c; exact qI h
    · subst c; exact qI h
    · subst c; exact qI h
    · subst c; exact s_tornCells sB15 P3 vP B3 vB hj (qI h)
    · subst c
      refine s_allCells sB15 P3 (by omega) h6 hk a1 (s_canRead P3 vP (by omega) (by omega) ?_)
      have h : Q (bI (red (qP S) (qB S) j)) m3 := h
      unfold red at h
      refine ⟨fun z => ?_, fun z => ?_⟩
      · rw [bI_0] at z
        rw [z] at h; exact qI h
      · rw [bI_n0] at z
        rw [z] at h; exact qI h
    · subst c; exact s_worthOf sS41 sB15 P3 vP B3 vB S3 hj (qI h)
    · subst c
      refine s_isOn sB15 (by omega) ?_
      rw [B3.2.2.2.1.nth (by omega) hj rfl]
      have h : Q (bI (bon (qB S) j)) m3 := h
      refine ⟨fun z => ?_, fun z => ?_⟩
      · rw [bI_0] at z
        rw [z] at h; exact qI h
      · rw [bI_n0] at z
        rw [z] at h; exact qI h
    · have n : ∀ k : Int32, ¬ (k.toInt < 0 ∨ 8 < k.toInt) → ¬ x = k := fun k hk q => hk (q ▸ c)
      rw [if_neg (n 0 (by decide)), if_neg (n 1 (by decide)), if_neg (n 2 (by decide)), if_neg (n 3 (by decide)), if_neg (n 4 (by decide)), if_neg (n 5 (by decide)), if_neg (n 6 (by decide)), if_neg (n 7 (by decide)), if_neg (n 8 (by decide))] at h
      exact qI h
/-- a bill, or not -/
theorem s_hasB {x : Int32} {A C : Prop} (hn : bn (qB S) ≤ 20) (f : ink x (bn (qB S)) = false → A) (g : ∀ j, j < bn (qB S) → x = nI j → ink x (bn (qB S)) = true → C) : (bI (ink x (bn (qB S))) = 0 → A) ∧ (¬ bI (ink x (bn (qB S))) = 0 → C) := by
  rcases ink_cases x (show bn (qB S) < 2 ^ 31 by omega) with e | ⟨j, hj, hx, e⟩
  · exact ⟨fun _ => f e, fun c => absurd (by rw [e]; rfl) c⟩
  · exact ⟨fun c => by rw [e] at c; exact absurd c (by decide), fun _ => g j hj hx e⟩
theorem c_over (hC : CI m S) (hV : VS S) {b : Int32} (h : Q (aOver S b) m) : CallI X mX8_over [.ref 0, .int b] m Q := by
  obtain ⟨hP, hB, -⟩ := hC
  have hn := hV.2.1.1
  unfold aOver at h
  refine eX8_over_0 (s_has sB15 hB.1 (s_hasB hn (fun e => ?_) fun j hj hx e => ?_))
  · rw [e, if_neg (by decide)] at h
    exact qI h
  · subst hx
    rw [e, if_pos rfl, cl_nI (by omega)] at h
    refine s_coversOf sB15 hP hV.1 hB hV.2.1 hj fun a ha => ?_
    rw [isS_ofB ha]
    exact qI h
theorem c_free (hC : CI m S) (hV : VS S) {b : Int32} (h : Q (aFree S b) m) : CallI X mX8_free [.ref 0, .int b] m Q := by
  obtain ⟨hP, hB, -⟩ := hC
  have hn := hV.2.1.1
  unfold aFree at h
  refine eX8_free_0 (s_has sB15 hB.1 (s_hasB hn (fun e => ?_) fun j hj hx e => ?_).symm)
  · rw [e, if_neg (by decide)] at h
    exact qI h
  · subst hx
    rw [e, if_pos rfl, cl_nI (by omega)] at h
    refine s_isOn sB15 (by omega) ?_
    rw [hB.2.2.2.1.nth (by omega) hj rfl]
    refine ⟨fun z => ?_, fun z => ?_⟩
    · rw [bI_0] at z
      rw [z, if_neg (by decide)] at h; exact qI h
    · rw [bI_n0] at z
      rw [z, if_pos rfl] at h
      refine s_toFree sB15 hP hV.1 hB hV.2.1 hj fun a ha => ?_
      rw [frv_e ha]
      exact qI h
theorem c_reveal (hC : CI m S) (hV : VS S) {b : Int32} (h : ∀ m', Fr (fun c => c ≤ 76) m m' → CI m' S → Q (aReveal S b) m') : CallI X mX8_reveal [.ref 0, .int b] m Q := by
  obtain ⟨hP, hB, -⟩ := id hC
  have hn := hV.2.1.1
  unfold aReveal at h
  have h0 := h m Fr.rf hC
  refine eX8_reveal_0 (s_has sB15 hB.1 (s_hasB hn (fun e => ?_) fun j hj hx e => ?_).symm)
  · rw [e, if_neg (by decide)] at h0
    exact qI h0
  · subst hx
    rw [e, if_pos rfl, cl_nI (by omega)] at h h0
    refine s_isOn sB15 (by omega) ?_
    rw [hB.2.2.2.1.nth (by omega) hj rfl]
    refine ⟨fun z => ?_, fun z => ?_⟩
    · rw [bI_0] at z
      rw [z, if_neg (by decide)] at h0; exact qI h0
    · rw [bI_n0] at z
      rw [z, if_pos rfl] at h h0
      refine s_toFree sB15 hP hV.1 hB hV.2.1 hj fun a ha => ?_
      rw [frv_e ha]
      have pl : pcn 32 (frv (qP S) (qB S) j) ≤ 32 := by rw [pcn_cnt]; exact cnt_le _ _
      refine s_bitN (pk_le (pcn 32 (frv (qP S) (qB S) j)) 12 (fun c => ?_) (fun c => ?_))
      · rw [if_pos c] at h
        refine s_toRead hP hV.1 hB hV.2.1 hj c fun m' f => qI (h m' (f.mono fun c hc => by omega) (hC.scr (fun c hc => f c (by omega)) (hC.2.2.2.2.2.2.1.fr (f _ (by omega)) (f _ (by omega))) (hC.2.2.2.2.2.2.2.1.fr (f _ (by omega)) (f _ (by omega))) (hC.2.2.2.2.2.2.2.2.fr (f _ (by omega)) (f _ (by omega)))))
      · rw [if_neg (by omega)] at h0
        exact qI h0
theorem CI.el {m' : Nat → Nat → Int32} (hC : CI m S) (f : ∀ c, 41 ≤ c → c ≤ 70 → m' c = m c) : EL m' 41 ∧ EL m' 59 ∧ EL m' 65 := ⟨hC.2.2.2.2.2.2.1.fr (f _ (by omega) (by omega)) (f _ (by omega) (by omega)), hC.2.2.2.2.2.2.2.1.fr (f _ (by omega) (by omega)) (f _ (by omega) (by omega)), hC.2.2.2.2.2.2.2.2.fr (f _ (by omega) (by omega)) (f _ (by omega) (by omega))⟩
theorem c_peel (hC : CI m S) (hV : VS S) {b : Int32} (h : ∀ m', Fr (fun c => c ≤ 76) m m' → CI m' (nPeel S b) → Q (aPeel S b) m') : CallI X mX8_peel [.ref 0, .int b] m Q := by
  obtain ⟨hP, hB, -⟩ := id hC
  have hn := hV.2.1.1
  unfold aPeel nPeel at h
  refine eX8_peel_0 (s_has sB15 hB.1 (s_hasB hn (fun e => ?_) fun j hj hx e => ?_).symm)
  · rw [e, if_neg (by decide), if_neg (by decide)] at h
    exact qI (h m Fr.rf hC)
  · subst hx
    rw [e, if_pos rfl, if_pos rfl, cl_nI (by omega)] at h
    refine s_isOn sB15 (by omega) ?_
    rw [hB.2.2.2.1.nth (by omega) hj rfl]
    refine ⟨fun z => ?_, fun z => ?_⟩
    · rw [bI_0] at z
      rw [z, if_neg (by decide), if_neg (by decide)] at h
      exact qI (h m Fr.rf hC)
    · rw [bI_n0] at z
      rw [z, if_pos rfl, if_pos rfl] at h
      refine s_coversOf sB15 hP hV.1 hB hV.2.1 hj fun a ha => ?_
      rw [isS_ofB ha, show ofB (cov (qP S) (qB S) j) 32 = ovr (qP S) (qB S) j from rfl]
      have lo : ovr (qP S) (qB S) j < 2 ^ 32 := (ofB_t _ 32).1
      have iff : nI (ovr (qP S) (qB S) j) = 0 ↔ ovr (qP S) (qB S) j = 0 := by
        rw [show (0 : Int32) = nI 0 from rfl]
        constructor
        · intro q
          have := congrArg (fun z : Int32 => z.toBitVec.toNat) q
          rw [pk_tn lo, pk_tn (by omega)] at this
          exact this
        · intro q; rw [q]
      refine ⟨fun y => ?_, fun y => ?_⟩
      · rw [if_pos (iff.mp y), if_pos (iff.mp y)] at h
        refine s_takeOff sB15 (by omega) hP hV.1 hB hV.2.1 hj fun m' f E => ?_
        obtain ⟨l1, l2, l3⟩ := hC.el (fun c h1 h2 => f c (by omega))
        exact qI (h m' (f.mono fun c hc => by omega) (hC.bills (fun c hc => f c (by omega)) E l1 l2 l3))
      · rw [if_neg (fun q => y (iff.mpr q)), if_neg (fun q => y (iff.mpr q))] at h
        exact qI (h m Fr.rf hC)
theorem c_tear (hC : CI m S) (hV : VS S) {x y : Int32} (h : ∀ m', Fr (fun c => c ≤ 76) m m' → CI m' (nTear S x y) → Q (aAbove S x y) m') : CallI X mX8_tear [.ref 0, .int x, .int y] m Q := by
  obtain ⟨hP, hB, -⟩ := id hC
  unfold aAbove nTear at h
  refine eX8_tear_0 (s_hasCell hP ?_)
  show _ ∧ _
  rcases isC_cases hV.1 x y with e | ⟨i, j, hi, hj, hi2, hj2, rfl, rfl, e, ec, hc⟩
  · rw [e, if_neg (by decide), if_neg (by decide)] at h
    unfold isC at e
    rw [e]
    exact ⟨fun _ => qI (h m Fr.rf hC), fun c => absurd rfl c⟩
  · rw [e, if_pos rfl, if_pos rfl, ec] at h
    unfold isC at e
    rw [e]
    refine ⟨fun c => absurd c (by decide), fun _ => s_cellAt (s_tearTop sB15 (by omega) hB hV.2.1 hc fun m' f E => ?_)⟩
    obtain ⟨l1, l2, l3⟩ := hC.el (fun c h1 h2 => f c (by omega))
    exact qI (h m' (f.mono fun c hc => by omega) (hC.bills (fun c hc => f c (by omega)) E l1 l2 l3))
theorem c_rain (hC : CI m S) (hV : VS S) {k : Int32} (h : ∀ m', Fr (fun c => c ≤ 76) m m' → CI m' (nRain S k) → Q (aRain S k) m') : CallI X mX8_rain [.ref 0, .int k] m Q := by
  obtain ⟨hP, hB, -⟩ := id hC
  unfold aRain nRain at h
  refine eX8_rain_0 ⟨fun c => ?_, fun c => ?_⟩
  · rw [if_neg (by rw [ink_n c]; decide), if_neg (by rw [ink_n c]; decide)] at h
    exact qI (h m Fr.rf hC)
  · obtain ⟨j, hj, rfl⟩ := nI_of c
    refine pk_le j 100 (fun d => ?_) (fun d => ?_)
    · have e : ink (nI j) 101 = true := ink_nI (by omega) (by omega)
      rw [if_pos e, if_pos e] at h
      refine s_loosen sB15 (by omega) hP hV.1 hB hV.2.1 fun m' f E => ?_
      obtain ⟨l1, l2, l3⟩ := hC.el (fun c h1 h2 => f c (by omega))
      exact qI (h m' (f.mono fun c hc => by omega) (hC.bills (fun c hc => f c (by omega)) E l1 l2 l3))
    · have e : ink (nI j) 101 = false := decide_eq_false fun q => q.2 (nI_le (by omega) hj)
      rw [if_neg (by rw [e]; decide), if_neg (by rw [e]; decide)] at h
      exact qI (h m Fr.rf hC)
theorem c_owner (hC : CI m S) (hV : VS S) {o x : Int32} (h : ∀ m', Fr (fun c => c ≤ 76) m m' → CI m' S → Q (aOwner S o x) m') : CallI X mX8_owner [.ref 0, .int o, .int x] m Q := by
  obtain ⟨hP, hB, -⟩ := id hC
  unfold aOwner at h
  have h0 := h m Fr.rf hC
  refine eX8_owner_0 ⟨fun c => ?_, fun c => ?_⟩
  · rw [if_neg (by rw [ink_n c]; decide)] at h0
    exact qI h0
  · obtain ⟨j, hj, rfl⟩ := nI_of c
    refine pk_lt j 6 (fun d => ?_) (fun d => ?_)
    · have e : ink (nI j) 6 = true := ink_nI (by omega) (by omega)
      rw [if_pos e, cl_nI (by omega)] at h h0
      refine ⟨fun c => ?_, fun c => ?_, fun c => ?_, fun c => ?_⟩
      · subst c
        refine s_lookAt sS41 sB15 (by omega) (by omega) hP hV.1 hB hV.2.1 fun m3 f3 S3 => ?_
        refine s_worthOfOwner sS41 sB15 (hP.fr fun c h1 h2 => f3 c (by omega)) hV.1 (hB.fr fun c h1 h2 => f3 c (by omega)) hV.2.1 S3 d (qI (h m3 (f3.mono fun c hc => by omega) (hC.scr (fun c hc => f3 c (by omega)) (hC.2.2.2.2.2.2.1.fr (f3 _ (by omega)) (f3 _ (by omega))) (hC.2.2.2.2.2.2.2.1.fr (f3 _ (by omega)) (f3 _ (by omega))) (hC.2.2.2.2.2.2.2.2.fr (f3 _ (by omega)) (f3 _ (by omega))))))
      · subst c
        rw [nI_clamp (n := j) (by omega)]
        refine ⟨pk_in j 6 d, ?_⟩
        rw [hB.2.2.2.2.2.1 j d]
        exact qI h0
      · subst c
        exact s_hangingOf sB15 hP hV.1 hB hV.2.1 d (qI h0)
      · have n : ∀ k : Int32, ¬ (k.toInt < 0 ∨ 2 < k.toInt) → ¬ x = k := fun k hk q => hk (q ▸ c)
        rw [if_neg (n 0 (by decide)), if_neg (n 1 (by decide)), if_neg (n 2 (by decide))] at h0
        exact qI h0
    · have e : ink (nI j) 6 = false := decide_eq_false fun q => q.2 (nI_le (by omega) hj)
      rw [if_neg (by rw [e]; decide)] at h0
      exact qI h0
end PUB1
