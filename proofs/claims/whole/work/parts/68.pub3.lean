/-! ===== the class's calls: places, draws, images, the text ===== -/
theorem ink_f {n j : Nat} (h : n ≤ j) (hj : j < 2 ^ 31) : ink (nI j) n = false := decide_eq_false fun q => q.2 (nI_le h hj)
theorem ink_le {x y : Int32} {n : Nat} {A C : Prop} (hx : ¬ x < 0) (hn : n + 1 < 2 ^ 31) (hy : y = nI n) (g : ink x (n + 1) = true → A) (f : ink x (n + 1) = false → C) : (x ≤ y → A) ∧ (¬ x ≤ y → C) := by
  subst hy
  obtain ⟨j, hj, rfl⟩ := nI_of hx
  exact pk_le j n (fun c => g (ink_nI (by omega) hn)) (fun c => f (ink_f (by omega) hj))
section PUB3
variable {X : a_X} {m : Nat → Nat → Int32} {S : ST} {Q : Int32 → (Nat → Nat → Int32) → Prop}
theorem c_best (hC : CI m S) (hV : VS S) {k x : Int32} (h : ∀ m', Fr (fun c => c ≤ 76) m m' → CI m' S → Q (aBest S k x) m') : CallI X mX8_best [.ref 0, .int k, .int x] m Q := by
  obtain ⟨hP, hB, -⟩ := id hC
  have vP := hV.1
  have vB := hV.2.1
  have hn := vB.1
  unfold aBest at h
  have h0 := h m Fr.rf hC
  refine eX8_best_0 (s_hasKind hP (k_cases vP (fun e => ?_) fun j hj hj2 hx e => ?_).symm)
  · rw [e, if_neg (by decide)] at h0
    exact qI h0
  · subst hx
    rw [e, if_pos rfl, cl_nI (by omega)] at h h0
    refine ⟨fun c => ?_, fun c => ink_le (n := 2) c (by omega) rfl (fun f => ?_) (fun f => ?_)⟩
    · rw [if_neg (by rw [ink_n c]; decide)] at h0
      exact qI h0
    · rw [if_pos f] at h h0
      refine s_isFull sB15 hn hB.1 ⟨fun z => ?_, fun z => ?_⟩
      · rw [bI_0] at z
        have z := of_decide_eq_false z
        rw [if_neg z] at h
        refine s_findOne sB15 (by omega) (by omega) (by omega) hP vP hB vB hC.2.2.2.2.2.2.2.1 hj fun m5 f5 i5 S5 L5 p5 => ?_
        have C5 : CI m5 S := hC.scr (fun c hc => f5 c (by omega)) (hC.2.2.2.2.2.2.1.fr (f5 _ (by omega)) (f5 _ (by omega))) L5 (hC.2.2.2.2.2.2.2.2.fr (f5 _ (by omega)) (f5 _ (by omega)))
        have h := h m5 (f5.mono fun c hc => by omega) C5
        generalize bN (qP S) (qB S) j 128 = u at *
        cases u with
        | none => exact ⟨fun c => absurd p5 c, fun _ => qI h⟩
        | some v =>
          obtain ⟨g, a, b⟩ := v
          obtain ⟨q4, q9, q5, q6⟩ := p5
          dsimp only at h
          refine ⟨fun _ => ?_, fun c => absurd (q4.symm.trans c) (by decide)⟩
          rw [q9, q5, q6]
          refine ⟨fun d => ?_, fun d => ⟨fun d2 => ?_, fun d2 => ?_⟩⟩
          · rw [if_pos d] at h; exact qI h
          · rw [if_neg d, if_pos d2] at h; exact qI h
          · rw [if_neg d, if_neg d2] at h; exact qI h
      · rw [bI_n0] at z
        have z := of_decide_eq_true z
        rw [if_pos z] at h0
        exact qI h0
    · rw [if_neg (by rw [f]; decide)] at h0
      exact qI h0
theorem c_two (hC : CI m S) (hV : VS S) {k j x : Int32} (h : ∀ m', Fr (fun c => c ≤ 76) m m' → CI m' S → Q (aTwo S k j x) m') : CallI X mX8_two [.ref 0, .int k, .int j, .int x] m Q := by
  obtain ⟨hP, hB, -⟩ := id hC
  have vP := hV.1
  have vB := hV.2.1
  have hn := vB.1
  unfold aTwo at h
  have h0 := h m Fr.rf hC
  refine eX8_two_0 (s_hasKind hP (k_cases vP (fun e => ?_) fun a ha ha2 hx e => s_hasKind hP (k_cases vP (fun f => ?_) fun b hb hb2 hy f => ?_).symm))
  · rw [e, if_neg (by decide)] at h0
    exact qI h0
  · rw [e, if_pos rfl, f, if_neg (by decide)] at h0
    exact qI h0
  · subst hx hy
    rw [e, if_pos rfl, f, if_pos rfl, cl_nI (by omega), cl_nI (by omega)] at h h0
    refine ⟨fun c => ?_, fun c => ink_le (n := 4) c (by omega) rfl (fun z => ⟨pk_in a 12 ha2, pk_in b 12 hb2, ?_⟩) (fun z => ?_)⟩
    · rw [if_neg (by rw [ink_n c]; decide)] at h0
      exact qI h0
    · rw [if_pos z] at h h0
      have oa := (vP.2.2.2.2.2.2.2.2 a ha).1
      have ob := (vP.2.2.2.2.2.2.2.2 b hb).1
      rw [nI_clamp (n := a) (by omega), nI_clamp (n := b) (by omega), (hP.2.2.2 a ha).1, (hP.2.2.2 b hb).1, hB.1]
      refine (pk_eq (pow (qP S) a) (pow (qP S) b) (fun c => ?_) (fun c => ?_)).symm
      · rw [if_pos c] at h h0
        refine pk_le (bn (qB S)) 18 (fun d => ?_) (fun d => ?_)
        · rw [if_pos d] at h
          refine s_findTwo hP vP hB vB d hC.2.2.2.2.2.2.2.1 hC.2.2.2.2.2.2.2.2 ha hb fun m5 f5 L5 M5 p5 => ?_
          have h := h m5 (f5.mono fun c hc => by omega) (hC.scr (fun c hc => f5 c (by omega)) (hC.2.2.2.2.2.2.1.fr (f5 _ (by omega)) (f5 _ (by omega))) L5 M5)
          generalize tN (qP S) (qB S) a b 128 = u at *
          cases u with
          | none => exact ⟨fun c => absurd p5 c, fun _ => qI h⟩
          | some v =>
            obtain ⟨g, x1, y1, x2, y2⟩ := v
            obtain ⟨q4, q9, q5, q6, q7, q8⟩ := p5
            dsimp only at h
            refine ⟨fun _ => ?_, fun c => absurd (q4.symm.trans c) (by decide)⟩
            rw [q9, q5, q6, q7, q8]
            refine ⟨fun d => ?_, fun d => ?_, fun d => ?_, fun d => ?_, fun d => ?_⟩
            · subst d; exact qI h
            · subst d; exact qI h
            · subst d; exact qI h
            · subst d; exact qI h
            · have n : ∀ k : Int32, ¬ (k.toInt < 0 ∨ 3 < k.toInt) → ¬ x = k := fun k hk q => hk (q ▸ d)
              rw [if_neg (n 0 (by decide)), if_neg (n 1 (by decide)), if_neg (n 2 (by decide)), if_neg (n 3 (by decide))] at h
              exact qI h
        · rw [if_neg (by omega)] at h0
          exact qI h0
      · rw [if_neg c] at h0
        exact qI h0
    · rw [if_neg (by rw [z]; decide)] at h0
      exact qI h0
theorem c_rivals (hC : CI m S) (hV : VS S) {k j n x : Int32} (h : ∀ m', Fr (fun c => c ≤ 76) m m' → CI m' S → Q (aRivals S k j n x) m') : CallI X mX8_rivals [.ref 0, .int k, .int j, .int n, .int x] m Q := by
  obtain ⟨hP, hB, -⟩ := id hC
  have vP := hV.1
  have vB := hV.2.1
  unfold aRivals at h
  have h0 := h m Fr.rf hC
  refine eX8_rivals_0 (s_hasKind hP (k_cases vP (fun e => ?_) fun a ha ha2 hx e => s_hasKind hP (k_cases vP (fun f => ?_) fun b hb hb2 hy f => ?_).symm))
  · rw [e, if_neg (by decide)] at h0
    exact qI h0
  · rw [e, if_pos rfl, f, if_neg (by decide)] at h0
    exact qI h0
  · subst hx hy
    rw [e, if_pos rfl, f, if_pos rfl, cl_nI (by omega), cl_nI (by omega)] at h h0
    have out : (ink n 13 && !decide (n = 0) && ink x 3) = false → Q OUT m := fun z => by
      rw [if_neg (by rw [z]; decide)] at h0
      exact h0
    have n1 : n < 1 → (ink n 13 && !decide (n = 0)) = false := fun c => by
      by_cases c0 : n < 0
      · rw [ink_n c0]; rfl
      · obtain ⟨i, hi, rfl⟩ := nI_of c0
        have : i < 1 := (nI_ltI (b := 1) hi (by omega)).mp c
        have : i = 0 := by omega
        subst this
        rw [show decide (nI 0 = 0) = true from by decide]; simp
    refine ⟨fun c => qI (out (by rw [n1 c]; rfl)), fun c => ?_⟩
    have c0 : ¬ n < 0 := fun q => c (Int32.lt_trans q (by decide))
    obtain ⟨i, hi, rfl⟩ := nI_of c0
    have i1 : 1 ≤ i := by
      by_cases q : 1 ≤ i
      · exact q
      · exact absurd (nI_lt (b := 1) (by omega) (by omega)) c
    refine pk_lt 12 i (fun d => qI (out (by rw [ink_f (by omega) hi]; rfl))) (fun d => ?_)
    have en : (ink (nI i) 13 && !decide (nI i = 0)) = true := by
      rw [ink_nI (by omega) (by omega), decide_eq_false (fun q => by have := (nI_eq (b := 0) hi (by omega)).mp q; omega)]; rfl
    rw [en, Bool.true_and, cl_nI (by omega)] at h
    refine ⟨fun y => qI (out (by rw [ink_n y, Bool.and_false])), fun y => ink_le (n := 2) y (by omega) rfl (fun z => ?_) (fun z => qI (out (by rw [z, Bool.and_false])))⟩
    rw [if_pos z] at h
    refine s_compete hP vP hB vB hC.2.2.2.2.2.2.2.1 ha hb (by omega) fun m5 f5 E5 S5 L5 n5 => ?_
    have h := h m5 (f5.mono fun c hc => by omega) (hC.scr (fun c hc => f5 c (by omega)) (hC.2.2.2.2.2.2.1.fr (f5 _ (by omega)) (f5 _ (by omega))) L5 (hC.2.2.2.2.2.2.2.2.fr (f5 _ (by omega)) (f5 _ (by omega))))
    have P5 : EP m5 (qP S) := hP.fr fun c h1 h2 => f5 c (by omega)
    have V5 := v_cN (k := a) (j := b) (s := (qB S, 0)) vB ha hb i
    rw [n5]
    refine ⟨fun c => ?_, fun c => ⟨fun c2 => ?_, fun c2 => ?_⟩⟩
    · rw [if_pos c] at h
      exact s_worthAtLast P5 vP E5 V5 S5 ha (qI h)
    · rw [if_neg c, if_pos c2] at h
      exact s_worthAtLast P5 vP E5 V5 S5 hb (qI h)
    · rw [if_neg c, if_neg c2] at h
      exact qI h
theorem c_seed (hC : CI m S) {v : Int32} (h : ∀ m', Fr (fun c => c ≤ 76) m m' → CI m' (nSeed S v) → Q (aSeed S v) m') : CallI X mX8_seed [.ref 0, .int v] m Q := by
  have z : 0 ≤ v ↔ ¬ v < 0 := by rw [Int32.le_iff_toInt_le, Int32.lt_iff_toInt_lt]; omega
  have hB := hC.2.1
  unfold aSeed nSeed at h
  refine eX8_seed_0 ⟨fun c m1 e1 => ?_, fun c => ?_⟩
  · rw [z] at c
    rw [if_neg c, if_neg c] at h
    rw [hB.2.2.1]
    have k : ∀ c, c ≠ 15 → m1 c = m c := fun c hc => by rw [e1, a_up_c _ _ hc]
    obtain ⟨l1, l2, l3⟩ := hC.el (fun c h1 h2 => k c (by omega))
    exact qI (h m1 (e1 ▸ Fr.up Fr.rf (by omega)) (hC.bills (fun c hc => k c (by omega)) (hB.sd e1) l1 l2 l3))
  · rw [z, Decidable.not_not] at c
    rw [if_pos c, if_pos c] at h
    exact qI (h m Fr.rf hC)
theorem CI.img0 {m' : Nat → Nat → Int32} {I : IM} (h : CI m S) (e : ∀ c, c ≤ 22 ∨ 32 ≤ c → m' c = m c) (hI : EI m' 23 (qP S) I) : CI m' (wI S false I) := by
  obtain ⟨a1, a2, a3, a4, a5, a6, l1, l2, l3⟩ := h
  refine ⟨a1.fr fun c h1 h2 => e c (by omega), a2.fr fun c h1 h2 => e c (by omega), hI, a4.fr fun c h1 h2 => e c (by omega), a5.fr fun c h1 h2 => e c (by omega), ?_, l1.fr (e _ (by omega)) (e _ (by omega)), l2.fr (e _ (by omega)) (e _ (by omega)), l3.fr (e _ (by omega)) (e _ (by omega))⟩
  show m' 13 1 = nI (qL S) ∧ (∀ i, i < qL S → m' 14 i = nI (qT S i)) ∧ m' 13 5 = qW S
  rw [e 13 (by omega), e 14 (by omega)]; exact a6
theorem CI.img1 {m' : Nat → Nat → Int32} {I : IM} (h : CI m S) (e : ∀ c, c ≤ 31 ∨ 41 ≤ c → m' c = m c) (hI : EI m' 32 (qP S) I) : CI m' (wI S true I) := by
  obtain ⟨a1, a2, a3, a4, a5, a6, l1, l2, l3⟩ := h
  refine ⟨a1.fr fun c h1 h2 => e c (by omega), a2.fr fun c h1 h2 => e c (by omega), a3.fr fun c h1 h2 => e c (by omega), hI, a5.fr fun c h1 h2 => e c (by omega), ?_, l1.fr (e _ (by omega)) (e _ (by omega)), l2.fr (e _ (by omega)) (e _ (by omega)), l3.fr (e _ (by omega)) (e _ (by omega))⟩
  show m' 13 1 = nI (qL S) ∧ (∀ i, i < qL S → m' 14 i = nI (qT S i)) ∧ m' 13 5 = qW S
  rw [e 13 (by omega), e 14 (by omega)]; exact a6
theorem s_imageOf {c : Nat → (Nat → Nat → Int32) → Prop} {i : Int32} (h : c (if i = 0 then 23 else 32) m) : CallR X mX8_imageOf [.ref 0, .int i] m c := by
  refine eX8_imageOf_0 ⟨fun q => ?_, fun q => ?_⟩
  · rw [if_neg q] at h
    exact ⟨32, rfl, h⟩
  · rw [if_pos q] at h
    exact ⟨23, rfl, h⟩
theorem two_i {i : Int32} (h : ink i 2 = true) : (i = 0 ∧ ¬ i = 1) ∨ (¬ i = 0 ∧ i = 1) := by
  obtain ⟨j, hj, rfl⟩ := ink_t (by omega) h
  rcases (by omega : j = 0 ∨ j = 1) with q | q <;> subst q
  · exact Or.inl ⟨rfl, by decide⟩
  · exact Or.inr ⟨by decide, rfl⟩
theorem c_keep (hC : CI m S) (hV : VS S) {i : Int32} (h : ∀ m', Fr (fun c => c ≤ 76) m m' → CI m' (nKeep S i) → Q (aKeep i) m') : CallI X mX8_keep [.ref 0, .int i] m Q := by
  have hB := hC.2.1
  have vB := hV.2.1
  unfold aKeep nKeep at h
  refine eX8_keep_0 ⟨fun c => ?_, fun c => ink_le (n := 1) c (by omega) rfl (fun f => ?_) (fun f => ?_)⟩
  · rw [if_neg (by rw [ink_n c]; decide), if_neg (by rw [ink_n c]; decide)] at h
    exact qI (h m Fr.rf hC)
  · rw [if_pos f, if_pos f] at h
    refine s_imageOf ?_
    rcases two_i f with ⟨i0, i1⟩ | ⟨i0, i1⟩
    · rw [decide_eq_false i1] at h
      rw [if_pos i0]
      refine eX8_keep_18a (s_copyFrom sB24 sB15 (by omega) hB vB fun m1 f1 E1 m2 e2 => qI (h m2 ?_ (hC.img0 ?_ ⟨by rw [e2, a_up_s]; rfl, fun _ => E1.fr fun c h1 h2 => by rw [e2, a_up_c _ _ (by omega)]⟩)))
      · rw [e2]; exact Fr.up (f1.mono fun c hc => by omega) (by omega)
      · intro c hc
        rw [e2, a_up_c _ _ (by omega), f1 c (by omega)]
    · rw [decide_eq_true i1] at h
      rw [if_neg i0]
      refine eX8_keep_18b (s_copyFrom sB33 sB15 (by omega) hB vB fun m1 f1 E1 m2 e2 => qI (h m2 ?_ (hC.img1 ?_ ⟨by rw [e2, a_up_s]; rfl, fun _ => E1.fr fun c h1 h2 => by rw [e2, a_up_c _ _ (by omega)]⟩)))
      · rw [e2]; exact Fr.up (f1.mono fun c hc => by omega) (by omega)
      · intro c hc
        rw [e2, a_up_c _ _ (by omega), f1 c (by omega)]
  · rw [if_neg (by rw [f]; decide), if_neg (by rw [f]; decide)] at h
    exact qI (h m Fr.rf hC)
theorem c_goBack (hC : CI m S) (hV : VS S) {i : Int32} (h : ∀ m', Fr (fun c => c ≤ 76) m m' → CI m' (nBack S i) → Q (aBack S i) m') : CallI X mX8_goBack [.ref 0, .int i] m Q := by
  have hB := hC.2.1
  unfold aBack nBack imI at h
  have go : ∀ (I : IM) (c0 : Nat), EI m c0 (qP S) I → VI (qP S) I → (∀ m', Fr (fun c => c ≤ 76) m m' → CI m' (if I.1 = true then wB S I.2 else S) → Q (if I.1 = true then 1 else NOT) m') → sBills (c0 + 1) → 23 ≤ c0 → (¬ m c0 1 = 0 → CallV X mX0_copyFrom [.ref 15, .ref (c0 + 1)] m (fun m1 => (QI Q) (some (.int 1)) m1)) ∧ (m c0 1 = 0 → (QI Q) (some (.int (-100000003))) m) := by
    intro I c0 hI vI h hb h23
    rw [hI.1]
    refine ⟨fun z => ?_, fun z => ?_⟩
    · rw [bI_n0] at z
      rw [if_pos z, if_pos z] at h
      refine s_copyFrom sB15 hb (by omega) (hI.2 z) (vI z) fun m1 f1 E1 => ?_
      obtain ⟨l1, l2, l3⟩ := hC.el (fun c h1 h2 => f1 c (by omega))
      exact qI (h m1 (f1.mono fun c hc => by omega) (hC.bills (fun c hc => f1 c (by omega)) E1 l1 l2 l3))
    · rw [bI_0] at z
      rw [if_neg (by rw [z]; decide), if_neg (by rw [z]; decide)] at h
      exact qI (h m Fr.rf hC)
  refine eX8_goBack_0 ⟨fun c => ?_, fun c => ink_le (n := 1) c (by omega) rfl (fun f => ?_) (fun f => ?_)⟩
  · rw [if_neg (by rw [ink_n c]; decide), if_neg (by rw [ink_n c]; decide)] at h
    exact qI (h m Fr.rf hC)
  · rw [if_pos f, if_pos f] at h
    refine s_imageOf ?_
    rcases two_i f with ⟨i0, i1⟩ | ⟨i0, i1⟩
    · rw [if_neg i1] at h
      rw [if_pos i0]
      exact eX8_goBack_18a (go _ 23 hC.2.2.1 hV.2.2.1 h sB24 (by omega))
    · rw [if_pos i1] at h
      rw [if_neg i0]
      exact eX8_goBack_18b (go _ 32 hC.2.2.2.1 hV.2.2.2.1 h sB33 (by omega))
  · rw [if_neg (by rw [f]; decide), if_neg (by rw [f]; decide)] at h
    exact qI (h m Fr.rf hC)
theorem c_wall (hC : CI m S) (hV : VS S) (h : ∀ m', Fr (fun c => c ≤ 76) m m' → CI m' (nWall S) → Q (aWall S) m') : CallI X mX8_wall [.ref 0] m Q := by
  have hC2 := hC
  obtain ⟨a1, a2, a3, a4, a5, a6, l1, l2, l3⟩ := hC2
  unfold aWall nWall at h
  refine eX8_wall_0 (s_readInto (hC.tx hV) a6.1 fun m1 f1 K1 D1 m3 e3 => ?_)
  obtain ⟨p, K1⟩ := K1
  have F3 : Fr D13 m m3 := e3 ▸ Fr.up f1 (Or.inl rfl)
  have o3 : ∀ i, i ≠ 1 → m3 13 i = m1 13 i := fun i hi => by rw [e3, a_up_n _ _ (Or.inr hi)]
  have l0 : m3 13 1 = 0 := by rw [e3, a_up_s]
  cases ep : prs (qT S) (qL S) with
  | ok P =>
    rw [ep] at h K1
    obtain ⟨k1, k2, k3, k4, k5⟩ := K1
    obtain ⟨E1, VP1⟩ := D1 P ep
    refine ⟨fun _ => s_planCopy (E1.fr fun c h1 h2 => by rw [e3, a_up_c _ _ (by omega)]) VP1 fun m4 f4 E4 => ?_, fun c => absurd c (show ¬ (1 : Int32) = 0 by decide)⟩
    have s4 : m4 15 3 = bsd (qB S) := by rw [f4 15 (by omega), F3 15 (by omega)]; exact a2.2.2.1
    refine s_takeAllAway s4 fun m5 f5 E5 => s_forget fun m6 f6 E6 m7 e7 m8 e8 => ?_
    have k8 : ∀ c, c ≠ 23 → c ≠ 32 → m8 c = m6 c := fun c h1 h2 => by rw [e8, a_up_c _ _ h2, e7, a_up_c _ _ h1]
    have E8 : EP m8 P := E4.fr fun c h1 h2 => by rw [k8 c (by omega) (by omega), f6 c (by omega), f5 c (by omega)]
    have r13 : m8 13 = m3 13 := by rw [k8 13 (by omega) (by omega), f6 13 (by omega), f5 13 (by omega), f4 13 (by omega)]
    have big : ∀ c, 41 ≤ c → c ≤ 70 → m8 c = m c := fun c h1 h2 => by rw [k8 c (by omega) (by omega), f6 c (by omega), f5 c (by omega), f4 c (by omega), F3 c (by omega)]
    rw [E8.1 6 (by omega)]
    refine qI (h m8 ?_ ⟨E8, (E5 P).fr fun c h1 h2 => by rw [k8 c (by omega) (by omega), f6 c (by omega)], ⟨?_, fun q => by cases q⟩, ⟨?_, fun q => by cases q⟩, (E6 P).fr fun c h1 h2 => k8 c (by omega) (by omega), ⟨?_, fun i hi => absurd hi (Nat.not_lt_zero i), ?_⟩, hC.el big⟩)
    · intro c hc
      rw [k8 c (by omega) (by omega), f6 c (by omega), f5 c (by omega), f4 c (by omega), F3 c (by omega)]
    · rw [e8, a_up_c _ _ (by omega), e7, a_up_s]; rfl
    · rw [e8, a_up_s]; rfl
    · rw [r13]; exact l0
    · rw [r13, o3 5 (by omega)]; exact k5
  | error w =>
    rw [ep] at h K1
    obtain ⟨k1, k2, k3, k4, k5⟩ := K1
    refine ⟨fun c => absurd rfl c, fun _ => ?_⟩
    rw [o3 4 (by omega), k4]
    refine qI (h m3 (F3.mono fun c hc => by omega) ⟨a1.fr fun c h1 h2 => F3 c (by omega), a2.fr fun c h1 h2 => F3 c (by omega), a3.fr fun c h1 h2 => F3 c (by omega), a4.fr fun c h1 h2 => F3 c (by omega), a5.fr fun c h1 h2 => F3 c (by omega), ⟨l0, fun i hi => absurd hi (Nat.not_lt_zero i), ?_⟩, hC.el fun c h1 h2 => F3 c (by omega)⟩)
    rw [o3 5 (by omega)]; exact k5
end PUB3
