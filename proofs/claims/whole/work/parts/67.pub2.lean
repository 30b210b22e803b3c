/-! ===== the class's calls, the rest of bills, the photograph ===== -/
section PUB2
variable {X : a_X} {m : Nat → Nat → Int32} {S : ST} {Q : Int32 → (Nat → Nat → Int32) → Prop}
theorem k_cases {P : PT} {x : Int32} {A C : Prop} (hV : VP P) (f : ink x (pn P 6) = false → A) (g : ∀ j, j < pn P 6 → j < 12 → x = nI j → ink x (pn P 6) = true → C) : (bI (ink x (pn P 6)) = 0 → A) ∧ (¬ bI (ink x (pn P 6)) = 0 → C) := by
  have h6 := hV.2.2.2.2.2.2.1
  rcases ink_cases x (show pn P 6 < 2 ^ 31 by omega) with e | ⟨j, hj, hx, e⟩
  · exact ⟨fun _ => f e, fun c => absurd (by rw [e]; rfl) c⟩
  · exact ⟨fun c => by rw [e] at c; exact absurd c (by decide), fun _ => g j hj (by omega) hx e⟩
theorem fit_t {P : PT} (hV : VP P) {k : Nat} (hk : k < pn P 6) {x y : Int32} (h : fit P k x y = true) : ∃ i j, x = nI i ∧ y = nI j ∧ i + pwd P k ≤ pn P 0 ∧ j + phg P k ≤ pn P 1 ∧ i < 16 ∧ j < 8 := by
  have h0 := hV.1
  have h1 := hV.2.1
  obtain ⟨hw, hh⟩ := (hV.2.2.2.2.2.2.2.2 k hk).2
  unfold fit at h
  rw [Bool.and_eq_true] at h
  obtain ⟨i, hi, ei⟩ := ink_t (by omega) h.1
  obtain ⟨j, hj, ej⟩ := ink_t (by omega) h.2
  exact ⟨i, j, ei, ej, by omega, by omega, by omega, by omega⟩
theorem EB.fin {m1 : Nat → Nat → Int32} {P : PT} {B : BT} {b o : Nat} {v : Int32} (hE : EB m b P B) (e1 : m1 = a_up m (b + 5) o (bfi B o + v)) : EB m1 b P (finB B o v) := by
  obtain ⟨E1, E2, E3, E9, EA, EF, EC⟩ := hE
  have k0 : ∀ c, c ≠ b + 5 → m1 c = m c := fun c hc => by rw [e1, a_up_c _ _ hc]
  refine ⟨?_, ?_, ?_, ?_, ?_, ?_, ?_⟩
  · rw [k0 _ (by omega)]; exact E1
  · rw [k0 _ (by omega)]; exact E2
  · rw [k0 _ (by omega)]; exact E3
  · rw [k0 _ (by omega)]; exact E9
  · intro i hi
    rw [k0 _ (by omega), k0 _ (by omega), k0 _ (by omega), k0 _ (by omega)]; exact EA i hi
  · intro i hi
    rw [e1, a_up_i]
    show _ = (if i = o then bfi B o + v else bfi B i)
    by_cases z : i = o
    · rw [if_pos z, if_pos z]
    · rw [if_neg z, if_neg z]; exact EF i hi
  · rw [k0 _ (by omega), k0 _ (by omega)]; exact EC
theorem c_paste (hC : CI m S) (hV : VS S) {k x y : Int32} (h : ∀ m', Fr (fun c => c ≤ 76) m m' → CI m' (nPaste S k x y) → Q (aPaste S k x y) m') : CallI X mX8_paste [.ref 0, .int k, .int x, .int y] m Q := by
  obtain ⟨hP, hB, -⟩ := id hC
  have vP := hV.1
  have vB := hV.2.1
  have hn := vB.1
  unfold aPaste nPaste at h
  refine eX8_paste_0 (s_hasKind hP (k_cases vP (fun e => ?_) fun j hj hj2 hx e => ?_).symm)
  · rw [e, if_neg (by decide), if_neg (by decide)] at h
    exact qI (h m Fr.rf hC)
  · subst hx
    rw [e, if_pos rfl, if_pos rfl, cl_nI (by omega)] at h
    refine s_holds hP vP hj ?_
    cases ef : fit (qP S) j x y with
    | false =>
      rw [ef, if_neg (by decide), if_neg (by decide)] at h
      exact ⟨fun c => absurd rfl c, fun _ => qI (h m Fr.rf hC)⟩
    | true =>
      rw [ef, if_pos rfl, if_pos rfl] at h
      obtain ⟨a, b, rfl, rfl, ha, hb, ha2, hb2⟩ := fit_t vP hj ef
      rw [cl_nI (by omega), cl_nI (by omega)] at h
      refine ⟨fun _ => s_isBarred hP vP hj ha hb ?_, fun c => absurd c (by decide)⟩
      cases eb : bar (qP S) j a b with
      | true =>
        rw [eb, if_pos rfl, if_pos rfl] at h
        exact ⟨fun c => absurd c (by decide), fun _ => qI (h m Fr.rf hC)⟩
      | false =>
        rw [eb, if_neg (show ¬ (false = true) by decide), if_neg (show ¬ (false = true) by decide)] at h
        refine ⟨fun _ => s_isFull sB15 hn hB.1 ⟨fun z => ?_, fun z => ?_⟩, fun c => absurd rfl c⟩
        · rw [bI_0] at z
          have z := of_decide_eq_false z
          rw [if_neg z, if_neg z] at h
          refine s_lookAt sS41 sB15 (by omega) (by omega) hP vP hB vB fun m3 f3 S3 => ?_
          have P3 : EP m3 (qP S) := hP.fr fun c h1 h2 => f3 c (by omega)
          have B3 : EB m3 15 (qP S) (qB S) := hB.fr fun c h1 h2 => f3 c (by omega)
          have L3 : EL m3 41 := hC.2.2.2.2.2.2.1.fr (f3 _ (by omega)) (f3 _ (by omega))
          refine s_weigh sS41 sB15 (by omega) (by omega) P3 vP B3 vB S3 L3 hj ha hb fun m4 f4 L4 g6 g7 => ?_
          have P4 : EP m4 (qP S) := P3.fr fun c h1 h2 => f4 c (by omega)
          have B4 : EB m4 15 (qP S) (qB S) := B3.fr fun c h1 h2 => f4 c (by omega)
          have ho := (vP.2.2.2.2.2.2.2.2 j hj).1
          rw [nI_clamp (n := j) (by omega), (P4.2.2.2 j hj).1, nI_clamp (n := pow (qP S) j) (by omega), B4.2.2.2.2.2.1 _ ho, g7]
          refine ⟨pk_in j 12 hj2, pk_in (pow (qP S) j) 6 ho, pk_in (pow (qP S) j) 6 ho, fun m5 e5 => ?_⟩
          have B5 := B4.fin e5
          have P5 : EP m5 (qP S) := P4.fr fun c h1 h2 => by rw [e5, a_up_c _ _ (by omega)]
          refine s_hang sB15 (by omega) P5 vP B5 vB (show bn (qB S) < 20 by omega) hj ha hb fun m6 f6 E6 => ?_
          rw [show m6 15 1 = nI (bn (qB S) + 1) from E6.1, nI_pred]
          have k6 : ∀ c, ¬ (15 ≤ c ∧ c ≤ 22) → ¬ (41 ≤ c ∧ c ≤ 46) → m6 c = m c := fun c h1 h2 => by rw [f6 c (by omega), e5, a_up_c _ _ (by omega), f4 c (by omega), f3 c (by omega)]
          refine qI (h m6 (fun c hc => k6 c (by omega) (by omega)) (hC.bills (fun c hc => k6 c (by omega) (by omega)) E6 ?_ ?_ ?_))
          · exact L4.fr (by rw [f6 _ (by omega), e5, a_up_c _ _ (by omega)]) (by rw [f6 _ (by omega), e5, a_up_c _ _ (by omega)])
          · exact hC.2.2.2.2.2.2.2.1.fr (k6 _ (by omega) (by omega)) (k6 _ (by omega) (by omega))
          · exact hC.2.2.2.2.2.2.2.2.fr (k6 _ (by omega) (by omega)) (k6 _ (by omega) (by omega))
        · rw [bI_n0] at z
          have z := of_decide_eq_true z
          rw [if_pos z, if_pos z] at h
          exact qI (h m Fr.rf hC)
theorem c_show (hC : CI m S) (hV : VS S) {k x y : Int32} (h : ∀ m', Fr (fun c => c ≤ 76) m m' → CI m' (nShow S k x y) → Q (aShow S k x y) m') : CallI X mX8_show [.ref 0, .int k, .int x, .int y] m Q := by
  obtain ⟨hP, -, -, -, hF, -⟩ := id hC
  have vP := hV.1
  have vF := hV.2.2.2.2.1
  have hn := vF.1
  unfold aShow nShow at h
  refine eX8_show_0 (s_hasKind hP (k_cases vP (fun e => ?_) fun j hj hj2 hx e => ?_).symm)
  · rw [e, if_neg (by decide), if_neg (by decide)] at h
    exact qI (h m Fr.rf hC)
  · subst hx
    rw [e, if_pos rfl, if_pos rfl, cl_nI (by omega)] at h
    refine s_holds hP vP hj ?_
    cases ef : fit (qP S) j x y with
    | false =>
      rw [ef, if_neg (by decide), if_neg (by decide)] at h
      exact ⟨fun c => absurd rfl c, fun _ => qI (h m Fr.rf hC)⟩
    | true =>
      rw [ef, if_pos rfl, if_pos rfl] at h
      obtain ⟨a, b, rfl, rfl, ha, hb, ha2, hb2⟩ := fit_t vP hj ef
      rw [cl_nI (by omega), cl_nI (by omega)] at h
      rw [hF.1]
      refine ⟨fun _ => pk_lt (fn (qF S)) 10 (fun c => ?_) (fun c => ?_), fun c => absurd c (by decide)⟩
      · rw [if_pos c, if_pos c] at h
        refine s_addF hP vP hF vF c hj ha hb fun m' f E => ?_
        rw [show m' 71 1 = nI (fn (qF S) + 1) from E.1, nI_pred]
        exact qI (h m' (f.mono fun c hc => by omega) (hC.foto (fun c hc => f c (by omega)) E))
      · rw [if_neg (by omega), if_neg (by omega)] at h
        exact qI (h m Fr.rf hC)
theorem c_look (hC : CI m S) (hV : VS S) {x y b : Int32} (h : ∀ m', Fr (fun c => c ≤ 76) m m' → CI m' (nLook S x y b) → Q (aLook S x y b) m') : CallI X mX8_look [.ref 0, .int x, .int y, .int b] m Q := by
  obtain ⟨hP, -, -, -, hF, -⟩ := id hC
  have vF := hV.2.2.2.2.1
  have hn := vF.1
  unfold aLook nLook at h
  have cell : (b = -1 ∨ ink b (fn (qF S)) = true) → b = tpI (lkI b) → CallI X mX5_hasCell [.ref 1, .int x, .int y] m (fun v2 m1 => (¬ v2 = 0 → CallI X mX8_cellAt [.int x, .int y] m1 (fun v4 m3 => vp_in v4 128 ∧ ∀ m5, m5 = a_up m3 73 (Int32.toNatClampNeg v4) b → (QI Q) (some (.int 1)) m5)) ∧ (v2 = 0 → (QI Q) (some (.int (-100000002))) m1)) := by
    intro hb eb
    rw [if_pos hb, if_pos hb] at h
    refine s_hasCell hP ?_
    show _ ∧ _
    rcases isC_cases hV.1 x y with e | ⟨i, j, hi, hj, hi2, hj2, rfl, rfl, e, ec, hc⟩
    · rw [e, if_neg (by decide), if_neg (by decide)] at h
      unfold isC at e
      rw [e]
      exact ⟨fun c => absurd rfl c, fun _ => qI (h m Fr.rf hC)⟩
    · rw [e, if_pos rfl, if_pos rfl, ec] at h
      unfold isC at e
      rw [e]
      refine ⟨fun _ => s_cellAt ⟨pk_in (16 * j + i) 128 hc, fun m5 e5 => ?_⟩, fun c => absurd c (by decide)⟩
      rw [nI_clamp (n := 16 * j + i) (by omega)] at e5
      refine qI (h m5 (e5 ▸ Fr.up Fr.rf (by omega)) (hC.foto (fun c hc => by rw [e5, a_up_c _ _ (by omega)]) ⟨?_, fun c hc2 => ⟨?_, ?_⟩⟩))
      · rw [e5, a_up_c _ _ (by omega)]; exact hF.1
      · rw [e5, a_up_c _ _ (by omega)]; exact (hF.2 c hc2).1
      · rw [e5, a_up_i]
        show _ = tpI (if c = 16 * j + i then lkI b else flk (qF S) c)
        by_cases z : c = 16 * j + i
        · rw [if_pos z, if_pos z]; exact eb
        · rw [if_neg z, if_neg z]; exact (hF.2 c hc2).2
  refine eX8_look_0 ⟨fun c => ?_, fun c => s_phas hF.1 ?_⟩
  · refine cell (Or.inl c) ?_
    rw [c]
    decide
  · rcases ink_cases b (show fn (qF S) < 2 ^ 31 by omega) with e | ⟨j, hj, hx, e⟩
    · rw [if_neg (fun q => q.elim c (fun q => by rw [e] at q; cases q)), if_neg (fun q => q.elim c (fun q => by rw [e] at q; cases q))] at h
      rw [e]
      exact ⟨fun c => absurd rfl c, fun _ => qI (h m Fr.rf hC)⟩
    · have cc := cell (Or.inr e) (by
        rw [hx] at c ⊢
        unfold lkI
        rw [if_neg c, cl_nI (by omega)]
        unfold tpI
        rw [if_neg (by omega), if_neg (by omega), Nat.add_sub_cancel])
      rw [e]
      exact ⟨fun _ => cc, fun c => absurd c (by decide)⟩
theorem c_burn (hC : CI m S) (h : ∀ m', Fr (fun c => c ≤ 76) m m' → CI m' (wF S eF) → Q (nI (fn (qF S))) m') : CallI X mX8_burn [.ref 0] m Q := by
  refine eX8_burn_0 (s_forget fun m' f E => ?_)
  rw [hC.2.2.2.2.1.1]
  exact qI (h m' (f.mono fun c hc => by omega) (hC.foto (fun c hc => f c (by omega)) (E _)))
theorem c_orders (hC : CI m S) (hV : VS S) (h : ∀ m', Fr (fun c => c ≤ 76) m m' → CI m' S → Q (nI (ordF (qP S) (qF S))) m') : CallI X mX8_orders [.ref 0] m Q :=
  eX8_orders_0 (s_countOrders hC.2.2.2.2.1 hV.2.2.2.2.1 fun m' f => qI (h m' (f.mono fun c hc => by omega) (hC.same fun c hc => f c (by omega))))
theorem c_order (hC : CI m S) (hV : VS S) {i : Int32} (h : ∀ m', Fr (fun c => c ≤ 76) m m' → CI m' S → Q (aOrder S i) m') : CallI X mX8_order [.ref 0, .int i] m Q := by
  unfold aOrder at h
  have z : 0 ≤ i ↔ ¬ i < 0 := by rw [Int32.le_iff_toInt_le, Int32.lt_iff_toInt_lt]; omega
  refine eX8_order_0 ⟨fun c => ?_, fun c => ?_⟩
  · rw [z] at c
    rw [if_neg c] at h
    obtain ⟨j, hj, rfl⟩ := nI_of c
    rw [cl_nI hj] at h
    exact s_firstOrderAt hC.2.2.2.2.1 hV.2.2.2.2.1 hj fun m' f => qI (h m' (f.mono fun c hc => by omega) (hC.same fun c hc => f c (by omega)))
  · rw [z, Decidable.not_not] at c
    rw [if_pos c] at h
    exact qI (h m Fr.rf hC)
theorem c_surely (hC : CI m S) (hV : VS S) {a b : Int32} (h : ∀ m', Fr (fun c => c ≤ 76) m m' → CI m' S → Q (aSurely S a b) m') : CallI X mX8_surely [.ref 0, .int a, .int b] m Q := by
  have hF := hC.2.2.2.2.1
  have vF := hV.2.2.2.2.1
  have hn := vF.1
  unfold aSurely at h
  have h0 := h m Fr.rf hC
  refine eX8_surely_0 ⟨fun c => ?_, fun c => s_phas hF.1 ?_⟩
  · rw [if_pos c] at h0
    exact qI h0
  · rw [if_neg c] at h h0
    rcases ink_cases a (show fn (qF S) < 2 ^ 31 by omega) with e | ⟨i, hi, rfl, e⟩
    · rw [e] at h0 ⊢
      exact ⟨fun _ => qI h0, fun c => absurd rfl c⟩
    · rw [e, if_pos rfl, cl_nI (by omega)] at h h0
      rw [e]
      refine ⟨fun c => absurd c (by decide), fun _ => s_phas hF.1 ?_⟩
      rcases ink_cases b (show fn (qF S) < 2 ^ 31 by omega) with f | ⟨j, hj, rfl, f⟩
      · rw [f] at h0 ⊢
        exact ⟨fun c => absurd rfl c, fun _ => qI h0⟩
      · rw [f, if_pos rfl, cl_nI (by omega)] at h
        rw [f]
        refine ⟨fun _ => s_liesOver hF vF hi hj fun m' f => ?_, fun c => absurd c (by decide)⟩
        have h := h m' (f.mono fun c hc => by omega) (hC.same fun c hc => f c (by omega))
        refine ⟨fun z => ?_, fun z => ?_⟩
        · rw [bI_0] at z
          rw [z] at h; exact qI h
        · rw [bI_n0] at z
          rw [z] at h; exact qI h
end PUB2
