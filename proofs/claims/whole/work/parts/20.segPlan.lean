theorem eX5_copyFrom_0 {X : a_X} {m : Nat → Nat → Int32} {Q : Option Value → (Nat → Nat → Int32) → Prop} (h : ∀ m1, m1 = (a_up m 1 0 (m 7 0)) → ∀ m2, m2 = (a_up m1 1 1 (m1 7 1)) → ∀ m3, m3 = (a_up m2 1 2 (m2 7 2)) → ∀ m4, m4 = (a_up m3 1 3 (m3 7 3)) → ∀ m5, m5 = (a_up m4 1 4 (m4 7 4)) → ∀ m6, m6 = (a_up m5 1 5 (m5 7 5)) → ∀ m7, m7 = (a_up m6 1 6 (m6 7 6)) → ∀ m8, m8 = (a_row m7 2 (va_cpy (m7 8) (m7 2) 0 0 16)) → ∀ m9, m9 = (a_row m8 3 (va_cpy (m8 9) (m8 3) 0 0 8)) → ∀ m10, m10 = (a_row m9 4 (va_cpy (m9 10) (m9 4) 0 0 12)) → ∀ m11, m11 = (a_row m10 5 (va_cpy (m10 11) (m10 5) 0 0 12)) → ∀ m12, m12 = (a_row m11 6 (va_cpy (m11 12) (m11 6) 0 0 12)) → Q none m12) : Call X mX5_copyFrom [.ref 1, .ref 7] m Q := by
  unfold Call
  refine Wp.loc (lv' := [some (.ref 1), some (.ref 7)]) rfl ?_
  refine Wp.pk 2 (pc' := 2) (lv' := [some (.ref 1), some (.ref 7)]) (st' := [.ref 7, .ref 1]) rfl ?_
  refine Wp.getI rfl rfl sh7 rfl ?_
  refine Wp.putN rfl rfl sh1 rfl rfl (fun m1 hm => ?_)
  replace h := h _ hm
  refine Wp.pk 2 (pc' := 10) (lv' := [some (.ref 1), some (.ref 7)]) (st' := [.ref 7, .ref 1]) rfl ?_
  refine Wp.getI rfl rfl sh7 rfl ?_
  refine Wp.putN rfl rfl sh1 rfl rfl (fun m2 hm => ?_)
  replace h := h _ hm
  refine Wp.pk 2 (pc' := 18) (lv' := [some (.ref 1), some (.ref 7)]) (st' := [.ref 7, .ref 1]) rfl ?_
  refine Wp.getI rfl rfl sh7 rfl ?_
  refine Wp.putN rfl rfl sh1 rfl rfl (fun m3 hm => ?_)
  replace h := h _ hm
  refine Wp.pk 2 (pc' := 26) (lv' := [some (.ref 1), some (.ref 7)]) (st' := [.ref 7, .ref 1]) rfl ?_
  refine Wp.getI rfl rfl sh7 rfl ?_
  refine Wp.putN rfl rfl sh1 rfl rfl (fun m4 hm => ?_)
  replace h := h _ hm
  refine Wp.pk 2 (pc' := 34) (lv' := [some (.ref 1), some (.ref 7)]) (st' := [.ref 7, .ref 1]) rfl ?_
  refine Wp.getI rfl rfl sh7 rfl ?_
  refine Wp.putN rfl rfl sh1 rfl rfl (fun m5 hm => ?_)
  replace h := h _ hm
  refine Wp.pk 2 (pc' := 42) (lv' := [some (.ref 1), some (.ref 7)]) (st' := [.ref 7, .ref 1]) rfl ?_
  refine Wp.getI rfl rfl sh7 rfl ?_
  refine Wp.putN rfl rfl sh1 rfl rfl (fun m6 hm => ?_)
  replace h := h _ hm
  refine Wp.pk 2 (pc' := 50) (lv' := [some (.ref 1), some (.ref 7)]) (st' := [.ref 7, .ref 1]) rfl ?_
  refine Wp.getI rfl rfl sh7 rfl ?_
  refine Wp.putN rfl rfl sh1 rfl rfl (fun m7 hm => ?_)
  replace h := h _ hm
  refine Wp.pk 1 (pc' := 57) (lv' := [some (.ref 1), some (.ref 7)]) (st' := [.ref 7]) rfl ?_
  refine Wp.getR rfl rfl sh7 rfl ?_
  refine Wp.pk 2 (pc' := 62) (lv' := [some (.ref 1), some (.ref 7)]) (st' := [.ref 1, .int 0, .ref 8]) rfl ?_
  refine Wp.getR rfl rfl sh1 rfl ?_
  refine Wp.pk 2 (pc' := 68) (lv' := [some (.ref 1), some (.ref 7)]) (st' := [.int 16, .int 0, .ref 2, .int 0, .ref 8]) rfl ?_
  refine Wp.acopyN (n := 16) rfl rfl sh8 sh2 rfl (fun m8 hm => ?_)
  replace h := h _ hm
  refine Wp.pk 1 (pc' := 72) (lv' := [some (.ref 1), some (.ref 7)]) (st' := [.ref 7]) rfl ?_
  refine Wp.getR rfl rfl sh7 rfl ?_
  refine Wp.pk 2 (pc' := 77) (lv' := [some (.ref 1), some (.ref 7)]) (st' := [.ref 1, .int 0, .ref 9]) rfl ?_
  refine Wp.getR rfl rfl sh1 rfl ?_
  refine Wp.pk 2 (pc' := 83) (lv' := [some (.ref 1), some (.ref 7)]) (st' := [.int 8, .int 0, .ref 3, .int 0, .ref 9]) rfl ?_
  refine Wp.acopyN (n := 8) rfl rfl sh9 sh3 rfl (fun m9 hm => ?_)
  replace h := h _ hm
  refine Wp.pk 1 (pc' := 87) (lv' := [some (.ref 1), some (.ref 7)]) (st' := [.ref 7]) rfl ?_
  refine Wp.getR rfl rfl sh7 rfl ?_
  refine Wp.pk 2 (pc' := 92) (lv' := [some (.ref 1), some (.ref 7)]) (st' := [.ref 1, .int 0, .ref 10]) rfl ?_
  refine Wp.getR rfl rfl sh1 rfl ?_
  refine Wp.pk 2 (pc' := 98) (lv' := [some (.ref 1), some (.ref 7)]) (st' := [.int 12, .int 0, .ref 4, .int 0, .ref 10]) rfl ?_
  refine Wp.acopyN (n := 12) rfl rfl sh10 sh4 rfl (fun m10 hm => ?_)
  replace h := h _ hm
  refine Wp.pk 1 (pc' := 102) (lv' := [some (.ref 1), some (.ref 7)]) (st' := [.ref 7]) rfl ?_
  refine Wp.getR rfl rfl sh7 rfl ?_
  refine Wp.pk 2 (pc' := 107) (lv' := [some (.ref 1), some (.ref 7)]) (st' := [.ref 1, .int 0, .ref 11]) rfl ?_
  refine Wp.getR rfl rfl sh1 rfl ?_
  refine Wp.pk 2 (pc' := 113) (lv' := [some (.ref 1), some (.ref 7)]) (st' := [.int 12, .int 0, .ref 5, .int 0, .ref 11]) rfl ?_
  refine Wp.acopyN (n := 12) rfl rfl sh11 sh5 rfl (fun m11 hm => ?_)
  replace h := h _ hm
  refine Wp.pk 1 (pc' := 117) (lv' := [some (.ref 1), some (.ref 7)]) (st' := [.ref 7]) rfl ?_
  refine Wp.getR rfl rfl sh7 rfl ?_
  refine Wp.pk 2 (pc' := 122) (lv' := [some (.ref 1), some (.ref 7)]) (st' := [.ref 1, .int 0, .ref 12]) rfl ?_
  refine Wp.getR rfl rfl sh1 rfl ?_
  refine Wp.pk 2 (pc' := 128) (lv' := [some (.ref 1), some (.ref 7)]) (st' := [.int 12, .int 0, .ref 6, .int 0, .ref 12]) rfl ?_
  refine Wp.acopyN (n := 12) rfl rfl sh12 sh6 rfl (fun m12 hm => ?_)
  replace h := h _ hm
  exact Wp.vret rfl rfl h
theorem eX5_untell_0 {X : a_X} {m : Nat → Nat → Int32} {Q : Option Value → (Nat → Nat → Int32) → Prop} (h : ∀ m1, m1 = (a_up m 7 0 16) → ∀ m2, m2 = (a_up m1 7 1 8) → ∀ m3, m3 = (a_up m2 7 2 3) → ∀ m4, m4 = (a_up m3 7 3 10) → ∀ m5, m5 = (a_up m4 7 4 60) → ∀ m6, m6 = (a_up m5 7 5 0) → ∀ m7, m7 = (a_up m6 7 6 0) → CallV X mJ7_fill_53178 [.ref 8, .int 1] m7 (fun m8 => CallV X mJ7_fill_53178 [.ref 9, .int 0] m8 (fun m9 => Q none m9))) : Call X mX5_untell [.ref 7] m Q := by
  unfold Call
  refine Wp.loc (lv' := [some (.ref 7)]) rfl ?_
  refine Wp.pk 2 (pc' := 3) (lv' := [some (.ref 7)]) (st' := [.int 16, .ref 7]) rfl ?_
  refine Wp.putN rfl rfl sh7 rfl rfl (fun m1 hm => ?_)
  replace h := h _ hm
  refine Wp.pk 2 (pc' := 9) (lv' := [some (.ref 7)]) (st' := [.int 8, .ref 7]) rfl ?_
  refine Wp.putN rfl rfl sh7 rfl rfl (fun m2 hm => ?_)
  replace h := h _ hm
  refine Wp.pk 2 (pc' := 14) (lv' := [some (.ref 7)]) (st' := [.int 3, .ref 7]) rfl ?_
  refine Wp.putN rfl rfl sh7 rfl rfl (fun m3 hm => ?_)
  replace h := h _ hm
  refine Wp.pk 2 (pc' := 20) (lv' := [some (.ref 7)]) (st' := [.int 10, .ref 7]) rfl ?_
  refine Wp.putN rfl rfl sh7 rfl rfl (fun m4 hm => ?_)
  replace h := h _ hm
  refine Wp.pk 2 (pc' := 26) (lv' := [some (.ref 7)]) (st' := [.int 60, .ref 7]) rfl ?_
  refine Wp.putN rfl rfl sh7 rfl rfl (fun m5 hm => ?_)
  replace h := h _ hm
  refine Wp.pk 2 (pc' := 31) (lv' := [some (.ref 7)]) (st' := [.int 0, .ref 7]) rfl ?_
  refine Wp.putN rfl rfl sh7 rfl rfl (fun m6 hm => ?_)
  replace h := h _ hm
  refine Wp.pk 2 (pc' := 36) (lv' := [some (.ref 7)]) (st' := [.int 0, .ref 7]) rfl ?_
  refine Wp.putN rfl rfl sh7 rfl rfl (fun m7 hm => ?_)
  replace h := h _ hm
  refine Wp.pk 1 (pc' := 40) (lv' := [some (.ref 7)]) (st' := [.ref 7]) rfl ?_
  refine Wp.getR rfl rfl sh7 rfl ?_
  refine Wp.pk 1 (pc' := 44) (lv' := [some (.ref 7)]) (st' := [.int 1, .ref 8]) rfl ?_
  refine Wp.callV rfl rfl rfl (CallV.mono h (fun m8 h => ?_))
  refine Wp.pk 1 (pc' := 48) (lv' := [some (.ref 7)]) (st' := [.ref 7]) rfl ?_
  refine Wp.getR rfl rfl sh7 rfl ?_
  refine Wp.pk 1 (pc' := 52) (lv' := [some (.ref 7)]) (st' := [.int 0, .ref 9]) rfl ?_
  refine Wp.callV rfl rfl rfl (CallV.mono h (fun m9 h => ?_))
  exact Wp.vret rfl rfl h
theorem eX5_addStrip_0 {X : a_X} {m : Nat → Nat → Int32} {Q : Option Value → (Nat → Nat → Int32) → Prop} {x1 x2 x3 x4 : Int32} (h : Wp X mX5_addStrip 12 [some (.ref 7), none, some (.int x2), none, some (.int x4), some (.int (((1 <<< (x3 &&& 31)) - 1) <<< (x1 &&& 31))), some (.int x2)] [] m Q) : Call X mX5_addStrip [.ref 7, .int x1, .int x2, .int x3, .int x4] m Q := by
  unfold Call
  refine Wp.loc (lv' := [some (.ref 7), some (.int x1), some (.int x2), some (.int x3), some (.int x4), none, none]) rfl ?_
  refine Wp.pk 10 (pc' := 12) (lv' := [some (.ref 7), some (.int x1), some (.int x2), some (.int x3), some (.int x4), some (.int (((1 <<< (x3 &&& 31)) - 1) <<< (x1 &&& 31))), some (.int x2)]) (st' := []) rfl ?_
  exact Wp.fgt (lv := [some (.ref 7), none, some (.int x2), none, some (.int x4), some (.int (((1 <<< (x3 &&& 31)) - 1) <<< (x1 &&& 31))), some (.int x2)]) (a_lle.of (a_lleb_e (a_lleb_i (a_lleb_e (a_lleb_i (a_lleb_e (a_lleb_e (a_lleb_e trivial)))))))) h
theorem eX5_addStrip_12 {X : a_X} {m : Nat → Nat → Int32} {Q : Option Value → (Nat → Nat → Int32) → Prop} {x2 x4 x5 x6 : Int32} (h : ((x2 + x4) ≤ x6 → ∀ m1, m1 = (a_up m 7 5 ((m 7 5) + 1)) → Q none m1) ∧ (¬ (x2 + x4) ≤ x6 → (8 ≤ x6 → ∀ m2, m2 = (a_up m 7 5 ((m 7 5) + 1)) → Q none m2) ∧ (¬ 8 ≤ x6 → vp_in x6 8 ∧ vp_in x6 8 ∧ ∀ m3, m3 = (a_up m 9 (Int32.toNatClampNeg x6) ((m 9 (Int32.toNatClampNeg x6)) ||| x5)) → Wp X mX5_addStrip 12 [some (.ref 7), none, some (.int x2), none, some (.int x4), some (.int x5), some (.int (x6 + 1))] [] m3 Q))) : Wp X mX5_addStrip 12 [some (.ref 7), none, some (.int x2), none, some (.int x4), some (.int x5), some (.int x6)] [] m Q := by
  refine Wp.pk 4 (pc' := 18) (lv' := [some (.ref 7), none, some (.int x2), none, some (.int x4), some (.int x5), some (.int x6)]) (st' := [.int (x2 + x4), .int x6]) rfl ?_
  refine Wp.icmp_ge rfl rfl ⟨fun hc => ?_, fun hc => ?_⟩
  · replace h := h.1 hc
    refine Wp.pk 2 (pc' := 48) (lv' := [some (.ref 7), none, some (.int x2), none, some (.int x4), some (.int x5), some (.int x6)]) (st' := [.ref 7, .ref 7]) rfl ?_
    refine Wp.getI rfl rfl sh7 rfl ?_
    refine Wp.pk 2 (pc' := 53) (lv' := [some (.ref 7), none, some (.int x2), none, some (.int x4), some (.int x5), some (.int x6)]) (st' := [.int ((m 7 5) + 1), .ref 7]) rfl ?_
    refine Wp.putN rfl rfl sh7 rfl rfl (fun m1 hm => ?_)
    replace h := h _ hm
    exact Wp.vret rfl rfl h
  · replace h := h.2 hc
    refine Wp.pk 2 (pc' := 25) (lv' := [some (.ref 7), none, some (.int x2), none, some (.int x4), some (.int x5), some (.int x6)]) (st' := [.int 8, .int x6]) rfl ?_
    refine Wp.icmp_ge rfl rfl ⟨fun hc => ?_, fun hc => ?_⟩
    · replace h := h.1 hc
      refine Wp.pk 2 (pc' := 48) (lv' := [some (.ref 7), none, some (.int x2), none, some (.int x4), some (.int x5), some (.int x6)]) (st' := [.ref 7, .ref 7]) rfl ?_
      refine Wp.getI rfl rfl sh7 rfl ?_
      refine Wp.pk 2 (pc' := 53) (lv' := [some (.ref 7), none, some (.int x2), none, some (.int x4), some (.int x5), some (.int x6)]) (st' := [.int ((m 7 5) + 1), .ref 7]) rfl ?_
      refine Wp.putN rfl rfl sh7 rfl rfl (fun m2 hm => ?_)
      replace h := h _ hm
      exact Wp.vret rfl rfl h
    · replace h := h.2 hc
      refine Wp.pk 1 (pc' := 29) (lv' := [some (.ref 7), none, some (.int x2), none, some (.int x4), some (.int x5), some (.int x6)]) (st' := [.ref 7]) rfl ?_
      refine Wp.getR rfl rfl sh7 rfl ?_
      refine Wp.pk 2 (pc' := 35) (lv' := [some (.ref 7), none, some (.int x2), none, some (.int x4), some (.int x5), some (.int x6)]) (st' := [.int x6, .ref 9, .int x6, .ref 9]) rfl ?_
      refine Wp.iald rfl sh9 ⟨h.1, ?_⟩
      replace h := h.2
      refine Wp.pk 2 (pc' := 39) (lv' := [some (.ref 7), none, some (.int x2), none, some (.int x4), some (.int x5), some (.int x6)]) (st' := [.int ((m 9 (Int32.toNatClampNeg x6)) ||| x5), .int x6, .ref 9]) rfl ?_
      refine Wp.iastN rfl sh9 h.1 (fun m3 hm => ?_)
      replace h := h.2 _ hm
      refine Wp.pk 2 (pc' := 12) (lv' := [some (.ref 7), none, some (.int x2), none, some (.int x4), some (.int x5), some (.int (x6 + 1))]) (st' := []) rfl ?_
      exact h
theorem eX5_addKind_0 {X : a_X} {m : Nat → Nat → Int32} {Q : Option Value → (Nat → Nat → Int32) → Prop} {x1 x2 x3 : Int32} (h : (12 ≤ (m 7 6) → Q none m) ∧ (¬ 12 ≤ (m 7 6) → vp_in (m 7 6) 12 ∧ ∀ m1, m1 = (a_up m 10 (Int32.toNatClampNeg (m 7 6)) x1) → vp_in (m1 7 6) 12 ∧ ∀ m2, m2 = (a_up m1 11 (Int32.toNatClampNeg (m1 7 6)) x2) → vp_in (m2 7 6) 12 ∧ ∀ m3, m3 = (a_up m2 12 (Int32.toNatClampNeg (m2 7 6)) x3) → ∀ m4, m4 = (a_up m3 7 6 ((m3 7 6) + 1)) → Q none m4)) : Call X mX5_addKind [.ref 7, .int x1, .int x2, .int x3] m Q := by
  unfold Call
  refine Wp.loc (lv' := [some (.ref 7), some (.int x1), some (.int x2), some (.int x3)]) rfl ?_
  refine Wp.pk 1 (pc' := 1) (lv' := [some (.ref 7), some (.int x1), some (.int x2), some (.int x3)]) (st' := [.ref 7]) rfl ?_
  refine Wp.getI rfl rfl sh7 rfl ?_
  refine Wp.pk 1 (pc' := 6) (lv' := [some (.ref 7), some (.int x1), some (.int x2), some (.int x3)]) (st' := [.int 12, .int (m 7 6)]) rfl ?_
  refine Wp.icmp_ge rfl rfl ⟨fun hc => ?_, fun hc => ?_⟩
  · replace h := h.1 hc
    exact Wp.vret rfl rfl h
  · replace h := h.2 hc
    refine Wp.pk 1 (pc' := 10) (lv' := [some (.ref 7), some (.int x1), some (.int x2), some (.int x3)]) (st' := [.ref 7]) rfl ?_
    refine Wp.getR rfl rfl sh7 rfl ?_
    refine Wp.pk 1 (pc' := 14) (lv' := [some (.ref 7), some (.int x1), some (.int x2), some (.int x3)]) (st' := [.ref 7, .ref 10]) rfl ?_
    refine Wp.getI rfl rfl sh7 rfl ?_
    refine Wp.pk 1 (pc' := 18) (lv' := [some (.ref 7), some (.int x1), some (.int x2), some (.int x3)]) (st' := [.int x1, .int (m 7 6), .ref 10]) rfl ?_
    refine Wp.iastN rfl sh10 h.1 (fun m1 hm => ?_)
    replace h := h.2 _ hm
    refine Wp.pk 1 (pc' := 20) (lv' := [some (.ref 7), some (.int x1), some (.int x2), some (.int x3)]) (st' := [.ref 7]) rfl ?_
    refine Wp.getR rfl rfl sh7 rfl ?_
    refine Wp.pk 1 (pc' := 24) (lv' := [some (.ref 7), some (.int x1), some (.int x2), some (.int x3)]) (st' := [.ref 7, .ref 11]) rfl ?_
    refine Wp.getI rfl rfl sh7 rfl ?_
    refine Wp.pk 1 (pc' := 28) (lv' := [some (.ref 7), some (.int x1), some (.int x2), some (.int x3)]) (st' := [.int x2, .int (m1 7 6), .ref 11]) rfl ?_
    refine Wp.iastN rfl sh11 h.1 (fun m2 hm => ?_)
    replace h := h.2 _ hm
    refine Wp.pk 1 (pc' := 30) (lv' := [some (.ref 7), some (.int x1), some (.int x2), some (.int x3)]) (st' := [.ref 7]) rfl ?_
    refine Wp.getR rfl rfl sh7 rfl ?_
    refine Wp.pk 1 (pc' := 34) (lv' := [some (.ref 7), some (.int x1), some (.int x2), some (.int x3)]) (st' := [.ref 7, .ref 12]) rfl ?_
    refine Wp.getI rfl rfl sh7 rfl ?_
    refine Wp.pk 1 (pc' := 38) (lv' := [some (.ref 7), some (.int x1), some (.int x2), some (.int x3)]) (st' := [.int x3, .int (m2 7 6), .ref 12]) rfl ?_
    refine Wp.iastN rfl sh12 h.1 (fun m3 hm => ?_)
    replace h := h.2 _ hm
    refine Wp.pk 2 (pc' := 41) (lv' := [some (.ref 7), some (.int x1), some (.int x2), some (.int x3)]) (st' := [.ref 7, .ref 7]) rfl ?_
    refine Wp.getI rfl rfl sh7 rfl ?_
    refine Wp.pk 2 (pc' := 46) (lv' := [some (.ref 7), some (.int x1), some (.int x2), some (.int x3)]) (st' := [.int ((m3 7 6) + 1), .ref 7]) rfl ?_
    refine Wp.putN rfl rfl sh7 rfl rfl (fun m4 hm => ?_)
    replace h := h _ hm
    exact Wp.vret rfl rfl h
theorem eX5_hasKind_0 {X : a_X} {m : Nat → Nat → Int32} {Q : Option Value → (Nat → Nat → Int32) → Prop} {x1 : Int32} (h : (x1 < 0 → Q (some (.int 0)) m) ∧ (¬ x1 < 0 → ((m 1 6) ≤ x1 → Q (some (.int 0)) m) ∧ (¬ (m 1 6) ≤ x1 → Q (some (.int 1)) m))) : Call X mX5_hasKind [.ref 1, .int x1] m Q := by
  unfold Call
  refine Wp.loc (lv' := [some (.ref 1), some (.int x1)]) rfl ?_
  refine Wp.pk 1 (pc' := 1) (lv' := [some (.ref 1), some (.int x1)]) (st' := [.int x1]) rfl ?_
  refine Wp.if_lt rfl rfl ⟨fun hc => ?_, fun hc => ?_⟩
  · replace h := h.1 hc
    refine Wp.pk 1 (pc' := 17) (lv' := [some (.ref 1), some (.int x1)]) (st' := [.int 0]) rfl ?_
    exact Wp.iret rfl rfl ⟨rfl, h⟩
  · replace h := h.2 hc
    refine Wp.pk 2 (pc' := 6) (lv' := [some (.ref 1), some (.int x1)]) (st' := [.ref 1, .int x1]) rfl ?_
    refine Wp.getI rfl rfl sh1 rfl ?_
    refine Wp.icmp_ge rfl rfl ⟨fun hc => ?_, fun hc => ?_⟩
    · replace h := h.1 hc
      refine Wp.pk 1 (pc' := 17) (lv' := [some (.ref 1), some (.int x1)]) (st' := [.int 0]) rfl ?_
      exact Wp.iret rfl rfl ⟨rfl, h⟩
    · replace h := h.2 hc
      refine Wp.pk 2 (pc' := 17) (lv' := [some (.ref 1), some (.int x1)]) (st' := [.int 1]) rfl ?_
      exact Wp.iret rfl rfl ⟨rfl, h⟩
theorem eX5_hasCell_0 {X : a_X} {m : Nat → Nat → Int32} {Q : Option Value → (Nat → Nat → Int32) → Prop} {x1 x2 : Int32} (h : (x1 < 0 → Q (some (.int 0)) m) ∧ (¬ x1 < 0 → ((m 1 0) ≤ x1 → Q (some (.int 0)) m) ∧ (¬ (m 1 0) ≤ x1 → (x2 < 0 → Q (some (.int 0)) m) ∧ (¬ x2 < 0 → ((m 1 1) ≤ x2 → Q (some (.int 0)) m) ∧ (¬ (m 1 1) ≤ x2 → Q (some (.int 1)) m))))) : Call X mX5_hasCell [.ref 1, .int x1, .int x2] m Q := by
  unfold Call
  refine Wp.loc (lv' := [some (.ref 1), some (.int x1), some (.int x2)]) rfl ?_
  refine Wp.pk 1 (pc' := 1) (lv' := [some (.ref 1), some (.int x1), some (.int x2)]) (st' := [.int x1]) rfl ?_
  refine Wp.if_lt rfl rfl ⟨fun hc => ?_, fun hc => ?_⟩
  · replace h := h.1 hc
    refine Wp.pk 1 (pc' := 29) (lv' := [some (.ref 1), some (.int x1), some (.int x2)]) (st' := [.int 0]) rfl ?_
    exact Wp.iret rfl rfl ⟨rfl, h⟩
  · replace h := h.2 hc
    refine Wp.pk 2 (pc' := 6) (lv' := [some (.ref 1), some (.int x1), some (.int x2)]) (st' := [.ref 1, .int x1]) rfl ?_
    refine Wp.getI rfl rfl sh1 rfl ?_
    refine Wp.icmp_ge rfl rfl ⟨fun hc => ?_, fun hc => ?_⟩
    · replace h := h.1 hc
      refine Wp.pk 1 (pc' := 29) (lv' := [some (.ref 1), some (.int x1), some (.int x2)]) (st' := [.int 0]) rfl ?_
      exact Wp.iret rfl rfl ⟨rfl, h⟩
    · replace h := h.2 hc
      refine Wp.pk 1 (pc' := 13) (lv' := [some (.ref 1), some (.int x1), some (.int x2)]) (st' := [.int x2]) rfl ?_
      refine Wp.if_lt rfl rfl ⟨fun hc => ?_, fun hc => ?_⟩
      · replace h := h.1 hc
        refine Wp.pk 1 (pc' := 29) (lv' := [some (.ref 1), some (.int x1), some (.int x2)]) (st' := [.int 0]) rfl ?_
        exact Wp.iret rfl rfl ⟨rfl, h⟩
      · replace h := h.2 hc
        refine Wp.pk 2 (pc' := 18) (lv' := [some (.ref 1), some (.int x1), some (.int x2)]) (st' := [.ref 1, .int x2]) rfl ?_
        refine Wp.getI rfl rfl sh1 rfl ?_
        refine Wp.icmp_ge rfl rfl ⟨fun hc => ?_, fun hc => ?_⟩
        · replace h := h.1 hc
          refine Wp.pk 1 (pc' := 29) (lv' := [some (.ref 1), some (.int x1), some (.int x2)]) (st' := [.int 0]) rfl ?_
          exact Wp.iret rfl rfl ⟨rfl, h⟩
        · replace h := h.2 hc
          refine Wp.pk 2 (pc' := 29) (lv' := [some (.ref 1), some (.int x1), some (.int x2)]) (st' := [.int 1]) rfl ?_
          exact Wp.iret rfl rfl ⟨rfl, h⟩
theorem eX5_holds_0 {X : a_X} {m : Nat → Nat → Int32} {Q : Option Value → (Nat → Nat → Int32) → Prop} {x1 x2 x3 : Int32} (h : (x2 < 0 → Q (some (.int 0)) m) ∧ (¬ x2 < 0 → (x3 < 0 → Q (some (.int 0)) m) ∧ (¬ x3 < 0 → vp_in x1 12 ∧ (((m 1 0) - (m 5 (Int32.toNatClampNeg x1))) < x2 → Q (some (.int 0)) m) ∧ (¬ ((m 1 0) - (m 5 (Int32.toNatClampNeg x1))) < x2 → vp_in x1 12 ∧ (((m 1 1) - (m 6 (Int32.toNatClampNeg x1))) < x3 → Q (some (.int 0)) m) ∧ (¬ ((m 1 1) - (m 6 (Int32.toNatClampNeg x1))) < x3 → Q (some (.int 1)) m))))) : Call X mX5_holds [.ref 1, .int x1, .int x2, .int x3] m Q := by
  unfold Call
  refine Wp.loc (lv' := [some (.ref 1), some (.int x1), some (.int x2), some (.int x3)]) rfl ?_
  refine Wp.pk 1 (pc' := 1) (lv' := [some (.ref 1), some (.int x1), some (.int x2), some (.int x3)]) (st' := [.int x2]) rfl ?_
  refine Wp.if_lt rfl rfl ⟨fun hc => ?_, fun hc => ?_⟩
  · replace h := h.1 hc
    refine Wp.pk 1 (pc' := 43) (lv' := [some (.ref 1), some (.int x1), some (.int x2), some (.int x3)]) (st' := [.int 0]) rfl ?_
    exact Wp.iret rfl rfl ⟨rfl, h⟩
  · replace h := h.2 hc
    refine Wp.pk 1 (pc' := 5) (lv' := [some (.ref 1), some (.int x1), some (.int x2), some (.int x3)]) (st' := [.int x3]) rfl ?_
    refine Wp.if_lt rfl rfl ⟨fun hc => ?_, fun hc => ?_⟩
    · replace h := h.1 hc
      refine Wp.pk 1 (pc' := 43) (lv' := [some (.ref 1), some (.int x1), some (.int x2), some (.int x3)]) (st' := [.int 0]) rfl ?_
      exact Wp.iret rfl rfl ⟨rfl, h⟩
    · replace h := h.2 hc
      refine Wp.pk 2 (pc' := 10) (lv' := [some (.ref 1), some (.int x1), some (.int x2), some (.int x3)]) (st' := [.ref 1, .int x2]) rfl ?_
      refine Wp.getI rfl rfl sh1 rfl ?_
      refine Wp.pk 1 (pc' := 14) (lv' := [some (.ref 1), some (.int x1), some (.int x2), some (.int x3)]) (st' := [.ref 1, .int (m 1 0), .int x2]) rfl ?_
      refine Wp.getR rfl rfl sh1 rfl ?_
      refine Wp.pk 1 (pc' := 18) (lv' := [some (.ref 1), some (.int x1), some (.int x2), some (.int x3)]) (st' := [.int x1, .ref 5, .int (m 1 0), .int x2]) rfl ?_
      refine Wp.iald rfl sh5 ⟨h.1, ?_⟩
      replace h := h.2
      refine Wp.pk 1 (pc' := 20) (lv' := [some (.ref 1), some (.int x1), some (.int x2), some (.int x3)]) (st' := [.int ((m 1 0) - (m 5 (Int32.toNatClampNeg x1))), .int x2]) rfl ?_
      refine Wp.icmp_gt rfl rfl ⟨fun hc => ?_, fun hc => ?_⟩
      · replace h := h.1 hc
        refine Wp.pk 1 (pc' := 43) (lv' := [some (.ref 1), some (.int x1), some (.int x2), some (.int x3)]) (st' := [.int 0]) rfl ?_
        exact Wp.iret rfl rfl ⟨rfl, h⟩
      · replace h := h.2 hc
        refine Wp.pk 2 (pc' := 25) (lv' := [some (.ref 1), some (.int x1), some (.int x2), some (.int x3)]) (st' := [.ref 1, .int x3]) rfl ?_
        refine Wp.getI rfl rfl sh1 rfl ?_
        refine Wp.pk 1 (pc' := 29) (lv' := [some (.ref 1), some (.int x1), some (.int x2), some (.int x3)]) (st' := [.ref 1, .int (m 1 1), .int x3]) rfl ?_
        refine Wp.getR rfl rfl sh1 rfl ?_
        refine Wp.pk 1 (pc' := 33) (lv' := [some (.ref 1), some (.int x1), some (.int x2), some (.int x3)]) (st' := [.int x1, .ref 6, .int (m 1 1), .int x3]) rfl ?_
        refine Wp.iald rfl sh6 ⟨h.1, ?_⟩
        replace h := h.2
        refine Wp.pk 1 (pc' := 35) (lv' := [some (.ref 1), some (.int x1), some (.int x2), some (.int x3)]) (st' := [.int ((m 1 1) - (m 6 (Int32.toNatClampNeg x1))), .int x3]) rfl ?_
        refine Wp.icmp_gt rfl rfl ⟨fun hc => ?_, fun hc => ?_⟩
        · replace h := h.1 hc
          refine Wp.pk 1 (pc' := 43) (lv' := [some (.ref 1), some (.int x1), some (.int x2), some (.int x3)]) (st' := [.int 0]) rfl ?_
          exact Wp.iret rfl rfl ⟨rfl, h⟩
        · replace h := h.2 hc
          refine Wp.pk 2 (pc' := 43) (lv' := [some (.ref 1), some (.int x1), some (.int x2), some (.int x3)]) (st' := [.int 1]) rfl ?_
          exact Wp.iret rfl rfl ⟨rfl, h⟩
theorem eX5_isBarred_0 {X : a_X} {m : Nat → Nat → Int32} {Q : Option Value → (Nat → Nat → Int32) → Prop} {x1 x2 x3 : Int32} (h : vp_in x1 12 ∧ Wp X mX5_isBarred 17 [some (.ref 1), some (.int x1), none, some (.int x3), some (.int (((1 <<< ((m 5 (Int32.toNatClampNeg x1)) &&& 31)) - 1) <<< (x2 &&& 31))), some (.int x3)] [] m Q) : Call X mX5_isBarred [.ref 1, .int x1, .int x2, .int x3] m Q := by
  unfold Call
  refine Wp.loc (lv' := [some (.ref 1), some (.int x1), some (.int x2), some (.int x3), none, none]) rfl ?_
  refine Wp.pk 2 (pc' := 2) (lv' := [some (.ref 1), some (.int x1), some (.int x2), some (.int x3), none, none]) (st' := [.ref 1, .int 1]) rfl ?_
  refine Wp.getR rfl rfl sh1 rfl ?_
  refine Wp.pk 1 (pc' := 6) (lv' := [some (.ref 1), some (.int x1), some (.int x2), some (.int x3), none, none]) (st' := [.int x1, .ref 5, .int 1]) rfl ?_
  refine Wp.iald rfl sh5 ⟨h.1, ?_⟩
  replace h := h.2
  refine Wp.pk 8 (pc' := 17) (lv' := [some (.ref 1), some (.int x1), some (.int x2), some (.int x3), some (.int (((1 <<< ((m 5 (Int32.toNatClampNeg x1)) &&& 31)) - 1) <<< (x2 &&& 31))), some (.int x3)]) (st' := []) rfl ?_
  exact Wp.fgt (lv := [some (.ref 1), some (.int x1), none, some (.int x3), some (.int (((1 <<< ((m 5 (Int32.toNatClampNeg x1)) &&& 31)) - 1) <<< (x2 &&& 31))), some (.int x3)]) (a_lle.of (a_lleb_e (a_lleb_e (a_lleb_i (a_lleb_e (a_lleb_e (a_lleb_e trivial))))))) h
theorem eX5_isBarred_17 {X : a_X} {m : Nat → Nat → Int32} {Q : Option Value → (Nat → Nat → Int32) → Prop} {x1 x3 x4 x5 : Int32} (h : vp_in x1 12 ∧ ((x3 + (m 6 (Int32.toNatClampNeg x1))) ≤ x5 → Q (some (.int 0)) m) ∧ (¬ (x3 + (m 6 (Int32.toNatClampNeg x1))) ≤ x5 → vp_in x5 8 ∧ (((m 3 (Int32.toNatClampNeg x5)) &&& x4) = 0 → Wp X mX5_isBarred 17 [some (.ref 1), some (.int x1), none, some (.int x3), some (.int x4), some (.int (x5 + 1))] [] m Q) ∧ (¬ ((m 3 (Int32.toNatClampNeg x5)) &&& x4) = 0 → Q (some (.int 1)) m))) : Wp X mX5_isBarred 17 [some (.ref 1), some (.int x1), none, some (.int x3), some (.int x4), some (.int x5)] [] m Q := by
  refine Wp.pk 3 (pc' := 21) (lv' := [some (.ref 1), some (.int x1), none, some (.int x3), some (.int x4), some (.int x5)]) (st' := [.ref 1, .int x3, .int x5]) rfl ?_
  refine Wp.getR rfl rfl sh1 rfl ?_
  refine Wp.pk 1 (pc' := 25) (lv' := [some (.ref 1), some (.int x1), none, some (.int x3), some (.int x4), some (.int x5)]) (st' := [.int x1, .ref 6, .int x3, .int x5]) rfl ?_
  refine Wp.iald rfl sh6 ⟨h.1, ?_⟩
  replace h := h.2
  refine Wp.pk 1 (pc' := 27) (lv' := [some (.ref 1), some (.int x1), none, some (.int x3), some (.int x4), some (.int x5)]) (st' := [.int (x3 + (m 6 (Int32.toNatClampNeg x1))), .int x5]) rfl ?_
  refine Wp.icmp_ge rfl rfl ⟨fun hc => ?_, fun hc => ?_⟩
  · replace h := h.1 hc
    refine Wp.pk 1 (pc' := 52) (lv' := [some (.ref 1), some (.int x1), none, some (.int x3), some (.int x4), some (.int x5)]) (st' := [.int 0]) rfl ?_
    exact Wp.iret rfl rfl ⟨rfl, h⟩
  · replace h := h.2 hc
    refine Wp.pk 1 (pc' := 31) (lv' := [some (.ref 1), some (.int x1), none, some (.int x3), some (.int x4), some (.int x5)]) (st' := [.ref 1]) rfl ?_
    refine Wp.getR rfl rfl sh1 rfl ?_
    refine Wp.pk 1 (pc' := 36) (lv' := [some (.ref 1), some (.int x1), none, some (.int x3), some (.int x4), some (.int x5)]) (st' := [.int x5, .ref 3]) rfl ?_
    refine Wp.iald rfl sh3 ⟨h.1, ?_⟩
    replace h := h.2
    refine Wp.pk 2 (pc' := 40) (lv' := [some (.ref 1), some (.int x1), none, some (.int x3), some (.int x4), some (.int x5)]) (st' := [.int ((m 3 (Int32.toNatClampNeg x5)) &&& x4)]) rfl ?_
    refine Wp.if_eq rfl rfl ⟨fun hc => ?_, fun hc => ?_⟩
    · replace h := h.1 hc
      refine Wp.pk 2 (pc' := 17) (lv' := [some (.ref 1), some (.int x1), none, some (.int x3), some (.int x4), some (.int (x5 + 1))]) (st' := []) rfl ?_
      exact h
    · replace h := h.2 hc
      refine Wp.pk 1 (pc' := 44) (lv' := [some (.ref 1), some (.int x1), none, some (.int x3), some (.int x4), some (.int x5)]) (st' := [.int 1]) rfl ?_
      exact Wp.iret rfl rfl ⟨rfl, h⟩
theorem eX5_canRead_0 {X : a_X} {m : Nat → Nat → Int32} {Q : Option Value → (Nat → Nat → Int32) → Prop} {x1 x2 : Int32} (h : ((100 * x1) < ((m 1 4) * x2) → Q (some (.int 0)) m) ∧ (¬ (100 * x1) < ((m 1 4) * x2) → Q (some (.int 1)) m)) : Call X mX5_canRead [.ref 1, .int x1, .int x2] m Q := by
  unfold Call
  refine Wp.loc (lv' := [some (.ref 1), some (.int x1), some (.int x2)]) rfl ?_
  refine Wp.pk 4 (pc' := 5) (lv' := [some (.ref 1), some (.int x1), some (.int x2)]) (st' := [.ref 1, .int (100 * x1)]) rfl ?_
  refine Wp.getI rfl rfl sh1 rfl ?_
  refine Wp.pk 2 (pc' := 10) (lv' := [some (.ref 1), some (.int x1), some (.int x2)]) (st' := [.int ((m 1 4) * x2), .int (100 * x1)]) rfl ?_
  refine Wp.icmp_lt rfl rfl ⟨fun hc => ?_, fun hc => ?_⟩
  · replace h := h.1 hc
    refine Wp.pk 1 (pc' := 18) (lv' := [some (.ref 1), some (.int x1), some (.int x2)]) (st' := [.int 0]) rfl ?_
    exact Wp.iret rfl rfl ⟨rfl, h⟩
  · replace h := h.2 hc
    refine Wp.pk 2 (pc' := 18) (lv' := [some (.ref 1), some (.int x1), some (.int x2)]) (st' := [.int 1]) rfl ?_
    exact Wp.iret rfl rfl ⟨rfl, h⟩
theorem eX5_passersOf_0 {X : a_X} {m : Nat → Nat → Int32} {Q : Option Value → (Nat → Nat → Int32) → Prop} {x1 x2 : Int32} (h : Wp X mX5_passersOf 5 [some (.ref 1), some (.int x1), some (.int x2), some (.int 0), some (.int x2)] [] m Q) : Call X mX5_passersOf [.ref 1, .int x1, .int x2] m Q := by
  unfold Call
  refine Wp.loc (lv' := [some (.ref 1), some (.int x1), some (.int x2), none, none]) rfl ?_
  refine Wp.pk 4 (pc' := 5) (lv' := [some (.ref 1), some (.int x1), some (.int x2), some (.int 0), some (.int x2)]) (st' := []) rfl ?_
  exact h
theorem eX5_passersOf_5 {X : a_X} {m : Nat → Nat → Int32} {Q : Option Value → (Nat → Nat → Int32) → Prop} {x1 x2 x3 x4 : Int32} (h : vp_in x1 12 ∧ ((x2 + (m 5 (Int32.toNatClampNeg x1))) ≤ x4 → vp_in x1 12 ∧ Q (some (.int (x3 * (m 6 (Int32.toNatClampNeg x1))))) m) ∧ (¬ (x2 + (m 5 (Int32.toNatClampNeg x1))) ≤ x4 → vp_in x4 16 ∧ Wp X mX5_passersOf 5 [some (.ref 1), some (.int x1), some (.int x2), some (.int (x3 + (m 2 (Int32.toNatClampNeg x4)))), some (.int (x4 + 1))] [] m Q)) : Wp X mX5_passersOf 5 [some (.ref 1), some (.int x1), some (.int x2), some (.int x3), some (.int x4)] [] m Q := by
  refine Wp.pk 3 (pc' := 9) (lv' := [some (.ref 1), some (.int x1), some (.int x2), some (.int x3), some (.int x4)]) (st' := [.ref 1, .int x2, .int x4]) rfl ?_
  refine Wp.getR rfl rfl sh1 rfl ?_
  refine Wp.pk 1 (pc' := 13) (lv' := [some (.ref 1), some (.int x1), some (.int x2), some (.int x3), some (.int x4)]) (st' := [.int x1, .ref 5, .int x2, .int x4]) rfl ?_
  refine Wp.iald rfl sh5 ⟨h.1, ?_⟩
  replace h := h.2
  refine Wp.pk 1 (pc' := 15) (lv' := [some (.ref 1), some (.int x1), some (.int x2), some (.int x3), some (.int x4)]) (st' := [.int (x2 + (m 5 (Int32.toNatClampNeg x1))), .int x4]) rfl ?_
  refine Wp.icmp_ge rfl rfl ⟨fun hc => ?_, fun hc => ?_⟩
  · replace h := h.1 hc
    refine Wp.pk 2 (pc' := 36) (lv' := [some (.ref 1), some (.int x1), some (.int x2), some (.int x3), some (.int x4)]) (st' := [.ref 1, .int x3]) rfl ?_
    refine Wp.getR rfl rfl sh1 rfl ?_
    refine Wp.pk 1 (pc' := 40) (lv' := [some (.ref 1), some (.int x1), some (.int x2), some (.int x3), some (.int x4)]) (st' := [.int x1, .ref 6, .int x3]) rfl ?_
    refine Wp.iald rfl sh6 ⟨h.1, ?_⟩
    replace h := h.2
    refine Wp.pk 1 (pc' := 42) (lv' := [some (.ref 1), some (.int x1), some (.int x2), some (.int x3), some (.int x4)]) (st' := [.int (x3 * (m 6 (Int32.toNatClampNeg x1)))]) rfl ?_
    exact Wp.iret rfl rfl ⟨rfl, h⟩
  · replace h := h.2 hc
    refine Wp.pk 2 (pc' := 20) (lv' := [some (.ref 1), some (.int x1), some (.int x2), some (.int x3), some (.int x4)]) (st' := [.ref 1, .int x3]) rfl ?_
    refine Wp.getR rfl rfl sh1 rfl ?_
    refine Wp.pk 1 (pc' := 25) (lv' := [some (.ref 1), some (.int x1), some (.int x2), some (.int x3), some (.int x4)]) (st' := [.int x4, .ref 2, .int x3]) rfl ?_
    refine Wp.iald rfl sh2 ⟨h.1, ?_⟩
    replace h := h.2
    refine Wp.pk 4 (pc' := 5) (lv' := [some (.ref 1), some (.int x1), some (.int x2), some (.int (x3 + (m 2 (Int32.toNatClampNeg x4)))), some (.int (x4 + 1))]) (st' := []) rfl ?_
    exact h
theorem eX8_isIn_0 {X : a_X} {m : Nat → Nat → Int32} {Q : Option Value → (Nat → Nat → Int32) → Prop} {x0 x1 : Int32} (h : (((x0 >>> (x1 &&& 31)) &&& 1) = 0 → Q (some (.int 0)) m) ∧ (¬ ((x0 >>> (x1 &&& 31)) &&& 1) = 0 → Q (some (.int 1)) m)) : Call X mX8_isIn [.int x0, .int x1] m Q := by
  unfold Call
  refine Wp.loc (lv' := [some (.int x0), some (.int x1)]) rfl ?_
  refine Wp.pk 5 (pc' := 5) (lv' := [some (.int x0), some (.int x1)]) (st' := [.int ((x0 >>> (x1 &&& 31)) &&& 1)]) rfl ?_
  refine Wp.if_eq rfl rfl ⟨fun hc => ?_, fun hc => ?_⟩
  · replace h := h.1 hc
    refine Wp.pk 1 (pc' := 13) (lv' := [some (.int x0), some (.int x1)]) (st' := [.int 0]) rfl ?_
    exact Wp.iret rfl rfl ⟨rfl, h⟩
  · replace h := h.2 hc
    refine Wp.pk 2 (pc' := 13) (lv' := [some (.int x0), some (.int x1)]) (st' := [.int 1]) rfl ?_
    exact Wp.iret rfl rfl ⟨rfl, h⟩
theorem eX8_cellAt_0 {X : a_X} {m : Nat → Nat → Int32} {Q : Option Value → (Nat → Nat → Int32) → Prop} {x0 x1 : Int32} (h : Q (some (.int ((x1 * 16) + x0))) m) : Call X mX8_cellAt [.int x0, .int x1] m Q := by
  unfold Call
  refine Wp.loc (lv' := [some (.int x0), some (.int x1)]) rfl ?_
  refine Wp.pk 5 (pc' := 6) (lv' := [some (.int x0), some (.int x1)]) (st' := [.int ((x1 * 16) + x0)]) rfl ?_
  exact Wp.iret rfl rfl ⟨rfl, h⟩
theorem eJ7_fill_53178_8_0 {X : a_X} {m : Nat → Nat → Int32} {Q : Option Value → (Nat → Nat → Int32) → Prop} {x1 : Int32} (h : Wp X mJ7_fill_53178 5 [some (.ref 8), some (.int x1), some (.int 0), some (.int 16)] [] m Q) : Call X mJ7_fill_53178 [.ref 8, .int x1] m Q := by
  unfold Call
  refine Wp.loc (lv' := [some (.ref 8), some (.int x1), none, none]) rfl ?_
  refine Wp.pk 3 (pc' := 3) (lv' := [some (.ref 8), some (.int x1), some (.int 0), none]) (st' := [.ref 8]) rfl ?_
  refine Wp.alen rfl sh8 (by decide) rfl ?_
  refine Wp.pk 1 (pc' := 5) (lv' := [some (.ref 8), some (.int x1), some (.int 0), some (.int 16)]) (st' := []) rfl ?_
  exact h
theorem eJ7_fill_53178_8_5 {X : a_X} {m : Nat → Nat → Int32} {Q : Option Value → (Nat → Nat → Int32) → Prop} {x1 x2 x3 : Int32} (h : (x3 ≤ x2 → Q none m) ∧ (¬ x3 ≤ x2 → vp_in x2 16 ∧ ∀ m1, m1 = (a_up m 8 (Int32.toNatClampNeg x2) x1) → Wp X mJ7_fill_53178 5 [some (.ref 8), some (.int x1), some (.int (x2 + 1)), some (.int x3)] [] m1 Q)) : Wp X mJ7_fill_53178 5 [some (.ref 8), some (.int x1), some (.int x2), some (.int x3)] [] m Q := by
  refine Wp.pk 2 (pc' := 7) (lv' := [some (.ref 8), some (.int x1), some (.int x2), some (.int x3)]) (st' := [.int x3, .int x2]) rfl ?_
  refine Wp.icmp_ge rfl rfl ⟨fun hc => ?_, fun hc => ?_⟩
  · replace h := h.1 hc
    exact Wp.vret rfl rfl h
  · replace h := h.2 hc
    refine Wp.pk 3 (pc' := 13) (lv' := [some (.ref 8), some (.int x1), some (.int x2), some (.int x3)]) (st' := [.int x1, .int x2, .ref 8]) rfl ?_
    refine Wp.iastN rfl sh8 h.1 (fun m1 hm => ?_)
    replace h := h.2 _ hm
    refine Wp.pk 2 (pc' := 5) (lv' := [some (.ref 8), some (.int x1), some (.int (x2 + 1)), some (.int x3)]) (st' := []) rfl ?_
    exact h
theorem eJ7_fill_53178_9_0 {X : a_X} {m : Nat → Nat → Int32} {Q : Option Value → (Nat → Nat → Int32) → Prop} {x1 : Int32} (h : Wp X mJ7_fill_53178 5 [some (.ref 9), some (.int x1), some (.int 0), some (.int 8)] [] m Q) : Call X mJ7_fill_53178 [.ref 9, .int x1] m Q := by
  unfold Call
  refine Wp.loc (lv' := [some (.ref 9), some (.int x1), none, none]) rfl ?_
  refine Wp.pk 3 (pc' := 3) (lv' := [some (.ref 9), some (.int x1), some (.int 0), none]) (st' := [.ref 9]) rfl ?_
  refine Wp.alen rfl sh9 (by decide) rfl ?_
  refine Wp.pk 1 (pc' := 5) (lv' := [some (.ref 9), some (.int x1), some (.int 0), some (.int 8)]) (st' := []) rfl ?_
  exact h
theorem eJ7_fill_53178_9_5 {X : a_X} {m : Nat → Nat → Int32} {Q : Option Value → (Nat → Nat → Int32) → Prop} {x1 x2 x3 : Int32} (h : (x3 ≤ x2 → Q none m) ∧ (¬ x3 ≤ x2 → vp_in x2 8 ∧ ∀ m1, m1 = (a_up m 9 (Int32.toNatClampNeg x2) x1) → Wp X mJ7_fill_53178 5 [some (.ref 9), some (.int x1), some (.int (x2 + 1)), some (.int x3)] [] m1 Q)) : Wp X mJ7_fill_53178 5 [some (.ref 9), some (.int x1), some (.int x2), some (.int x3)] [] m Q := by
  refine Wp.pk 2 (pc' := 7) (lv' := [some (.ref 9), some (.int x1), some (.int x2), some (.int x3)]) (st' := [.int x3, .int x2]) rfl ?_
  refine Wp.icmp_ge rfl rfl ⟨fun hc => ?_, fun hc => ?_⟩
  · replace h := h.1 hc
    exact Wp.vret rfl rfl h
  · replace h := h.2 hc
    refine Wp.pk 3 (pc' := 13) (lv' := [some (.ref 9), some (.int x1), some (.int x2), some (.int x3)]) (st' := [.int x1, .int x2, .ref 9]) rfl ?_
    refine Wp.iastN rfl sh9 h.1 (fun m1 hm => ?_)
    replace h := h.2 _ hm
    refine Wp.pk 2 (pc' := 5) (lv' := [some (.ref 9), some (.int x1), some (.int (x2 + 1)), some (.int x3)]) (st' := []) rfl ?_
    exact h
theorem eJ6_numberOfLeadingZeros_0f7a4_0 {X : a_X} {m : Nat → Nat → Int32} {Q : Option Value → (Nat → Nat → Int32) → Prop} {x0 : Int32} (h : (0 < x0 → Wp X mJ6_numberOfLeadingZeros_0f7a4 18 [some (.int x0), some (.int 31)] [] m Q) ∧ (¬ 0 < x0 → (¬ x0 = 0 → Q (some (.int 0)) m) ∧ (x0 = 0 → Q (some (.int 32)) m))) : Call X mJ6_numberOfLeadingZeros_0f7a4 [.int x0] m Q := by
  unfold Call
  refine Wp.loc (lv' := [some (.int x0), none]) rfl ?_
  refine Wp.pk 1 (pc' := 1) (lv' := [some (.int x0), none]) (st' := [.int x0]) rfl ?_
  refine Wp.if_gt rfl rfl ⟨fun hc => ?_, fun hc => ?_⟩
  · replace h := h.1 hc
    refine Wp.pk 2 (pc' := 18) (lv' := [some (.int x0), some (.int 31)]) (st' := []) rfl ?_
    exact h
  · replace h := h.2 hc
    refine Wp.pk 1 (pc' := 5) (lv' := [some (.int x0), none]) (st' := [.int x0]) rfl ?_
    refine Wp.if_ne rfl rfl ⟨fun hc => ?_, fun hc => ?_⟩
    · replace h := h.1 hc
      refine Wp.pk 1 (pc' := 14) (lv' := [some (.int x0), none]) (st' := [.int 0]) rfl ?_
      exact Wp.iret rfl rfl ⟨rfl, h⟩
    · replace h := h.2 hc
      refine Wp.pk 2 (pc' := 14) (lv' := [some (.int x0), none]) (st' := [.int 32]) rfl ?_
      exact Wp.iret rfl rfl ⟨rfl, h⟩
theorem eJ6_numberOfLeadingZeros_0f7a4_18 {X : a_X} {m : Nat → Nat → Int32} {Q : Option Value → (Nat → Nat → Int32) → Prop} {x0 x1 : Int32} (h : (x0 < 65536 → Wp X mJ6_numberOfLeadingZeros_0f7a4 33 [some (.int x0), some (.int x1)] [] m Q) ∧ (¬ x0 < 65536 → Wp X mJ6_numberOfLeadingZeros_0f7a4 33 [some (.int (a_ush x0 16)), some (.int (x1 + (-16)))] [] m Q)) : Wp X mJ6_numberOfLeadingZeros_0f7a4 18 [some (.int x0), some (.int x1)] [] m Q := by
  refine Wp.pk 1 (pc' := 19) (lv' := [some (.int x0), some (.int x1)]) (st' := [.int x0]) rfl ?_
  refine Wp.ldc_w rfl rfl ?_
  refine Wp.icmp_lt rfl rfl ⟨fun hc => ?_, fun hc => ?_⟩
  · replace h := h.1 hc
    exact h
  · replace h := h.2 hc
    refine Wp.pk 5 (pc' := 33) (lv' := [some (.int (a_ush x0 16)), some (.int (x1 + (-16)))]) (st' := []) rfl ?_
    exact h
theorem eJ6_numberOfLeadingZeros_0f7a4_33 {X : a_X} {m : Nat → Nat → Int32} {Q : Option Value → (Nat → Nat → Int32) → Prop} {x0 x1 : Int32} (h : (x0 < 256 → Wp X mJ6_numberOfLeadingZeros_0f7a4 48 [some (.int x0), some (.int x1)] [] m Q) ∧ (¬ x0 < 256 → Wp X mJ6_numberOfLeadingZeros_0f7a4 48 [some (.int (a_ush x0 8)), some (.int (x1 + (-8)))] [] m Q)) : Wp X mJ6_numberOfLeadingZeros_0f7a4 33 [some (.int x0), some (.int x1)] [] m Q := by
  refine Wp.pk 2 (pc' := 37) (lv' := [some (.int x0), some (.int x1)]) (st' := [.int 256, .int x0]) rfl ?_
  refine Wp.icmp_lt rfl rfl ⟨fun hc => ?_, fun hc => ?_⟩
  · replace h := h.1 hc
    exact h
  · replace h := h.2 hc
    refine Wp.pk 5 (pc' := 48) (lv' := [some (.int (a_ush x0 8)), some (.int (x1 + (-8)))]) (st' := []) rfl ?_
    exact h
theorem eJ6_numberOfLeadingZeros_0f7a4_48 {X : a_X} {m : Nat → Nat → Int32} {Q : Option Value → (Nat → Nat → Int32) → Prop} {x0 x1 : Int32} (h : (x0 < 16 → Wp X mJ6_numberOfLeadingZeros_0f7a4 61 [some (.int x0), some (.int x1)] [] m Q) ∧ (¬ x0 < 16 → Wp X mJ6_numberOfLeadingZeros_0f7a4 61 [some (.int (a_ush x0 4)), some (.int (x1 + (-4)))] [] m Q)) : Wp X mJ6_numberOfLeadingZeros_0f7a4 48 [some (.int x0), some (.int x1)] [] m Q := by
  refine Wp.pk 2 (pc' := 51) (lv' := [some (.int x0), some (.int x1)]) (st' := [.int 16, .int x0]) rfl ?_
  refine Wp.icmp_lt rfl rfl ⟨fun hc => ?_, fun hc => ?_⟩
  · replace h := h.1 hc
    exact h
  · replace h := h.2 hc
    refine Wp.pk 5 (pc' := 61) (lv' := [some (.int (a_ush x0 4)), some (.int (x1 + (-4)))]) (st' := []) rfl ?_
    exact h
theorem eJ6_numberOfLeadingZeros_0f7a4_61 {X : a_X} {m : Nat → Nat → Int32} {Q : Option Value → (Nat → Nat → Int32) → Prop} {x0 x1 : Int32} (h : (x0 < 4 → Wp X mJ6_numberOfLeadingZeros_0f7a4 73 [some (.int x0), some (.int x1)] [] m Q) ∧ (¬ x0 < 4 → Wp X mJ6_numberOfLeadingZeros_0f7a4 73 [some (.int (a_ush x0 2)), some (.int (x1 + (-2)))] [] m Q)) : Wp X mJ6_numberOfLeadingZeros_0f7a4 61 [some (.int x0), some (.int x1)] [] m Q := by
  refine Wp.pk 2 (pc' := 63) (lv' := [some (.int x0), some (.int x1)]) (st' := [.int 4, .int x0]) rfl ?_
  refine Wp.icmp_lt rfl rfl ⟨fun hc => ?_, fun hc => ?_⟩
  · replace h := h.1 hc
    exact h
  · replace h := h.2 hc
    refine Wp.pk 5 (pc' := 73) (lv' := [some (.int (a_ush x0 2)), some (.int (x1 + (-2)))]) (st' := []) rfl ?_
    exact h
theorem eJ6_numberOfLeadingZeros_0f7a4_73 {X : a_X} {m : Nat → Nat → Int32} {Q : Option Value → (Nat → Nat → Int32) → Prop} {x0 x1 : Int32} (h : Q (some (.int (x1 - (a_ush x0 1)))) m) : Wp X mJ6_numberOfLeadingZeros_0f7a4 73 [some (.int x0), some (.int x1)] [] m Q := by
  refine Wp.pk 5 (pc' := 78) (lv' := [some (.int x0), some (.int x1)]) (st' := [.int (x1 - (a_ush x0 1))]) rfl ?_
  exact Wp.iret rfl rfl ⟨rfl, h⟩
theorem eJ6_bitCount_0f7a4_0 {X : a_X} {m : Nat → Nat → Int32} {Q : Option Value → (Nat → Nat → Int32) → Prop} {x0 : Int32} (h : Q (some (.int ((((((((x0 - ((a_ush x0 1) &&& 1431655765)) &&& 858993459) + ((a_ush (x0 - ((a_ush x0 1) &&& 1431655765)) 2) &&& 858993459)) + (a_ush (((x0 - ((a_ush x0 1) &&& 1431655765)) &&& 858993459) + ((a_ush (x0 - ((a_ush x0 1) &&& 1431655765)) 2) &&& 858993459)) 4)) &&& 252645135) + (a_ush (((((x0 - ((a_ush x0 1) &&& 1431655765)) &&& 858993459) + ((a_ush (x0 - ((a_ush x0 1) &&& 1431655765)) 2) &&& 858993459)) + (a_ush (((x0 - ((a_ush x0 1) &&& 1431655765)) &&& 858993459) + ((a_ush (x0 - ((a_ush x0 1) &&& 1431655765)) 2) &&& 858993459)) 4)) &&& 252645135) 8)) + (a_ush ((((((x0 - ((a_ush x0 1) &&& 1431655765)) &&& 858993459) + ((a_ush (x0 - ((a_ush x0 1) &&& 1431655765)) 2) &&& 858993459)) + (a_ush (((x0 - ((a_ush x0 1) &&& 1431655765)) &&& 858993459) + ((a_ush (x0 - ((a_ush x0 1) &&& 1431655765)) 2) &&& 858993459)) 4)) &&& 252645135) + (a_ush (((((x0 - ((a_ush x0 1) &&& 1431655765)) &&& 858993459) + ((a_ush (x0 - ((a_ush x0 1) &&& 1431655765)) 2) &&& 858993459)) + (a_ush (((x0 - ((a_ush x0 1) &&& 1431655765)) &&& 858993459) + ((a_ush (x0 - ((a_ush x0 1) &&& 1431655765)) 2) &&& 858993459)) 4)) &&& 252645135) 8)) 16)) &&& 63))) m) : Call X mJ6_bitCount_0f7a4 [.int x0] m Q := by
  unfold Call
  refine Wp.loc (lv' := [some (.int x0)]) rfl ?_
  refine Wp.pk 4 (pc' := 4) (lv' := [some (.int x0)]) (st' := [.int (a_ush x0 1), .int x0]) rfl ?_
  refine Wp.ldc_w rfl rfl ?_
  refine Wp.pk 4 (pc' := 11) (lv' := [some (.int (x0 - ((a_ush x0 1) &&& 1431655765)))]) (st' := [.int (x0 - ((a_ush x0 1) &&& 1431655765))]) rfl ?_
  refine Wp.ldc_w rfl rfl ?_
  refine Wp.pk 4 (pc' := 18) (lv' := [some (.int (x0 - ((a_ush x0 1) &&& 1431655765)))]) (st' := [.int (a_ush (x0 - ((a_ush x0 1) &&& 1431655765)) 2), .int ((x0 - ((a_ush x0 1) &&& 1431655765)) &&& 858993459)]) rfl ?_
  refine Wp.ldc_w rfl rfl ?_
  refine Wp.pk 8 (pc' := 29) (lv' := [some (.int (((x0 - ((a_ush x0 1) &&& 1431655765)) &&& 858993459) + ((a_ush (x0 - ((a_ush x0 1) &&& 1431655765)) 2) &&& 858993459)))]) (st' := [.int ((((x0 - ((a_ush x0 1) &&& 1431655765)) &&& 858993459) + ((a_ush (x0 - ((a_ush x0 1) &&& 1431655765)) 2) &&& 858993459)) + (a_ush (((x0 - ((a_ush x0 1) &&& 1431655765)) &&& 858993459) + ((a_ush (x0 - ((a_ush x0 1) &&& 1431655765)) 2) &&& 858993459)) 4))]) rfl ?_
  refine Wp.ldc_w rfl rfl ?_
  refine Wp.pk 17 (pc' := 52) (lv' := [some (.int (((((((x0 - ((a_ush x0 1) &&& 1431655765)) &&& 858993459) + ((a_ush (x0 - ((a_ush x0 1) &&& 1431655765)) 2) &&& 858993459)) + (a_ush (((x0 - ((a_ush x0 1) &&& 1431655765)) &&& 858993459) + ((a_ush (x0 - ((a_ush x0 1) &&& 1431655765)) 2) &&& 858993459)) 4)) &&& 252645135) + (a_ush (((((x0 - ((a_ush x0 1) &&& 1431655765)) &&& 858993459) + ((a_ush (x0 - ((a_ush x0 1) &&& 1431655765)) 2) &&& 858993459)) + (a_ush (((x0 - ((a_ush x0 1) &&& 1431655765)) &&& 858993459) + ((a_ush (x0 - ((a_ush x0 1) &&& 1431655765)) 2) &&& 858993459)) 4)) &&& 252645135) 8)) + (a_ush ((((((x0 - ((a_ush x0 1) &&& 1431655765)) &&& 858993459) + ((a_ush (x0 - ((a_ush x0 1) &&& 1431655765)) 2) &&& 858993459)) + (a_ush (((x0 - ((a_ush x0 1) &&& 1431655765)) &&& 858993459) + ((a_ush (x0 - ((a_ush x0 1) &&& 1431655765)) 2) &&& 858993459)) 4)) &&& 252645135) + (a_ush (((((x0 - ((a_ush x0 1) &&& 1431655765)) &&& 858993459) + ((a_ush (x0 - ((a_ush x0 1) &&& 1431655765)) 2) &&& 858993459)) + (a_ush (((x0 - ((a_ush x0 1) &&& 1431655765)) &&& 858993459) + ((a_ush (x0 - ((a_ush x0 1) &&& 1431655765)) 2) &&& 858993459)) 4)) &&& 252645135) 8)) 16)))]) (st' := [.int ((((((((x0 - ((a_ush x0 1) &&& 1431655765)) &&& 858993459) + ((a_ush (x0 - ((a_ush x0 1) &&& 1431655765)) 2) &&& 858993459)) + (a_ush (((x0 - ((a_ush x0 1) &&& 1431655765)) &&& 858993459) + ((a_ush (x0 - ((a_ush x0 1) &&& 1431655765)) 2) &&& 858993459)) 4)) &&& 252645135) + (a_ush (((((x0 - ((a_ush x0 1) &&& 1431655765)) &&& 858993459) + ((a_ush (x0 - ((a_ush x0 1) &&& 1431655765)) 2) &&& 858993459)) + (a_ush (((x0 - ((a_ush x0 1) &&& 1431655765)) &&& 858993459) + ((a_ush (x0 - ((a_ush x0 1) &&& 1431655765)) 2) &&& 858993459)) 4)) &&& 252645135) 8)) + (a_ush ((((((x0 - ((a_ush x0 1) &&& 1431655765)) &&& 858993459) + ((a_ush (x0 - ((a_ush x0 1) &&& 1431655765)) 2) &&& 858993459)) + (a_ush (((x0 - ((a_ush x0 1) &&& 1431655765)) &&& 858993459) + ((a_ush (x0 - ((a_ush x0 1) &&& 1431655765)) 2) &&& 858993459)) 4)) &&& 252645135) + (a_ush (((((x0 - ((a_ush x0 1) &&& 1431655765)) &&& 858993459) + ((a_ush (x0 - ((a_ush x0 1) &&& 1431655765)) 2) &&& 858993459)) + (a_ush (((x0 - ((a_ush x0 1) &&& 1431655765)) &&& 858993459) + ((a_ush (x0 - ((a_ush x0 1) &&& 1431655765)) 2) &&& 858993459)) 4)) &&& 252645135) 8)) 16)) &&& 63)]) rfl ?_
  exact Wp.iret rfl rfl ⟨rfl, h⟩
