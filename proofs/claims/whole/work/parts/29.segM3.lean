theorem eX9_show_0 {X : a_X} {m : Nat → Nat → Int32} {Q : Option Value → (Nat → Nat → Int32) → Prop} {x1 x2 x3 : Int32} (h : CallI X mX9_isKind [.ref 77, .int x1] m (fun v2 m1 => (¬ v2 = 0 → CallI X mX9_isWithin [.ref 77, .int x1, .int x2, .int x3] m1 (fun v4 m3 => (¬ v4 = 0 → (¬ (m3 77 26) = 10 → vp_in (m3 77 26) 10 ∧ ∀ m5, m5 = (a_up m3 91 (Int32.toNatClampNeg (m3 77 26)) x1) → vp_in (m5 77 26) 10 ∧ ∀ m6, m6 = (a_up m5 92 (Int32.toNatClampNeg (m5 77 26)) x2) → vp_in (m6 77 26) 10 ∧ ∀ m7, m7 = (a_up m6 93 (Int32.toNatClampNeg (m6 77 26)) x3) → ∀ m8, m8 = (a_up m7 77 26 ((m7 77 26) + 1)) → Q (some (.int ((m8 77 26) - 1))) m8) ∧ ((m3 77 26) = 10 → Q (some (.int (-100000004))) m3)) ∧ (v4 = 0 → Q (some (.int (-100000002))) m3))) ∧ (v2 = 0 → Q (some (.int (-100000001))) m1))) : Call X mX9_show [.ref 77, .int x1, .int x2, .int x3] m Q := by
  unfold Call
  refine Wp.loc (lv' := [some (.ref 77), some (.int x1), some (.int x2), some (.int x3)]) rfl ?_
  refine Wp.pk 2 (pc' := 2) (lv' := [some (.ref 77), some (.int x1), some (.int x2), some (.int x3)]) (st' := [.int x1, .ref 77]) rfl ?_
  refine Wp.callI rfl rfl rfl (CallI.mono h (fun v2 m1 h => ?_))
  refine Wp.if_ne rfl rfl ⟨fun hc => ?_, fun hc => ?_⟩
  · replace h := h.1 hc
    refine Wp.pk 4 (pc' := 15) (lv' := [some (.ref 77), some (.int x1), some (.int x2), some (.int x3)]) (st' := [.int x3, .int x2, .int x1, .ref 77]) rfl ?_
    refine Wp.callI rfl rfl rfl (CallI.mono h (fun v4 m3 h => ?_))
    refine Wp.if_ne rfl rfl ⟨fun hc => ?_, fun hc => ?_⟩
    · replace h := h.1 hc
      refine Wp.pk 1 (pc' := 25) (lv' := [some (.ref 77), some (.int x1), some (.int x2), some (.int x3)]) (st' := [.ref 77]) rfl ?_
      refine Wp.getI rfl rfl sh77 rfl ?_
      refine Wp.pk 1 (pc' := 30) (lv' := [some (.ref 77), some (.int x1), some (.int x2), some (.int x3)]) (st' := [.int 10, .int (m3 77 26)]) rfl ?_
      refine Wp.icmp_ne rfl rfl ⟨fun hc => ?_, fun hc => ?_⟩
      · replace h := h.1 hc
        refine Wp.pk 1 (pc' := 37) (lv' := [some (.ref 77), some (.int x1), some (.int x2), some (.int x3)]) (st' := [.ref 77]) rfl ?_
        refine Wp.getR rfl rfl sh77 rfl ?_
        refine Wp.pk 1 (pc' := 41) (lv' := [some (.ref 77), some (.int x1), some (.int x2), some (.int x3)]) (st' := [.ref 77, .ref 91]) rfl ?_
        refine Wp.getI rfl rfl sh77 rfl ?_
        refine Wp.pk 1 (pc' := 45) (lv' := [some (.ref 77), some (.int x1), some (.int x2), some (.int x3)]) (st' := [.int x1, .int (m3 77 26), .ref 91]) rfl ?_
        refine Wp.iastN rfl sh91 h.1 (fun m5 hm => ?_)
        replace h := h.2 _ hm
        refine Wp.pk 1 (pc' := 47) (lv' := [some (.ref 77), some (.int x1), some (.int x2), some (.int x3)]) (st' := [.ref 77]) rfl ?_
        refine Wp.getR rfl rfl sh77 rfl ?_
        refine Wp.pk 1 (pc' := 51) (lv' := [some (.ref 77), some (.int x1), some (.int x2), some (.int x3)]) (st' := [.ref 77, .ref 92]) rfl ?_
        refine Wp.getI rfl rfl sh77 rfl ?_
        refine Wp.pk 1 (pc' := 55) (lv' := [some (.ref 77), some (.int x1), some (.int x2), some (.int x3)]) (st' := [.int x2, .int (m5 77 26), .ref 92]) rfl ?_
        refine Wp.iastN rfl sh92 h.1 (fun m6 hm => ?_)
        replace h := h.2 _ hm
        refine Wp.pk 1 (pc' := 57) (lv' := [some (.ref 77), some (.int x1), some (.int x2), some (.int x3)]) (st' := [.ref 77]) rfl ?_
        refine Wp.getR rfl rfl sh77 rfl ?_
        refine Wp.pk 1 (pc' := 61) (lv' := [some (.ref 77), some (.int x1), some (.int x2), some (.int x3)]) (st' := [.ref 77, .ref 93]) rfl ?_
        refine Wp.getI rfl rfl sh77 rfl ?_
        refine Wp.pk 1 (pc' := 65) (lv' := [some (.ref 77), some (.int x1), some (.int x2), some (.int x3)]) (st' := [.int x3, .int (m6 77 26), .ref 93]) rfl ?_
        refine Wp.iastN rfl sh93 h.1 (fun m7 hm => ?_)
        replace h := h.2 _ hm
        refine Wp.pk 2 (pc' := 68) (lv' := [some (.ref 77), some (.int x1), some (.int x2), some (.int x3)]) (st' := [.ref 77, .ref 77]) rfl ?_
        refine Wp.getI rfl rfl sh77 rfl ?_
        refine Wp.pk 2 (pc' := 73) (lv' := [some (.ref 77), some (.int x1), some (.int x2), some (.int x3)]) (st' := [.int ((m7 77 26) + 1), .ref 77]) rfl ?_
        refine Wp.putN rfl rfl sh77 rfl rfl (fun m8 hm => ?_)
        replace h := h _ hm
        refine Wp.pk 1 (pc' := 77) (lv' := [some (.ref 77), some (.int x1), some (.int x2), some (.int x3)]) (st' := [.ref 77]) rfl ?_
        refine Wp.getI rfl rfl sh77 rfl ?_
        refine Wp.pk 2 (pc' := 82) (lv' := [some (.ref 77), some (.int x1), some (.int x2), some (.int x3)]) (st' := [.int ((m8 77 26) - 1)]) rfl ?_
        exact Wp.iret rfl rfl ⟨rfl, h⟩
      · replace h := h.2 hc
        refine Wp.ldc rfl rfl ?_
        exact Wp.iret rfl rfl ⟨rfl, h⟩
    · replace h := h.2 hc
      refine Wp.ldc rfl rfl ?_
      exact Wp.iret rfl rfl ⟨rfl, h⟩
  · replace h := h.2 hc
    refine Wp.ldc rfl rfl ?_
    exact Wp.iret rfl rfl ⟨rfl, h⟩
theorem eX9_look_0 {X : a_X} {m : Nat → Nat → Int32} {Q : Option Value → (Nat → Nat → Int32) → Prop} {x1 x2 x3 : Int32} (h : (x3 = (-1) → CallI X mX9_isCell [.ref 77, .int x1, .int x2] m (fun v2 m1 => (¬ v2 = 0 → vp_in ((16 * x2) + x1) 128 ∧ ∀ m3, m3 = (a_up m1 94 (Int32.toNatClampNeg ((16 * x2) + x1)) (2 + x3)) → Q (some (.int 1)) m3) ∧ (v2 = 0 → Q (some (.int (-100000002))) m1))) ∧ (¬ x3 = (-1) → CallI X mX9_in [.long (Int32.toInt64 x3), .long 0, .long (Int32.toInt64 ((m 77 26) - 1))] m (fun v5 m4 => (¬ v5 = 0 → CallI X mX9_isCell [.ref 77, .int x1, .int x2] m4 (fun v7 m6 => (¬ v7 = 0 → vp_in ((16 * x2) + x1) 128 ∧ ∀ m8, m8 = (a_up m6 94 (Int32.toNatClampNeg ((16 * x2) + x1)) (2 + x3)) → Q (some (.int 1)) m8) ∧ (v7 = 0 → Q (some (.int (-100000002))) m6))) ∧ (v5 = 0 → Q (some (.int (-100000001))) m4)))) : Call X mX9_look [.ref 77, .int x1, .int x2, .int x3] m Q := by
  unfold Call
  refine Wp.loc (lv' := [some (.ref 77), some (.int x1), some (.int x2), some (.int x3)]) rfl ?_
  refine Wp.pk 2 (pc' := 2) (lv' := [some (.ref 77), some (.int x1), some (.int x2), some (.int x3)]) (st' := [.int (-1), .int x3]) rfl ?_
  refine Wp.icmp_eq rfl rfl ⟨fun hc => ?_, fun hc => ?_⟩
  · replace h := h.1 hc
    refine Wp.pk 3 (pc' := 27) (lv' := [some (.ref 77), some (.int x1), some (.int x2), some (.int x3)]) (st' := [.int x2, .int x1, .ref 77]) rfl ?_
    refine Wp.callI rfl rfl rfl (CallI.mono h (fun v2 m1 h => ?_))
    refine Wp.if_ne rfl rfl ⟨fun hc => ?_, fun hc => ?_⟩
    · replace h := h.1 hc
      refine Wp.pk 1 (pc' := 37) (lv' := [some (.ref 77), some (.int x1), some (.int x2), some (.int x3)]) (st' := [.ref 77]) rfl ?_
      refine Wp.getR rfl rfl sh77 rfl ?_
      refine Wp.pk 8 (pc' := 49) (lv' := [some (.ref 77), some (.int x1), some (.int x2), some (.int x3)]) (st' := [.int (2 + x3), .int ((16 * x2) + x1), .ref 94]) rfl ?_
      refine Wp.iastN rfl sh94 h.1 (fun m3 hm => ?_)
      replace h := h.2 _ hm
      refine Wp.pk 1 (pc' := 51) (lv' := [some (.ref 77), some (.int x1), some (.int x2), some (.int x3)]) (st' := [.int 1]) rfl ?_
      exact Wp.iret rfl rfl ⟨rfl, h⟩
    · replace h := h.2 hc
      refine Wp.ldc rfl rfl ?_
      exact Wp.iret rfl rfl ⟨rfl, h⟩
  · replace h := h.2 hc
    refine Wp.pk 4 (pc' := 9) (lv' := [some (.ref 77), some (.int x1), some (.int x2), some (.int x3)]) (st' := [.ref 77, .long 0, .long (Int32.toInt64 x3)]) rfl ?_
    refine Wp.getI rfl rfl sh77 rfl ?_
    refine Wp.pk 3 (pc' := 15) (lv' := [some (.ref 77), some (.int x1), some (.int x2), some (.int x3)]) (st' := [.long (Int32.toInt64 ((m 77 26) - 1)), .long 0, .long (Int32.toInt64 x3)]) rfl ?_
    refine Wp.callI rfl rfl rfl (CallI.mono h (fun v5 m4 h => ?_))
    refine Wp.if_ne rfl rfl ⟨fun hc => ?_, fun hc => ?_⟩
    · replace h := h.1 hc
      refine Wp.pk 3 (pc' := 27) (lv' := [some (.ref 77), some (.int x1), some (.int x2), some (.int x3)]) (st' := [.int x2, .int x1, .ref 77]) rfl ?_
      refine Wp.callI rfl rfl rfl (CallI.mono h (fun v7 m6 h => ?_))
      refine Wp.if_ne rfl rfl ⟨fun hc => ?_, fun hc => ?_⟩
      · replace h := h.1 hc
        refine Wp.pk 1 (pc' := 37) (lv' := [some (.ref 77), some (.int x1), some (.int x2), some (.int x3)]) (st' := [.ref 77]) rfl ?_
        refine Wp.getR rfl rfl sh77 rfl ?_
        refine Wp.pk 8 (pc' := 49) (lv' := [some (.ref 77), some (.int x1), some (.int x2), some (.int x3)]) (st' := [.int (2 + x3), .int ((16 * x2) + x1), .ref 94]) rfl ?_
        refine Wp.iastN rfl sh94 h.1 (fun m8 hm => ?_)
        replace h := h.2 _ hm
        refine Wp.pk 1 (pc' := 51) (lv' := [some (.ref 77), some (.int x1), some (.int x2), some (.int x3)]) (st' := [.int 1]) rfl ?_
        exact Wp.iret rfl rfl ⟨rfl, h⟩
      · replace h := h.2 hc
        refine Wp.ldc rfl rfl ?_
        exact Wp.iret rfl rfl ⟨rfl, h⟩
    · replace h := h.2 hc
      refine Wp.ldc rfl rfl ?_
      exact Wp.iret rfl rfl ⟨rfl, h⟩
theorem eX9_burn_0 {X : a_X} {m : Nat → Nat → Int32} {Q : Option Value → (Nat → Nat → Int32) → Prop} (h : ∀ m1, m1 = (a_up m 77 26 0) → Wp X mX9_burn 12 [some (.ref 77), some (.int (m 77 26)), some (.int 0)] [] m1 Q) : Call X mX9_burn [.ref 77] m Q := by
  unfold Call
  refine Wp.loc (lv' := [some (.ref 77), none, none]) rfl ?_
  refine Wp.pk 1 (pc' := 1) (lv' := [some (.ref 77), none, none]) (st' := [.ref 77]) rfl ?_
  refine Wp.getI rfl rfl sh77 rfl ?_
  refine Wp.pk 3 (pc' := 7) (lv' := [some (.ref 77), some (.int (m 77 26)), none]) (st' := [.int 0, .ref 77]) rfl ?_
  refine Wp.putN rfl rfl sh77 rfl rfl (fun m1 hm => ?_)
  replace h := h _ hm
  refine Wp.pk 2 (pc' := 12) (lv' := [some (.ref 77), some (.int (m 77 26)), some (.int 0)]) (st' := []) rfl ?_
  exact h
theorem eX9_burn_12 {X : a_X} {m : Nat → Nat → Int32} {Q : Option Value → (Nat → Nat → Int32) → Prop} {x1 x2 : Int32} (h : (128 ≤ x2 → Q (some (.int x1)) m) ∧ (¬ 128 ≤ x2 → vp_in x2 128 ∧ ∀ m1, m1 = (a_up m 94 (Int32.toNatClampNeg x2) 0) → Wp X mX9_burn 12 [some (.ref 77), some (.int x1), some (.int (x2 + 1))] [] m1 Q)) : Wp X mX9_burn 12 [some (.ref 77), some (.int x1), some (.int x2)] [] m Q := by
  refine Wp.pk 2 (pc' := 16) (lv' := [some (.ref 77), some (.int x1), some (.int x2)]) (st' := [.int 128, .int x2]) rfl ?_
  refine Wp.icmp_ge rfl rfl ⟨fun hc => ?_, fun hc => ?_⟩
  · replace h := h.1 hc
    refine Wp.pk 1 (pc' := 33) (lv' := [some (.ref 77), some (.int x1), some (.int x2)]) (st' := [.int x1]) rfl ?_
    exact Wp.iret rfl rfl ⟨rfl, h⟩
  · replace h := h.2 hc
    refine Wp.pk 1 (pc' := 20) (lv' := [some (.ref 77), some (.int x1), some (.int x2)]) (st' := [.ref 77]) rfl ?_
    refine Wp.getR rfl rfl sh77 rfl ?_
    refine Wp.pk 2 (pc' := 25) (lv' := [some (.ref 77), some (.int x1), some (.int x2)]) (st' := [.int 0, .int x2, .ref 94]) rfl ?_
    refine Wp.iastN rfl sh94 h.1 (fun m1 hm => ?_)
    replace h := h.2 _ hm
    refine Wp.pk 2 (pc' := 12) (lv' := [some (.ref 77), some (.int x1), some (.int (x2 + 1))]) (st' := []) rfl ?_
    exact h
theorem eX9_hasCell_0 {X : a_X} {m : Nat → Nat → Int32} {Q : Option Value → (Nat → Nat → Int32) → Prop} {x1 x2 : Int32} (h : vp_in x1 10 ∧ vp_in x1 10 ∧ vp_in x1 10 ∧ CallI X mX9_reaches [.ref 77, .int (m 91 (Int32.toNatClampNeg x1)), .int (m 92 (Int32.toNatClampNeg x1)), .int (m 93 (Int32.toNatClampNeg x1)), .int x2] m (fun v2 m1 => a_fit .boolean v2 = true ∧ Q (some (.int v2)) m1)) : Call X mX9_hasCell [.ref 77, .int x1, .int x2] m Q := by
  unfold Call
  refine Wp.loc (lv' := [some (.ref 77), some (.int x1), some (.int x2)]) rfl ?_
  refine Wp.pk 2 (pc' := 2) (lv' := [some (.ref 77), some (.int x1), some (.int x2)]) (st' := [.ref 77, .ref 77]) rfl ?_
  refine Wp.getR rfl rfl sh77 rfl ?_
  refine Wp.pk 1 (pc' := 6) (lv' := [some (.ref 77), some (.int x1), some (.int x2)]) (st' := [.int x1, .ref 91, .ref 77]) rfl ?_
  refine Wp.iald rfl sh91 ⟨h.1, ?_⟩
  replace h := h.2
  refine Wp.pk 1 (pc' := 8) (lv' := [some (.ref 77), some (.int x1), some (.int x2)]) (st' := [.ref 77, .int (m 91 (Int32.toNatClampNeg x1)), .ref 77]) rfl ?_
  refine Wp.getR rfl rfl sh77 rfl ?_
  refine Wp.pk 1 (pc' := 12) (lv' := [some (.ref 77), some (.int x1), some (.int x2)]) (st' := [.int x1, .ref 92, .int (m 91 (Int32.toNatClampNeg x1)), .ref 77]) rfl ?_
  refine Wp.iald rfl sh92 ⟨h.1, ?_⟩
  replace h := h.2
  refine Wp.pk 1 (pc' := 14) (lv' := [some (.ref 77), some (.int x1), some (.int x2)]) (st' := [.ref 77, .int (m 92 (Int32.toNatClampNeg x1)), .int (m 91 (Int32.toNatClampNeg x1)), .ref 77]) rfl ?_
  refine Wp.getR rfl rfl sh77 rfl ?_
  refine Wp.pk 1 (pc' := 18) (lv' := [some (.ref 77), some (.int x1), some (.int x2)]) (st' := [.int x1, .ref 93, .int (m 92 (Int32.toNatClampNeg x1)), .int (m 91 (Int32.toNatClampNeg x1)), .ref 77]) rfl ?_
  refine Wp.iald rfl sh93 ⟨h.1, ?_⟩
  replace h := h.2
  refine Wp.pk 1 (pc' := 20) (lv' := [some (.ref 77), some (.int x1), some (.int x2)]) (st' := [.int x2, .int (m 93 (Int32.toNatClampNeg x1)), .int (m 92 (Int32.toNatClampNeg x1)), .int (m 91 (Int32.toNatClampNeg x1)), .ref 77]) rfl ?_
  refine Wp.callI rfl rfl rfl (CallI.mono h (fun v2 m1 h => ?_))
  exact Wp.iret rfl rfl h
theorem eX9_findBelow_0 {X : a_X} {m : Nat → Nat → Int32} {Q : Option Value → (Nat → Nat → Int32) → Prop} (h : Wp X mX9_findBelow 4 [some (.ref 77), some (.int 1), some (.int 0), none, none, none] [] m Q) : Call X mX9_findBelow [.ref 77] m Q := by
  unfold Call
  refine Wp.loc (lv' := [some (.ref 77), none, none, none, none, none]) rfl ?_
  refine Wp.pk 4 (pc' := 4) (lv' := [some (.ref 77), some (.int 1), some (.int 0), none, none, none]) (st' := []) rfl ?_
  exact h
theorem eX9_findBelow_4 {X : a_X} {m : Nat → Nat → Int32} {Q : Option Value → (Nat → Nat → Int32) → Prop} {x1 x2 : Int32} (h : ((m 77 26) ≤ x2 → Wp X mX9_findBelow 27 [some (.ref 77), some (.int x1), some (.int 0), none, none, none] [] m Q) ∧ (¬ (m 77 26) ≤ x2 → vp_in x2 10 ∧ ∀ m1, m1 = (a_up m 95 (Int32.toNatClampNeg x2) 0) → Wp X mX9_findBelow 4 [some (.ref 77), some (.int x1), some (.int (x2 + 1)), none, none, none] [] m1 Q)) : Wp X mX9_findBelow 4 [some (.ref 77), some (.int x1), some (.int x2), none, none, none] [] m Q := by
  refine Wp.pk 2 (pc' := 6) (lv' := [some (.ref 77), some (.int x1), some (.int x2), none, none, none]) (st' := [.ref 77, .int x2]) rfl ?_
  refine Wp.getI rfl rfl sh77 rfl ?_
  refine Wp.icmp_ge rfl rfl ⟨fun hc => ?_, fun hc => ?_⟩
  · replace h := h.1 hc
    refine Wp.pk 2 (pc' := 27) (lv' := [some (.ref 77), some (.int x1), some (.int 0), none, none, none]) (st' := []) rfl ?_
    exact h
  · replace h := h.2 hc
    refine Wp.pk 1 (pc' := 13) (lv' := [some (.ref 77), some (.int x1), some (.int x2), none, none, none]) (st' := [.ref 77]) rfl ?_
    refine Wp.getR rfl rfl sh77 rfl ?_
    refine Wp.pk 2 (pc' := 18) (lv' := [some (.ref 77), some (.int x1), some (.int x2), none, none, none]) (st' := [.int 0, .int x2, .ref 95]) rfl ?_
    refine Wp.iastN rfl sh95 h.1 (fun m1 hm => ?_)
    replace h := h.2 _ hm
    refine Wp.pk 2 (pc' := 4) (lv' := [some (.ref 77), some (.int x1), some (.int (x2 + 1)), none, none, none]) (st' := []) rfl ?_
    exact h
theorem eX9_findBelow_27 {X : a_X} {m : Nat → Nat → Int32} {Q : Option Value → (Nat → Nat → Int32) → Prop} {x1 x2 : Int32} (h : (128 ≤ x2 → a_fit .boolean x1 = true ∧ Q (some (.int x1)) m) ∧ (¬ 128 ≤ x2 → vp_in x2 128 ∧ (x1 = 0 → Wp X mX9_findBelow 69 [some (.ref 77), some (.int 0), some (.int x2), some (.int ((m 94 (Int32.toNatClampNeg x2)) - 2)), some (.int 0), none] [] m Q) ∧ (¬ x1 = 0 → (((m 94 (Int32.toNatClampNeg x2)) - 2) < 0 → Wp X mX9_findBelow 69 [some (.ref 77), some (.int 1), some (.int x2), some (.int ((m 94 (Int32.toNatClampNeg x2)) - 2)), some (.int 0), none] [] m Q) ∧ (¬ ((m 94 (Int32.toNatClampNeg x2)) - 2) < 0 → CallI X mX9_hasCell [.ref 77, .int ((m 94 (Int32.toNatClampNeg x2)) - 2), .int x2] m (fun v2 m1 => (v2 = 0 → Wp X mX9_findBelow 69 [some (.ref 77), some (.int 0), some (.int x2), some (.int ((m 94 (Int32.toNatClampNeg x2)) - 2)), some (.int 0), none] [] m1 Q) ∧ (¬ v2 = 0 → Wp X mX9_findBelow 69 [some (.ref 77), some (.int 1), some (.int x2), some (.int ((m 94 (Int32.toNatClampNeg x2)) - 2)), some (.int 0), none] [] m1 Q)))))) : Wp X mX9_findBelow 27 [some (.ref 77), some (.int x1), some (.int x2), none, none, none] [] m Q := by
  refine Wp.pk 2 (pc' := 31) (lv' := [some (.ref 77), some (.int x1), some (.int x2), none, none, none]) (st' := [.int 128, .int x2]) rfl ?_
  refine Wp.icmp_ge rfl rfl ⟨fun hc => ?_, fun hc => ?_⟩
  · replace h := h.1 hc
    refine Wp.pk 1 (pc' := 153) (lv' := [some (.ref 77), some (.int x1), some (.int x2), none, none, none]) (st' := [.int x1]) rfl ?_
    exact Wp.iret rfl rfl h
  · replace h := h.2 hc
    refine Wp.pk 1 (pc' := 35) (lv' := [some (.ref 77), some (.int x1), some (.int x2), none, none, none]) (st' := [.ref 77]) rfl ?_
    refine Wp.getR rfl rfl sh77 rfl ?_
    refine Wp.pk 1 (pc' := 39) (lv' := [some (.ref 77), some (.int x1), some (.int x2), none, none, none]) (st' := [.int x2, .ref 94]) rfl ?_
    refine Wp.iald rfl sh94 ⟨h.1, ?_⟩
    replace h := h.2
    refine Wp.pk 4 (pc' := 44) (lv' := [some (.ref 77), some (.int x1), some (.int x2), some (.int ((m 94 (Int32.toNatClampNeg x2)) - 2)), none, none]) (st' := [.int x1]) rfl ?_
    refine Wp.if_eq rfl rfl ⟨fun hc => ?_, fun hc => ?_⟩
    · replace h := h.1 hc
      refine Wp.pk 4 (pc' := 69) (lv' := [some (.ref 77), some (.int 0), some (.int x2), some (.int ((m 94 (Int32.toNatClampNeg x2)) - 2)), some (.int 0), none]) (st' := []) rfl ?_
      exact h
    · replace h := h.2 hc
      refine Wp.pk 1 (pc' := 48) (lv' := [some (.ref 77), some (.int x1), some (.int x2), some (.int ((m 94 (Int32.toNatClampNeg x2)) - 2)), none, none]) (st' := [.int ((m 94 (Int32.toNatClampNeg x2)) - 2)]) rfl ?_
      refine Wp.if_lt rfl rfl ⟨fun hc => ?_, fun hc => ?_⟩
      · replace h := h.1 hc
        refine Wp.pk 5 (pc' := 69) (lv' := [some (.ref 77), some (.int 1), some (.int x2), some (.int ((m 94 (Int32.toNatClampNeg x2)) - 2)), some (.int 0), none]) (st' := []) rfl ?_
        exact h
      · replace h := h.2 hc
        refine Wp.pk 3 (pc' := 54) (lv' := [some (.ref 77), some (.int x1), some (.int x2), some (.int ((m 94 (Int32.toNatClampNeg x2)) - 2)), none, none]) (st' := [.int x2, .int ((m 94 (Int32.toNatClampNeg x2)) - 2), .ref 77]) rfl ?_
        refine Wp.callI rfl rfl rfl (CallI.mono h (fun v2 m1 h => ?_))
        refine Wp.if_eq rfl rfl ⟨fun hc => ?_, fun hc => ?_⟩
        · replace h := h.1 hc
          refine Wp.pk 4 (pc' := 69) (lv' := [some (.ref 77), some (.int 0), some (.int x2), some (.int ((m 94 (Int32.toNatClampNeg x2)) - 2)), some (.int 0), none]) (st' := []) rfl ?_
          exact h
        · replace h := h.2 hc
          refine Wp.pk 5 (pc' := 69) (lv' := [some (.ref 77), some (.int 1), some (.int x2), some (.int ((m 94 (Int32.toNatClampNeg x2)) - 2)), some (.int 0), none]) (st' := []) rfl ?_
          exact h
theorem eX9_findBelow_69 {X : a_X} {m : Nat → Nat → Int32} {Q : Option Value → (Nat → Nat → Int32) → Prop} {x1 x2 x3 x4 : Int32} (h : ((m 77 26) ≤ x4 → Wp X mX9_findBelow 27 [some (.ref 77), some (.int x1), some (.int (x2 + 1)), none, none, none] [] m Q) ∧ (¬ (m 77 26) ≤ x4 → CallI X mX9_hasCell [.ref 77, .int x4, .int x2] m (fun v2 m1 => (x1 = 0 → (x3 < 0 → Wp X mX9_findBelow 69 [some (.ref 77), some (.int 0), some (.int x2), some (.int x3), some (.int (x4 + 1)), none] [] m1 Q) ∧ (¬ x3 < 0 → (v2 = 0 → Wp X mX9_findBelow 69 [some (.ref 77), some (.int 0), some (.int x2), some (.int x3), some (.int (x4 + 1)), none] [] m1 Q) ∧ (¬ v2 = 0 → (x4 = x3 → Wp X mX9_findBelow 69 [some (.ref 77), some (.int 0), some (.int x2), some (.int x3), some (.int (x4 + 1)), none] [] m1 Q) ∧ (¬ x4 = x3 → vp_in x3 10 ∧ vp_in x3 10 ∧ ∀ m3, m3 = (a_up m1 95 (Int32.toNatClampNeg x3) ((m1 95 (Int32.toNatClampNeg x3)) ||| (1 <<< (x4 &&& 31)))) → Wp X mX9_findBelow 69 [some (.ref 77), some (.int 0), some (.int x2), some (.int x3), some (.int (x4 + 1)), none] [] m3 Q)))) ∧ (¬ x1 = 0 → vp_in x2 128 ∧ (¬ (m1 94 (Int32.toNatClampNeg x2)) = 1 → (x3 < 0 → Wp X mX9_findBelow 69 [some (.ref 77), some (.int 1), some (.int x2), some (.int x3), some (.int (x4 + 1)), none] [] m1 Q) ∧ (¬ x3 < 0 → (v2 = 0 → Wp X mX9_findBelow 69 [some (.ref 77), some (.int 1), some (.int x2), some (.int x3), some (.int (x4 + 1)), none] [] m1 Q) ∧ (¬ v2 = 0 → (x4 = x3 → Wp X mX9_findBelow 69 [some (.ref 77), some (.int 1), some (.int x2), some (.int x3), some (.int (x4 + 1)), none] [] m1 Q) ∧ (¬ x4 = x3 → vp_in x3 10 ∧ vp_in x3 10 ∧ ∀ m4, m4 = (a_up m1 95 (Int32.toNatClampNeg x3) ((m1 95 (Int32.toNatClampNeg x3)) ||| (1 <<< (x4 &&& 31)))) → Wp X mX9_findBelow 69 [some (.ref 77), some (.int 1), some (.int x2), some (.int x3), some (.int (x4 + 1)), none] [] m4 Q)))) ∧ ((m1 94 (Int32.toNatClampNeg x2)) = 1 → (¬ v2 = 0 → (x3 < 0 → Wp X mX9_findBelow 69 [some (.ref 77), some (.int 0), some (.int x2), some (.int x3), some (.int (x4 + 1)), none] [] m1 Q) ∧ (¬ x3 < 0 → (v2 = 0 → Wp X mX9_findBelow 69 [some (.ref 77), some (.int 0), some (.int x2), some (.int x3), some (.int (x4 + 1)), none] [] m1 Q) ∧ (¬ v2 = 0 → (x4 = x3 → Wp X mX9_findBelow 69 [some (.ref 77), some (.int 0), some (.int x2), some (.int x3), some (.int (x4 + 1)), none] [] m1 Q) ∧ (¬ x4 = x3 → vp_in x3 10 ∧ vp_in x3 10 ∧ ∀ m5, m5 = (a_up m1 95 (Int32.toNatClampNeg x3) ((m1 95 (Int32.toNatClampNeg x3)) ||| (1 <<< (x4 &&& 31)))) → Wp X mX9_findBelow 69 [some (.ref 77), some (.int 0), some (.int x2), some (.int x3), some (.int (x4 + 1)), none] [] m5 Q)))) ∧ (v2 = 0 → (x3 < 0 → Wp X mX9_findBelow 69 [some (.ref 77), some (.int 1), some (.int x2), some (.int x3), some (.int (x4 + 1)), none] [] m1 Q) ∧ (¬ x3 < 0 → (v2 = 0 → Wp X mX9_findBelow 69 [some (.ref 77), some (.int 1), some (.int x2), some (.int x3), some (.int (x4 + 1)), none] [] m1 Q) ∧ (¬ v2 = 0 → (x4 = x3 → Wp X mX9_findBelow 69 [some (.ref 77), some (.int 1), some (.int x2), some (.int x3), some (.int (x4 + 1)), none] [] m1 Q) ∧ (¬ x4 = x3 → vp_in x3 10 ∧ vp_in x3 10 ∧ ∀ m6, m6 = (a_up m1 95 (Int32.toNatClampNeg x3) ((m1 95 (Int32.toNatClampNeg x3)) ||| (1 <<< (x4 &&& 31)))) → Wp X mX9_findBelow 69 [some (.ref 77), some (.int 1), some (.int x2), some (.int x3), some (.int (x4 + 1)), none] [] m6 Q))))))))) : Wp X mX9_findBelow 69 [some (.ref 77), some (.int x1), some (.int x2), some (.int x3), some (.int x4), none] [] m Q := by
  refine Wp.pk 2 (pc' := 72) (lv' := [some (.ref 77), some (.int x1), some (.int x2), some (.int x3), some (.int x4), none]) (st' := [.ref 77, .int x4]) rfl ?_
  refine Wp.getI rfl rfl sh77 rfl ?_
  refine Wp.icmp_ge rfl rfl ⟨fun hc => ?_, fun hc => ?_⟩
  · replace h := h.1 hc
    refine Wp.pk 2 (pc' := 27) (lv' := [some (.ref 77), some (.int x1), some (.int (x2 + 1)), some (.int x3), some (.int x4), none]) (st' := []) rfl ?_
    exact Wp.fgt (lv := [some (.ref 77), some (.int x1), some (.int (x2 + 1)), none, none, none]) (a_lle.of (a_lleb_e (a_lleb_e (a_lleb_e (a_lleb_i (a_lleb_i (a_lleb_e trivial))))))) h
  · replace h := h.2 hc
    refine Wp.pk 3 (pc' := 82) (lv' := [some (.ref 77), some (.int x1), some (.int x2), some (.int x3), some (.int x4), none]) (st' := [.int x2, .int x4, .ref 77]) rfl ?_
    refine Wp.callI rfl rfl rfl (CallI.mono h (fun v2 m1 h => ?_))
    refine Wp.pk 2 (pc' := 88) (lv' := [some (.ref 77), some (.int x1), some (.int x2), some (.int x3), some (.int x4), some (.int v2)]) (st' := [.int x1]) rfl ?_
    refine Wp.if_eq rfl rfl ⟨fun hc => ?_, fun hc => ?_⟩
    · replace h := h.1 hc
      refine Wp.pk 3 (pc' := 113) (lv' := [some (.ref 77), some (.int 0), some (.int x2), some (.int x3), some (.int x4), some (.int v2)]) (st' := [.int x3]) rfl ?_
      refine Wp.if_lt rfl rfl ⟨fun hc => ?_, fun hc => ?_⟩
      · replace h := h.1 hc
        refine Wp.pk 2 (pc' := 69) (lv' := [some (.ref 77), some (.int 0), some (.int x2), some (.int x3), some (.int (x4 + 1)), some (.int v2)]) (st' := []) rfl ?_
        exact Wp.fgt (lv := [some (.ref 77), some (.int 0), some (.int x2), some (.int x3), some (.int (x4 + 1)), none]) (a_lle.of (a_lleb_e (a_lleb_e (a_lleb_e (a_lleb_e (a_lleb_e (a_lleb_i trivial))))))) h
      · replace h := h.2 hc
        refine Wp.pk 1 (pc' := 118) (lv' := [some (.ref 77), some (.int 0), some (.int x2), some (.int x3), some (.int x4), some (.int v2)]) (st' := [.int v2]) rfl ?_
        refine Wp.if_eq rfl rfl ⟨fun hc => ?_, fun hc => ?_⟩
        · replace h := h.1 hc
          refine Wp.pk 2 (pc' := 69) (lv' := [some (.ref 77), some (.int 0), some (.int x2), some (.int x3), some (.int (x4 + 1)), some (.int v2)]) (st' := []) rfl ?_
          exact Wp.fgt (lv := [some (.ref 77), some (.int 0), some (.int x2), some (.int x3), some (.int (x4 + 1)), none]) (a_lle.of (a_lleb_e (a_lleb_e (a_lleb_e (a_lleb_e (a_lleb_e (a_lleb_i trivial))))))) h
        · replace h := h.2 hc
          refine Wp.pk 2 (pc' := 124) (lv' := [some (.ref 77), some (.int 0), some (.int x2), some (.int x3), some (.int x4), some (.int v2)]) (st' := [.int x3, .int x4]) rfl ?_
          refine Wp.icmp_eq rfl rfl ⟨fun hc => ?_, fun hc => ?_⟩
          · replace h := h.1 hc
            refine Wp.pk 2 (pc' := 69) (lv' := [some (.ref 77), some (.int 0), some (.int x2), some (.int x3), some (.int (x4 + 1)), some (.int v2)]) (st' := []) rfl ?_
            exact Wp.fgt (lv := [some (.ref 77), some (.int 0), some (.int x2), some (.int x3), some (.int (x4 + 1)), none]) (a_lle.of (a_lleb_e (a_lleb_e (a_lleb_e (a_lleb_e (a_lleb_e (a_lleb_i trivial))))))) h
          · replace h := h.2 hc
            refine Wp.pk 1 (pc' := 128) (lv' := [some (.ref 77), some (.int 0), some (.int x2), some (.int x3), some (.int x4), some (.int v2)]) (st' := [.ref 77]) rfl ?_
            refine Wp.getR rfl rfl sh77 rfl ?_
            refine Wp.pk 2 (pc' := 133) (lv' := [some (.ref 77), some (.int 0), some (.int x2), some (.int x3), some (.int x4), some (.int v2)]) (st' := [.int x3, .ref 95, .int x3, .ref 95]) rfl ?_
            refine Wp.iald rfl sh95 ⟨h.1, ?_⟩
            replace h := h.2
            refine Wp.pk 4 (pc' := 139) (lv' := [some (.ref 77), some (.int 0), some (.int x2), some (.int x3), some (.int x4), some (.int v2)]) (st' := [.int ((m1 95 (Int32.toNatClampNeg x3)) ||| (1 <<< (x4 &&& 31))), .int x3, .ref 95]) rfl ?_
            refine Wp.iastN rfl sh95 h.1 (fun m3 hm => ?_)
            replace h := h.2 _ hm
            refine Wp.pk 2 (pc' := 69) (lv' := [some (.ref 77), some (.int 0), some (.int x2), some (.int x3), some (.int (x4 + 1)), some (.int v2)]) (st' := []) rfl ?_
            exact Wp.fgt (lv := [some (.ref 77), some (.int 0), some (.int x2), some (.int x3), some (.int (x4 + 1)), none]) (a_lle.of (a_lleb_e (a_lleb_e (a_lleb_e (a_lleb_e (a_lleb_e (a_lleb_i trivial))))))) h
    · replace h := h.2 hc
      refine Wp.pk 1 (pc' := 92) (lv' := [some (.ref 77), some (.int x1), some (.int x2), some (.int x3), some (.int x4), some (.int v2)]) (st' := [.ref 77]) rfl ?_
      refine Wp.getR rfl rfl sh77 rfl ?_
      refine Wp.pk 1 (pc' := 96) (lv' := [some (.ref 77), some (.int x1), some (.int x2), some (.int x3), some (.int x4), some (.int v2)]) (st' := [.int x2, .ref 94]) rfl ?_
      refine Wp.iald rfl sh94 ⟨h.1, ?_⟩
      replace h := h.2
      refine Wp.pk 1 (pc' := 98) (lv' := [some (.ref 77), some (.int x1), some (.int x2), some (.int x3), some (.int x4), some (.int v2)]) (st' := [.int 1, .int (m1 94 (Int32.toNatClampNeg x2))]) rfl ?_
      refine Wp.icmp_ne rfl rfl ⟨fun hc => ?_, fun hc => ?_⟩
      · replace h := h.1 hc
        refine Wp.pk 4 (pc' := 113) (lv' := [some (.ref 77), some (.int 1), some (.int x2), some (.int x3), some (.int x4), some (.int v2)]) (st' := [.int x3]) rfl ?_
        refine Wp.if_lt rfl rfl ⟨fun hc => ?_, fun hc => ?_⟩
        · replace h := h.1 hc
          refine Wp.pk 2 (pc' := 69) (lv' := [some (.ref 77), some (.int 1), some (.int x2), some (.int x3), some (.int (x4 + 1)), some (.int v2)]) (st' := []) rfl ?_
          exact Wp.fgt (lv := [some (.ref 77), some (.int 1), some (.int x2), some (.int x3), some (.int (x4 + 1)), none]) (a_lle.of (a_lleb_e (a_lleb_e (a_lleb_e (a_lleb_e (a_lleb_e (a_lleb_i trivial))))))) h
        · replace h := h.2 hc
          refine Wp.pk 1 (pc' := 118) (lv' := [some (.ref 77), some (.int 1), some (.int x2), some (.int x3), some (.int x4), some (.int v2)]) (st' := [.int v2]) rfl ?_
          refine Wp.if_eq rfl rfl ⟨fun hc => ?_, fun hc => ?_⟩
          · replace h := h.1 hc
            refine Wp.pk 2 (pc' := 69) (lv' := [some (.ref 77), some (.int 1), some (.int x2), some (.int x3), some (.int (x4 + 1)), some (.int v2)]) (st' := []) rfl ?_
            exact Wp.fgt (lv := [some (.ref 77), some (.int 1), some (.int x2), some (.int x3), some (.int (x4 + 1)), none]) (a_lle.of (a_lleb_e (a_lleb_e (a_lleb_e (a_lleb_e (a_lleb_e (a_lleb_i trivial))))))) h
          · replace h := h.2 hc
            refine Wp.pk 2 (pc' := 124) (lv' := [some (.ref 77), some (.int 1), some (.int x2), some (.int x3), some (.int x4), some (.int v2)]) (st' := [.int x3, .int x4]) rfl ?_
            refine Wp.icmp_eq rfl rfl ⟨fun hc => ?_, fun hc => ?_⟩
            · replace h := h.1 hc
              refine Wp.pk 2 (pc' := 69) (lv' := [some (.ref 77), some (.int 1), some (.int x2), some (.int x3), some (.int (x4 + 1)), some (.int v2)]) (st' := []) rfl ?_
              exact Wp.fgt (lv := [some (.ref 77), some (.int 1), some (.int x2), some (.int x3), some (.int (x4 + 1)), none]) (a_lle.of (a_lleb_e (a_lleb_e (a_lleb_e (a_lleb_e (a_lleb_e (a_lleb_i trivial))))))) h
            · replace h := h.2 hc
              refine Wp.pk 1 (pc' := 128) (lv' := [some (.ref 77), some (.int 1), some (.int x2), some (.int x3), some (.int x4), some (.int v2)]) (st' := [.ref 77]) rfl ?_
              refine Wp.getR rfl rfl sh77 rfl ?_
              refine Wp.pk 2 (pc' := 133) (lv' := [some (.ref 77), some (.int 1), some (.int x2), some (.int x3), some (.int x4), some (.int v2)]) (st' := [.int x3, .ref 95, .int x3, .ref 95]) rfl ?_
              refine Wp.iald rfl sh95 ⟨h.1, ?_⟩
              replace h := h.2
              refine Wp.pk 4 (pc' := 139) (lv' := [some (.ref 77), some (.int 1), some (.int x2), some (.int x3), some (.int x4), some (.int v2)]) (st' := [.int ((m1 95 (Int32.toNatClampNeg x3)) ||| (1 <<< (x4 &&& 31))), .int x3, .ref 95]) rfl ?_
              refine Wp.iastN rfl sh95 h.1 (fun m4 hm => ?_)
              replace h := h.2 _ hm
              refine Wp.pk 2 (pc' := 69) (lv' := [some (.ref 77), some (.int 1), some (.int x2), some (.int x3), some (.int (x4 + 1)), some (.int v2)]) (st' := []) rfl ?_
              exact Wp.fgt (lv := [some (.ref 77), some (.int 1), some (.int x2), some (.int x3), some (.int (x4 + 1)), none]) (a_lle.of (a_lleb_e (a_lleb_e (a_lleb_e (a_lleb_e (a_lleb_e (a_lleb_i trivial))))))) h
      · replace h := h.2 hc
        refine Wp.pk 1 (pc' := 103) (lv' := [some (.ref 77), some (.int x1), some (.int x2), some (.int x3), some (.int x4), some (.int v2)]) (st' := [.int v2]) rfl ?_
        refine Wp.if_ne rfl rfl ⟨fun hc => ?_, fun hc => ?_⟩
        · replace h := h.1 hc
          refine Wp.pk 3 (pc' := 113) (lv' := [some (.ref 77), some (.int 0), some (.int x2), some (.int x3), some (.int x4), some (.int v2)]) (st' := [.int x3]) rfl ?_
          refine Wp.if_lt rfl rfl ⟨fun hc => ?_, fun hc => ?_⟩
          · replace h := h.1 hc
            refine Wp.pk 2 (pc' := 69) (lv' := [some (.ref 77), some (.int 0), some (.int x2), some (.int x3), some (.int (x4 + 1)), some (.int v2)]) (st' := []) rfl ?_
            exact Wp.fgt (lv := [some (.ref 77), some (.int 0), some (.int x2), some (.int x3), some (.int (x4 + 1)), none]) (a_lle.of (a_lleb_e (a_lleb_e (a_lleb_e (a_lleb_e (a_lleb_e (a_lleb_i trivial))))))) h
          · replace h := h.2 hc
            refine Wp.pk 1 (pc' := 118) (lv' := [some (.ref 77), some (.int 0), some (.int x2), some (.int x3), some (.int x4), some (.int v2)]) (st' := [.int v2]) rfl ?_
            refine Wp.if_eq rfl rfl ⟨fun hc => ?_, fun hc => ?_⟩
            · replace h := h.1 hc
              refine Wp.pk 2 (pc' := 69) (lv' := [some (.ref 77), some (.int 0), some (.int x2), some (.int x3), some (.int (x4 + 1)), some (.int v2)]) (st' := []) rfl ?_
              exact Wp.fgt (lv := [some (.ref 77), some (.int 0), some (.int x2), some (.int x3), some (.int (x4 + 1)), none]) (a_lle.of (a_lleb_e (a_lleb_e (a_lleb_e (a_lleb_e (a_lleb_e (a_lleb_i trivial))))))) h
            · replace h := h.2 hc
              refine Wp.pk 2 (pc' := 124) (lv' := [some (.ref 77), some (.int 0), some (.int x2), some (.int x3), some (.int x4), some (.int v2)]) (st' := [.int x3, .int x4]) rfl ?_
              refine Wp.icmp_eq rfl rfl ⟨fun hc => ?_, fun hc => ?_⟩
              · replace h := h.1 hc
                refine Wp.pk 2 (pc' := 69) (lv' := [some (.ref 77), some (.int 0), some (.int x2), some (.int x3), some (.int (x4 + 1)), some (.int v2)]) (st' := []) rfl ?_
                exact Wp.fgt (lv := [some (.ref 77), some (.int 0), some (.int x2), some (.int x3), some (.int (x4 + 1)), none]) (a_lle.of (a_lleb_e (a_lleb_e (a_lleb_e (a_lleb_e (a_lleb_e (a_lleb_i trivial))))))) h
              · replace h := h.2 hc
                refine Wp.pk 1 (pc' := 128) (lv' := [some (.ref 77), some (.int 0), some (.int x2), some (.int x3), some (.int x4), some (.int v2)]) (st' := [.ref 77]) rfl ?_
                refine Wp.getR rfl rfl sh77 rfl ?_
                refine Wp.pk 2 (pc' := 133) (lv' := [some (.ref 77), some (.int 0), some (.int x2), some (.int x3), some (.int x4), some (.int v2)]) (st' := [.int x3, .ref 95, .int x3, .ref 95]) rfl ?_
                refine Wp.iald rfl sh95 ⟨h.1, ?_⟩
                replace h := h.2
                refine Wp.pk 4 (pc' := 139) (lv' := [some (.ref 77), some (.int 0), some (.int x2), some (.int x3), some (.int x4), some (.int v2)]) (st' := [.int ((m1 95 (Int32.toNatClampNeg x3)) ||| (1 <<< (x4 &&& 31))), .int x3, .ref 95]) rfl ?_
                refine Wp.iastN rfl sh95 h.1 (fun m5 hm => ?_)
                replace h := h.2 _ hm
                refine Wp.pk 2 (pc' := 69) (lv' := [some (.ref 77), some (.int 0), some (.int x2), some (.int x3), some (.int (x4 + 1)), some (.int v2)]) (st' := []) rfl ?_
                exact Wp.fgt (lv := [some (.ref 77), some (.int 0), some (.int x2), some (.int x3), some (.int (x4 + 1)), none]) (a_lle.of (a_lleb_e (a_lleb_e (a_lleb_e (a_lleb_e (a_lleb_e (a_lleb_i trivial))))))) h
        · replace h := h.2 hc
          refine Wp.pk 4 (pc' := 113) (lv' := [some (.ref 77), some (.int 1), some (.int x2), some (.int x3), some (.int x4), some (.int v2)]) (st' := [.int x3]) rfl ?_
          refine Wp.if_lt rfl rfl ⟨fun hc => ?_, fun hc => ?_⟩
          · replace h := h.1 hc
            refine Wp.pk 2 (pc' := 69) (lv' := [some (.ref 77), some (.int 1), some (.int x2), some (.int x3), some (.int (x4 + 1)), some (.int v2)]) (st' := []) rfl ?_
            exact Wp.fgt (lv := [some (.ref 77), some (.int 1), some (.int x2), some (.int x3), some (.int (x4 + 1)), none]) (a_lle.of (a_lleb_e (a_lleb_e (a_lleb_e (a_lleb_e (a_lleb_e (a_lleb_i trivial))))))) h
          · replace h := h.2 hc
            refine Wp.pk 1 (pc' := 118) (lv' := [some (.ref 77), some (.int 1), some (.int x2), some (.int x3), some (.int x4), some (.int v2)]) (st' := [.int v2]) rfl ?_
            refine Wp.if_eq rfl rfl ⟨fun hc => ?_, fun hc => ?_⟩
            · replace h := h.1 hc
              refine Wp.pk 2 (pc' := 69) (lv' := [some (.ref 77), some (.int 1), some (.int x2), some (.int x3), some (.int (x4 + 1)), some (.int v2)]) (st' := []) rfl ?_
              exact Wp.fgt (lv := [some (.ref 77), some (.int 1), some (.int x2), some (.int x3), some (.int (x4 + 1)), none]) (a_lle.of (a_lleb_e (a_lleb_e (a_lleb_e (a_lleb_e (a_lleb_e (a_lleb_i trivial))))))) h
            · replace h := h.2 hc
              refine Wp.pk 2 (pc' := 124) (lv' := [some (.ref 77), some (.int 1), some (.int x2), some (.int x3), some (.int x4), some (.int v2)]) (st' := [.int x3, .int x4]) rfl ?_
              refine Wp.icmp_eq rfl rfl ⟨fun hc => ?_, fun hc => ?_⟩
              · replace h := h.1 hc
                refine Wp.pk 2 (pc' := 69) (lv' := [some (.ref 77), some (.int 1), some (.int x2), some (.int x3), some (.int (x4 + 1)), some (.int v2)]) (st' := []) rfl ?_
                exact Wp.fgt (lv := [some (.ref 77), some (.int 1), some (.int x2), some (.int x3), some (.int (x4 + 1)), none]) (a_lle.of (a_lleb_e (a_lleb_e (a_lleb_e (a_lleb_e (a_lleb_e (a_lleb_i trivial))))))) h
              · replace h := h.2 hc
                refine Wp.pk 1 (pc' := 128) (lv' := [some (.ref 77), some (.int 1), some (.int x2), some (.int x3), some (.int x4), some (.int v2)]) (st' := [.ref 77]) rfl ?_
                refine Wp.getR rfl rfl sh77 rfl ?_
                refine Wp.pk 2 (pc' := 133) (lv' := [some (.ref 77), some (.int 1), some (.int x2), some (.int x3), some (.int x4), some (.int v2)]) (st' := [.int x3, .ref 95, .int x3, .ref 95]) rfl ?_
                refine Wp.iald rfl sh95 ⟨h.1, ?_⟩
                replace h := h.2
                refine Wp.pk 4 (pc' := 139) (lv' := [some (.ref 77), some (.int 1), some (.int x2), some (.int x3), some (.int x4), some (.int v2)]) (st' := [.int ((m1 95 (Int32.toNatClampNeg x3)) ||| (1 <<< (x4 &&& 31))), .int x3, .ref 95]) rfl ?_
                refine Wp.iastN rfl sh95 h.1 (fun m6 hm => ?_)
                replace h := h.2 _ hm
                refine Wp.pk 2 (pc' := 69) (lv' := [some (.ref 77), some (.int 1), some (.int x2), some (.int x3), some (.int (x4 + 1)), some (.int v2)]) (st' := []) rfl ?_
                exact Wp.fgt (lv := [some (.ref 77), some (.int 1), some (.int x2), some (.int x3), some (.int (x4 + 1)), none]) (a_lle.of (a_lleb_e (a_lleb_e (a_lleb_e (a_lleb_e (a_lleb_e (a_lleb_i trivial))))))) h
theorem eX9_ordersOf_0 {X : a_X} {m : Nat → Nat → Int32} {Q : Option Value → (Nat → Nat → Int32) → Prop} (h : CallI X mX9_findBelow [.ref 77] m (fun v2 m1 => (¬ v2 = 0 → Wp X mX9_ordersOf 11 [some (.ref 77), some (.int 0), none, none] [] m1 Q) ∧ (v2 = 0 → Q (some (.int 0)) m1))) : Call X mX9_ordersOf [.ref 77] m Q := by
  unfold Call
  refine Wp.loc (lv' := [some (.ref 77), none, none, none]) rfl ?_
  refine Wp.pk 1 (pc' := 1) (lv' := [some (.ref 77), none, none, none]) (st' := [.ref 77]) rfl ?_
  refine Wp.callI rfl rfl rfl (CallI.mono h (fun v2 m1 h => ?_))
  refine Wp.if_ne rfl rfl ⟨fun hc => ?_, fun hc => ?_⟩
  · replace h := h.1 hc
    refine Wp.pk 2 (pc' := 11) (lv' := [some (.ref 77), some (.int 0), none, none]) (st' := []) rfl ?_
    exact h
  · replace h := h.2 hc
    refine Wp.pk 1 (pc' := 8) (lv' := [some (.ref 77), none, none, none]) (st' := [.int 0]) rfl ?_
    exact Wp.iret rfl rfl ⟨rfl, h⟩
theorem eX9_ordersOf_11 {X : a_X} {m : Nat → Nat → Int32} {Q : Option Value → (Nat → Nat → Int32) → Prop} {x1 : Int32} (h : ((1 <<< ((m 77 26) &&& 31)) ≤ x1 → vp_in ((1 <<< ((m 77 26) &&& 31)) - 1) 1024 ∧ Q (some (.int (m 96 (Int32.toNatClampNeg ((1 <<< ((m 77 26) &&& 31)) - 1))))) m) ∧ (¬ (1 <<< ((m 77 26) &&& 31)) ≤ x1 → (¬ x1 = 0 → CallI X mX9_one [.int 0] m (fun v2 m1 => vp_in x1 1024 ∧ ∀ m3, m3 = (a_up m1 96 (Int32.toNatClampNeg x1) v2) → Wp X mX9_ordersOf 41 [some (.ref 77), some (.int x1), some (.int 0), none] [] m3 Q)) ∧ (x1 = 0 → CallI X mX9_one [.int 1] m (fun v5 m4 => vp_in x1 1024 ∧ ∀ m6, m6 = (a_up m4 96 (Int32.toNatClampNeg x1) v5) → Wp X mX9_ordersOf 41 [some (.ref 77), some (.int x1), some (.int 0), none] [] m6 Q)))) : Wp X mX9_ordersOf 11 [some (.ref 77), some (.int x1), none, none] [] m Q := by
  refine Wp.pk 3 (pc' := 14) (lv' := [some (.ref 77), some (.int x1), none, none]) (st' := [.ref 77, .int 1, .int x1]) rfl ?_
  refine Wp.getI rfl rfl sh77 rfl ?_
  refine Wp.pk 1 (pc' := 18) (lv' := [some (.ref 77), some (.int x1), none, none]) (st' := [.int (1 <<< ((m 77 26) &&& 31)), .int x1]) rfl ?_
  refine Wp.icmp_ge rfl rfl ⟨fun hc => ?_, fun hc => ?_⟩
  · replace h := h.1 hc
    refine Wp.pk 1 (pc' := 110) (lv' := [some (.ref 77), some (.int x1), none, none]) (st' := [.ref 77]) rfl ?_
    refine Wp.getR rfl rfl sh77 rfl ?_
    refine Wp.pk 2 (pc' := 115) (lv' := [some (.ref 77), some (.int x1), none, none]) (st' := [.ref 77, .int 1, .ref 96]) rfl ?_
    refine Wp.getI rfl rfl sh77 rfl ?_
    refine Wp.pk 3 (pc' := 121) (lv' := [some (.ref 77), some (.int x1), none, none]) (st' := [.int ((1 <<< ((m 77 26) &&& 31)) - 1), .ref 96]) rfl ?_
    refine Wp.iald rfl sh96 ⟨h.1, ?_⟩
    replace h := h.2
    exact Wp.iret rfl rfl ⟨rfl, h⟩
  · replace h := h.2 hc
    refine Wp.pk 1 (pc' := 22) (lv' := [some (.ref 77), some (.int x1), none, none]) (st' := [.ref 77]) rfl ?_
    refine Wp.getR rfl rfl sh77 rfl ?_
    refine Wp.pk 2 (pc' := 27) (lv' := [some (.ref 77), some (.int x1), none, none]) (st' := [.int x1, .int x1, .ref 96]) rfl ?_
    refine Wp.if_ne rfl rfl ⟨fun hc => ?_, fun hc => ?_⟩
    · replace h := h.1 hc
      refine Wp.pk 1 (pc' := 35) (lv' := [some (.ref 77), some (.int x1), none, none]) (st' := [.int 0, .int x1, .ref 96]) rfl ?_
      refine Wp.callI rfl rfl rfl (CallI.mono h (fun v2 m1 h => ?_))
      refine Wp.iastN rfl sh96 h.1 (fun m3 hm => ?_)
      replace h := h.2 _ hm
      refine Wp.pk 2 (pc' := 41) (lv' := [some (.ref 77), some (.int x1), some (.int 0), none]) (st' := []) rfl ?_
      exact h
    · replace h := h.2 hc
      refine Wp.pk 2 (pc' := 35) (lv' := [some (.ref 77), some (.int x1), none, none]) (st' := [.int 1, .int x1, .ref 96]) rfl ?_
      refine Wp.callI rfl rfl rfl (CallI.mono h (fun v5 m4 h => ?_))
      refine Wp.iastN rfl sh96 h.1 (fun m6 hm => ?_)
      replace h := h.2 _ hm
      refine Wp.pk 2 (pc' := 41) (lv' := [some (.ref 77), some (.int x1), some (.int 0), none]) (st' := []) rfl ?_
      exact h
theorem eX9_ordersOf_41 {X : a_X} {m : Nat → Nat → Int32} {Q : Option Value → (Nat → Nat → Int32) → Prop} {x1 x2 : Int32} (h : ((m 77 26) ≤ x2 → Wp X mX9_ordersOf 11 [some (.ref 77), some (.int (x1 + 1)), none, none] [] m Q) ∧ (¬ (m 77 26) ≤ x2 → vp_in x1 1024 ∧ CallI X mX9_has [.int x1, .int x2] m (fun v2 m1 => (v2 = 0 → vp_in x1 1024 ∧ ∀ m3, m3 = (a_up m1 96 (Int32.toNatClampNeg x1) ((m 96 (Int32.toNatClampNeg x1)) + 0)) → Wp X mX9_ordersOf 41 [some (.ref 77), some (.int x1), some (.int (x2 + 1)), none] [] m3 Q) ∧ (¬ v2 = 0 → vp_in x2 10 ∧ (¬ ((m1 95 (Int32.toNatClampNeg x2)) &&& ((x1 &&& ((1 <<< (x2 &&& 31)) ^^^ (-1))) ^^^ (-1))) = 0 → vp_in x1 1024 ∧ ∀ m4, m4 = (a_up m1 96 (Int32.toNatClampNeg x1) ((m 96 (Int32.toNatClampNeg x1)) + 0)) → Wp X mX9_ordersOf 41 [some (.ref 77), some (.int x1), some (.int (x2 + 1)), none] [] m4 Q) ∧ (((m1 95 (Int32.toNatClampNeg x2)) &&& ((x1 &&& ((1 <<< (x2 &&& 31)) ^^^ (-1))) ^^^ (-1))) = 0 → vp_in (x1 &&& ((1 <<< (x2 &&& 31)) ^^^ (-1))) 1024 ∧ vp_in x1 1024 ∧ ∀ m5, m5 = (a_up m1 96 (Int32.toNatClampNeg x1) ((m 96 (Int32.toNatClampNeg x1)) + (m1 96 (Int32.toNatClampNeg (x1 &&& ((1 <<< (x2 &&& 31)) ^^^ (-1))))))) → Wp X mX9_ordersOf 41 [some (.ref 77), some (.int x1), some (.int (x2 + 1)), none] [] m5 Q))))) : Wp X mX9_ordersOf 41 [some (.ref 77), some (.int x1), some (.int x2), none] [] m Q := by
  refine Wp.pk 2 (pc' := 43) (lv' := [some (.ref 77), some (.int x1), some (.int x2), none]) (st' := [.ref 77, .int x2]) rfl ?_
  refine Wp.getI rfl rfl sh77 rfl ?_
  refine Wp.icmp_ge rfl rfl ⟨fun hc => ?_, fun hc => ?_⟩
  · replace h := h.1 hc
    refine Wp.pk 2 (pc' := 11) (lv' := [some (.ref 77), some (.int (x1 + 1)), some (.int x2), none]) (st' := []) rfl ?_
    exact Wp.fgt (lv := [some (.ref 77), some (.int (x1 + 1)), none, none]) (a_lle.of (a_lleb_e (a_lleb_e (a_lleb_i (a_lleb_e trivial))))) h
  · replace h := h.2 hc
    refine Wp.pk 9 (pc' := 58) (lv' := [some (.ref 77), some (.int x1), some (.int x2), some (.int (x1 &&& ((1 <<< (x2 &&& 31)) ^^^ (-1))))]) (st' := [.ref 77]) rfl ?_
    refine Wp.getR rfl rfl sh77 rfl ?_
    refine Wp.pk 2 (pc' := 63) (lv' := [some (.ref 77), some (.int x1), some (.int x2), some (.int (x1 &&& ((1 <<< (x2 &&& 31)) ^^^ (-1))))]) (st' := [.int x1, .ref 96, .int x1, .ref 96]) rfl ?_
    refine Wp.iald rfl sh96 ⟨h.1, ?_⟩
    replace h := h.2
    refine Wp.pk 2 (pc' := 66) (lv' := [some (.ref 77), some (.int x1), some (.int x2), some (.int (x1 &&& ((1 <<< (x2 &&& 31)) ^^^ (-1))))]) (st' := [.int x2, .int x1, .int (m 96 (Int32.toNatClampNeg x1)), .int x1, .ref 96]) rfl ?_
    refine Wp.callI rfl rfl rfl (CallI.mono h (fun v2 m1 h => ?_))
    refine Wp.if_eq rfl rfl ⟨fun hc => ?_, fun hc => ?_⟩
    · replace h := h.1 hc
      refine Wp.pk 2 (pc' := 96) (lv' := [some (.ref 77), some (.int x1), some (.int x2), some (.int (x1 &&& ((1 <<< (x2 &&& 31)) ^^^ (-1))))]) (st' := [.int ((m 96 (Int32.toNatClampNeg x1)) + 0), .int x1, .ref 96]) rfl ?_
      refine Wp.iastN rfl sh96 h.1 (fun m3 hm => ?_)
      replace h := h.2 _ hm
      refine Wp.pk 2 (pc' := 41) (lv' := [some (.ref 77), some (.int x1), some (.int (x2 + 1)), some (.int (x1 &&& ((1 <<< (x2 &&& 31)) ^^^ (-1))))]) (st' := []) rfl ?_
      exact Wp.fgt (lv := [some (.ref 77), some (.int x1), some (.int (x2 + 1)), none]) (a_lle.of (a_lleb_e (a_lleb_e (a_lleb_e (a_lleb_i trivial))))) h
    · replace h := h.2 hc
      refine Wp.pk 1 (pc' := 73) (lv' := [some (.ref 77), some (.int x1), some (.int x2), some (.int (x1 &&& ((1 <<< (x2 &&& 31)) ^^^ (-1))))]) (st' := [.ref 77, .int (m 96 (Int32.toNatClampNeg x1)), .int x1, .ref 96]) rfl ?_
      refine Wp.getR rfl rfl sh77 rfl ?_
      refine Wp.pk 1 (pc' := 77) (lv' := [some (.ref 77), some (.int x1), some (.int x2), some (.int (x1 &&& ((1 <<< (x2 &&& 31)) ^^^ (-1))))]) (st' := [.int x2, .ref 95, .int (m 96 (Int32.toNatClampNeg x1)), .int x1, .ref 96]) rfl ?_
      refine Wp.iald rfl sh95 ⟨h.1, ?_⟩
      replace h := h.2
      refine Wp.pk 4 (pc' := 82) (lv' := [some (.ref 77), some (.int x1), some (.int x2), some (.int (x1 &&& ((1 <<< (x2 &&& 31)) ^^^ (-1))))]) (st' := [.int ((m1 95 (Int32.toNatClampNeg x2)) &&& ((x1 &&& ((1 <<< (x2 &&& 31)) ^^^ (-1))) ^^^ (-1))), .int (m 96 (Int32.toNatClampNeg x1)), .int x1, .ref 96]) rfl ?_
      refine Wp.if_ne rfl rfl ⟨fun hc => ?_, fun hc => ?_⟩
      · replace h := h.1 hc
        refine Wp.pk 2 (pc' := 96) (lv' := [some (.ref 77), some (.int x1), some (.int x2), some (.int (x1 &&& ((1 <<< (x2 &&& 31)) ^^^ (-1))))]) (st' := [.int ((m 96 (Int32.toNatClampNeg x1)) + 0), .int x1, .ref 96]) rfl ?_
        refine Wp.iastN rfl sh96 h.1 (fun m4 hm => ?_)
        replace h := h.2 _ hm
        refine Wp.pk 2 (pc' := 41) (lv' := [some (.ref 77), some (.int x1), some (.int (x2 + 1)), some (.int (x1 &&& ((1 <<< (x2 &&& 31)) ^^^ (-1))))]) (st' := []) rfl ?_
        exact Wp.fgt (lv := [some (.ref 77), some (.int x1), some (.int (x2 + 1)), none]) (a_lle.of (a_lleb_e (a_lleb_e (a_lleb_e (a_lleb_i trivial))))) h
      · replace h := h.2 hc
        refine Wp.pk 1 (pc' := 86) (lv' := [some (.ref 77), some (.int x1), some (.int x2), some (.int (x1 &&& ((1 <<< (x2 &&& 31)) ^^^ (-1))))]) (st' := [.ref 77, .int (m 96 (Int32.toNatClampNeg x1)), .int x1, .ref 96]) rfl ?_
        refine Wp.getR rfl rfl sh77 rfl ?_
        refine Wp.pk 1 (pc' := 90) (lv' := [some (.ref 77), some (.int x1), some (.int x2), some (.int (x1 &&& ((1 <<< (x2 &&& 31)) ^^^ (-1))))]) (st' := [.int (x1 &&& ((1 <<< (x2 &&& 31)) ^^^ (-1))), .ref 96, .int (m 96 (Int32.toNatClampNeg x1)), .int x1, .ref 96]) rfl ?_
        refine Wp.iald rfl sh96 ⟨h.1, ?_⟩
        replace h := h.2
        refine Wp.pk 2 (pc' := 96) (lv' := [some (.ref 77), some (.int x1), some (.int x2), some (.int (x1 &&& ((1 <<< (x2 &&& 31)) ^^^ (-1))))]) (st' := [.int ((m 96 (Int32.toNatClampNeg x1)) + (m1 96 (Int32.toNatClampNeg (x1 &&& ((1 <<< (x2 &&& 31)) ^^^ (-1)))))), .int x1, .ref 96]) rfl ?_
        refine Wp.iastN rfl sh96 h.1 (fun m5 hm => ?_)
        replace h := h.2 _ hm
        refine Wp.pk 2 (pc' := 41) (lv' := [some (.ref 77), some (.int x1), some (.int (x2 + 1)), some (.int (x1 &&& ((1 <<< (x2 &&& 31)) ^^^ (-1))))]) (st' := []) rfl ?_
        exact Wp.fgt (lv := [some (.ref 77), some (.int x1), some (.int (x2 + 1)), none]) (a_lle.of (a_lleb_e (a_lleb_e (a_lleb_e (a_lleb_i trivial))))) h
theorem eX9_orders_0 {X : a_X} {m : Nat → Nat → Int32} {Q : Option Value → (Nat → Nat → Int32) → Prop} (h : CallI X mX9_ordersOf [.ref 77] m (fun v2 m1 => Q (some (.int v2)) m1)) : Call X mX9_orders [.ref 77] m Q := by
  unfold Call
  refine Wp.loc (lv' := [some (.ref 77)]) rfl ?_
  refine Wp.pk 1 (pc' := 1) (lv' := [some (.ref 77)]) (st' := [.ref 77]) rfl ?_
  refine Wp.callI rfl rfl rfl (CallI.mono h (fun v2 m1 h => ?_))
  exact Wp.iret rfl rfl ⟨rfl, h⟩
theorem eX9_order_0 {X : a_X} {m : Nat → Nat → Int32} {Q : Option Value → (Nat → Nat → Int32) → Prop} {x1 : Int32} (h : (0 ≤ x1 → ((m 77 26) ≤ x1 → Q (some (.int (-1))) m) ∧ (¬ (m 77 26) ≤ x1 → CallI X mX9_ordersOf [.ref 77] m (fun v2 m1 => (¬ v2 = 0 → Wp X mX9_order 31 [some (.ref 77), some (.int x1), some (.int 0), some (.int (-1)), some (.int 0)] [] m1 Q) ∧ (v2 = 0 → Q (some (.int (-1))) m1)))) ∧ (¬ 0 ≤ x1 → Q (some (.int (-100000002))) m)) : Call X mX9_order [.ref 77, .int x1] m Q := by
  unfold Call
  refine Wp.loc (lv' := [some (.ref 77), some (.int x1), none, none, none]) rfl ?_
  refine Wp.pk 1 (pc' := 1) (lv' := [some (.ref 77), some (.int x1), none, none, none]) (st' := [.int x1]) rfl ?_
  refine Wp.if_ge rfl rfl ⟨fun hc => ?_, fun hc => ?_⟩
  · replace h := h.1 hc
    refine Wp.pk 2 (pc' := 9) (lv' := [some (.ref 77), some (.int x1), none, none, none]) (st' := [.ref 77, .int x1]) rfl ?_
    refine Wp.getI rfl rfl sh77 rfl ?_
    refine Wp.icmp_ge rfl rfl ⟨fun hc => ?_, fun hc => ?_⟩
    · replace h := h.1 hc
      refine Wp.pk 1 (pc' := 23) (lv' := [some (.ref 77), some (.int x1), none, none, none]) (st' := [.int (-1)]) rfl ?_
      exact Wp.iret rfl rfl ⟨rfl, h⟩
    · replace h := h.2 hc
      refine Wp.pk 1 (pc' := 16) (lv' := [some (.ref 77), some (.int x1), none, none, none]) (st' := [.ref 77]) rfl ?_
      refine Wp.callI rfl rfl rfl (CallI.mono h (fun v2 m1 h => ?_))
      refine Wp.if_ne rfl rfl ⟨fun hc => ?_, fun hc => ?_⟩
      · replace h := h.1 hc
        refine Wp.pk 6 (pc' := 31) (lv' := [some (.ref 77), some (.int x1), some (.int 0), some (.int (-1)), some (.int 0)]) (st' := []) rfl ?_
        exact h
      · replace h := h.2 hc
        refine Wp.pk 1 (pc' := 23) (lv' := [some (.ref 77), some (.int x1), none, none, none]) (st' := [.int (-1)]) rfl ?_
        exact Wp.iret rfl rfl ⟨rfl, h⟩
  · replace h := h.2 hc
    refine Wp.ldc rfl rfl ?_
    exact Wp.iret rfl rfl ⟨rfl, h⟩
theorem eX9_order_31 {X : a_X} {m : Nat → Nat → Int32} {Q : Option Value → (Nat → Nat → Int32) → Prop} {x1 x2 x3 x4 : Int32} (h : (x1 < x4 → Q (some (.int x3)) m) ∧ (¬ x1 < x4 → Wp X mX9_order 39 [some (.ref 77), some (.int x1), some (.int x2), some (.int 0), some (.int x4)] [] m Q)) : Wp X mX9_order 31 [some (.ref 77), some (.int x1), some (.int x2), some (.int x3), some (.int x4)] [] m Q := by
  refine Wp.pk 2 (pc' := 34) (lv' := [some (.ref 77), some (.int x1), some (.int x2), some (.int x3), some (.int x4)]) (st' := [.int x1, .int x4]) rfl ?_
  refine Wp.icmp_gt rfl rfl ⟨fun hc => ?_, fun hc => ?_⟩
  · replace h := h.1 hc
    refine Wp.pk 1 (pc' := 79) (lv' := [some (.ref 77), some (.int x1), some (.int x2), some (.int x3), some (.int x4)]) (st' := [.int x3]) rfl ?_
    exact Wp.iret rfl rfl ⟨rfl, h⟩
  · replace h := h.2 hc
    refine Wp.pk 2 (pc' := 39) (lv' := [some (.ref 77), some (.int x1), some (.int x2), some (.int 0), some (.int x4)]) (st' := []) rfl ?_
    exact h
theorem eX9_order_39 {X : a_X} {m : Nat → Nat → Int32} {Q : Option Value → (Nat → Nat → Int32) → Prop} {x1 x2 x3 x4 : Int32} (h : CallI X mX9_has [.int x2, .int x3] m (fun v2 m1 => (¬ v2 = 0 → Wp X mX9_order 39 [some (.ref 77), some (.int x1), some (.int x2), some (.int (x3 + 1)), some (.int x4)] [] m1 Q) ∧ (v2 = 0 → vp_in x3 10 ∧ (((m1 95 (Int32.toNatClampNeg x3)) &&& (x2 ^^^ (-1))) = 0 → Wp X mX9_order 31 [some (.ref 77), some (.int x1), some (.int (x2 ||| (1 <<< (x3 &&& 31)))), some (.int x3), some (.int (x4 + 1))] [] m1 Q) ∧ (¬ ((m1 95 (Int32.toNatClampNeg x3)) &&& (x2 ^^^ (-1))) = 0 → Wp X mX9_order 39 [some (.ref 77), some (.int x1), some (.int x2), some (.int (x3 + 1)), some (.int x4)] [] m1 Q)))) : Wp X mX9_order 39 [some (.ref 77), some (.int x1), some (.int x2), some (.int x3), some (.int x4)] [] m Q := by
  refine Wp.pk 2 (pc' := 41) (lv' := [some (.ref 77), some (.int x1), some (.int x2), some (.int x3), some (.int x4)]) (st' := [.int x3, .int x2]) rfl ?_
  refine Wp.callI rfl rfl rfl (CallI.mono h (fun v2 m1 h => ?_))
  refine Wp.if_ne rfl rfl ⟨fun hc => ?_, fun hc => ?_⟩
  · replace h := h.1 hc
    refine Wp.pk 2 (pc' := 39) (lv' := [some (.ref 77), some (.int x1), some (.int x2), some (.int (x3 + 1)), some (.int x4)]) (st' := []) rfl ?_
    exact h
  · replace h := h.2 hc
    refine Wp.pk 1 (pc' := 48) (lv' := [some (.ref 77), some (.int x1), some (.int x2), some (.int x3), some (.int x4)]) (st' := [.ref 77]) rfl ?_
    refine Wp.getR rfl rfl sh77 rfl ?_
    refine Wp.pk 1 (pc' := 52) (lv' := [some (.ref 77), some (.int x1), some (.int x2), some (.int x3), some (.int x4)]) (st' := [.int x3, .ref 95]) rfl ?_
    refine Wp.iald rfl sh95 ⟨h.1, ?_⟩
    replace h := h.2
    refine Wp.pk 4 (pc' := 57) (lv' := [some (.ref 77), some (.int x1), some (.int x2), some (.int x3), some (.int x4)]) (st' := [.int ((m1 95 (Int32.toNatClampNeg x3)) &&& (x2 ^^^ (-1)))]) rfl ?_
    refine Wp.if_eq rfl rfl ⟨fun hc => ?_, fun hc => ?_⟩
    · replace h := h.1 hc
      refine Wp.pk 8 (pc' := 31) (lv' := [some (.ref 77), some (.int x1), some (.int (x2 ||| (1 <<< (x3 &&& 31)))), some (.int x3), some (.int (x4 + 1))]) (st' := []) rfl ?_
      exact h
    · replace h := h.2 hc
      refine Wp.pk 2 (pc' := 39) (lv' := [some (.ref 77), some (.int x1), some (.int x2), some (.int (x3 + 1)), some (.int x4)]) (st' := []) rfl ?_
      exact h
theorem eX9_surely_0 {X : a_X} {m : Nat → Nat → Int32} {Q : Option Value → (Nat → Nat → Int32) → Prop} {x1 x2 : Int32} (h : CallI X mX9_in [.long (Int32.toInt64 x1), .long 0, .long (Int32.toInt64 ((m 77 26) - 1))] m (fun v2 m1 => (v2 = 0 → Q (some (.int (-100000001))) m1) ∧ (¬ v2 = 0 → CallI X mX9_in [.long (Int32.toInt64 x2), .long 0, .long (Int32.toInt64 ((m1 77 26) - 1))] m1 (fun v4 m3 => (v4 = 0 → Q (some (.int (-100000001))) m3) ∧ (¬ v4 = 0 → (¬ x1 = x2 → CallI X mX9_ordersOf [.ref 77] m3 (fun v6 m5 => (¬ v6 = 0 → vp_in x1 10 ∧ Wp X mX9_surely 59 [some (.ref 77), none, some (.int x2), some (.int (m5 95 (Int32.toNatClampNeg x1))), some (.int 0), none] [] m5 Q) ∧ (v6 = 0 → Q (some (.int 0)) m5))) ∧ (x1 = x2 → Q (some (.int (-100000001))) m3)))))) : Call X mX9_surely [.ref 77, .int x1, .int x2] m Q := by
  unfold Call
  refine Wp.loc (lv' := [some (.ref 77), some (.int x1), some (.int x2), none, none, none]) rfl ?_
  refine Wp.pk 4 (pc' := 4) (lv' := [some (.ref 77), some (.int x1), some (.int x2), none, none, none]) (st' := [.ref 77, .long 0, .long (Int32.toInt64 x1)]) rfl ?_
  refine Wp.getI rfl rfl sh77 rfl ?_
  refine Wp.pk 3 (pc' := 10) (lv' := [some (.ref 77), some (.int x1), some (.int x2), none, none, none]) (st' := [.long (Int32.toInt64 ((m 77 26) - 1)), .long 0, .long (Int32.toInt64 x1)]) rfl ?_
  refine Wp.callI rfl rfl rfl (CallI.mono h (fun v2 m1 h => ?_))
  refine Wp.if_eq rfl rfl ⟨fun hc => ?_, fun hc => ?_⟩
  · replace h := h.1 hc
    refine Wp.ldc rfl rfl ?_
    exact Wp.iret rfl rfl ⟨rfl, h⟩
  · replace h := h.2 hc
    refine Wp.pk 4 (pc' := 20) (lv' := [some (.ref 77), some (.int x1), some (.int x2), none, none, none]) (st' := [.ref 77, .long 0, .long (Int32.toInt64 x2)]) rfl ?_
    refine Wp.getI rfl rfl sh77 rfl ?_
    refine Wp.pk 3 (pc' := 26) (lv' := [some (.ref 77), some (.int x1), some (.int x2), none, none, none]) (st' := [.long (Int32.toInt64 ((m1 77 26) - 1)), .long 0, .long (Int32.toInt64 x2)]) rfl ?_
    refine Wp.callI rfl rfl rfl (CallI.mono h (fun v4 m3 h => ?_))
    refine Wp.if_eq rfl rfl ⟨fun hc => ?_, fun hc => ?_⟩
    · replace h := h.1 hc
      refine Wp.ldc rfl rfl ?_
      exact Wp.iret rfl rfl ⟨rfl, h⟩
    · replace h := h.2 hc
      refine Wp.pk 2 (pc' := 34) (lv' := [some (.ref 77), some (.int x1), some (.int x2), none, none, none]) (st' := [.int x2, .int x1]) rfl ?_
      refine Wp.icmp_ne rfl rfl ⟨fun hc => ?_, fun hc => ?_⟩
      · replace h := h.1 hc
        refine Wp.pk 1 (pc' := 41) (lv' := [some (.ref 77), some (.int x1), some (.int x2), none, none, none]) (st' := [.ref 77]) rfl ?_
        refine Wp.callI rfl rfl rfl (CallI.mono h (fun v6 m5 h => ?_))
        refine Wp.if_ne rfl rfl ⟨fun hc => ?_, fun hc => ?_⟩
        · replace h := h.1 hc
          refine Wp.pk 1 (pc' := 50) (lv' := [some (.ref 77), some (.int x1), some (.int x2), none, none, none]) (st' := [.ref 77]) rfl ?_
          refine Wp.getR rfl rfl sh77 rfl ?_
          refine Wp.pk 1 (pc' := 54) (lv' := [some (.ref 77), some (.int x1), some (.int x2), none, none, none]) (st' := [.int x1, .ref 95]) rfl ?_
          refine Wp.iald rfl sh95 ⟨h.1, ?_⟩
          replace h := h.2
          refine Wp.pk 3 (pc' := 59) (lv' := [some (.ref 77), some (.int x1), some (.int x2), some (.int (m5 95 (Int32.toNatClampNeg x1))), some (.int 0), none]) (st' := []) rfl ?_
          exact Wp.fgt (lv := [some (.ref 77), none, some (.int x2), some (.int (m5 95 (Int32.toNatClampNeg x1))), some (.int 0), none]) (a_lle.of (a_lleb_e (a_lleb_i (a_lleb_e (a_lleb_e (a_lleb_e (a_lleb_e trivial))))))) h
        · replace h := h.2 hc
          refine Wp.pk 1 (pc' := 48) (lv' := [some (.ref 77), some (.int x1), some (.int x2), none, none, none]) (st' := [.int 0]) rfl ?_
          exact Wp.iret rfl rfl ⟨rfl, h⟩
      · replace h := h.2 hc
        refine Wp.ldc rfl rfl ?_
        exact Wp.iret rfl rfl ⟨rfl, h⟩
theorem eX9_surely_59 {X : a_X} {m : Nat → Nat → Int32} {Q : Option Value → (Nat → Nat → Int32) → Prop} {x2 x3 x4 : Int32} (h : ((m 77 26) ≤ x4 → CallI X mX9_has [.int x3, .int x2] m (fun v2 m1 => CallI X mX9_one [.int v2] m1 (fun v4 m3 => Q (some (.int v4)) m3))) ∧ (¬ (m 77 26) ≤ x4 → Wp X mX9_surely 71 [some (.ref 77), none, some (.int x2), some (.int x3), some (.int x4), some (.int 0)] [] m Q)) : Wp X mX9_surely 59 [some (.ref 77), none, some (.int x2), some (.int x3), some (.int x4), none] [] m Q := by
  refine Wp.pk 2 (pc' := 62) (lv' := [some (.ref 77), none, some (.int x2), some (.int x3), some (.int x4), none]) (st' := [.ref 77, .int x4]) rfl ?_
  refine Wp.getI rfl rfl sh77 rfl ?_
  refine Wp.icmp_ge rfl rfl ⟨fun hc => ?_, fun hc => ?_⟩
  · replace h := h.1 hc
    refine Wp.pk 2 (pc' := 117) (lv' := [some (.ref 77), none, some (.int x2), some (.int x3), some (.int x4), none]) (st' := [.int x2, .int x3]) rfl ?_
    refine Wp.callI rfl rfl rfl (CallI.mono h (fun v2 m1 h => ?_))
    refine Wp.callI rfl rfl rfl (CallI.mono h (fun v4 m3 h => ?_))
    exact Wp.iret rfl rfl ⟨rfl, h⟩
  · replace h := h.2 hc
    refine Wp.pk 2 (pc' := 71) (lv' := [some (.ref 77), none, some (.int x2), some (.int x3), some (.int x4), some (.int 0)]) (st' := []) rfl ?_
    exact h
theorem eX9_surely_71 {X : a_X} {m : Nat → Nat → Int32} {Q : Option Value → (Nat → Nat → Int32) → Prop} {x2 x3 x4 x5 : Int32} (h : ((m 77 26) ≤ x5 → Wp X mX9_surely 59 [some (.ref 77), none, some (.int x2), some (.int x3), some (.int (x4 + 1)), none] [] m Q) ∧ (¬ (m 77 26) ≤ x5 → CallI X mX9_has [.int x3, .int x5] m (fun v2 m1 => (v2 = 0 → Wp X mX9_surely 71 [some (.ref 77), none, some (.int x2), some (.int (x3 ||| 0)), some (.int x4), some (.int (x5 + 1))] [] m1 Q) ∧ (¬ v2 = 0 → vp_in x5 10 ∧ Wp X mX9_surely 71 [some (.ref 77), none, some (.int x2), some (.int (x3 ||| (m1 95 (Int32.toNatClampNeg x5)))), some (.int x4), some (.int (x5 + 1))] [] m1 Q)))) : Wp X mX9_surely 71 [some (.ref 77), none, some (.int x2), some (.int x3), some (.int x4), some (.int x5)] [] m Q := by
  refine Wp.pk 2 (pc' := 74) (lv' := [some (.ref 77), none, some (.int x2), some (.int x3), some (.int x4), some (.int x5)]) (st' := [.ref 77, .int x5]) rfl ?_
  refine Wp.getI rfl rfl sh77 rfl ?_
  refine Wp.icmp_ge rfl rfl ⟨fun hc => ?_, fun hc => ?_⟩
  · replace h := h.1 hc
    refine Wp.pk 2 (pc' := 59) (lv' := [some (.ref 77), none, some (.int x2), some (.int x3), some (.int (x4 + 1)), some (.int x5)]) (st' := []) rfl ?_
    exact Wp.fgt (lv := [some (.ref 77), none, some (.int x2), some (.int x3), some (.int (x4 + 1)), none]) (a_lle.of (a_lleb_e (a_lleb_e (a_lleb_e (a_lleb_e (a_lleb_e (a_lleb_i trivial))))))) h
  · replace h := h.2 hc
    refine Wp.pk 3 (pc' := 84) (lv' := [some (.ref 77), none, some (.int x2), some (.int x3), some (.int x4), some (.int x5)]) (st' := [.int x5, .int x3, .int x3]) rfl ?_
    refine Wp.callI rfl rfl rfl (CallI.mono h (fun v2 m1 h => ?_))
    refine Wp.if_eq rfl rfl ⟨fun hc => ?_, fun hc => ?_⟩
    · replace h := h.1 hc
      refine Wp.pk 5 (pc' := 71) (lv' := [some (.ref 77), none, some (.int x2), some (.int (x3 ||| 0)), some (.int x4), some (.int (x5 + 1))]) (st' := []) rfl ?_
      exact h
    · replace h := h.2 hc
      refine Wp.pk 1 (pc' := 91) (lv' := [some (.ref 77), none, some (.int x2), some (.int x3), some (.int x4), some (.int x5)]) (st' := [.ref 77, .int x3]) rfl ?_
      refine Wp.getR rfl rfl sh77 rfl ?_
      refine Wp.pk 1 (pc' := 96) (lv' := [some (.ref 77), none, some (.int x2), some (.int x3), some (.int x4), some (.int x5)]) (st' := [.int x5, .ref 95, .int x3]) rfl ?_
      refine Wp.iald rfl sh95 ⟨h.1, ?_⟩
      replace h := h.2
      refine Wp.pk 5 (pc' := 71) (lv' := [some (.ref 77), none, some (.int x2), some (.int (x3 ||| (m1 95 (Int32.toNatClampNeg x5)))), some (.int x4), some (.int (x5 + 1))]) (st' := []) rfl ?_
      exact h
theorem eX9_undo_0 {X : a_X} {m : Nat → Nat → Int32} {Q : Option Value → (Nat → Nat → Int32) → Prop} {x1 x2 : Int32} (h : vp_in (x1 + 180) 800 ∧ vp_in (x1 + 180) 800 ∧ ∀ m1, m1 = (a_up m 78 (Int32.toNatClampNeg (x1 + 180)) ((m 78 (Int32.toNatClampNeg (x1 + 180))) - 1)) → vp_in (x1 + 180) 800 ∧ vp_in (x1 + (m1 78 (Int32.toNatClampNeg (x1 + 180)))) 800 ∧ vp_in (m1 78 (Int32.toNatClampNeg (x1 + (m1 78 (Int32.toNatClampNeg (x1 + 180)))))) 24 ∧ vp_in ((x1 + 182) + (m1 83 (Int32.toNatClampNeg (m1 78 (Int32.toNatClampNeg (x1 + (m1 78 (Int32.toNatClampNeg (x1 + 180))))))))) 800 ∧ vp_in ((x1 + 182) + (m1 83 (Int32.toNatClampNeg (m1 78 (Int32.toNatClampNeg (x1 + (m1 78 (Int32.toNatClampNeg (x1 + 180))))))))) 800 ∧ ∀ m2, m2 = (a_up m1 78 (Int32.toNatClampNeg ((x1 + 182) + (m1 83 (Int32.toNatClampNeg (m1 78 (Int32.toNatClampNeg (x1 + (m1 78 (Int32.toNatClampNeg (x1 + 180)))))))))) ((m1 78 (Int32.toNatClampNeg ((x1 + 182) + (m1 83 (Int32.toNatClampNeg (m1 78 (Int32.toNatClampNeg (x1 + (m1 78 (Int32.toNatClampNeg (x1 + 180))))))))))) - x2)) → vp_in ((x1 + 80) + (m1 78 (Int32.toNatClampNeg (x1 + 180)))) 800 ∧ ∀ m3, m3 = (a_up m2 78 (Int32.toNatClampNeg ((x1 + 80) + (m1 78 (Int32.toNatClampNeg (x1 + 180))))) 0) → Q none m3) : Call X mX9_undo [.ref 77, .int x1, .int x2] m Q := by
  unfold Call
  refine Wp.loc (lv' := [some (.ref 77), some (.int x1), some (.int x2), none]) rfl ?_
  refine Wp.pk 1 (pc' := 1) (lv' := [some (.ref 77), some (.int x1), some (.int x2), none]) (st' := [.ref 77]) rfl ?_
  refine Wp.getR rfl rfl sh77 rfl ?_
  refine Wp.pk 4 (pc' := 10) (lv' := [some (.ref 77), some (.int x1), some (.int x2), none]) (st' := [.int (x1 + 180), .ref 78, .int (x1 + 180), .ref 78]) rfl ?_
  refine Wp.iald rfl sh78 ⟨h.1, ?_⟩
  replace h := h.2
  refine Wp.pk 2 (pc' := 13) (lv' := [some (.ref 77), some (.int x1), some (.int x2), none]) (st' := [.int ((m 78 (Int32.toNatClampNeg (x1 + 180))) - 1), .int (x1 + 180), .ref 78]) rfl ?_
  refine Wp.iastN rfl sh78 h.1 (fun m1 hm => ?_)
  replace h := h.2 _ hm
  refine Wp.pk 1 (pc' := 15) (lv' := [some (.ref 77), some (.int x1), some (.int x2), none]) (st' := [.ref 77]) rfl ?_
  refine Wp.getR rfl rfl sh77 rfl ?_
  refine Wp.pk 3 (pc' := 23) (lv' := [some (.ref 77), some (.int x1), some (.int x2), none]) (st' := [.int (x1 + 180), .ref 78]) rfl ?_
  refine Wp.iald rfl sh78 ⟨h.1, ?_⟩
  replace h := h.2
  refine Wp.pk 2 (pc' := 26) (lv' := [some (.ref 77), some (.int x1), some (.int x2), some (.int (m1 78 (Int32.toNatClampNeg (x1 + 180))))]) (st' := [.ref 77]) rfl ?_
  refine Wp.getR rfl rfl sh77 rfl ?_
  refine Wp.pk 4 (pc' := 35) (lv' := [some (.ref 77), some (.int x1), some (.int x2), some (.int (m1 78 (Int32.toNatClampNeg (x1 + 180))))]) (st' := [.ref 77, .int (x1 + 182), .ref 78]) rfl ?_
  refine Wp.getR rfl rfl sh77 rfl ?_
  refine Wp.pk 1 (pc' := 39) (lv' := [some (.ref 77), some (.int x1), some (.int x2), some (.int (m1 78 (Int32.toNatClampNeg (x1 + 180))))]) (st' := [.ref 77, .ref 83, .int (x1 + 182), .ref 78]) rfl ?_
  refine Wp.getR rfl rfl sh77 rfl ?_
  refine Wp.pk 3 (pc' := 45) (lv' := [some (.ref 77), some (.int x1), some (.int x2), some (.int (m1 78 (Int32.toNatClampNeg (x1 + 180))))]) (st' := [.int (x1 + (m1 78 (Int32.toNatClampNeg (x1 + 180)))), .ref 78, .ref 83, .int (x1 + 182), .ref 78]) rfl ?_
  refine Wp.iald rfl sh78 ⟨h.1, ?_⟩
  replace h := h.2
  refine Wp.iald rfl sh83 ⟨h.1, ?_⟩
  replace h := h.2
  refine Wp.pk 2 (pc' := 49) (lv' := [some (.ref 77), some (.int x1), some (.int x2), some (.int (m1 78 (Int32.toNatClampNeg (x1 + 180))))]) (st' := [.int ((x1 + 182) + (m1 83 (Int32.toNatClampNeg (m1 78 (Int32.toNatClampNeg (x1 + (m1 78 (Int32.toNatClampNeg (x1 + 180))))))))), .ref 78, .int ((x1 + 182) + (m1 83 (Int32.toNatClampNeg (m1 78 (Int32.toNatClampNeg (x1 + (m1 78 (Int32.toNatClampNeg (x1 + 180))))))))), .ref 78]) rfl ?_
  refine Wp.iald rfl sh78 ⟨h.1, ?_⟩
  replace h := h.2
  refine Wp.pk 2 (pc' := 52) (lv' := [some (.ref 77), some (.int x1), some (.int x2), some (.int (m1 78 (Int32.toNatClampNeg (x1 + 180))))]) (st' := [.int ((m1 78 (Int32.toNatClampNeg ((x1 + 182) + (m1 83 (Int32.toNatClampNeg (m1 78 (Int32.toNatClampNeg (x1 + (m1 78 (Int32.toNatClampNeg (x1 + 180))))))))))) - x2), .int ((x1 + 182) + (m1 83 (Int32.toNatClampNeg (m1 78 (Int32.toNatClampNeg (x1 + (m1 78 (Int32.toNatClampNeg (x1 + 180))))))))), .ref 78]) rfl ?_
  refine Wp.iastN rfl sh78 h.1 (fun m2 hm => ?_)
  replace h := h.2 _ hm
  refine Wp.pk 1 (pc' := 54) (lv' := [some (.ref 77), some (.int x1), some (.int x2), some (.int (m1 78 (Int32.toNatClampNeg (x1 + 180))))]) (st' := [.ref 77]) rfl ?_
  refine Wp.getR rfl rfl sh77 rfl ?_
  refine Wp.pk 6 (pc' := 64) (lv' := [some (.ref 77), some (.int x1), some (.int x2), some (.int (m1 78 (Int32.toNatClampNeg (x1 + 180))))]) (st' := [.int 0, .int ((x1 + 80) + (m1 78 (Int32.toNatClampNeg (x1 + 180)))), .ref 78]) rfl ?_
  refine Wp.iastN rfl sh78 h.1 (fun m3 hm => ?_)
  replace h := h.2 _ hm
  exact Wp.vret rfl rfl h
theorem eX9_isPlace_0 {X : a_X} {m : Nat → Nat → Int32} {Q : Option Value → (Nat → Nat → Int32) → Prop} {x1 x2 : Int32} (h : CallI X mX9_isWithin [.ref 77, .int x1, .int (a_rem x2 16), .int (x2 / 16)] m (fun v2 m1 => (v2 = 0 → Q (some (.int 0)) m1) ∧ (¬ v2 = 0 → CallI X mX9_isClear [.ref 77, .int x1, .int (a_rem x2 16), .int (x2 / 16)] m1 (fun v4 m3 => (v4 = 0 → Q (some (.int 0)) m3) ∧ (¬ v4 = 0 → Q (some (.int 1)) m3))))) : Call X mX9_isPlace [.ref 77, .int x1, .int x2] m Q := by
  unfold Call
  refine Wp.loc (lv' := [some (.ref 77), some (.int x1), some (.int x2)]) rfl ?_
  refine Wp.pk 8 (pc' := 10) (lv' := [some (.ref 77), some (.int x1), some (.int x2)]) (st' := [.int (x2 / 16), .int (a_rem x2 16), .int x1, .ref 77]) rfl ?_
  refine Wp.callI rfl rfl rfl (CallI.mono h (fun v2 m1 h => ?_))
  refine Wp.if_eq rfl rfl ⟨fun hc => ?_, fun hc => ?_⟩
  · replace h := h.1 hc
    refine Wp.pk 1 (pc' := 37) (lv' := [some (.ref 77), some (.int x1), some (.int x2)]) (st' := [.int 0]) rfl ?_
    exact Wp.iret rfl rfl ⟨rfl, h⟩
  · replace h := h.2 hc
    refine Wp.pk 8 (pc' := 26) (lv' := [some (.ref 77), some (.int x1), some (.int x2)]) (st' := [.int (x2 / 16), .int (a_rem x2 16), .int x1, .ref 77]) rfl ?_
    refine Wp.callI rfl rfl rfl (CallI.mono h (fun v4 m3 h => ?_))
    refine Wp.if_eq rfl rfl ⟨fun hc => ?_, fun hc => ?_⟩
    · replace h := h.1 hc
      refine Wp.pk 1 (pc' := 37) (lv' := [some (.ref 77), some (.int x1), some (.int x2)]) (st' := [.int 0]) rfl ?_
      exact Wp.iret rfl rfl ⟨rfl, h⟩
    · replace h := h.2 hc
      refine Wp.pk 2 (pc' := 37) (lv' := [some (.ref 77), some (.int x1), some (.int x2)]) (st' := [.int 1]) rfl ?_
      exact Wp.iret rfl rfl ⟨rfl, h⟩
theorem eX9_findBest_0 {X : a_X} {m : Nat → Nat → Int32} {Q : Option Value → (Nat → Nat → Int32) → Prop} {x1 x2 : Int32} (h : ∀ m1, m1 = (a_up m 77 33 (-1)) → vp_in x2 24 ∧ CallI X mX9_worthOf [.ref 77, .int x1, .int (m1 83 (Int32.toNatClampNeg x2))] m1 (fun v3 m2 => Wp X mX9_findBest 20 [some (.ref 77), some (.int x1), some (.int x2), some (.int v3), some (.int 0), none, none] [] m2 Q)) : Call X mX9_findBest [.ref 77, .int x1, .int x2] m Q := by
  unfold Call
  refine Wp.loc (lv' := [some (.ref 77), some (.int x1), some (.int x2), none, none, none, none]) rfl ?_
  refine Wp.pk 2 (pc' := 2) (lv' := [some (.ref 77), some (.int x1), some (.int x2), none, none, none, none]) (st' := [.int (-1), .ref 77]) rfl ?_
  refine Wp.putN rfl rfl sh77 rfl rfl (fun m1 hm => ?_)
  replace h := h _ hm
  refine Wp.pk 3 (pc' := 8) (lv' := [some (.ref 77), some (.int x1), some (.int x2), none, none, none, none]) (st' := [.ref 77, .int x1, .ref 77]) rfl ?_
  refine Wp.getR rfl rfl sh77 rfl ?_
  refine Wp.pk 1 (pc' := 12) (lv' := [some (.ref 77), some (.int x1), some (.int x2), none, none, none, none]) (st' := [.int x2, .ref 83, .int x1, .ref 77]) rfl ?_
  refine Wp.iald rfl sh83 ⟨h.1, ?_⟩
  replace h := h.2
  refine Wp.callI rfl rfl rfl (CallI.mono h (fun v3 m2 h => ?_))
  refine Wp.pk 3 (pc' := 20) (lv' := [some (.ref 77), some (.int x1), some (.int x2), some (.int v3), some (.int 0), none, none]) (st' := []) rfl ?_
  exact h
theorem eX9_findBest_20 {X : a_X} {m : Nat → Nat → Int32} {Q : Option Value → (Nat → Nat → Int32) → Prop} {x1 x2 x3 x4 : Int32} (h : (128 ≤ x4 → Q none m) ∧ (¬ 128 ≤ x4 → CallI X mX9_isPlace [.ref 77, .int x2, .int x4] m (fun v2 m1 => (v2 = 0 → Wp X mX9_findBest 20 [some (.ref 77), some (.int x1), some (.int x2), some (.int x3), some (.int (x4 + 1)), none, none] [] m1 Q) ∧ (¬ v2 = 0 → CallI X mX9_lay [.ref 77, .int x1, .int x2, .int (a_rem x4 16), .int (x4 / 16)] m1 (fun v4 m3 => vp_in x2 24 ∧ CallI X mX9_worthOf [.ref 77, .int x1, .int (m3 83 (Int32.toNatClampNeg x2))] m3 (fun v6 m5 => CallV X mX9_undo [.ref 77, .int x1, .int v4] m5 (fun m7 => ((m7 77 33) < 0 → ∀ m8, m8 = (a_up m7 77 33 x4) → ∀ m9, m9 = (a_up m8 77 34 ((v6 - x3) - v4)) → Wp X mX9_findBest 20 [some (.ref 77), some (.int x1), some (.int x2), some (.int x3), some (.int (x4 + 1)), none, none] [] m9 Q) ∧ (¬ (m7 77 33) < 0 → (((v6 - x3) - v4) ≤ (m7 77 34) → Wp X mX9_findBest 20 [some (.ref 77), some (.int x1), some (.int x2), some (.int x3), some (.int (x4 + 1)), none, none] [] m7 Q) ∧ (¬ ((v6 - x3) - v4) ≤ (m7 77 34) → ∀ m10, m10 = (a_up m7 77 33 x4) → ∀ m11, m11 = (a_up m10 77 34 ((v6 - x3) - v4)) → Wp X mX9_findBest 20 [some (.ref 77), some (.int x1), some (.int x2), some (.int x3), some (.int (x4 + 1)), none, none] [] m11 Q))))))))) : Wp X mX9_findBest 20 [some (.ref 77), some (.int x1), some (.int x2), some (.int x3), some (.int x4), none, none] [] m Q := by
  refine Wp.pk 2 (pc' := 25) (lv' := [some (.ref 77), some (.int x1), some (.int x2), some (.int x3), some (.int x4), none, none]) (st' := [.int 128, .int x4]) rfl ?_
  refine Wp.icmp_ge rfl rfl ⟨fun hc => ?_, fun hc => ?_⟩
  · replace h := h.1 hc
    exact Wp.vret rfl rfl h
  · replace h := h.2 hc
    refine Wp.pk 3 (pc' := 32) (lv' := [some (.ref 77), some (.int x1), some (.int x2), some (.int x3), some (.int x4), none, none]) (st' := [.int x4, .int x2, .ref 77]) rfl ?_
    refine Wp.callI rfl rfl rfl (CallI.mono h (fun v2 m1 h => ?_))
    refine Wp.if_eq rfl rfl ⟨fun hc => ?_, fun hc => ?_⟩
    · replace h := h.1 hc
      refine Wp.pk 2 (pc' := 20) (lv' := [some (.ref 77), some (.int x1), some (.int x2), some (.int x3), some (.int (x4 + 1)), none, none]) (st' := []) rfl ?_
      exact h
    · replace h := h.2 hc
      refine Wp.pk 9 (pc' := 51) (lv' := [some (.ref 77), some (.int x1), some (.int x2), some (.int x3), some (.int x4), none, none]) (st' := [.int (x4 / 16), .int (a_rem x4 16), .int x2, .int x1, .ref 77]) rfl ?_
      refine Wp.callI rfl rfl rfl (CallI.mono h (fun v4 m3 h => ?_))
      refine Wp.pk 4 (pc' := 59) (lv' := [some (.ref 77), some (.int x1), some (.int x2), some (.int x3), some (.int x4), some (.int v4), none]) (st' := [.ref 77, .int x1, .ref 77]) rfl ?_
      refine Wp.getR rfl rfl sh77 rfl ?_
      refine Wp.pk 1 (pc' := 63) (lv' := [some (.ref 77), some (.int x1), some (.int x2), some (.int x3), some (.int x4), some (.int v4), none]) (st' := [.int x2, .ref 83, .int x1, .ref 77]) rfl ?_
      refine Wp.iald rfl sh83 ⟨h.1, ?_⟩
      replace h := h.2
      refine Wp.callI rfl rfl rfl (CallI.mono h (fun v6 m5 h => ?_))
      refine Wp.pk 8 (pc' := 78) (lv' := [some (.ref 77), some (.int x1), some (.int x2), some (.int x3), some (.int x4), some (.int v4), some (.int ((v6 - x3) - v4))]) (st' := [.int v4, .int x1, .ref 77]) rfl ?_
      refine Wp.callV rfl rfl rfl (CallV.mono h (fun m7 h => ?_))
      refine Wp.pk 1 (pc' := 82) (lv' := [some (.ref 77), some (.int x1), some (.int x2), some (.int x3), some (.int x4), some (.int v4), some (.int ((v6 - x3) - v4))]) (st' := [.ref 77]) rfl ?_
      refine Wp.getI rfl rfl sh77 rfl ?_
      refine Wp.if_lt rfl rfl ⟨fun hc => ?_, fun hc => ?_⟩
      · replace h := h.1 hc
        refine Wp.pk 2 (pc' := 100) (lv' := [some (.ref 77), some (.int x1), some (.int x2), some (.int x3), some (.int x4), some (.int v4), some (.int ((v6 - x3) - v4))]) (st' := [.int x4, .ref 77]) rfl ?_
        refine Wp.putN rfl rfl sh77 rfl rfl (fun m8 hm => ?_)
        replace h := h _ hm
        refine Wp.pk 2 (pc' := 106) (lv' := [some (.ref 77), some (.int x1), some (.int x2), some (.int x3), some (.int x4), some (.int v4), some (.int ((v6 - x3) - v4))]) (st' := [.int ((v6 - x3) - v4), .ref 77]) rfl ?_
        refine Wp.putN rfl rfl sh77 rfl rfl (fun m9 hm => ?_)
        replace h := h _ hm
        refine Wp.pk 2 (pc' := 20) (lv' := [some (.ref 77), some (.int x1), some (.int x2), some (.int x3), some (.int (x4 + 1)), some (.int v4), some (.int ((v6 - x3) - v4))]) (st' := []) rfl ?_
        exact Wp.fgt (lv := [some (.ref 77), some (.int x1), some (.int x2), some (.int x3), some (.int (x4 + 1)), none, none]) (a_lle.of (a_lleb_e (a_lleb_e (a_lleb_e (a_lleb_e (a_lleb_e (a_lleb_i (a_lleb_i trivial)))))))) h
      · replace h := h.2 hc
        refine Wp.pk 2 (pc' := 91) (lv' := [some (.ref 77), some (.int x1), some (.int x2), some (.int x3), some (.int x4), some (.int v4), some (.int ((v6 - x3) - v4))]) (st' := [.ref 77, .int ((v6 - x3) - v4)]) rfl ?_
        refine Wp.getI rfl rfl sh77 rfl ?_
        refine Wp.icmp_le rfl rfl ⟨fun hc => ?_, fun hc => ?_⟩
        · replace h := h.1 hc
          refine Wp.pk 2 (pc' := 20) (lv' := [some (.ref 77), some (.int x1), some (.int x2), some (.int x3), some (.int (x4 + 1)), some (.int v4), some (.int ((v6 - x3) - v4))]) (st' := []) rfl ?_
          exact Wp.fgt (lv := [some (.ref 77), some (.int x1), some (.int x2), some (.int x3), some (.int (x4 + 1)), none, none]) (a_lle.of (a_lleb_e (a_lleb_e (a_lleb_e (a_lleb_e (a_lleb_e (a_lleb_i (a_lleb_i trivial)))))))) h
        · replace h := h.2 hc
          refine Wp.pk 2 (pc' := 100) (lv' := [some (.ref 77), some (.int x1), some (.int x2), some (.int x3), some (.int x4), some (.int v4), some (.int ((v6 - x3) - v4))]) (st' := [.int x4, .ref 77]) rfl ?_
          refine Wp.putN rfl rfl sh77 rfl rfl (fun m10 hm => ?_)
          replace h := h _ hm
          refine Wp.pk 2 (pc' := 106) (lv' := [some (.ref 77), some (.int x1), some (.int x2), some (.int x3), some (.int x4), some (.int v4), some (.int ((v6 - x3) - v4))]) (st' := [.int ((v6 - x3) - v4), .ref 77]) rfl ?_
          refine Wp.putN rfl rfl sh77 rfl rfl (fun m11 hm => ?_)
          replace h := h _ hm
          refine Wp.pk 2 (pc' := 20) (lv' := [some (.ref 77), some (.int x1), some (.int x2), some (.int x3), some (.int (x4 + 1)), some (.int v4), some (.int ((v6 - x3) - v4))]) (st' := []) rfl ?_
          exact Wp.fgt (lv := [some (.ref 77), some (.int x1), some (.int x2), some (.int x3), some (.int (x4 + 1)), none, none]) (a_lle.of (a_lleb_e (a_lleb_e (a_lleb_e (a_lleb_e (a_lleb_e (a_lleb_i (a_lleb_i trivial)))))))) h
theorem eX9_best_0 {X : a_X} {m : Nat → Nat → Int32} {Q : Option Value → (Nat → Nat → Int32) → Prop} {x1 x2 : Int32} (h : CallI X mX9_isKind [.ref 77, .int x1] m (fun v2 m1 => (¬ v2 = 0 → CallI X mX9_in [.long (Int32.toInt64 x2), .long 0, .long 2] m1 (fun v4 m3 => (¬ v4 = 0 → vp_in 180 800 ∧ (¬ (m3 78 (Int32.toNatClampNeg 180)) = 20 → CallV X mX9_copy [.ref 77, .int 0, .int 200] m3 (fun m5 => CallV X mX9_findBest [.ref 77, .int 200, .int x1] m5 (fun m6 => (0 ≤ (m6 77 33) → (¬ x2 = 0 → (¬ x2 = 1 → Q (some (.int (m6 77 34))) m6) ∧ (x2 = 1 → Q (some (.int ((m6 77 33) / 16))) m6)) ∧ (x2 = 0 → Q (some (.int (a_rem (m6 77 33) 16))) m6)) ∧ (¬ 0 ≤ (m6 77 33) → Q (some (.int (-100000003))) m6)))) ∧ ((m3 78 (Int32.toNatClampNeg 180)) = 20 → Q (some (.int (-100000003))) m3)) ∧ (v4 = 0 → Q (some (.int (-100000002))) m3))) ∧ (v2 = 0 → Q (some (.int (-100000001))) m1))) : Call X mX9_best [.ref 77, .int x1, .int x2] m Q := by
  unfold Call
  refine Wp.loc (lv' := [some (.ref 77), some (.int x1), some (.int x2)]) rfl ?_
  refine Wp.pk 2 (pc' := 2) (lv' := [some (.ref 77), some (.int x1), some (.int x2)]) (st' := [.int x1, .ref 77]) rfl ?_
  refine Wp.callI rfl rfl rfl (CallI.mono h (fun v2 m1 h => ?_))
  refine Wp.if_ne rfl rfl ⟨fun hc => ?_, fun hc => ?_⟩
  · replace h := h.1 hc
    refine Wp.pk 3 (pc' := 14) (lv' := [some (.ref 77), some (.int x1), some (.int x2)]) (st' := [.long 0, .long (Int32.toInt64 x2)]) rfl ?_
    refine Wp.ldc2 rfl rfl ?_
    refine Wp.callI rfl rfl rfl (CallI.mono h (fun v4 m3 h => ?_))
    refine Wp.if_ne rfl rfl ⟨fun hc => ?_, fun hc => ?_⟩
    · replace h := h.1 hc
      refine Wp.pk 1 (pc' := 27) (lv' := [some (.ref 77), some (.int x1), some (.int x2)]) (st' := [.ref 77]) rfl ?_
      refine Wp.getR rfl rfl sh77 rfl ?_
      refine Wp.pk 1 (pc' := 33) (lv' := [some (.ref 77), some (.int x1), some (.int x2)]) (st' := [.int 180, .ref 78]) rfl ?_
      refine Wp.iald rfl sh78 ⟨h.1, ?_⟩
      replace h := h.2
      refine Wp.pk 1 (pc' := 36) (lv' := [some (.ref 77), some (.int x1), some (.int x2)]) (st' := [.int 20, .int (m3 78 (Int32.toNatClampNeg 180))]) rfl ?_
      refine Wp.icmp_ne rfl rfl ⟨fun hc => ?_, fun hc => ?_⟩
      · replace h := h.1 hc
        refine Wp.pk 3 (pc' := 47) (lv' := [some (.ref 77), some (.int x1), some (.int x2)]) (st' := [.int 200, .int 0, .ref 77]) rfl ?_
        refine Wp.callV rfl rfl rfl (CallV.mono h (fun m5 h => ?_))
        refine Wp.pk 3 (pc' := 55) (lv' := [some (.ref 77), some (.int x1), some (.int x2)]) (st' := [.int x1, .int 200, .ref 77]) rfl ?_
        refine Wp.callV rfl rfl rfl (CallV.mono h (fun m6 h => ?_))
        refine Wp.pk 1 (pc' := 59) (lv' := [some (.ref 77), some (.int x1), some (.int x2)]) (st' := [.ref 77]) rfl ?_
        refine Wp.getI rfl rfl sh77 rfl ?_
        refine Wp.if_ge rfl rfl ⟨fun hc => ?_, fun hc => ?_⟩
        · replace h := h.1 hc
          refine Wp.pk 1 (pc' := 71) (lv' := [some (.ref 77), some (.int x1), some (.int x2)]) (st' := [.int x2]) rfl ?_
          refine Wp.if_ne rfl rfl ⟨fun hc => ?_, fun hc => ?_⟩
          · replace h := h.1 hc
            refine Wp.pk 2 (pc' := 86) (lv' := [some (.ref 77), some (.int x1), some (.int x2)]) (st' := [.int 1, .int x2]) rfl ?_
            refine Wp.icmp_ne rfl rfl ⟨fun hc => ?_, fun hc => ?_⟩
            · replace h := h.1 hc
              refine Wp.pk 1 (pc' := 100) (lv' := [some (.ref 77), some (.int x1), some (.int x2)]) (st' := [.ref 77]) rfl ?_
              refine Wp.getI rfl rfl sh77 rfl ?_
              exact Wp.iret rfl rfl ⟨rfl, h⟩
            · replace h := h.2 hc
              refine Wp.pk 1 (pc' := 90) (lv' := [some (.ref 77), some (.int x1), some (.int x2)]) (st' := [.ref 77]) rfl ?_
              refine Wp.getI rfl rfl sh77 rfl ?_
              refine Wp.pk 3 (pc' := 103) (lv' := [some (.ref 77), some (.int x1), some (.int x2)]) (st' := [.int ((m6 77 33) / 16)]) rfl ?_
              exact Wp.iret rfl rfl ⟨rfl, h⟩
          · replace h := h.2 hc
            refine Wp.pk 1 (pc' := 75) (lv' := [some (.ref 77), some (.int x1), some (.int x2)]) (st' := [.ref 77]) rfl ?_
            refine Wp.getI rfl rfl sh77 rfl ?_
            refine Wp.pk 3 (pc' := 103) (lv' := [some (.ref 77), some (.int x1), some (.int x2)]) (st' := [.int (a_rem (m6 77 33) 16)]) rfl ?_
            exact Wp.iret rfl rfl ⟨rfl, h⟩
        · replace h := h.2 hc
          refine Wp.ldc rfl rfl ?_
          refine Wp.pk 1 (pc' := 103) (lv' := [some (.ref 77), some (.int x1), some (.int x2)]) (st' := [.int (-100000003)]) rfl ?_
          exact Wp.iret rfl rfl ⟨rfl, h⟩
      · replace h := h.2 hc
        refine Wp.ldc rfl rfl ?_
        exact Wp.iret rfl rfl ⟨rfl, h⟩
    · replace h := h.2 hc
      refine Wp.ldc rfl rfl ?_
      exact Wp.iret rfl rfl ⟨rfl, h⟩
  · replace h := h.2 hc
    refine Wp.ldc rfl rfl ?_
    exact Wp.iret rfl rfl ⟨rfl, h⟩
theorem eX9_two_0 {X : a_X} {m : Nat → Nat → Int32} {Q : Option Value → (Nat → Nat → Int32) → Prop} {x1 x2 x3 : Int32} (h : CallI X mX9_isKind [.ref 77, .int x1] m (fun v2 m1 => (v2 = 0 → Q (some (.int (-100000001))) m1) ∧ (¬ v2 = 0 → CallI X mX9_isKind [.ref 77, .int x2] m1 (fun v4 m3 => (¬ v4 = 0 → CallI X mX9_in [.long (Int32.toInt64 x3), .long 0, .long 4] m3 (fun v6 m5 => (¬ v6 = 0 → vp_in x1 24 ∧ vp_in x2 24 ∧ (¬ (m5 83 (Int32.toNatClampNeg x1)) = (m5 83 (Int32.toNatClampNeg x2)) → Q (some (.int (-100000003))) m5) ∧ ((m5 83 (Int32.toNatClampNeg x1)) = (m5 83 (Int32.toNatClampNeg x2)) → vp_in 180 800 ∧ ((m5 78 (Int32.toNatClampNeg 180)) ≤ 18 → CallV X mX9_copy [.ref 77, .int 0, .int 200] m5 (fun m7 => vp_in x1 24 ∧ CallI X mX9_worthOf [.ref 77, .int 200, .int (m7 83 (Int32.toNatClampNeg x1))] m7 (fun v9 m8 => Wp X mX9_two 97 [some (.ref 77), some (.int x1), some (.int x2), some (.int x3), some (.int v9), some (.int (-1)), some (.int 0), some (.int 0), none, none, none] [] m8 Q))) ∧ (¬ (m5 78 (Int32.toNatClampNeg 180)) ≤ 18 → Q (some (.int (-100000003))) m5))) ∧ (v6 = 0 → Q (some (.int (-100000002))) m5))) ∧ (v4 = 0 → Q (some (.int (-100000001))) m3))))) : Call X mX9_two [.ref 77, .int x1, .int x2, .int x3] m Q := by
  unfold Call
  refine Wp.loc (lv' := [some (.ref 77), some (.int x1), some (.int x2), some (.int x3), none, none, none, none, none, none, none]) rfl ?_
  refine Wp.pk 2 (pc' := 2) (lv' := [some (.ref 77), some (.int x1), some (.int x2), some (.int x3), none, none, none, none, none, none, none]) (st' := [.int x1, .ref 77]) rfl ?_
  refine Wp.callI rfl rfl rfl (CallI.mono h (fun v2 m1 h => ?_))
  refine Wp.if_eq rfl rfl ⟨fun hc => ?_, fun hc => ?_⟩
  · replace h := h.1 hc
    refine Wp.ldc rfl rfl ?_
    exact Wp.iret rfl rfl ⟨rfl, h⟩
  · replace h := h.2 hc
    refine Wp.pk 2 (pc' := 10) (lv' := [some (.ref 77), some (.int x1), some (.int x2), some (.int x3), none, none, none, none, none, none, none]) (st' := [.int x2, .ref 77]) rfl ?_
    refine Wp.callI rfl rfl rfl (CallI.mono h (fun v4 m3 h => ?_))
    refine Wp.if_ne rfl rfl ⟨fun hc => ?_, fun hc => ?_⟩
    · replace h := h.1 hc
      refine Wp.pk 3 (pc' := 22) (lv' := [some (.ref 77), some (.int x1), some (.int x2), some (.int x3), none, none, none, none, none, none, none]) (st' := [.long 0, .long (Int32.toInt64 x3)]) rfl ?_
      refine Wp.ldc2 rfl rfl ?_
      refine Wp.callI rfl rfl rfl (CallI.mono h (fun v6 m5 h => ?_))
      refine Wp.if_ne rfl rfl ⟨fun hc => ?_, fun hc => ?_⟩
      · replace h := h.1 hc
        refine Wp.pk 1 (pc' := 35) (lv' := [some (.ref 77), some (.int x1), some (.int x2), some (.int x3), none, none, none, none, none, none, none]) (st' := [.ref 77]) rfl ?_
        refine Wp.getR rfl rfl sh77 rfl ?_
        refine Wp.pk 1 (pc' := 39) (lv' := [some (.ref 77), some (.int x1), some (.int x2), some (.int x3), none, none, none, none, none, none, none]) (st' := [.int x1, .ref 83]) rfl ?_
        refine Wp.iald rfl sh83 ⟨h.1, ?_⟩
        replace h := h.2
        refine Wp.pk 1 (pc' := 41) (lv' := [some (.ref 77), some (.int x1), some (.int x2), some (.int x3), none, none, none, none, none, none, none]) (st' := [.ref 77, .int (m5 83 (Int32.toNatClampNeg x1))]) rfl ?_
        refine Wp.getR rfl rfl sh77 rfl ?_
        refine Wp.pk 1 (pc' := 45) (lv' := [some (.ref 77), some (.int x1), some (.int x2), some (.int x3), none, none, none, none, none, none, none]) (st' := [.int x2, .ref 83, .int (m5 83 (Int32.toNatClampNeg x1))]) rfl ?_
        refine Wp.iald rfl sh83 ⟨h.1, ?_⟩
        replace h := h.2
        refine Wp.icmp_ne rfl rfl ⟨fun hc => ?_, fun hc => ?_⟩
        · replace h := h.1 hc
          refine Wp.ldc rfl rfl ?_
          exact Wp.iret rfl rfl ⟨rfl, h⟩
        · replace h := h.2 hc
          refine Wp.pk 1 (pc' := 50) (lv' := [some (.ref 77), some (.int x1), some (.int x2), some (.int x3), none, none, none, none, none, none, none]) (st' := [.ref 77]) rfl ?_
          refine Wp.getR rfl rfl sh77 rfl ?_
          refine Wp.pk 1 (pc' := 56) (lv' := [some (.ref 77), some (.int x1), some (.int x2), some (.int x3), none, none, none, none, none, none, none]) (st' := [.int 180, .ref 78]) rfl ?_
          refine Wp.iald rfl sh78 ⟨h.1, ?_⟩
          replace h := h.2
          refine Wp.pk 1 (pc' := 59) (lv' := [some (.ref 77), some (.int x1), some (.int x2), some (.int x3), none, none, none, none, none, none, none]) (st' := [.int 18, .int (m5 78 (Int32.toNatClampNeg 180))]) rfl ?_
          refine Wp.icmp_le rfl rfl ⟨fun hc => ?_, fun hc => ?_⟩
          · replace h := h.1 hc
            refine Wp.pk 3 (pc' := 70) (lv' := [some (.ref 77), some (.int x1), some (.int x2), some (.int x3), none, none, none, none, none, none, none]) (st' := [.int 200, .int 0, .ref 77]) rfl ?_
            refine Wp.callV rfl rfl rfl (CallV.mono h (fun m7 h => ?_))
            refine Wp.pk 3 (pc' := 78) (lv' := [some (.ref 77), some (.int x1), some (.int x2), some (.int x3), none, none, none, none, none, none, none]) (st' := [.ref 77, .int 200, .ref 77]) rfl ?_
            refine Wp.getR rfl rfl sh77 rfl ?_
            refine Wp.pk 1 (pc' := 82) (lv' := [some (.ref 77), some (.int x1), some (.int x2), some (.int x3), none, none, none, none, none, none, none]) (st' := [.int x1, .ref 83, .int 200, .ref 77]) rfl ?_
            refine Wp.iald rfl sh83 ⟨h.1, ?_⟩
            replace h := h.2
            refine Wp.callI rfl rfl rfl (CallI.mono h (fun v9 m8 h => ?_))
            refine Wp.pk 7 (pc' := 97) (lv' := [some (.ref 77), some (.int x1), some (.int x2), some (.int x3), some (.int v9), some (.int (-1)), some (.int 0), some (.int 0), none, none, none]) (st' := []) rfl ?_
            exact h
          · replace h := h.2 hc
            refine Wp.ldc rfl rfl ?_
            exact Wp.iret rfl rfl ⟨rfl, h⟩
      · replace h := h.2 hc
        refine Wp.ldc rfl rfl ?_
        exact Wp.iret rfl rfl ⟨rfl, h⟩
    · replace h := h.2 hc
      refine Wp.ldc rfl rfl ?_
      exact Wp.iret rfl rfl ⟨rfl, h⟩
theorem eX9_two_97 {X : a_X} {m : Nat → Nat → Int32} {Q : Option Value → (Nat → Nat → Int32) → Prop} {x1 x2 x3 x4 x5 x6 x7 : Int32} (h : (128 ≤ x7 → (0 ≤ x5 → (2 ≤ x3 → (¬ x3 = 4 → (¬ (a_rem x3 2) = 0 → Q (some (.int ((a_rem x5 128) / 16))) m) ∧ ((a_rem x3 2) = 0 → Q (some (.int (a_rem (a_rem x5 128) 16))) m)) ∧ (x3 = 4 → Q (some (.int x6)) m)) ∧ (¬ 2 ≤ x3 → (¬ x3 = 4 → (¬ (a_rem x3 2) = 0 → Q (some (.int ((x5 / 128) / 16))) m) ∧ ((a_rem x3 2) = 0 → Q (some (.int (a_rem (x5 / 128) 16))) m)) ∧ (x3 = 4 → Q (some (.int x6)) m))) ∧ (¬ 0 ≤ x5 → Q (some (.int (-100000003))) m)) ∧ (¬ 128 ≤ x7 → CallI X mX9_isPlace [.ref 77, .int x1, .int x7] m (fun v2 m1 => (v2 = 0 → Wp X mX9_two 97 [some (.ref 77), some (.int x1), some (.int x2), some (.int x3), some (.int x4), some (.int x5), some (.int x6), some (.int (x7 + 1)), none, none, none] [] m1 Q) ∧ (¬ v2 = 0 → CallI X mX9_lay [.ref 77, .int 200, .int x1, .int (a_rem x7 16), .int (x7 / 16)] m1 (fun v4 m3 => vp_in x1 24 ∧ CallI X mX9_worthOf [.ref 77, .int 200, .int (m3 83 (Int32.toNatClampNeg x1))] m3 (fun v6 m5 => CallV X mX9_findBest [.ref 77, .int 200, .int x2] m5 (fun m7 => CallV X mX9_undo [.ref 77, .int 200, .int v4] m7 (fun m8 => ((m8 77 33) < 0 → Wp X mX9_two 97 [some (.ref 77), some (.int x1), some (.int x2), some (.int x3), some (.int x4), some (.int x5), some (.int x6), some (.int (x7 + 1)), none, none, none] [] m8 Q) ∧ (¬ (m8 77 33) < 0 → (x5 < 0 → Wp X mX9_two 97 [some (.ref 77), some (.int x1), some (.int x2), some (.int x3), some (.int x4), some (.int ((128 * x7) + (m8 77 33))), some (.int (((v6 - x4) - v4) + (m7 77 34))), some (.int (x7 + 1)), none, none, none] [] m8 Q) ∧ (¬ x5 < 0 → ((((v6 - x4) - v4) + (m7 77 34)) ≤ x6 → Wp X mX9_two 97 [some (.ref 77), some (.int x1), some (.int x2), some (.int x3), some (.int x4), some (.int x5), some (.int x6), some (.int (x7 + 1)), none, none, none] [] m8 Q) ∧ (¬ (((v6 - x4) - v4) + (m7 77 34)) ≤ x6 → Wp X mX9_two 97 [some (.ref 77), some (.int x1), some (.int x2), some (.int x3), some (.int x4), some (.int ((128 * x7) + (m8 77 33))), some (.int (((v6 - x4) - v4) + (m7 77 34))), some (.int (x7 + 1)), none, none, none] [] m8 Q))))))))))) : Wp X mX9_two 97 [some (.ref 77), some (.int x1), some (.int x2), some (.int x3), some (.int x4), some (.int x5), some (.int x6), some (.int x7), none, none, none] [] m Q := by
  refine Wp.pk 2 (pc' := 102) (lv' := [some (.ref 77), some (.int x1), some (.int x2), some (.int x3), some (.int x4), some (.int x5), some (.int x6), some (.int x7), none, none, none]) (st' := [.int 128, .int x7]) rfl ?_
  refine Wp.icmp_ge rfl rfl ⟨fun hc => ?_, fun hc => ?_⟩
  · replace h := h.1 hc
    refine Wp.pk 1 (pc' := 226) (lv' := [some (.ref 77), some (.int x1), some (.int x2), some (.int x3), some (.int x4), some (.int x5), some (.int x6), some (.int x7), none, none, none]) (st' := [.int x5]) rfl ?_
    refine Wp.if_ge rfl rfl ⟨fun hc => ?_, fun hc => ?_⟩
    · replace h := h.1 hc
      refine Wp.pk 2 (pc' := 234) (lv' := [some (.ref 77), some (.int x1), some (.int x2), some (.int x3), some (.int x4), some (.int x5), some (.int x6), some (.int x7), none, none, none]) (st' := [.int 2, .int x3]) rfl ?_
      refine Wp.icmp_ge rfl rfl ⟨fun hc => ?_, fun hc => ?_⟩
      · replace h := h.1 hc
        refine Wp.pk 6 (pc' := 256) (lv' := [some (.ref 77), some (.int x1), some (.int x2), some (.int x3), some (.int x4), some (.int x5), some (.int x6), some (.int (a_rem x5 128)), none, none, none]) (st' := [.int 4, .int x3]) rfl ?_
        refine Wp.icmp_ne rfl rfl ⟨fun hc => ?_, fun hc => ?_⟩
        · replace h := h.1 hc
          refine Wp.pk 3 (pc' := 267) (lv' := [some (.ref 77), some (.int x1), some (.int x2), some (.int x3), some (.int x4), some (.int x5), some (.int x6), some (.int (a_rem x5 128)), none, none, none]) (st' := [.int (a_rem x3 2)]) rfl ?_
          refine Wp.if_ne rfl rfl ⟨fun hc => ?_, fun hc => ?_⟩
          · replace h := h.1 hc
            refine Wp.pk 3 (pc' := 283) (lv' := [some (.ref 77), some (.int x1), some (.int x2), some (.int x3), some (.int x4), some (.int x5), some (.int x6), some (.int (a_rem x5 128)), none, none, none]) (st' := [.int ((a_rem x5 128) / 16)]) rfl ?_
            exact Wp.iret rfl rfl ⟨rfl, h⟩
          · replace h := h.2 hc
            refine Wp.pk 4 (pc' := 283) (lv' := [some (.ref 77), some (.int x1), some (.int x2), some (.int x3), some (.int x4), some (.int x5), some (.int x6), some (.int (a_rem x5 128)), none, none, none]) (st' := [.int (a_rem (a_rem x5 128) 16)]) rfl ?_
            exact Wp.iret rfl rfl ⟨rfl, h⟩
        · replace h := h.2 hc
          refine Wp.pk 2 (pc' := 283) (lv' := [some (.ref 77), some (.int x1), some (.int x2), some (.int x3), some (.int x4), some (.int x5), some (.int x6), some (.int (a_rem x5 128)), none, none, none]) (st' := [.int x6]) rfl ?_
          exact Wp.iret rfl rfl ⟨rfl, h⟩
      · replace h := h.2 hc
        refine Wp.pk 7 (pc' := 256) (lv' := [some (.ref 77), some (.int x1), some (.int x2), some (.int x3), some (.int x4), some (.int x5), some (.int x6), some (.int (x5 / 128)), none, none, none]) (st' := [.int 4, .int x3]) rfl ?_
        refine Wp.icmp_ne rfl rfl ⟨fun hc => ?_, fun hc => ?_⟩
        · replace h := h.1 hc
          refine Wp.pk 3 (pc' := 267) (lv' := [some (.ref 77), some (.int x1), some (.int x2), some (.int x3), some (.int x4), some (.int x5), some (.int x6), some (.int (x5 / 128)), none, none, none]) (st' := [.int (a_rem x3 2)]) rfl ?_
          refine Wp.if_ne rfl rfl ⟨fun hc => ?_, fun hc => ?_⟩
          · replace h := h.1 hc
            refine Wp.pk 3 (pc' := 283) (lv' := [some (.ref 77), some (.int x1), some (.int x2), some (.int x3), some (.int x4), some (.int x5), some (.int x6), some (.int (x5 / 128)), none, none, none]) (st' := [.int ((x5 / 128) / 16)]) rfl ?_
            exact Wp.iret rfl rfl ⟨rfl, h⟩
          · replace h := h.2 hc
            refine Wp.pk 4 (pc' := 283) (lv' := [some (.ref 77), some (.int x1), some (.int x2), some (.int x3), some (.int x4), some (.int x5), some (.int x6), some (.int (x5 / 128)), none, none, none]) (st' := [.int (a_rem (x5 / 128) 16)]) rfl ?_
            exact Wp.iret rfl rfl ⟨rfl, h⟩
        · replace h := h.2 hc
          refine Wp.pk 2 (pc' := 283) (lv' := [some (.ref 77), some (.int x1), some (.int x2), some (.int x3), some (.int x4), some (.int x5), some (.int x6), some (.int (x5 / 128)), none, none, none]) (st' := [.int x6]) rfl ?_
          exact Wp.iret rfl rfl ⟨rfl, h⟩
    · replace h := h.2 hc
      refine Wp.ldc rfl rfl ?_
      exact Wp.iret rfl rfl ⟨rfl, h⟩
  · replace h := h.2 hc
    refine Wp.pk 3 (pc' := 109) (lv' := [some (.ref 77), some (.int x1), some (.int x2), some (.int x3), some (.int x4), some (.int x5), some (.int x6), some (.int x7), none, none, none]) (st' := [.int x7, .int x1, .ref 77]) rfl ?_
    refine Wp.callI rfl rfl rfl (CallI.mono h (fun v2 m1 h => ?_))
    refine Wp.if_eq rfl rfl ⟨fun hc => ?_, fun hc => ?_⟩
    · replace h := h.1 hc
      refine Wp.pk 2 (pc' := 97) (lv' := [some (.ref 77), some (.int x1), some (.int x2), some (.int x3), some (.int x4), some (.int x5), some (.int x6), some (.int (x7 + 1)), none, none, none]) (st' := []) rfl ?_
      exact h
    · replace h := h.2 hc
      refine Wp.pk 9 (pc' := 130) (lv' := [some (.ref 77), some (.int x1), some (.int x2), some (.int x3), some (.int x4), some (.int x5), some (.int x6), some (.int x7), none, none, none]) (st' := [.int (x7 / 16), .int (a_rem x7 16), .int x1, .int 200, .ref 77]) rfl ?_
      refine Wp.callI rfl rfl rfl (CallI.mono h (fun v4 m3 h => ?_))
      refine Wp.pk 4 (pc' := 140) (lv' := [some (.ref 77), some (.int x1), some (.int x2), some (.int x3), some (.int x4), some (.int x5), some (.int x6), some (.int x7), some (.int v4), none, none]) (st' := [.ref 77, .int 200, .ref 77]) rfl ?_
      refine Wp.getR rfl rfl sh77 rfl ?_
      refine Wp.pk 1 (pc' := 144) (lv' := [some (.ref 77), some (.int x1), some (.int x2), some (.int x3), some (.int x4), some (.int x5), some (.int x6), some (.int x7), some (.int v4), none, none]) (st' := [.int x1, .ref 83, .int 200, .ref 77]) rfl ?_
      refine Wp.iald rfl sh83 ⟨h.1, ?_⟩
      replace h := h.2
      refine Wp.callI rfl rfl rfl (CallI.mono h (fun v6 m5 h => ?_))
      refine Wp.pk 4 (pc' := 155) (lv' := [some (.ref 77), some (.int x1), some (.int x2), some (.int x3), some (.int x4), some (.int x5), some (.int x6), some (.int x7), some (.int v4), some (.int v6), none]) (st' := [.int x2, .int 200, .ref 77]) rfl ?_
      refine Wp.callV rfl rfl rfl (CallV.mono h (fun m7 h => ?_))
      refine Wp.pk 6 (pc' := 167) (lv' := [some (.ref 77), some (.int x1), some (.int x2), some (.int x3), some (.int x4), some (.int x5), some (.int x6), some (.int x7), some (.int v4), some (.int v6), none]) (st' := [.ref 77, .int ((v6 - x4) - v4)]) rfl ?_
      refine Wp.getI rfl rfl sh77 rfl ?_
      refine Wp.pk 5 (pc' := 179) (lv' := [some (.ref 77), some (.int x1), some (.int x2), some (.int x3), some (.int x4), some (.int x5), some (.int x6), some (.int x7), some (.int v4), some (.int v6), some (.int (((v6 - x4) - v4) + (m7 77 34)))]) (st' := [.int v4, .int 200, .ref 77]) rfl ?_
      refine Wp.callV rfl rfl rfl (CallV.mono h (fun m8 h => ?_))
      refine Wp.pk 1 (pc' := 183) (lv' := [some (.ref 77), some (.int x1), some (.int x2), some (.int x3), some (.int x4), some (.int x5), some (.int x6), some (.int x7), some (.int v4), some (.int v6), some (.int (((v6 - x4) - v4) + (m7 77 34)))]) (st' := [.ref 77]) rfl ?_
      refine Wp.getI rfl rfl sh77 rfl ?_
      refine Wp.if_lt rfl rfl ⟨fun hc => ?_, fun hc => ?_⟩
      · replace h := h.1 hc
        refine Wp.pk 2 (pc' := 97) (lv' := [some (.ref 77), some (.int x1), some (.int x2), some (.int x3), some (.int x4), some (.int x5), some (.int x6), some (.int (x7 + 1)), some (.int v4), some (.int v6), some (.int (((v6 - x4) - v4) + (m7 77 34)))]) (st' := []) rfl ?_
        exact Wp.fgt (lv := [some (.ref 77), some (.int x1), some (.int x2), some (.int x3), some (.int x4), some (.int x5), some (.int x6), some (.int (x7 + 1)), none, none, none]) (a_lle.of (a_lleb_e (a_lleb_e (a_lleb_e (a_lleb_e (a_lleb_e (a_lleb_e (a_lleb_e (a_lleb_e (a_lleb_i (a_lleb_i (a_lleb_i trivial)))))))))))) h
      · replace h := h.2 hc
        refine Wp.pk 1 (pc' := 191) (lv' := [some (.ref 77), some (.int x1), some (.int x2), some (.int x3), some (.int x4), some (.int x5), some (.int x6), some (.int x7), some (.int v4), some (.int v6), some (.int (((v6 - x4) - v4) + (m7 77 34)))]) (st' := [.int x5]) rfl ?_
        refine Wp.if_lt rfl rfl ⟨fun hc => ?_, fun hc => ?_⟩
        · replace h := h.1 hc
          refine Wp.pk 4 (pc' := 208) (lv' := [some (.ref 77), some (.int x1), some (.int x2), some (.int x3), some (.int x4), some (.int x5), some (.int x6), some (.int x7), some (.int v4), some (.int v6), some (.int (((v6 - x4) - v4) + (m7 77 34)))]) (st' := [.ref 77, .int (128 * x7)]) rfl ?_
          refine Wp.getI rfl rfl sh77 rfl ?_
          refine Wp.pk 6 (pc' := 97) (lv' := [some (.ref 77), some (.int x1), some (.int x2), some (.int x3), some (.int x4), some (.int ((128 * x7) + (m8 77 33))), some (.int (((v6 - x4) - v4) + (m7 77 34))), some (.int (x7 + 1)), some (.int v4), some (.int v6), some (.int (((v6 - x4) - v4) + (m7 77 34)))]) (st' := []) rfl ?_
          exact Wp.fgt (lv := [some (.ref 77), some (.int x1), some (.int x2), some (.int x3), some (.int x4), some (.int ((128 * x7) + (m8 77 33))), some (.int (((v6 - x4) - v4) + (m7 77 34))), some (.int (x7 + 1)), none, none, none]) (a_lle.of (a_lleb_e (a_lleb_e (a_lleb_e (a_lleb_e (a_lleb_e (a_lleb_e (a_lleb_e (a_lleb_e (a_lleb_i (a_lleb_i (a_lleb_i trivial)))))))))))) h
        · replace h := h.2 hc
          refine Wp.pk 2 (pc' := 198) (lv' := [some (.ref 77), some (.int x1), some (.int x2), some (.int x3), some (.int x4), some (.int x5), some (.int x6), some (.int x7), some (.int v4), some (.int v6), some (.int (((v6 - x4) - v4) + (m7 77 34)))]) (st' := [.int x6, .int (((v6 - x4) - v4) + (m7 77 34))]) rfl ?_
          refine Wp.icmp_le rfl rfl ⟨fun hc => ?_, fun hc => ?_⟩
          · replace h := h.1 hc
            refine Wp.pk 2 (pc' := 97) (lv' := [some (.ref 77), some (.int x1), some (.int x2), some (.int x3), some (.int x4), some (.int x5), some (.int x6), some (.int (x7 + 1)), some (.int v4), some (.int v6), some (.int (((v6 - x4) - v4) + (m7 77 34)))]) (st' := []) rfl ?_
            exact Wp.fgt (lv := [some (.ref 77), some (.int x1), some (.int x2), some (.int x3), some (.int x4), some (.int x5), some (.int x6), some (.int (x7 + 1)), none, none, none]) (a_lle.of (a_lleb_e (a_lleb_e (a_lleb_e (a_lleb_e (a_lleb_e (a_lleb_e (a_lleb_e (a_lleb_e (a_lleb_i (a_lleb_i (a_lleb_i trivial)))))))))))) h
          · replace h := h.2 hc
            refine Wp.pk 4 (pc' := 208) (lv' := [some (.ref 77), some (.int x1), some (.int x2), some (.int x3), some (.int x4), some (.int x5), some (.int x6), some (.int x7), some (.int v4), some (.int v6), some (.int (((v6 - x4) - v4) + (m7 77 34)))]) (st' := [.ref 77, .int (128 * x7)]) rfl ?_
            refine Wp.getI rfl rfl sh77 rfl ?_
            refine Wp.pk 6 (pc' := 97) (lv' := [some (.ref 77), some (.int x1), some (.int x2), some (.int x3), some (.int x4), some (.int ((128 * x7) + (m8 77 33))), some (.int (((v6 - x4) - v4) + (m7 77 34))), some (.int (x7 + 1)), some (.int v4), some (.int v6), some (.int (((v6 - x4) - v4) + (m7 77 34)))]) (st' := []) rfl ?_
            exact Wp.fgt (lv := [some (.ref 77), some (.int x1), some (.int x2), some (.int x3), some (.int x4), some (.int ((128 * x7) + (m8 77 33))), some (.int (((v6 - x4) - v4) + (m7 77 34))), some (.int (x7 + 1)), none, none, none]) (a_lle.of (a_lleb_e (a_lleb_e (a_lleb_e (a_lleb_e (a_lleb_e (a_lleb_e (a_lleb_e (a_lleb_e (a_lleb_i (a_lleb_i (a_lleb_i trivial)))))))))))) h
theorem eX9_takeTurn_0 {X : a_X} {m : Nat → Nat → Int32} {Q : Option Value → (Nat → Nat → Int32) → Prop} {x1 : Int32} (h : vp_in 380 800 ∧ (20 ≤ (m 78 (Int32.toNatClampNeg 380)) → Q none m) ∧ (¬ 20 ≤ (m 78 (Int32.toNatClampNeg 380)) → CallV X mX9_findBest [.ref 77, .int 200, .int x1] m (fun m1 => ((m1 77 33) < 0 → Q none m1) ∧ (¬ (m1 77 33) < 0 → ((m1 77 34) ≤ 0 → Q none m1) ∧ (¬ (m1 77 34) ≤ 0 → CallI X mX9_lay [.ref 77, .int 200, .int x1, .int (a_rem (m1 77 33) 16), .int ((m1 77 33) / 16)] m1 (fun v3 m2 => ∀ m4, m4 = (a_up m2 77 35 ((m2 77 35) + 1)) → Q none m4)))))) : Call X mX9_takeTurn [.ref 77, .int x1] m Q := by
  unfold Call
  refine Wp.loc (lv' := [some (.ref 77), some (.int x1), none]) rfl ?_
  refine Wp.pk 1 (pc' := 1) (lv' := [some (.ref 77), some (.int x1), none]) (st' := [.ref 77]) rfl ?_
  refine Wp.getR rfl rfl sh77 rfl ?_
  refine Wp.pk 1 (pc' := 7) (lv' := [some (.ref 77), some (.int x1), none]) (st' := [.int 380, .ref 78]) rfl ?_
  refine Wp.iald rfl sh78 ⟨h.1, ?_⟩
  replace h := h.2
  refine Wp.pk 1 (pc' := 10) (lv' := [some (.ref 77), some (.int x1), none]) (st' := [.int 20, .int (m 78 (Int32.toNatClampNeg 380))]) rfl ?_
  refine Wp.icmp_ge rfl rfl ⟨fun hc => ?_, fun hc => ?_⟩
  · replace h := h.1 hc
    exact Wp.vret rfl rfl h
  · replace h := h.2 hc
    refine Wp.pk 3 (pc' := 18) (lv' := [some (.ref 77), some (.int x1), none]) (st' := [.int x1, .int 200, .ref 77]) rfl ?_
    refine Wp.callV rfl rfl rfl (CallV.mono h (fun m1 h => ?_))
    refine Wp.pk 1 (pc' := 22) (lv' := [some (.ref 77), some (.int x1), none]) (st' := [.ref 77]) rfl ?_
    refine Wp.getI rfl rfl sh77 rfl ?_
    refine Wp.if_lt rfl rfl ⟨fun hc => ?_, fun hc => ?_⟩
    · replace h := h.1 hc
      exact Wp.vret rfl rfl h
    · replace h := h.2 hc
      refine Wp.pk 1 (pc' := 29) (lv' := [some (.ref 77), some (.int x1), none]) (st' := [.ref 77]) rfl ?_
      refine Wp.getI rfl rfl sh77 rfl ?_
      refine Wp.if_le rfl rfl ⟨fun hc => ?_, fun hc => ?_⟩
      · replace h := h.1 hc
        exact Wp.vret rfl rfl h
      · replace h := h.2 hc
        refine Wp.pk 4 (pc' := 41) (lv' := [some (.ref 77), some (.int x1), none]) (st' := [.ref 77, .int x1, .int 200, .ref 77]) rfl ?_
        refine Wp.getI rfl rfl sh77 rfl ?_
        refine Wp.pk 3 (pc' := 48) (lv' := [some (.ref 77), some (.int x1), none]) (st' := [.ref 77, .int (a_rem (m1 77 33) 16), .int x1, .int 200, .ref 77]) rfl ?_
        refine Wp.getI rfl rfl sh77 rfl ?_
        refine Wp.pk 2 (pc' := 54) (lv' := [some (.ref 77), some (.int x1), none]) (st' := [.int ((m1 77 33) / 16), .int (a_rem (m1 77 33) 16), .int x1, .int 200, .ref 77]) rfl ?_
        refine Wp.callI rfl rfl rfl (CallI.mono h (fun v3 m2 h => ?_))
        refine Wp.pk 3 (pc' := 60) (lv' := [some (.ref 77), some (.int x1), some (.int v3)]) (st' := [.ref 77, .ref 77]) rfl ?_
        refine Wp.getI rfl rfl sh77 rfl ?_
        refine Wp.pk 2 (pc' := 65) (lv' := [some (.ref 77), some (.int x1), some (.int v3)]) (st' := [.int ((m2 77 35) + 1), .ref 77]) rfl ?_
        refine Wp.putN rfl rfl sh77 rfl rfl (fun m4 hm => ?_)
        replace h := h _ hm
        exact Wp.vret rfl rfl h
theorem eX9_rivals_0 {X : a_X} {m : Nat → Nat → Int32} {Q : Option Value → (Nat → Nat → Int32) → Prop} {x1 x2 x3 x4 : Int32} (h : CallI X mX9_isKind [.ref 77, .int x1] m (fun v2 m1 => (v2 = 0 → Q (some (.int (-100000001))) m1) ∧ (¬ v2 = 0 → CallI X mX9_isKind [.ref 77, .int x2] m1 (fun v4 m3 => (¬ v4 = 0 → CallI X mX9_in [.long (Int32.toInt64 x3), .long 1, .long 12] m3 (fun v6 m5 => (v6 = 0 → Q (some (.int (-100000002))) m5) ∧ (¬ v6 = 0 → CallI X mX9_in [.long (Int32.toInt64 x4), .long 0, .long 2] m5 (fun v8 m7 => (¬ v8 = 0 → CallV X mX9_copy [.ref 77, .int 0, .int 200] m7 (fun m9 => ∀ m10, m10 = (a_up m9 77 35 0) → Wp X mX9_rivals 63 [some (.ref 77), some (.int x1), some (.int x2), some (.int x3), some (.int x4), some (.int 0)] [] m10 Q)) ∧ (v8 = 0 → Q (some (.int (-100000002))) m7))))) ∧ (v4 = 0 → Q (some (.int (-100000001))) m3))))) : Call X mX9_rivals [.ref 77, .int x1, .int x2, .int x3, .int x4] m Q := by
  unfold Call
  refine Wp.loc (lv' := [some (.ref 77), some (.int x1), some (.int x2), some (.int x3), some (.int x4), none]) rfl ?_
  refine Wp.pk 2 (pc' := 2) (lv' := [some (.ref 77), some (.int x1), some (.int x2), some (.int x3), some (.int x4), none]) (st' := [.int x1, .ref 77]) rfl ?_
  refine Wp.callI rfl rfl rfl (CallI.mono h (fun v2 m1 h => ?_))
  refine Wp.if_eq rfl rfl ⟨fun hc => ?_, fun hc => ?_⟩
  · replace h := h.1 hc
    refine Wp.ldc rfl rfl ?_
    exact Wp.iret rfl rfl ⟨rfl, h⟩
  · replace h := h.2 hc
    refine Wp.pk 2 (pc' := 10) (lv' := [some (.ref 77), some (.int x1), some (.int x2), some (.int x3), some (.int x4), none]) (st' := [.int x2, .ref 77]) rfl ?_
    refine Wp.callI rfl rfl rfl (CallI.mono h (fun v4 m3 h => ?_))
    refine Wp.if_ne rfl rfl ⟨fun hc => ?_, fun hc => ?_⟩
    · replace h := h.1 hc
      refine Wp.pk 3 (pc' := 22) (lv' := [some (.ref 77), some (.int x1), some (.int x2), some (.int x3), some (.int x4), none]) (st' := [.long 1, .long (Int32.toInt64 x3)]) rfl ?_
      refine Wp.ldc2 rfl rfl ?_
      refine Wp.callI rfl rfl rfl (CallI.mono h (fun v6 m5 h => ?_))
      refine Wp.if_eq rfl rfl ⟨fun hc => ?_, fun hc => ?_⟩
      · replace h := h.1 hc
        refine Wp.ldc rfl rfl ?_
        exact Wp.iret rfl rfl ⟨rfl, h⟩
      · replace h := h.2 hc
        refine Wp.pk 3 (pc' := 35) (lv' := [some (.ref 77), some (.int x1), some (.int x2), some (.int x3), some (.int x4), none]) (st' := [.long 0, .long (Int32.toInt64 x4)]) rfl ?_
        refine Wp.ldc2 rfl rfl ?_
        refine Wp.callI rfl rfl rfl (CallI.mono h (fun v8 m7 h => ?_))
        refine Wp.if_ne rfl rfl ⟨fun hc => ?_, fun hc => ?_⟩
        · replace h := h.1 hc
          refine Wp.pk 3 (pc' := 52) (lv' := [some (.ref 77), some (.int x1), some (.int x2), some (.int x3), some (.int x4), none]) (st' := [.int 200, .int 0, .ref 77]) rfl ?_
          refine Wp.callV rfl rfl rfl (CallV.mono h (fun m9 h => ?_))
          refine Wp.pk 2 (pc' := 57) (lv' := [some (.ref 77), some (.int x1), some (.int x2), some (.int x3), some (.int x4), none]) (st' := [.int 0, .ref 77]) rfl ?_
          refine Wp.putN rfl rfl sh77 rfl rfl (fun m10 hm => ?_)
          replace h := h _ hm
          refine Wp.pk 2 (pc' := 63) (lv' := [some (.ref 77), some (.int x1), some (.int x2), some (.int x3), some (.int x4), some (.int 0)]) (st' := []) rfl ?_
          exact h
        · replace h := h.2 hc
          refine Wp.ldc rfl rfl ?_
          exact Wp.iret rfl rfl ⟨rfl, h⟩
    · replace h := h.2 hc
      refine Wp.ldc rfl rfl ?_
      exact Wp.iret rfl rfl ⟨rfl, h⟩
theorem eX9_rivals_63 {X : a_X} {m : Nat → Nat → Int32} {Q : Option Value → (Nat → Nat → Int32) → Prop} {x1 x2 x3 x4 x5 : Int32} (h : (x3 ≤ x5 → (¬ x4 = 2 → (¬ x4 = 0 → vp_in x2 24 ∧ CallI X mX9_worthOf [.ref 77, .int 200, .int (m 83 (Int32.toNatClampNeg x2))] m (fun v2 m1 => Q (some (.int v2)) m1)) ∧ (x4 = 0 → vp_in x1 24 ∧ CallI X mX9_worthOf [.ref 77, .int 200, .int (m 83 (Int32.toNatClampNeg x1))] m (fun v4 m3 => Q (some (.int v4)) m3))) ∧ (x4 = 2 → Q (some (.int (m 77 35))) m)) ∧ (¬ x3 ≤ x5 → CallV X mX9_takeTurn [.ref 77, .int x1] m (fun m5 => CallV X mX9_takeTurn [.ref 77, .int x2] m5 (fun m6 => vp_in 381 800 ∧ vp_in 381 800 ∧ ∀ m7, m7 = (a_up m6 78 (Int32.toNatClampNeg 381) ((m6 78 (Int32.toNatClampNeg 381)) + 1)) → Wp X mX9_rivals 63 [some (.ref 77), some (.int x1), some (.int x2), some (.int x3), some (.int x4), some (.int (x5 + 1))] [] m7 Q)))) : Wp X mX9_rivals 63 [some (.ref 77), some (.int x1), some (.int x2), some (.int x3), some (.int x4), some (.int x5)] [] m Q := by
  refine Wp.pk 2 (pc' := 66) (lv' := [some (.ref 77), some (.int x1), some (.int x2), some (.int x3), some (.int x4), some (.int x5)]) (st' := [.int x3, .int x5]) rfl ?_
  refine Wp.icmp_ge rfl rfl ⟨fun hc => ?_, fun hc => ?_⟩
  · replace h := h.1 hc
    refine Wp.pk 2 (pc' := 100) (lv' := [some (.ref 77), some (.int x1), some (.int x2), some (.int x3), some (.int x4), some (.int x5)]) (st' := [.int 2, .int x4]) rfl ?_
    refine Wp.icmp_ne rfl rfl ⟨fun hc => ?_, fun hc => ?_⟩
    · replace h := h.1 hc
      refine Wp.pk 3 (pc' := 115) (lv' := [some (.ref 77), some (.int x1), some (.int x2), some (.int x3), some (.int x4), some (.int x5)]) (st' := [.ref 77, .int 200, .ref 77]) rfl ?_
      refine Wp.getR rfl rfl sh77 rfl ?_
      refine Wp.pk 1 (pc' := 120) (lv' := [some (.ref 77), some (.int x1), some (.int x2), some (.int x3), some (.int x4), some (.int x5)]) (st' := [.int x4, .ref 83, .int 200, .ref 77]) rfl ?_
      refine Wp.if_ne rfl rfl ⟨fun hc => ?_, fun hc => ?_⟩
      · replace h := h.1 hc
        refine Wp.pk 1 (pc' := 128) (lv' := [some (.ref 77), some (.int x1), some (.int x2), some (.int x3), some (.int x4), some (.int x5)]) (st' := [.int x2, .ref 83, .int 200, .ref 77]) rfl ?_
        refine Wp.iald rfl sh83 ⟨h.1, ?_⟩
        replace h := h.2
        refine Wp.callI rfl rfl rfl (CallI.mono h (fun v2 m1 h => ?_))
        exact Wp.iret rfl rfl ⟨rfl, h⟩
      · replace h := h.2 hc
        refine Wp.pk 2 (pc' := 128) (lv' := [some (.ref 77), some (.int x1), some (.int x2), some (.int x3), some (.int x4), some (.int x5)]) (st' := [.int x1, .ref 83, .int 200, .ref 77]) rfl ?_
        refine Wp.iald rfl sh83 ⟨h.1, ?_⟩
        replace h := h.2
        refine Wp.callI rfl rfl rfl (CallI.mono h (fun v4 m3 h => ?_))
        exact Wp.iret rfl rfl ⟨rfl, h⟩
    · replace h := h.2 hc
      refine Wp.pk 1 (pc' := 104) (lv' := [some (.ref 77), some (.int x1), some (.int x2), some (.int x3), some (.int x4), some (.int x5)]) (st' := [.ref 77]) rfl ?_
      refine Wp.getI rfl rfl sh77 rfl ?_
      refine Wp.pk 1 (pc' := 132) (lv' := [some (.ref 77), some (.int x1), some (.int x2), some (.int x3), some (.int x4), some (.int x5)]) (st' := [.int (m 77 35)]) rfl ?_
      exact Wp.iret rfl rfl ⟨rfl, h⟩
  · replace h := h.2 hc
    refine Wp.pk 2 (pc' := 71) (lv' := [some (.ref 77), some (.int x1), some (.int x2), some (.int x3), some (.int x4), some (.int x5)]) (st' := [.int x1, .ref 77]) rfl ?_
    refine Wp.callV rfl rfl rfl (CallV.mono h (fun m5 h => ?_))
    refine Wp.pk 2 (pc' := 76) (lv' := [some (.ref 77), some (.int x1), some (.int x2), some (.int x3), some (.int x4), some (.int x5)]) (st' := [.int x2, .ref 77]) rfl ?_
    refine Wp.callV rfl rfl rfl (CallV.mono h (fun m6 h => ?_))
    refine Wp.pk 1 (pc' := 80) (lv' := [some (.ref 77), some (.int x1), some (.int x2), some (.int x3), some (.int x4), some (.int x5)]) (st' := [.ref 77]) rfl ?_
    refine Wp.getR rfl rfl sh77 rfl ?_
    refine Wp.pk 2 (pc' := 87) (lv' := [some (.ref 77), some (.int x1), some (.int x2), some (.int x3), some (.int x4), some (.int x5)]) (st' := [.int 381, .ref 78, .int 381, .ref 78]) rfl ?_
    refine Wp.iald rfl sh78 ⟨h.1, ?_⟩
    replace h := h.2
    refine Wp.pk 2 (pc' := 90) (lv' := [some (.ref 77), some (.int x1), some (.int x2), some (.int x3), some (.int x4), some (.int x5)]) (st' := [.int ((m6 78 (Int32.toNatClampNeg 381)) + 1), .int 381, .ref 78]) rfl ?_
    refine Wp.iastN rfl sh78 h.1 (fun m7 hm => ?_)
    replace h := h.2 _ hm
    refine Wp.pk 2 (pc' := 63) (lv' := [some (.ref 77), some (.int x1), some (.int x2), some (.int x3), some (.int x4), some (.int (x5 + 1))]) (st' := []) rfl ?_
    exact h
theorem eX9_seed_0 {X : a_X} {m : Nat → Nat → Int32} {Q : Option Value → (Nat → Nat → Int32) → Prop} {x1 : Int32} (h : (0 ≤ x1 → vp_in 190 800 ∧ vp_in 190 800 ∧ ∀ m1, m1 = (a_up m 78 (Int32.toNatClampNeg 190) x1) → Q (some (.int (m 78 (Int32.toNatClampNeg 190)))) m1) ∧ (¬ 0 ≤ x1 → Q (some (.int (-100000002))) m)) : Call X mX9_seed [.ref 77, .int x1] m Q := by
  unfold Call
  refine Wp.loc (lv' := [some (.ref 77), some (.int x1), none]) rfl ?_
  refine Wp.pk 1 (pc' := 1) (lv' := [some (.ref 77), some (.int x1), none]) (st' := [.int x1]) rfl ?_
  refine Wp.if_ge rfl rfl ⟨fun hc => ?_, fun hc => ?_⟩
  · replace h := h.1 hc
    refine Wp.pk 1 (pc' := 8) (lv' := [some (.ref 77), some (.int x1), none]) (st' := [.ref 77]) rfl ?_
    refine Wp.getR rfl rfl sh77 rfl ?_
    refine Wp.pk 1 (pc' := 14) (lv' := [some (.ref 77), some (.int x1), none]) (st' := [.int 190, .ref 78]) rfl ?_
    refine Wp.iald rfl sh78 ⟨h.1, ?_⟩
    replace h := h.2
    refine Wp.pk 2 (pc' := 17) (lv' := [some (.ref 77), some (.int x1), some (.int (m 78 (Int32.toNatClampNeg 190)))]) (st' := [.ref 77]) rfl ?_
    refine Wp.getR rfl rfl sh77 rfl ?_
    refine Wp.pk 2 (pc' := 24) (lv' := [some (.ref 77), some (.int x1), some (.int (m 78 (Int32.toNatClampNeg 190)))]) (st' := [.int x1, .int 190, .ref 78]) rfl ?_
    refine Wp.iastN rfl sh78 h.1 (fun m1 hm => ?_)
    replace h := h.2 _ hm
    refine Wp.pk 1 (pc' := 26) (lv' := [some (.ref 77), some (.int x1), some (.int (m 78 (Int32.toNatClampNeg 190)))]) (st' := [.int (m 78 (Int32.toNatClampNeg 190))]) rfl ?_
    exact Wp.iret rfl rfl ⟨rfl, h⟩
  · replace h := h.2 hc
    refine Wp.ldc rfl rfl ?_
    exact Wp.iret rfl rfl ⟨rfl, h⟩
theorem eX9_keep_0 {X : a_X} {m : Nat → Nat → Int32} {Q : Option Value → (Nat → Nat → Int32) → Prop} {x1 : Int32} (h : CallI X mX9_in [.long (Int32.toInt64 x1), .long 0, .long 1] m (fun v2 m1 => (¬ v2 = 0 → CallV X mX9_copy [.ref 77, .int 0, .int (400 + (200 * x1))] m1 (fun m3 => vp_in x1 2 ∧ ∀ m4, m4 = (a_up m3 79 (Int32.toNatClampNeg x1) (vp_nar .boolean 1)) → Q (some (.int 1)) m4)) ∧ (v2 = 0 → Q (some (.int (-100000001))) m1))) : Call X mX9_keep [.ref 77, .int x1] m Q := by
  unfold Call
  refine Wp.loc (lv' := [some (.ref 77), some (.int x1)]) rfl ?_
  refine Wp.pk 4 (pc' := 4) (lv' := [some (.ref 77), some (.int x1)]) (st' := [.long 1, .long 0, .long (Int32.toInt64 x1)]) rfl ?_
  refine Wp.callI rfl rfl rfl (CallI.mono h (fun v2 m1 h => ?_))
  refine Wp.if_ne rfl rfl ⟨fun hc => ?_, fun hc => ?_⟩
  · replace h := h.1 hc
    refine Wp.pk 7 (pc' := 24) (lv' := [some (.ref 77), some (.int x1)]) (st' := [.int (400 + (200 * x1)), .int 0, .ref 77]) rfl ?_
    refine Wp.callV rfl rfl rfl (CallV.mono h (fun m3 h => ?_))
    refine Wp.pk 1 (pc' := 28) (lv' := [some (.ref 77), some (.int x1)]) (st' := [.ref 77]) rfl ?_
    refine Wp.getR rfl rfl sh77 rfl ?_
    refine Wp.pk 2 (pc' := 33) (lv' := [some (.ref 77), some (.int x1)]) (st' := [.int 1, .int x1, .ref 79]) rfl ?_
    refine Wp.bastN rfl sh79 h.1 (fun m4 hm => ?_)
    replace h := h.2 _ hm
    refine Wp.pk 1 (pc' := 35) (lv' := [some (.ref 77), some (.int x1)]) (st' := [.int 1]) rfl ?_
    exact Wp.iret rfl rfl ⟨rfl, h⟩
  · replace h := h.2 hc
    refine Wp.ldc rfl rfl ?_
    exact Wp.iret rfl rfl ⟨rfl, h⟩
theorem eX9_goBack_0 {X : a_X} {m : Nat → Nat → Int32} {Q : Option Value → (Nat → Nat → Int32) → Prop} {x1 : Int32} (h : CallI X mX9_in [.long (Int32.toInt64 x1), .long 0, .long 1] m (fun v2 m1 => (¬ v2 = 0 → vp_in x1 2 ∧ (¬ (m1 79 (Int32.toNatClampNeg x1)) = 0 → CallV X mX9_copy [.ref 77, .int (400 + (200 * x1)), .int 0] m1 (fun m3 => Q (some (.int 1)) m3)) ∧ ((m1 79 (Int32.toNatClampNeg x1)) = 0 → Q (some (.int (-100000003))) m1)) ∧ (v2 = 0 → Q (some (.int (-100000001))) m1))) : Call X mX9_goBack [.ref 77, .int x1] m Q := by
  unfold Call
  refine Wp.loc (lv' := [some (.ref 77), some (.int x1)]) rfl ?_
  refine Wp.pk 4 (pc' := 4) (lv' := [some (.ref 77), some (.int x1)]) (st' := [.long 1, .long 0, .long (Int32.toInt64 x1)]) rfl ?_
  refine Wp.callI rfl rfl rfl (CallI.mono h (fun v2 m1 h => ?_))
  refine Wp.if_ne rfl rfl ⟨fun hc => ?_, fun hc => ?_⟩
  · replace h := h.1 hc
    refine Wp.pk 1 (pc' := 14) (lv' := [some (.ref 77), some (.int x1)]) (st' := [.ref 77]) rfl ?_
    refine Wp.getR rfl rfl sh77 rfl ?_
    refine Wp.pk 1 (pc' := 18) (lv' := [some (.ref 77), some (.int x1)]) (st' := [.int x1, .ref 79]) rfl ?_
    refine Wp.bald rfl sh79 ⟨h.1, ?_⟩
    replace h := h.2
    refine Wp.if_ne rfl rfl ⟨fun hc => ?_, fun hc => ?_⟩
    · replace h := h.1 hc
      refine Wp.pk 7 (pc' := 36) (lv' := [some (.ref 77), some (.int x1)]) (st' := [.int 0, .int (400 + (200 * x1)), .ref 77]) rfl ?_
      refine Wp.callV rfl rfl rfl (CallV.mono h (fun m3 h => ?_))
      refine Wp.pk 1 (pc' := 40) (lv' := [some (.ref 77), some (.int x1)]) (st' := [.int 1]) rfl ?_
      exact Wp.iret rfl rfl ⟨rfl, h⟩
    · replace h := h.2 hc
      refine Wp.ldc rfl rfl ?_
      exact Wp.iret rfl rfl ⟨rfl, h⟩
  · replace h := h.2 hc
    refine Wp.ldc rfl rfl ?_
    exact Wp.iret rfl rfl ⟨rfl, h⟩
