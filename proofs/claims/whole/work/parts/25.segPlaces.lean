theorem eX4_findOne_0 {X : a_X} {m : Nat → Nat → Int32} {Q : Option Value → (Nat → Nat → Int32) → Prop} {b : Nat} (hb : sBills b) {x2 : Int32} (h : ∀ m1, m1 = (a_up m 50 4 0) → CallV X mX7_lookAt [.ref 59, .ref b] m1 (fun m2 => Wp X mX4_findOne 15 [some (.ref 50), some (.ref b), some (.int x2), some (.int 0), none] [] m2 Q)) : Call X mX4_findOne [.ref 50, .ref b, .int x2] m Q := by
  unfold Call
  refine Wp.loc (lv' := [some (.ref 50), some (.ref b), some (.int x2), none, none]) rfl ?_
  refine Wp.pk 2 (pc' := 2) (lv' := [some (.ref 50), some (.ref b), some (.int x2), none, none]) (st' := [.int 0, .ref 50]) rfl ?_
  refine Wp.putN rfl rfl sh50 rfl rfl (fun m1 hm => ?_)
  replace h := h _ hm
  refine Wp.pk 1 (pc' := 6) (lv' := [some (.ref 50), some (.ref b), some (.int x2), none, none]) (st' := [.ref 50]) rfl ?_
  refine Wp.getR rfl rfl sh50 rfl ?_
  refine Wp.pk 1 (pc' := 10) (lv' := [some (.ref 50), some (.ref b), some (.int x2), none, none]) (st' := [.ref b, .ref 59]) rfl ?_
  refine Wp.callV rfl rfl rfl (CallV.mono h (fun m2 h => ?_))
  refine Wp.pk 2 (pc' := 15) (lv' := [some (.ref 50), some (.ref b), some (.int x2), some (.int 0), none]) (st' := []) rfl ?_
  exact h
theorem eX4_findOne_15 {X : a_X} {m : Nat → Nat → Int32} {Q : Option Value → (Nat → Nat → Int32) → Prop} {b : Nat} (hb : sBills b) {x2 x3 : Int32} (h : vp_in x2 12 ∧ (((m 1 1) - (m 6 (Int32.toNatClampNeg x2))) < x3 → Q none m) ∧ (¬ ((m 1 1) - (m 6 (Int32.toNatClampNeg x2))) < x3 → Wp X mX4_findOne 39 [some (.ref 50), some (.ref b), some (.int x2), some (.int x3), some (.int 0)] [] m Q)) : Wp X mX4_findOne 15 [some (.ref 50), some (.ref b), some (.int x2), some (.int x3), none] [] m Q := by
  refine Wp.pk 2 (pc' := 17) (lv' := [some (.ref 50), some (.ref b), some (.int x2), some (.int x3), none]) (st' := [.ref 50, .int x3]) rfl ?_
  refine Wp.getR rfl rfl sh50 rfl ?_
  refine Wp.getI rfl rfl sh1 rfl ?_
  refine Wp.pk 1 (pc' := 24) (lv' := [some (.ref 50), some (.ref b), some (.int x2), some (.int x3), none]) (st' := [.ref 50, .int (m 1 1), .int x3]) rfl ?_
  refine Wp.getR rfl rfl sh50 rfl ?_
  refine Wp.getR rfl rfl sh1 rfl ?_
  refine Wp.pk 1 (pc' := 31) (lv' := [some (.ref 50), some (.ref b), some (.int x2), some (.int x3), none]) (st' := [.int x2, .ref 6, .int (m 1 1), .int x3]) rfl ?_
  refine Wp.iald rfl sh6 ⟨h.1, ?_⟩
  replace h := h.2
  refine Wp.pk 1 (pc' := 33) (lv' := [some (.ref 50), some (.ref b), some (.int x2), some (.int x3), none]) (st' := [.int ((m 1 1) - (m 6 (Int32.toNatClampNeg x2))), .int x3]) rfl ?_
  refine Wp.icmp_gt rfl rfl ⟨fun hc => ?_, fun hc => ?_⟩
  · replace h := h.1 hc
    exact Wp.vret rfl rfl h
  · replace h := h.2 hc
    refine Wp.pk 2 (pc' := 39) (lv' := [some (.ref 50), some (.ref b), some (.int x2), some (.int x3), some (.int 0)]) (st' := []) rfl ?_
    exact h
theorem eX4_findOne_39 {X : a_X} {m : Nat → Nat → Int32} {Q : Option Value → (Nat → Nat → Int32) → Prop} {b : Nat} (hb : sBills b) {x2 x3 x4 : Int32} (h : vp_in x2 12 ∧ (((m 1 0) - (m 5 (Int32.toNatClampNeg x2))) < x4 → Wp X mX4_findOne 15 [some (.ref 50), some (.ref b), some (.int x2), some (.int (x3 + 1)), none] [] m Q) ∧ (¬ ((m 1 0) - (m 5 (Int32.toNatClampNeg x2))) < x4 → CallI X mX5_isBarred [.ref 1, .int x2, .int x4, .int x3] m (fun v2 m1 => (¬ v2 = 0 → Wp X mX4_findOne 39 [some (.ref 50), some (.ref b), some (.int x2), some (.int x3), some (.int (x4 + 1))] [] m1 Q) ∧ (v2 = 0 → CallV X mX7_weigh [.ref 59, .ref b, .int x2, .int x4, .int x3] m1 (fun m3 => CallI X mX4_isBetter [.ref 50, .int (m3 59 6)] m3 (fun v5 m4 => (v5 = 0 → Wp X mX4_findOne 39 [some (.ref 50), some (.ref b), some (.int x2), some (.int x3), some (.int (x4 + 1))] [] m4 Q) ∧ (¬ v5 = 0 → ∀ m6, m6 = (a_up m4 50 5 x4) → ∀ m7, m7 = (a_up m6 50 6 x3) → Wp X mX4_findOne 39 [some (.ref 50), some (.ref b), some (.int x2), some (.int x3), some (.int (x4 + 1))] [] m7 Q))))))) : Wp X mX4_findOne 39 [some (.ref 50), some (.ref b), some (.int x2), some (.int x3), some (.int x4)] [] m Q := by
  refine Wp.pk 2 (pc' := 42) (lv' := [some (.ref 50), some (.ref b), some (.int x2), some (.int x3), some (.int x4)]) (st' := [.ref 50, .int x4]) rfl ?_
  refine Wp.getR rfl rfl sh50 rfl ?_
  refine Wp.getI rfl rfl sh1 rfl ?_
  refine Wp.pk 1 (pc' := 49) (lv' := [some (.ref 50), some (.ref b), some (.int x2), some (.int x3), some (.int x4)]) (st' := [.ref 50, .int (m 1 0), .int x4]) rfl ?_
  refine Wp.getR rfl rfl sh50 rfl ?_
  refine Wp.getR rfl rfl sh1 rfl ?_
  refine Wp.pk 1 (pc' := 56) (lv' := [some (.ref 50), some (.ref b), some (.int x2), some (.int x3), some (.int x4)]) (st' := [.int x2, .ref 5, .int (m 1 0), .int x4]) rfl ?_
  refine Wp.iald rfl sh5 ⟨h.1, ?_⟩
  replace h := h.2
  refine Wp.pk 1 (pc' := 58) (lv' := [some (.ref 50), some (.ref b), some (.int x2), some (.int x3), some (.int x4)]) (st' := [.int ((m 1 0) - (m 5 (Int32.toNatClampNeg x2))), .int x4]) rfl ?_
  refine Wp.icmp_gt rfl rfl ⟨fun hc => ?_, fun hc => ?_⟩
  · replace h := h.1 hc
    refine Wp.pk 2 (pc' := 15) (lv' := [some (.ref 50), some (.ref b), some (.int x2), some (.int (x3 + 1)), some (.int x4)]) (st' := []) rfl ?_
    exact Wp.fgt (lv := [some (.ref 50), some (.ref b), some (.int x2), some (.int (x3 + 1)), none]) (a_lle.of (a_lleb_e (a_lleb_e (a_lleb_e (a_lleb_e (a_lleb_i trivial)))))) h
  · replace h := h.2 hc
    refine Wp.pk 1 (pc' := 62) (lv' := [some (.ref 50), some (.ref b), some (.int x2), some (.int x3), some (.int x4)]) (st' := [.ref 50]) rfl ?_
    refine Wp.getR rfl rfl sh50 rfl ?_
    refine Wp.pk 3 (pc' := 69) (lv' := [some (.ref 50), some (.ref b), some (.int x2), some (.int x3), some (.int x4)]) (st' := [.int x3, .int x4, .int x2, .ref 1]) rfl ?_
    refine Wp.callI rfl rfl rfl (CallI.mono h (fun v2 m1 h => ?_))
    refine Wp.if_ne rfl rfl ⟨fun hc => ?_, fun hc => ?_⟩
    · replace h := h.1 hc
      refine Wp.pk 2 (pc' := 39) (lv' := [some (.ref 50), some (.ref b), some (.int x2), some (.int x3), some (.int (x4 + 1))]) (st' := []) rfl ?_
      exact h
    · replace h := h.2 hc
      refine Wp.pk 1 (pc' := 76) (lv' := [some (.ref 50), some (.ref b), some (.int x2), some (.int x3), some (.int x4)]) (st' := [.ref 50]) rfl ?_
      refine Wp.getR rfl rfl sh50 rfl ?_
      refine Wp.pk 4 (pc' := 84) (lv' := [some (.ref 50), some (.ref b), some (.int x2), some (.int x3), some (.int x4)]) (st' := [.int x3, .int x4, .int x2, .ref b, .ref 59]) rfl ?_
      refine Wp.callV rfl rfl rfl (CallV.mono h (fun m3 h => ?_))
      refine Wp.pk 2 (pc' := 89) (lv' := [some (.ref 50), some (.ref b), some (.int x2), some (.int x3), some (.int x4)]) (st' := [.ref 50, .ref 50]) rfl ?_
      refine Wp.getR rfl rfl sh50 rfl ?_
      refine Wp.getI rfl rfl sh59 rfl ?_
      refine Wp.callI rfl rfl rfl (CallI.mono h (fun v5 m4 h => ?_))
      refine Wp.if_eq rfl rfl ⟨fun hc => ?_, fun hc => ?_⟩
      · replace h := h.1 hc
        refine Wp.pk 2 (pc' := 39) (lv' := [some (.ref 50), some (.ref b), some (.int x2), some (.int x3), some (.int (x4 + 1))]) (st' := []) rfl ?_
        exact h
      · replace h := h.2 hc
        refine Wp.pk 2 (pc' := 104) (lv' := [some (.ref 50), some (.ref b), some (.int x2), some (.int x3), some (.int x4)]) (st' := [.int x4, .ref 50]) rfl ?_
        refine Wp.putN rfl rfl sh50 rfl rfl (fun m6 hm => ?_)
        replace h := h _ hm
        refine Wp.pk 2 (pc' := 109) (lv' := [some (.ref 50), some (.ref b), some (.int x2), some (.int x3), some (.int x4)]) (st' := [.int x3, .ref 50]) rfl ?_
        refine Wp.putN rfl rfl sh50 rfl rfl (fun m7 hm => ?_)
        replace h := h _ hm
        refine Wp.pk 2 (pc' := 39) (lv' := [some (.ref 50), some (.ref b), some (.int x2), some (.int x3), some (.int (x4 + 1))]) (st' := []) rfl ?_
        exact h
theorem eX4_findTwo_0 {X : a_X} {m : Nat → Nat → Int32} {Q : Option Value → (Nat → Nat → Int32) → Prop} {x2 x3 : Int32} (h : ∀ m1, m1 = (a_up m 50 4 0) → CallV X mX7_lookAt [.ref 59, .ref 15] m1 (fun m2 => CallV X mX0_copyFrom [.ref 51, .ref 15] m2 (fun m3 => Wp X mX4_findTwo 24 [some (.ref 50), some (.ref 15), some (.int x2), some (.int x3), some (.int 0), none] [] m3 Q))) : Call X mX4_findTwo [.ref 50, .ref 15, .int x2, .int x3] m Q := by
  unfold Call
  refine Wp.loc (lv' := [some (.ref 50), some (.ref 15), some (.int x2), some (.int x3), none, none]) rfl ?_
  refine Wp.pk 2 (pc' := 2) (lv' := [some (.ref 50), some (.ref 15), some (.int x2), some (.int x3), none, none]) (st' := [.int 0, .ref 50]) rfl ?_
  refine Wp.putN rfl rfl sh50 rfl rfl (fun m1 hm => ?_)
  replace h := h _ hm
  refine Wp.pk 1 (pc' := 6) (lv' := [some (.ref 50), some (.ref 15), some (.int x2), some (.int x3), none, none]) (st' := [.ref 50]) rfl ?_
  refine Wp.getR rfl rfl sh50 rfl ?_
  refine Wp.pk 1 (pc' := 10) (lv' := [some (.ref 50), some (.ref 15), some (.int x2), some (.int x3), none, none]) (st' := [.ref 15, .ref 59]) rfl ?_
  refine Wp.callV rfl rfl rfl (CallV.mono h (fun m2 h => ?_))
  refine Wp.pk 1 (pc' := 14) (lv' := [some (.ref 50), some (.ref 15), some (.int x2), some (.int x3), none, none]) (st' := [.ref 50]) rfl ?_
  refine Wp.getR rfl rfl sh50 rfl ?_
  refine Wp.pk 1 (pc' := 18) (lv' := [some (.ref 50), some (.ref 15), some (.int x2), some (.int x3), none, none]) (st' := [.ref 15, .ref 51]) rfl ?_
  refine Wp.callV rfl rfl rfl (CallV.mono h (fun m3 h => ?_))
  refine Wp.pk 2 (pc' := 24) (lv' := [some (.ref 50), some (.ref 15), some (.int x2), some (.int x3), some (.int 0), none]) (st' := []) rfl ?_
  exact h
theorem eX4_findTwo_24 {X : a_X} {m : Nat → Nat → Int32} {Q : Option Value → (Nat → Nat → Int32) → Prop} {x2 x3 x4 : Int32} (h : vp_in x2 12 ∧ (((m 1 1) - (m 6 (Int32.toNatClampNeg x2))) < x4 → Q none m) ∧ (¬ ((m 1 1) - (m 6 (Int32.toNatClampNeg x2))) < x4 → Wp X mX4_findTwo 49 [some (.ref 50), some (.ref 15), some (.int x2), some (.int x3), some (.int x4), some (.int 0)] [] m Q)) : Wp X mX4_findTwo 24 [some (.ref 50), some (.ref 15), some (.int x2), some (.int x3), some (.int x4), none] [] m Q := by
  refine Wp.pk 2 (pc' := 27) (lv' := [some (.ref 50), some (.ref 15), some (.int x2), some (.int x3), some (.int x4), none]) (st' := [.ref 50, .int x4]) rfl ?_
  refine Wp.getR rfl rfl sh50 rfl ?_
  refine Wp.getI rfl rfl sh1 rfl ?_
  refine Wp.pk 1 (pc' := 34) (lv' := [some (.ref 50), some (.ref 15), some (.int x2), some (.int x3), some (.int x4), none]) (st' := [.ref 50, .int (m 1 1), .int x4]) rfl ?_
  refine Wp.getR rfl rfl sh50 rfl ?_
  refine Wp.getR rfl rfl sh1 rfl ?_
  refine Wp.pk 1 (pc' := 41) (lv' := [some (.ref 50), some (.ref 15), some (.int x2), some (.int x3), some (.int x4), none]) (st' := [.int x2, .ref 6, .int (m 1 1), .int x4]) rfl ?_
  refine Wp.iald rfl sh6 ⟨h.1, ?_⟩
  replace h := h.2
  refine Wp.pk 1 (pc' := 43) (lv' := [some (.ref 50), some (.ref 15), some (.int x2), some (.int x3), some (.int x4), none]) (st' := [.int ((m 1 1) - (m 6 (Int32.toNatClampNeg x2))), .int x4]) rfl ?_
  refine Wp.icmp_gt rfl rfl ⟨fun hc => ?_, fun hc => ?_⟩
  · replace h := h.1 hc
    exact Wp.vret rfl rfl h
  · replace h := h.2 hc
    refine Wp.pk 2 (pc' := 49) (lv' := [some (.ref 50), some (.ref 15), some (.int x2), some (.int x3), some (.int x4), some (.int 0)]) (st' := []) rfl ?_
    exact h
theorem eX4_findTwo_49 {X : a_X} {m : Nat → Nat → Int32} {Q : Option Value → (Nat → Nat → Int32) → Prop} {x2 x3 x4 x5 : Int32} (h : vp_in x2 12 ∧ (((m 1 0) - (m 5 (Int32.toNatClampNeg x2))) < x5 → Wp X mX4_findTwo 24 [some (.ref 50), some (.ref 15), some (.int x2), some (.int x3), some (.int (x4 + 1)), none] [] m Q) ∧ (¬ ((m 1 0) - (m 5 (Int32.toNatClampNeg x2))) < x5 → CallI X mX5_isBarred [.ref 1, .int x2, .int x5, .int x4] m (fun v2 m1 => (¬ v2 = 0 → Wp X mX4_findTwo 49 [some (.ref 50), some (.ref 15), some (.int x2), some (.int x3), some (.int x4), some (.int (x5 + 1))] [] m1 Q) ∧ (v2 = 0 → CallV X mX7_weigh [.ref 59, .ref 15, .int x2, .int x5, .int x4] m1 (fun m3 => CallV X mX0_hang [.ref 51, .int x2, .int x5, .int x4] m3 (fun m4 => CallV X mX4_findSecond [.ref 50, .int x5, .int x4, .int (m4 59 6), .int x3] m4 (fun m5 => CallV X mX0_undoHang [.ref 51] m5 (fun m6 => Wp X mX4_findTwo 49 [some (.ref 50), some (.ref 15), some (.int x2), some (.int x3), some (.int x4), some (.int (x5 + 1))] [] m6 Q)))))))) : Wp X mX4_findTwo 49 [some (.ref 50), some (.ref 15), some (.int x2), some (.int x3), some (.int x4), some (.int x5)] [] m Q := by
  refine Wp.pk 2 (pc' := 52) (lv' := [some (.ref 50), some (.ref 15), some (.int x2), some (.int x3), some (.int x4), some (.int x5)]) (st' := [.ref 50, .int x5]) rfl ?_
  refine Wp.getR rfl rfl sh50 rfl ?_
  refine Wp.getI rfl rfl sh1 rfl ?_
  refine Wp.pk 1 (pc' := 59) (lv' := [some (.ref 50), some (.ref 15), some (.int x2), some (.int x3), some (.int x4), some (.int x5)]) (st' := [.ref 50, .int (m 1 0), .int x5]) rfl ?_
  refine Wp.getR rfl rfl sh50 rfl ?_
  refine Wp.getR rfl rfl sh1 rfl ?_
  refine Wp.pk 1 (pc' := 66) (lv' := [some (.ref 50), some (.ref 15), some (.int x2), some (.int x3), some (.int x4), some (.int x5)]) (st' := [.int x2, .ref 5, .int (m 1 0), .int x5]) rfl ?_
  refine Wp.iald rfl sh5 ⟨h.1, ?_⟩
  replace h := h.2
  refine Wp.pk 1 (pc' := 68) (lv' := [some (.ref 50), some (.ref 15), some (.int x2), some (.int x3), some (.int x4), some (.int x5)]) (st' := [.int ((m 1 0) - (m 5 (Int32.toNatClampNeg x2))), .int x5]) rfl ?_
  refine Wp.icmp_gt rfl rfl ⟨fun hc => ?_, fun hc => ?_⟩
  · replace h := h.1 hc
    refine Wp.pk 2 (pc' := 24) (lv' := [some (.ref 50), some (.ref 15), some (.int x2), some (.int x3), some (.int (x4 + 1)), some (.int x5)]) (st' := []) rfl ?_
    exact Wp.fgt (lv := [some (.ref 50), some (.ref 15), some (.int x2), some (.int x3), some (.int (x4 + 1)), none]) (a_lle.of (a_lleb_e (a_lleb_e (a_lleb_e (a_lleb_e (a_lleb_e (a_lleb_i trivial))))))) h
  · replace h := h.2 hc
    refine Wp.pk 1 (pc' := 72) (lv' := [some (.ref 50), some (.ref 15), some (.int x2), some (.int x3), some (.int x4), some (.int x5)]) (st' := [.ref 50]) rfl ?_
    refine Wp.getR rfl rfl sh50 rfl ?_
    refine Wp.pk 3 (pc' := 80) (lv' := [some (.ref 50), some (.ref 15), some (.int x2), some (.int x3), some (.int x4), some (.int x5)]) (st' := [.int x4, .int x5, .int x2, .ref 1]) rfl ?_
    refine Wp.callI rfl rfl rfl (CallI.mono h (fun v2 m1 h => ?_))
    refine Wp.if_ne rfl rfl ⟨fun hc => ?_, fun hc => ?_⟩
    · replace h := h.1 hc
      refine Wp.pk 2 (pc' := 49) (lv' := [some (.ref 50), some (.ref 15), some (.int x2), some (.int x3), some (.int x4), some (.int (x5 + 1))]) (st' := []) rfl ?_
      exact h
    · replace h := h.2 hc
      refine Wp.pk 1 (pc' := 87) (lv' := [some (.ref 50), some (.ref 15), some (.int x2), some (.int x3), some (.int x4), some (.int x5)]) (st' := [.ref 50]) rfl ?_
      refine Wp.getR rfl rfl sh50 rfl ?_
      refine Wp.pk 4 (pc' := 96) (lv' := [some (.ref 50), some (.ref 15), some (.int x2), some (.int x3), some (.int x4), some (.int x5)]) (st' := [.int x4, .int x5, .int x2, .ref 15, .ref 59]) rfl ?_
      refine Wp.callV rfl rfl rfl (CallV.mono h (fun m3 h => ?_))
      refine Wp.pk 1 (pc' := 100) (lv' := [some (.ref 50), some (.ref 15), some (.int x2), some (.int x3), some (.int x4), some (.int x5)]) (st' := [.ref 50]) rfl ?_
      refine Wp.getR rfl rfl sh50 rfl ?_
      refine Wp.pk 3 (pc' := 108) (lv' := [some (.ref 50), some (.ref 15), some (.int x2), some (.int x3), some (.int x4), some (.int x5)]) (st' := [.int x4, .int x5, .int x2, .ref 51]) rfl ?_
      refine Wp.callV rfl rfl rfl (CallV.mono h (fun m4 h => ?_))
      refine Wp.pk 4 (pc' := 117) (lv' := [some (.ref 50), some (.ref 15), some (.int x2), some (.int x3), some (.int x4), some (.int x5)]) (st' := [.ref 50, .int x4, .int x5, .ref 50]) rfl ?_
      refine Wp.getR rfl rfl sh50 rfl ?_
      refine Wp.getI rfl rfl sh59 rfl ?_
      refine Wp.pk 1 (pc' := 124) (lv' := [some (.ref 50), some (.ref 15), some (.int x2), some (.int x3), some (.int x4), some (.int x5)]) (st' := [.int x3, .int (m4 59 6), .int x4, .int x5, .ref 50]) rfl ?_
      refine Wp.callV rfl rfl rfl (CallV.mono h (fun m5 h => ?_))
      refine Wp.pk 1 (pc' := 128) (lv' := [some (.ref 50), some (.ref 15), some (.int x2), some (.int x3), some (.int x4), some (.int x5)]) (st' := [.ref 50]) rfl ?_
      refine Wp.getR rfl rfl sh50 rfl ?_
      refine Wp.callV rfl rfl rfl (CallV.mono h (fun m6 h => ?_))
      refine Wp.pk 2 (pc' := 49) (lv' := [some (.ref 50), some (.ref 15), some (.int x2), some (.int x3), some (.int x4), some (.int (x5 + 1))]) (st' := []) rfl ?_
      exact h
theorem eX4_findSecond_0 {X : a_X} {m : Nat → Nat → Int32} {Q : Option Value → (Nat → Nat → Int32) → Prop} {x1 x2 x3 x4 : Int32} (h : CallV X mX7_lookAt [.ref 65, .ref 51] m (fun m1 => Wp X mX4_findSecond 14 [some (.ref 50), some (.int x1), some (.int x2), some (.int x3), some (.int x4), some (.int 0), none, none] [] m1 Q)) : Call X mX4_findSecond [.ref 50, .int x1, .int x2, .int x3, .int x4] m Q := by
  unfold Call
  refine Wp.loc (lv' := [some (.ref 50), some (.int x1), some (.int x2), some (.int x3), some (.int x4), none, none, none]) rfl ?_
  refine Wp.pk 1 (pc' := 1) (lv' := [some (.ref 50), some (.int x1), some (.int x2), some (.int x3), some (.int x4), none, none, none]) (st' := [.ref 50]) rfl ?_
  refine Wp.getR rfl rfl sh50 rfl ?_
  refine Wp.pk 1 (pc' := 5) (lv' := [some (.ref 50), some (.int x1), some (.int x2), some (.int x3), some (.int x4), none, none, none]) (st' := [.ref 50, .ref 65]) rfl ?_
  refine Wp.getR rfl rfl sh50 rfl ?_
  refine Wp.callV rfl rfl rfl (CallV.mono h (fun m1 h => ?_))
  refine Wp.pk 2 (pc' := 14) (lv' := [some (.ref 50), some (.int x1), some (.int x2), some (.int x3), some (.int x4), some (.int 0), none, none]) (st' := []) rfl ?_
  exact h
theorem eX4_findSecond_14 {X : a_X} {m : Nat → Nat → Int32} {Q : Option Value → (Nat → Nat → Int32) → Prop} {x1 x2 x3 x4 x5 : Int32} (h : vp_in x4 12 ∧ (((m 1 1) - (m 6 (Int32.toNatClampNeg x4))) < x5 → Q none m) ∧ (¬ ((m 1 1) - (m 6 (Int32.toNatClampNeg x4))) < x5 → Wp X mX4_findSecond 40 [some (.ref 50), some (.int x1), some (.int x2), some (.int x3), some (.int x4), some (.int x5), some (.int 0), none] [] m Q)) : Wp X mX4_findSecond 14 [some (.ref 50), some (.int x1), some (.int x2), some (.int x3), some (.int x4), some (.int x5), none, none] [] m Q := by
  refine Wp.pk 2 (pc' := 17) (lv' := [some (.ref 50), some (.int x1), some (.int x2), some (.int x3), some (.int x4), some (.int x5), none, none]) (st' := [.ref 50, .int x5]) rfl ?_
  refine Wp.getR rfl rfl sh50 rfl ?_
  refine Wp.getI rfl rfl sh1 rfl ?_
  refine Wp.pk 1 (pc' := 24) (lv' := [some (.ref 50), some (.int x1), some (.int x2), some (.int x3), some (.int x4), some (.int x5), none, none]) (st' := [.ref 50, .int (m 1 1), .int x5]) rfl ?_
  refine Wp.getR rfl rfl sh50 rfl ?_
  refine Wp.getR rfl rfl sh1 rfl ?_
  refine Wp.pk 1 (pc' := 32) (lv' := [some (.ref 50), some (.int x1), some (.int x2), some (.int x3), some (.int x4), some (.int x5), none, none]) (st' := [.int x4, .ref 6, .int (m 1 1), .int x5]) rfl ?_
  refine Wp.iald rfl sh6 ⟨h.1, ?_⟩
  replace h := h.2
  refine Wp.pk 1 (pc' := 34) (lv' := [some (.ref 50), some (.int x1), some (.int x2), some (.int x3), some (.int x4), some (.int x5), none, none]) (st' := [.int ((m 1 1) - (m 6 (Int32.toNatClampNeg x4))), .int x5]) rfl ?_
  refine Wp.icmp_gt rfl rfl ⟨fun hc => ?_, fun hc => ?_⟩
  · replace h := h.1 hc
    exact Wp.vret rfl rfl h
  · replace h := h.2 hc
    refine Wp.pk 2 (pc' := 40) (lv' := [some (.ref 50), some (.int x1), some (.int x2), some (.int x3), some (.int x4), some (.int x5), some (.int 0), none]) (st' := []) rfl ?_
    exact h
theorem eX4_findSecond_40 {X : a_X} {m : Nat → Nat → Int32} {Q : Option Value → (Nat → Nat → Int32) → Prop} {x1 x2 x3 x4 x5 x6 : Int32} (h : vp_in x4 12 ∧ (((m 1 0) - (m 5 (Int32.toNatClampNeg x4))) < x6 → Wp X mX4_findSecond 14 [some (.ref 50), some (.int x1), some (.int x2), some (.int x3), some (.int x4), some (.int (x5 + 1)), none, none] [] m Q) ∧ (¬ ((m 1 0) - (m 5 (Int32.toNatClampNeg x4))) < x6 → ((m 50 4) = 0 → CallI X mX5_isBarred [.ref 1, .int x4, .int x6, .int x5] m (fun v2 m1 => (¬ v2 = 0 → Wp X mX4_findSecond 40 [some (.ref 50), some (.int x1), some (.int x2), some (.int x3), some (.int x4), some (.int x5), some (.int (x6 + 1)), none] [] m1 Q) ∧ (v2 = 0 → CallV X mX7_weigh [.ref 65, .ref 51, .int x4, .int x6, .int x5] m1 (fun m3 => CallI X mX4_isBetter [.ref 50, .int (x3 + (m3 65 6))] m3 (fun v5 m4 => (v5 = 0 → Wp X mX4_findSecond 40 [some (.ref 50), some (.int x1), some (.int x2), some (.int x3), some (.int x4), some (.int x5), some (.int (x6 + 1)), none] [] m4 Q) ∧ (¬ v5 = 0 → ∀ m6, m6 = (a_up m4 50 5 x1) → ∀ m7, m7 = (a_up m6 50 6 x2) → ∀ m8, m8 = (a_up m7 50 7 x6) → ∀ m9, m9 = (a_up m8 50 8 x5) → Wp X mX4_findSecond 40 [some (.ref 50), some (.int x1), some (.int x2), some (.int x3), some (.int x4), some (.int x5), some (.int (x6 + 1)), none] [] m9 Q)))))) ∧ (¬ (m 50 4) = 0 → CallI X mX5_passersOf [.ref 1, .int x4, .int x6] m (fun v11 m10 => ((x3 + v11) ≤ (m10 50 9) → Wp X mX4_findSecond 40 [some (.ref 50), some (.int x1), some (.int x2), some (.int x3), some (.int x4), some (.int x5), some (.int (x6 + 1)), none] [] m10 Q) ∧ (¬ (x3 + v11) ≤ (m10 50 9) → CallI X mX5_isBarred [.ref 1, .int x4, .int x6, .int x5] m10 (fun v13 m12 => (¬ v13 = 0 → Wp X mX4_findSecond 40 [some (.ref 50), some (.int x1), some (.int x2), some (.int x3), some (.int x4), some (.int x5), some (.int (x6 + 1)), none] [] m12 Q) ∧ (v13 = 0 → CallV X mX7_weigh [.ref 65, .ref 51, .int x4, .int x6, .int x5] m12 (fun m14 => CallI X mX4_isBetter [.ref 50, .int (x3 + (m14 65 6))] m14 (fun v16 m15 => (v16 = 0 → Wp X mX4_findSecond 40 [some (.ref 50), some (.int x1), some (.int x2), some (.int x3), some (.int x4), some (.int x5), some (.int (x6 + 1)), none] [] m15 Q) ∧ (¬ v16 = 0 → ∀ m17, m17 = (a_up m15 50 5 x1) → ∀ m18, m18 = (a_up m17 50 6 x2) → ∀ m19, m19 = (a_up m18 50 7 x6) → ∀ m20, m20 = (a_up m19 50 8 x5) → Wp X mX4_findSecond 40 [some (.ref 50), some (.int x1), some (.int x2), some (.int x3), some (.int x4), some (.int x5), some (.int (x6 + 1)), none] [] m20 Q)))))))))) : Wp X mX4_findSecond 40 [some (.ref 50), some (.int x1), some (.int x2), some (.int x3), some (.int x4), some (.int x5), some (.int x6), none] [] m Q := by
  refine Wp.pk 2 (pc' := 43) (lv' := [some (.ref 50), some (.int x1), some (.int x2), some (.int x3), some (.int x4), some (.int x5), some (.int x6), none]) (st' := [.ref 50, .int x6]) rfl ?_
  refine Wp.getR rfl rfl sh50 rfl ?_
  refine Wp.getI rfl rfl sh1 rfl ?_
  refine Wp.pk 1 (pc' := 50) (lv' := [some (.ref 50), some (.int x1), some (.int x2), some (.int x3), some (.int x4), some (.int x5), some (.int x6), none]) (st' := [.ref 50, .int (m 1 0), .int x6]) rfl ?_
  refine Wp.getR rfl rfl sh50 rfl ?_
  refine Wp.getR rfl rfl sh1 rfl ?_
  refine Wp.pk 1 (pc' := 58) (lv' := [some (.ref 50), some (.int x1), some (.int x2), some (.int x3), some (.int x4), some (.int x5), some (.int x6), none]) (st' := [.int x4, .ref 5, .int (m 1 0), .int x6]) rfl ?_
  refine Wp.iald rfl sh5 ⟨h.1, ?_⟩
  replace h := h.2
  refine Wp.pk 1 (pc' := 60) (lv' := [some (.ref 50), some (.int x1), some (.int x2), some (.int x3), some (.int x4), some (.int x5), some (.int x6), none]) (st' := [.int ((m 1 0) - (m 5 (Int32.toNatClampNeg x4))), .int x6]) rfl ?_
  refine Wp.icmp_gt rfl rfl ⟨fun hc => ?_, fun hc => ?_⟩
  · replace h := h.1 hc
    refine Wp.pk 2 (pc' := 14) (lv' := [some (.ref 50), some (.int x1), some (.int x2), some (.int x3), some (.int x4), some (.int (x5 + 1)), some (.int x6), none]) (st' := []) rfl ?_
    exact Wp.fgt (lv := [some (.ref 50), some (.int x1), some (.int x2), some (.int x3), some (.int x4), some (.int (x5 + 1)), none, none]) (a_lle.of (a_lleb_e (a_lleb_e (a_lleb_e (a_lleb_e (a_lleb_e (a_lleb_e (a_lleb_i (a_lleb_e trivial))))))))) h
  · replace h := h.2 hc
    refine Wp.pk 1 (pc' := 64) (lv' := [some (.ref 50), some (.int x1), some (.int x2), some (.int x3), some (.int x4), some (.int x5), some (.int x6), none]) (st' := [.ref 50]) rfl ?_
    refine Wp.getI rfl rfl sh50 rfl ?_
    refine Wp.if_eq rfl rfl ⟨fun hc => ?_, fun hc => ?_⟩
    · replace h := h.1 hc
      refine Wp.pk 6 (pc' := 103) (lv' := [some (.ref 50), some (.int x1), some (.int x2), some (.int x3), some (.int x4), some (.int x5), some (.int x6), some (.int 1)]) (st' := [.ref 50]) rfl ?_
      refine Wp.getR rfl rfl sh50 rfl ?_
      refine Wp.pk 3 (pc' := 112) (lv' := [some (.ref 50), some (.int x1), some (.int x2), some (.int x3), some (.int x4), some (.int x5), some (.int x6), some (.int 1)]) (st' := [.int x5, .int x6, .int x4, .ref 1]) rfl ?_
      refine Wp.callI rfl rfl rfl (CallI.mono h (fun v2 m1 h => ?_))
      refine Wp.if_ne rfl rfl ⟨fun hc => ?_, fun hc => ?_⟩
      · replace h := h.1 hc
        refine Wp.pk 2 (pc' := 40) (lv' := [some (.ref 50), some (.int x1), some (.int x2), some (.int x3), some (.int x4), some (.int x5), some (.int (x6 + 1)), some (.int 1)]) (st' := []) rfl ?_
        exact Wp.fgt (lv := [some (.ref 50), some (.int x1), some (.int x2), some (.int x3), some (.int x4), some (.int x5), some (.int (x6 + 1)), none]) (a_lle.of (a_lleb_e (a_lleb_e (a_lleb_e (a_lleb_e (a_lleb_e (a_lleb_e (a_lleb_e (a_lleb_i trivial))))))))) h
      · replace h := h.2 hc
        refine Wp.pk 1 (pc' := 119) (lv' := [some (.ref 50), some (.int x1), some (.int x2), some (.int x3), some (.int x4), some (.int x5), some (.int x6), some (.int 1)]) (st' := [.ref 50]) rfl ?_
        refine Wp.getR rfl rfl sh50 rfl ?_
        refine Wp.pk 1 (pc' := 123) (lv' := [some (.ref 50), some (.int x1), some (.int x2), some (.int x3), some (.int x4), some (.int x5), some (.int x6), some (.int 1)]) (st' := [.ref 50, .ref 65]) rfl ?_
        refine Wp.getR rfl rfl sh50 rfl ?_
        refine Wp.pk 3 (pc' := 132) (lv' := [some (.ref 50), some (.int x1), some (.int x2), some (.int x3), some (.int x4), some (.int x5), some (.int x6), some (.int 1)]) (st' := [.int x5, .int x6, .int x4, .ref 51, .ref 65]) rfl ?_
        refine Wp.callV rfl rfl rfl (CallV.mono h (fun m3 h => ?_))
        refine Wp.pk 3 (pc' := 138) (lv' := [some (.ref 50), some (.int x1), some (.int x2), some (.int x3), some (.int x4), some (.int x5), some (.int x6), some (.int 1)]) (st' := [.ref 50, .int x3, .ref 50]) rfl ?_
        refine Wp.getR rfl rfl sh50 rfl ?_
        refine Wp.getI rfl rfl sh65 rfl ?_
        refine Wp.pk 1 (pc' := 145) (lv' := [some (.ref 50), some (.int x1), some (.int x2), some (.int x3), some (.int x4), some (.int x5), some (.int x6), some (.int 1)]) (st' := [.int (x3 + (m3 65 6)), .ref 50]) rfl ?_
        refine Wp.callI rfl rfl rfl (CallI.mono h (fun v5 m4 h => ?_))
        refine Wp.if_eq rfl rfl ⟨fun hc => ?_, fun hc => ?_⟩
        · replace h := h.1 hc
          refine Wp.pk 2 (pc' := 40) (lv' := [some (.ref 50), some (.int x1), some (.int x2), some (.int x3), some (.int x4), some (.int x5), some (.int (x6 + 1)), some (.int 1)]) (st' := []) rfl ?_
          exact Wp.fgt (lv := [some (.ref 50), some (.int x1), some (.int x2), some (.int x3), some (.int x4), some (.int x5), some (.int (x6 + 1)), none]) (a_lle.of (a_lleb_e (a_lleb_e (a_lleb_e (a_lleb_e (a_lleb_e (a_lleb_e (a_lleb_e (a_lleb_i trivial))))))))) h
        · replace h := h.2 hc
          refine Wp.pk 2 (pc' := 153) (lv' := [some (.ref 50), some (.int x1), some (.int x2), some (.int x3), some (.int x4), some (.int x5), some (.int x6), some (.int 1)]) (st' := [.int x1, .ref 50]) rfl ?_
          refine Wp.putN rfl rfl sh50 rfl rfl (fun m6 hm => ?_)
          replace h := h _ hm
          refine Wp.pk 2 (pc' := 158) (lv' := [some (.ref 50), some (.int x1), some (.int x2), some (.int x3), some (.int x4), some (.int x5), some (.int x6), some (.int 1)]) (st' := [.int x2, .ref 50]) rfl ?_
          refine Wp.putN rfl rfl sh50 rfl rfl (fun m7 hm => ?_)
          replace h := h _ hm
          refine Wp.pk 2 (pc' := 164) (lv' := [some (.ref 50), some (.int x1), some (.int x2), some (.int x3), some (.int x4), some (.int x5), some (.int x6), some (.int 1)]) (st' := [.int x6, .ref 50]) rfl ?_
          refine Wp.putN rfl rfl sh50 rfl rfl (fun m8 hm => ?_)
          replace h := h _ hm
          refine Wp.pk 2 (pc' := 170) (lv' := [some (.ref 50), some (.int x1), some (.int x2), some (.int x3), some (.int x4), some (.int x5), some (.int x6), some (.int 1)]) (st' := [.int x5, .ref 50]) rfl ?_
          refine Wp.putN rfl rfl sh50 rfl rfl (fun m9 hm => ?_)
          replace h := h _ hm
          refine Wp.pk 2 (pc' := 40) (lv' := [some (.ref 50), some (.int x1), some (.int x2), some (.int x3), some (.int x4), some (.int x5), some (.int (x6 + 1)), some (.int 1)]) (st' := []) rfl ?_
          exact Wp.fgt (lv := [some (.ref 50), some (.int x1), some (.int x2), some (.int x3), some (.int x4), some (.int x5), some (.int (x6 + 1)), none]) (a_lle.of (a_lleb_e (a_lleb_e (a_lleb_e (a_lleb_e (a_lleb_e (a_lleb_e (a_lleb_e (a_lleb_i trivial))))))))) h
    · replace h := h.2 hc
      refine Wp.pk 2 (pc' := 72) (lv' := [some (.ref 50), some (.int x1), some (.int x2), some (.int x3), some (.int x4), some (.int x5), some (.int x6), none]) (st' := [.ref 50, .int x3]) rfl ?_
      refine Wp.getR rfl rfl sh50 rfl ?_
      refine Wp.pk 2 (pc' := 79) (lv' := [some (.ref 50), some (.int x1), some (.int x2), some (.int x3), some (.int x4), some (.int x5), some (.int x6), none]) (st' := [.int x6, .int x4, .ref 1, .int x3]) rfl ?_
      refine Wp.callI rfl rfl rfl (CallI.mono h (fun v11 m10 h => ?_))
      refine Wp.pk 2 (pc' := 84) (lv' := [some (.ref 50), some (.int x1), some (.int x2), some (.int x3), some (.int x4), some (.int x5), some (.int x6), none]) (st' := [.ref 50, .int (x3 + v11)]) rfl ?_
      refine Wp.getI rfl rfl sh50 rfl ?_
      refine Wp.icmp_le rfl rfl ⟨fun hc => ?_, fun hc => ?_⟩
      · replace h := h.1 hc
        refine Wp.pk 6 (pc' := 40) (lv' := [some (.ref 50), some (.int x1), some (.int x2), some (.int x3), some (.int x4), some (.int x5), some (.int (x6 + 1)), some (.int 0)]) (st' := []) rfl ?_
        exact Wp.fgt (lv := [some (.ref 50), some (.int x1), some (.int x2), some (.int x3), some (.int x4), some (.int x5), some (.int (x6 + 1)), none]) (a_lle.of (a_lleb_e (a_lleb_e (a_lleb_e (a_lleb_e (a_lleb_e (a_lleb_e (a_lleb_e (a_lleb_i trivial))))))))) h
      · replace h := h.2 hc
        refine Wp.pk 6 (pc' := 103) (lv' := [some (.ref 50), some (.int x1), some (.int x2), some (.int x3), some (.int x4), some (.int x5), some (.int x6), some (.int 1)]) (st' := [.ref 50]) rfl ?_
        refine Wp.getR rfl rfl sh50 rfl ?_
        refine Wp.pk 3 (pc' := 112) (lv' := [some (.ref 50), some (.int x1), some (.int x2), some (.int x3), some (.int x4), some (.int x5), some (.int x6), some (.int 1)]) (st' := [.int x5, .int x6, .int x4, .ref 1]) rfl ?_
        refine Wp.callI rfl rfl rfl (CallI.mono h (fun v13 m12 h => ?_))
        refine Wp.if_ne rfl rfl ⟨fun hc => ?_, fun hc => ?_⟩
        · replace h := h.1 hc
          refine Wp.pk 2 (pc' := 40) (lv' := [some (.ref 50), some (.int x1), some (.int x2), some (.int x3), some (.int x4), some (.int x5), some (.int (x6 + 1)), some (.int 1)]) (st' := []) rfl ?_
          exact Wp.fgt (lv := [some (.ref 50), some (.int x1), some (.int x2), some (.int x3), some (.int x4), some (.int x5), some (.int (x6 + 1)), none]) (a_lle.of (a_lleb_e (a_lleb_e (a_lleb_e (a_lleb_e (a_lleb_e (a_lleb_e (a_lleb_e (a_lleb_i trivial))))))))) h
        · replace h := h.2 hc
          refine Wp.pk 1 (pc' := 119) (lv' := [some (.ref 50), some (.int x1), some (.int x2), some (.int x3), some (.int x4), some (.int x5), some (.int x6), some (.int 1)]) (st' := [.ref 50]) rfl ?_
          refine Wp.getR rfl rfl sh50 rfl ?_
          refine Wp.pk 1 (pc' := 123) (lv' := [some (.ref 50), some (.int x1), some (.int x2), some (.int x3), some (.int x4), some (.int x5), some (.int x6), some (.int 1)]) (st' := [.ref 50, .ref 65]) rfl ?_
          refine Wp.getR rfl rfl sh50 rfl ?_
          refine Wp.pk 3 (pc' := 132) (lv' := [some (.ref 50), some (.int x1), some (.int x2), some (.int x3), some (.int x4), some (.int x5), some (.int x6), some (.int 1)]) (st' := [.int x5, .int x6, .int x4, .ref 51, .ref 65]) rfl ?_
          refine Wp.callV rfl rfl rfl (CallV.mono h (fun m14 h => ?_))
          refine Wp.pk 3 (pc' := 138) (lv' := [some (.ref 50), some (.int x1), some (.int x2), some (.int x3), some (.int x4), some (.int x5), some (.int x6), some (.int 1)]) (st' := [.ref 50, .int x3, .ref 50]) rfl ?_
          refine Wp.getR rfl rfl sh50 rfl ?_
          refine Wp.getI rfl rfl sh65 rfl ?_
          refine Wp.pk 1 (pc' := 145) (lv' := [some (.ref 50), some (.int x1), some (.int x2), some (.int x3), some (.int x4), some (.int x5), some (.int x6), some (.int 1)]) (st' := [.int (x3 + (m14 65 6)), .ref 50]) rfl ?_
          refine Wp.callI rfl rfl rfl (CallI.mono h (fun v16 m15 h => ?_))
          refine Wp.if_eq rfl rfl ⟨fun hc => ?_, fun hc => ?_⟩
          · replace h := h.1 hc
            refine Wp.pk 2 (pc' := 40) (lv' := [some (.ref 50), some (.int x1), some (.int x2), some (.int x3), some (.int x4), some (.int x5), some (.int (x6 + 1)), some (.int 1)]) (st' := []) rfl ?_
            exact Wp.fgt (lv := [some (.ref 50), some (.int x1), some (.int x2), some (.int x3), some (.int x4), some (.int x5), some (.int (x6 + 1)), none]) (a_lle.of (a_lleb_e (a_lleb_e (a_lleb_e (a_lleb_e (a_lleb_e (a_lleb_e (a_lleb_e (a_lleb_i trivial))))))))) h
          · replace h := h.2 hc
            refine Wp.pk 2 (pc' := 153) (lv' := [some (.ref 50), some (.int x1), some (.int x2), some (.int x3), some (.int x4), some (.int x5), some (.int x6), some (.int 1)]) (st' := [.int x1, .ref 50]) rfl ?_
            refine Wp.putN rfl rfl sh50 rfl rfl (fun m17 hm => ?_)
            replace h := h _ hm
            refine Wp.pk 2 (pc' := 158) (lv' := [some (.ref 50), some (.int x1), some (.int x2), some (.int x3), some (.int x4), some (.int x5), some (.int x6), some (.int 1)]) (st' := [.int x2, .ref 50]) rfl ?_
            refine Wp.putN rfl rfl sh50 rfl rfl (fun m18 hm => ?_)
            replace h := h _ hm
            refine Wp.pk 2 (pc' := 164) (lv' := [some (.ref 50), some (.int x1), some (.int x2), some (.int x3), some (.int x4), some (.int x5), some (.int x6), some (.int 1)]) (st' := [.int x6, .ref 50]) rfl ?_
            refine Wp.putN rfl rfl sh50 rfl rfl (fun m19 hm => ?_)
            replace h := h _ hm
            refine Wp.pk 2 (pc' := 170) (lv' := [some (.ref 50), some (.int x1), some (.int x2), some (.int x3), some (.int x4), some (.int x5), some (.int x6), some (.int 1)]) (st' := [.int x5, .ref 50]) rfl ?_
            refine Wp.putN rfl rfl sh50 rfl rfl (fun m20 hm => ?_)
            replace h := h _ hm
            refine Wp.pk 2 (pc' := 40) (lv' := [some (.ref 50), some (.int x1), some (.int x2), some (.int x3), some (.int x4), some (.int x5), some (.int (x6 + 1)), some (.int 1)]) (st' := []) rfl ?_
            exact Wp.fgt (lv := [some (.ref 50), some (.int x1), some (.int x2), some (.int x3), some (.int x4), some (.int x5), some (.int (x6 + 1)), none]) (a_lle.of (a_lleb_e (a_lleb_e (a_lleb_e (a_lleb_e (a_lleb_e (a_lleb_e (a_lleb_e (a_lleb_i trivial))))))))) h
theorem eX4_isBetter_0 {X : a_X} {m : Nat → Nat → Int32} {Q : Option Value → (Nat → Nat → Int32) → Prop} {x1 : Int32} (h : ((m 50 4) = 0 → ∀ m1, m1 = (a_up m 50 4 1) → ∀ m2, m2 = (a_up m1 50 9 x1) → Q (some (.int 1)) m2) ∧ (¬ (m 50 4) = 0 → ((m 50 9) < x1 → ∀ m3, m3 = (a_up m 50 4 1) → ∀ m4, m4 = (a_up m3 50 9 x1) → Q (some (.int 1)) m4) ∧ (¬ (m 50 9) < x1 → Q (some (.int 0)) m))) : Call X mX4_isBetter [.ref 50, .int x1] m Q := by
  unfold Call
  refine Wp.loc (lv' := [some (.ref 50), some (.int x1)]) rfl ?_
  refine Wp.pk 1 (pc' := 1) (lv' := [some (.ref 50), some (.int x1)]) (st' := [.ref 50]) rfl ?_
  refine Wp.getI rfl rfl sh50 rfl ?_
  refine Wp.if_eq rfl rfl ⟨fun hc => ?_, fun hc => ?_⟩
  · replace h := h.1 hc
    refine Wp.pk 2 (pc' := 19) (lv' := [some (.ref 50), some (.int x1)]) (st' := [.int 1, .ref 50]) rfl ?_
    refine Wp.putN rfl rfl sh50 rfl rfl (fun m1 hm => ?_)
    replace h := h _ hm
    refine Wp.pk 2 (pc' := 24) (lv' := [some (.ref 50), some (.int x1)]) (st' := [.int x1, .ref 50]) rfl ?_
    refine Wp.putN rfl rfl sh50 rfl rfl (fun m2 hm => ?_)
    replace h := h _ hm
    refine Wp.pk 1 (pc' := 28) (lv' := [some (.ref 50), some (.int x1)]) (st' := [.int 1]) rfl ?_
    exact Wp.iret rfl rfl ⟨rfl, h⟩
  · replace h := h.2 hc
    refine Wp.pk 2 (pc' := 9) (lv' := [some (.ref 50), some (.int x1)]) (st' := [.ref 50, .int x1]) rfl ?_
    refine Wp.getI rfl rfl sh50 rfl ?_
    refine Wp.icmp_gt rfl rfl ⟨fun hc => ?_, fun hc => ?_⟩
    · replace h := h.1 hc
      refine Wp.pk 2 (pc' := 19) (lv' := [some (.ref 50), some (.int x1)]) (st' := [.int 1, .ref 50]) rfl ?_
      refine Wp.putN rfl rfl sh50 rfl rfl (fun m3 hm => ?_)
      replace h := h _ hm
      refine Wp.pk 2 (pc' := 24) (lv' := [some (.ref 50), some (.int x1)]) (st' := [.int x1, .ref 50]) rfl ?_
      refine Wp.putN rfl rfl sh50 rfl rfl (fun m4 hm => ?_)
      replace h := h _ hm
      refine Wp.pk 1 (pc' := 28) (lv' := [some (.ref 50), some (.int x1)]) (st' := [.int 1]) rfl ?_
      exact Wp.iret rfl rfl ⟨rfl, h⟩
    · replace h := h.2 hc
      refine Wp.pk 1 (pc' := 16) (lv' := [some (.ref 50), some (.int x1)]) (st' := [.int 0]) rfl ?_
      exact Wp.iret rfl rfl ⟨rfl, h⟩
theorem eX4_compete_0 {X : a_X} {m : Nat → Nat → Int32} {Q : Option Value → (Nat → Nat → Int32) → Prop} {x2 x3 x4 : Int32} (h : CallV X mX0_copyFrom [.ref 51, .ref 15] m (fun m1 => ∀ m2, m2 = (a_up m1 50 10 0) → Wp X mX4_compete 16 [some (.ref 50), some (.ref 15), some (.int x2), some (.int x3), some (.int x4), some (.int 0)] [] m2 Q)) : Call X mX4_compete [.ref 50, .ref 15, .int x2, .int x3, .int x4] m Q := by
  unfold Call
  refine Wp.loc (lv' := [some (.ref 50), some (.ref 15), some (.int x2), some (.int x3), some (.int x4), none]) rfl ?_
  refine Wp.pk 1 (pc' := 1) (lv' := [some (.ref 50), some (.ref 15), some (.int x2), some (.int x3), some (.int x4), none]) (st' := [.ref 50]) rfl ?_
  refine Wp.getR rfl rfl sh50 rfl ?_
  refine Wp.pk 1 (pc' := 5) (lv' := [some (.ref 50), some (.ref 15), some (.int x2), some (.int x3), some (.int x4), none]) (st' := [.ref 15, .ref 51]) rfl ?_
  refine Wp.callV rfl rfl rfl (CallV.mono h (fun m1 h => ?_))
  refine Wp.pk 2 (pc' := 10) (lv' := [some (.ref 50), some (.ref 15), some (.int x2), some (.int x3), some (.int x4), none]) (st' := [.int 0, .ref 50]) rfl ?_
  refine Wp.putN rfl rfl sh50 rfl rfl (fun m2 hm => ?_)
  replace h := h _ hm
  refine Wp.pk 2 (pc' := 16) (lv' := [some (.ref 50), some (.ref 15), some (.int x2), some (.int x3), some (.int x4), some (.int 0)]) (st' := []) rfl ?_
  exact h
theorem eX4_compete_16 {X : a_X} {m : Nat → Nat → Int32} {Q : Option Value → (Nat → Nat → Int32) → Prop} {x2 x3 x4 x5 : Int32} (h : (x4 ≤ x5 → CallV X mX7_lookAt [.ref 59, .ref 51] m (fun m1 => Q none m1)) ∧ (¬ x4 ≤ x5 → CallV X mX4_takeTurn [.ref 50, .int x2] m (fun m2 => CallV X mX4_takeTurn [.ref 50, .int x3] m2 (fun m3 => ∀ m4, m4 = (a_up m3 51 2 ((m3 51 2) + 1)) → Wp X mX4_compete 16 [some (.ref 50), some (.ref 15), some (.int x2), some (.int x3), some (.int x4), some (.int (x5 + 1))] [] m4 Q)))) : Wp X mX4_compete 16 [some (.ref 50), some (.ref 15), some (.int x2), some (.int x3), some (.int x4), some (.int x5)] [] m Q := by
  refine Wp.pk 2 (pc' := 20) (lv' := [some (.ref 50), some (.ref 15), some (.int x2), some (.int x3), some (.int x4), some (.int x5)]) (st' := [.int x4, .int x5]) rfl ?_
  refine Wp.icmp_ge rfl rfl ⟨fun hc => ?_, fun hc => ?_⟩
  · replace h := h.1 hc
    refine Wp.pk 1 (pc' := 53) (lv' := [some (.ref 50), some (.ref 15), some (.int x2), some (.int x3), some (.int x4), some (.int x5)]) (st' := [.ref 50]) rfl ?_
    refine Wp.getR rfl rfl sh50 rfl ?_
    refine Wp.pk 1 (pc' := 57) (lv' := [some (.ref 50), some (.ref 15), some (.int x2), some (.int x3), some (.int x4), some (.int x5)]) (st' := [.ref 50, .ref 59]) rfl ?_
    refine Wp.getR rfl rfl sh50 rfl ?_
    refine Wp.callV rfl rfl rfl (CallV.mono h (fun m1 h => ?_))
    exact Wp.vret rfl rfl h
  · replace h := h.2 hc
    refine Wp.pk 2 (pc' := 25) (lv' := [some (.ref 50), some (.ref 15), some (.int x2), some (.int x3), some (.int x4), some (.int x5)]) (st' := [.int x2, .ref 50]) rfl ?_
    refine Wp.callV rfl rfl rfl (CallV.mono h (fun m2 h => ?_))
    refine Wp.pk 2 (pc' := 30) (lv' := [some (.ref 50), some (.ref 15), some (.int x2), some (.int x3), some (.int x4), some (.int x5)]) (st' := [.int x3, .ref 50]) rfl ?_
    refine Wp.callV rfl rfl rfl (CallV.mono h (fun m3 h => ?_))
    refine Wp.pk 1 (pc' := 34) (lv' := [some (.ref 50), some (.ref 15), some (.int x2), some (.int x3), some (.int x4), some (.int x5)]) (st' := [.ref 50]) rfl ?_
    refine Wp.getR rfl rfl sh50 rfl ?_
    refine Wp.pk 1 (pc' := 38) (lv' := [some (.ref 50), some (.ref 15), some (.int x2), some (.int x3), some (.int x4), some (.int x5)]) (st' := [.ref 51, .ref 51]) rfl ?_
    refine Wp.getI rfl rfl sh51 rfl ?_
    refine Wp.pk 2 (pc' := 43) (lv' := [some (.ref 50), some (.ref 15), some (.int x2), some (.int x3), some (.int x4), some (.int x5)]) (st' := [.int ((m3 51 2) + 1), .ref 51]) rfl ?_
    refine Wp.putN rfl rfl sh51 rfl rfl (fun m4 hm => ?_)
    replace h := h _ hm
    refine Wp.pk 2 (pc' := 16) (lv' := [some (.ref 50), some (.ref 15), some (.int x2), some (.int x3), some (.int x4), some (.int (x5 + 1))]) (st' := []) rfl ?_
    exact h
theorem eX4_takeTurn_0 {X : a_X} {m : Nat → Nat → Int32} {Q : Option Value → (Nat → Nat → Int32) → Prop} {x1 : Int32} (h : CallI X mX0_isFull [.ref 51] m (fun v2 m1 => (v2 = 0 → CallV X mX4_findOne [.ref 50, .ref 51, .int x1] m1 (fun m3 => ((m3 50 4) = 0 → Q none m3) ∧ (¬ (m3 50 4) = 0 → ((m3 50 9) ≤ 0 → Q none m3) ∧ (¬ (m3 50 9) ≤ 0 → CallV X mX0_hang [.ref 51, .int x1, .int (m3 50 5), .int (m3 50 6)] m3 (fun m4 => ∀ m5, m5 = (a_up m4 50 10 ((m4 50 10) + 1)) → Q none m5))))) ∧ (¬ v2 = 0 → Q none m1))) : Call X mX4_takeTurn [.ref 50, .int x1] m Q := by
  unfold Call
  refine Wp.loc (lv' := [some (.ref 50), some (.int x1)]) rfl ?_
  refine Wp.pk 1 (pc' := 1) (lv' := [some (.ref 50), some (.int x1)]) (st' := [.ref 50]) rfl ?_
  refine Wp.getR rfl rfl sh50 rfl ?_
  refine Wp.callI rfl rfl rfl (CallI.mono h (fun v2 m1 h => ?_))
  refine Wp.if_eq rfl rfl ⟨fun hc => ?_, fun hc => ?_⟩
  · replace h := h.1 hc
    refine Wp.pk 2 (pc' := 13) (lv' := [some (.ref 50), some (.int x1)]) (st' := [.ref 50, .ref 50]) rfl ?_
    refine Wp.getR rfl rfl sh50 rfl ?_
    refine Wp.pk 1 (pc' := 17) (lv' := [some (.ref 50), some (.int x1)]) (st' := [.int x1, .ref 51, .ref 50]) rfl ?_
    refine Wp.callV rfl rfl rfl (CallV.mono h (fun m3 h => ?_))
    refine Wp.pk 1 (pc' := 21) (lv' := [some (.ref 50), some (.int x1)]) (st' := [.ref 50]) rfl ?_
    refine Wp.getI rfl rfl sh50 rfl ?_
    refine Wp.if_eq rfl rfl ⟨fun hc => ?_, fun hc => ?_⟩
    · replace h := h.1 hc
      exact Wp.vret rfl rfl h
    · replace h := h.2 hc
      refine Wp.pk 1 (pc' := 28) (lv' := [some (.ref 50), some (.int x1)]) (st' := [.ref 50]) rfl ?_
      refine Wp.getI rfl rfl sh50 rfl ?_
      refine Wp.if_le rfl rfl ⟨fun hc => ?_, fun hc => ?_⟩
      · replace h := h.1 hc
        exact Wp.vret rfl rfl h
      · replace h := h.2 hc
        refine Wp.pk 1 (pc' := 35) (lv' := [some (.ref 50), some (.int x1)]) (st' := [.ref 50]) rfl ?_
        refine Wp.getR rfl rfl sh50 rfl ?_
        refine Wp.pk 2 (pc' := 40) (lv' := [some (.ref 50), some (.int x1)]) (st' := [.ref 50, .int x1, .ref 51]) rfl ?_
        refine Wp.getI rfl rfl sh50 rfl ?_
        refine Wp.pk 1 (pc' := 44) (lv' := [some (.ref 50), some (.int x1)]) (st' := [.ref 50, .int (m3 50 5), .int x1, .ref 51]) rfl ?_
        refine Wp.getI rfl rfl sh50 rfl ?_
        refine Wp.callV rfl rfl rfl (CallV.mono h (fun m4 h => ?_))
        refine Wp.pk 2 (pc' := 52) (lv' := [some (.ref 50), some (.int x1)]) (st' := [.ref 50, .ref 50]) rfl ?_
        refine Wp.getI rfl rfl sh50 rfl ?_
        refine Wp.pk 2 (pc' := 57) (lv' := [some (.ref 50), some (.int x1)]) (st' := [.int ((m4 50 10) + 1), .ref 50]) rfl ?_
        refine Wp.putN rfl rfl sh50 rfl rfl (fun m5 hm => ?_)
        replace h := h _ hm
        exact Wp.vret rfl rfl h
  · replace h := h.2 hc
    exact Wp.vret rfl rfl h
theorem eX4_worthAtLast_0 {X : a_X} {m : Nat → Nat → Int32} {Q : Option Value → (Nat → Nat → Int32) → Prop} {x1 : Int32} (h : vp_in x1 12 ∧ CallI X mX7_worthOfOwner [.ref 59, .ref 51, .int (m 4 (Int32.toNatClampNeg x1))] m (fun v2 m1 => Q (some (.int v2)) m1)) : Call X mX4_worthAtLast [.ref 50, .int x1] m Q := by
  unfold Call
  refine Wp.loc (lv' := [some (.ref 50), some (.int x1)]) rfl ?_
  refine Wp.pk 1 (pc' := 1) (lv' := [some (.ref 50), some (.int x1)]) (st' := [.ref 50]) rfl ?_
  refine Wp.getR rfl rfl sh50 rfl ?_
  refine Wp.pk 1 (pc' := 5) (lv' := [some (.ref 50), some (.int x1)]) (st' := [.ref 50, .ref 59]) rfl ?_
  refine Wp.getR rfl rfl sh50 rfl ?_
  refine Wp.pk 1 (pc' := 9) (lv' := [some (.ref 50), some (.int x1)]) (st' := [.ref 50, .ref 51, .ref 59]) rfl ?_
  refine Wp.getR rfl rfl sh50 rfl ?_
  refine Wp.getR rfl rfl sh1 rfl ?_
  refine Wp.pk 1 (pc' := 16) (lv' := [some (.ref 50), some (.int x1)]) (st' := [.int x1, .ref 4, .ref 51, .ref 59]) rfl ?_
  refine Wp.iald rfl sh4 ⟨h.1, ?_⟩
  replace h := h.2
  refine Wp.callI rfl rfl rfl (CallI.mono h (fun v2 m1 h => ?_))
  exact Wp.iret rfl rfl ⟨rfl, h⟩
