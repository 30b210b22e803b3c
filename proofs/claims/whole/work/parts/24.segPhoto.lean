theorem eX3_forget_0 {X : a_X} {m : Nat → Nat → Int32} {Q : Option Value → (Nat → Nat → Int32) → Prop} (h : ∀ m1, m1 = (a_up m 71 1 0) → CallV X mJ7_fill_53178 [.ref 72, .int 0] m1 (fun m2 => CallV X mJ7_fill_53178 [.ref 73, .int (-2)] m2 (fun m3 => Q none m3))) : Call X mX3_forget [.ref 71] m Q := by
  unfold Call
  refine Wp.loc (lv' := [some (.ref 71)]) rfl ?_
  refine Wp.pk 2 (pc' := 2) (lv' := [some (.ref 71)]) (st' := [.int 0, .ref 71]) rfl ?_
  refine Wp.putN rfl rfl sh71 rfl rfl (fun m1 hm => ?_)
  replace h := h _ hm
  refine Wp.pk 1 (pc' := 6) (lv' := [some (.ref 71)]) (st' := [.ref 71]) rfl ?_
  refine Wp.getR rfl rfl sh71 rfl ?_
  refine Wp.pk 1 (pc' := 10) (lv' := [some (.ref 71)]) (st' := [.int 0, .ref 72]) rfl ?_
  refine Wp.callV rfl rfl rfl (CallV.mono h (fun m2 h => ?_))
  refine Wp.pk 1 (pc' := 14) (lv' := [some (.ref 71)]) (st' := [.ref 71]) rfl ?_
  refine Wp.getR rfl rfl sh71 rfl ?_
  refine Wp.pk 1 (pc' := 19) (lv' := [some (.ref 71)]) (st' := [.int (-2), .ref 73]) rfl ?_
  refine Wp.callV rfl rfl rfl (CallV.mono h (fun m3 h => ?_))
  exact Wp.vret rfl rfl h
theorem eX3_has_0 {X : a_X} {m : Nat → Nat → Int32} {Q : Option Value → (Nat → Nat → Int32) → Prop} {x1 : Int32} (h : (x1 < 0 → Q (some (.int 0)) m) ∧ (¬ x1 < 0 → ((m 71 1) ≤ x1 → Q (some (.int 0)) m) ∧ (¬ (m 71 1) ≤ x1 → Q (some (.int 1)) m))) : Call X mX3_has [.ref 71, .int x1] m Q := by
  unfold Call
  refine Wp.loc (lv' := [some (.ref 71), some (.int x1)]) rfl ?_
  refine Wp.pk 1 (pc' := 1) (lv' := [some (.ref 71), some (.int x1)]) (st' := [.int x1]) rfl ?_
  refine Wp.if_lt rfl rfl ⟨fun hc => ?_, fun hc => ?_⟩
  · replace h := h.1 hc
    refine Wp.pk 1 (pc' := 17) (lv' := [some (.ref 71), some (.int x1)]) (st' := [.int 0]) rfl ?_
    exact Wp.iret rfl rfl ⟨rfl, h⟩
  · replace h := h.2 hc
    refine Wp.pk 2 (pc' := 6) (lv' := [some (.ref 71), some (.int x1)]) (st' := [.ref 71, .int x1]) rfl ?_
    refine Wp.getI rfl rfl sh71 rfl ?_
    refine Wp.icmp_ge rfl rfl ⟨fun hc => ?_, fun hc => ?_⟩
    · replace h := h.1 hc
      refine Wp.pk 1 (pc' := 17) (lv' := [some (.ref 71), some (.int x1)]) (st' := [.int 0]) rfl ?_
      exact Wp.iret rfl rfl ⟨rfl, h⟩
    · replace h := h.2 hc
      refine Wp.pk 2 (pc' := 17) (lv' := [some (.ref 71), some (.int x1)]) (st' := [.int 1]) rfl ?_
      exact Wp.iret rfl rfl ⟨rfl, h⟩
theorem eX3_add_0 {X : a_X} {m : Nat → Nat → Int32} {Q : Option Value → (Nat → Nat → Int32) → Prop} {x1 x2 x3 : Int32} (h : ((m 71 1) < 10 → Wp X mX3_add 13 [some (.ref 71), some (.int x1), some (.int x2), some (.int x3), some (.int x3), none] [] m Q) ∧ (¬ (m 71 1) < 10 → Q none m)) : Call X mX3_add [.ref 71, .int x1, .int x2, .int x3] m Q := by
  unfold Call
  refine Wp.loc (lv' := [some (.ref 71), some (.int x1), some (.int x2), some (.int x3), none, none]) rfl ?_
  refine Wp.pk 1 (pc' := 1) (lv' := [some (.ref 71), some (.int x1), some (.int x2), some (.int x3), none, none]) (st' := [.ref 71]) rfl ?_
  refine Wp.getI rfl rfl sh71 rfl ?_
  refine Wp.pk 1 (pc' := 6) (lv' := [some (.ref 71), some (.int x1), some (.int x2), some (.int x3), none, none]) (st' := [.int 10, .int (m 71 1)]) rfl ?_
  refine Wp.icmp_lt rfl rfl ⟨fun hc => ?_, fun hc => ?_⟩
  · replace h := h.1 hc
    refine Wp.pk 2 (pc' := 13) (lv' := [some (.ref 71), some (.int x1), some (.int x2), some (.int x3), some (.int x3), none]) (st' := []) rfl ?_
    exact h
  · replace h := h.2 hc
    exact Wp.vret rfl rfl h
theorem eX3_add_13 {X : a_X} {m : Nat → Nat → Int32} {Q : Option Value → (Nat → Nat → Int32) → Prop} {x1 x2 x3 x4 : Int32} (h : vp_in x1 12 ∧ ((x3 + (m 6 (Int32.toNatClampNeg x1))) ≤ x4 → ∀ m1, m1 = (a_up m 71 1 ((m 71 1) + 1)) → Q none m1) ∧ (¬ (x3 + (m 6 (Int32.toNatClampNeg x1))) ≤ x4 → Wp X mX3_add 32 [some (.ref 71), some (.int x1), some (.int x2), some (.int x3), some (.int x4), some (.int x2)] [] m Q)) : Wp X mX3_add 13 [some (.ref 71), some (.int x1), some (.int x2), some (.int x3), some (.int x4), none] [] m Q := by
  refine Wp.pk 3 (pc' := 17) (lv' := [some (.ref 71), some (.int x1), some (.int x2), some (.int x3), some (.int x4), none]) (st' := [.ref 71, .int x3, .int x4]) rfl ?_
  refine Wp.getR rfl rfl sh71 rfl ?_
  refine Wp.getR rfl rfl sh1 rfl ?_
  refine Wp.pk 1 (pc' := 24) (lv' := [some (.ref 71), some (.int x1), some (.int x2), some (.int x3), some (.int x4), none]) (st' := [.int x1, .ref 6, .int x3, .int x4]) rfl ?_
  refine Wp.iald rfl sh6 ⟨h.1, ?_⟩
  replace h := h.2
  refine Wp.pk 1 (pc' := 26) (lv' := [some (.ref 71), some (.int x1), some (.int x2), some (.int x3), some (.int x4), none]) (st' := [.int (x3 + (m 6 (Int32.toNatClampNeg x1))), .int x4]) rfl ?_
  refine Wp.icmp_ge rfl rfl ⟨fun hc => ?_, fun hc => ?_⟩
  · replace h := h.1 hc
    refine Wp.pk 2 (pc' := 83) (lv' := [some (.ref 71), some (.int x1), some (.int x2), some (.int x3), some (.int x4), none]) (st' := [.ref 71, .ref 71]) rfl ?_
    refine Wp.getI rfl rfl sh71 rfl ?_
    refine Wp.pk 2 (pc' := 88) (lv' := [some (.ref 71), some (.int x1), some (.int x2), some (.int x3), some (.int x4), none]) (st' := [.int ((m 71 1) + 1), .ref 71]) rfl ?_
    refine Wp.putN rfl rfl sh71 rfl rfl (fun m1 hm => ?_)
    replace h := h _ hm
    exact Wp.vret rfl rfl h
  · replace h := h.2 hc
    refine Wp.pk 2 (pc' := 32) (lv' := [some (.ref 71), some (.int x1), some (.int x2), some (.int x3), some (.int x4), some (.int x2)]) (st' := []) rfl ?_
    exact h
theorem eX3_add_32 {X : a_X} {m : Nat → Nat → Int32} {Q : Option Value → (Nat → Nat → Int32) → Prop} {x1 x2 x3 x4 x5 : Int32} (h : vp_in x1 12 ∧ ((x2 + (m 5 (Int32.toNatClampNeg x1))) ≤ x5 → Wp X mX3_add 13 [some (.ref 71), some (.int x1), some (.int x2), some (.int x3), some (.int (x4 + 1)), none] [] m Q) ∧ (¬ (x2 + (m 5 (Int32.toNatClampNeg x1))) ≤ x5 → CallI X mX8_cellAt [.int x5, .int x4] m (fun v2 m1 => vp_in v2 128 ∧ vp_in v2 128 ∧ ∀ m3, m3 = (a_up m1 72 (Int32.toNatClampNeg v2) ((m1 72 (Int32.toNatClampNeg v2)) ||| (1 <<< ((m1 71 1) &&& 31)))) → Wp X mX3_add 32 [some (.ref 71), some (.int x1), some (.int x2), some (.int x3), some (.int x4), some (.int (x5 + 1))] [] m3 Q))) : Wp X mX3_add 32 [some (.ref 71), some (.int x1), some (.int x2), some (.int x3), some (.int x4), some (.int x5)] [] m Q := by
  refine Wp.pk 3 (pc' := 36) (lv' := [some (.ref 71), some (.int x1), some (.int x2), some (.int x3), some (.int x4), some (.int x5)]) (st' := [.ref 71, .int x2, .int x5]) rfl ?_
  refine Wp.getR rfl rfl sh71 rfl ?_
  refine Wp.getR rfl rfl sh1 rfl ?_
  refine Wp.pk 1 (pc' := 43) (lv' := [some (.ref 71), some (.int x1), some (.int x2), some (.int x3), some (.int x4), some (.int x5)]) (st' := [.int x1, .ref 5, .int x2, .int x5]) rfl ?_
  refine Wp.iald rfl sh5 ⟨h.1, ?_⟩
  replace h := h.2
  refine Wp.pk 1 (pc' := 45) (lv' := [some (.ref 71), some (.int x1), some (.int x2), some (.int x3), some (.int x4), some (.int x5)]) (st' := [.int (x2 + (m 5 (Int32.toNatClampNeg x1))), .int x5]) rfl ?_
  refine Wp.icmp_ge rfl rfl ⟨fun hc => ?_, fun hc => ?_⟩
  · replace h := h.1 hc
    refine Wp.pk 2 (pc' := 13) (lv' := [some (.ref 71), some (.int x1), some (.int x2), some (.int x3), some (.int (x4 + 1)), some (.int x5)]) (st' := []) rfl ?_
    exact Wp.fgt (lv := [some (.ref 71), some (.int x1), some (.int x2), some (.int x3), some (.int (x4 + 1)), none]) (a_lle.of (a_lleb_e (a_lleb_e (a_lleb_e (a_lleb_e (a_lleb_e (a_lleb_i trivial))))))) h
  · replace h := h.2 hc
    refine Wp.pk 1 (pc' := 49) (lv' := [some (.ref 71), some (.int x1), some (.int x2), some (.int x3), some (.int x4), some (.int x5)]) (st' := [.ref 71]) rfl ?_
    refine Wp.getR rfl rfl sh71 rfl ?_
    refine Wp.pk 2 (pc' := 56) (lv' := [some (.ref 71), some (.int x1), some (.int x2), some (.int x3), some (.int x4), some (.int x5)]) (st' := [.int x4, .int x5, .ref 72]) rfl ?_
    refine Wp.callI rfl rfl rfl (CallI.mono h (fun v2 m1 h => ?_))
    refine Wp.pk 1 (pc' := 60) (lv' := [some (.ref 71), some (.int x1), some (.int x2), some (.int x3), some (.int x4), some (.int x5)]) (st' := [.int v2, .ref 72, .int v2, .ref 72]) rfl ?_
    refine Wp.iald rfl sh72 ⟨h.1, ?_⟩
    replace h := h.2
    refine Wp.pk 2 (pc' := 63) (lv' := [some (.ref 71), some (.int x1), some (.int x2), some (.int x3), some (.int x4), some (.int x5)]) (st' := [.ref 71, .int 1, .int (m1 72 (Int32.toNatClampNeg v2)), .int v2, .ref 72]) rfl ?_
    refine Wp.getI rfl rfl sh71 rfl ?_
    refine Wp.pk 2 (pc' := 68) (lv' := [some (.ref 71), some (.int x1), some (.int x2), some (.int x3), some (.int x4), some (.int x5)]) (st' := [.int ((m1 72 (Int32.toNatClampNeg v2)) ||| (1 <<< ((m1 71 1) &&& 31))), .int v2, .ref 72]) rfl ?_
    refine Wp.iastN rfl sh72 h.1 (fun m3 hm => ?_)
    replace h := h.2 _ hm
    refine Wp.pk 2 (pc' := 32) (lv' := [some (.ref 71), some (.int x1), some (.int x2), some (.int x3), some (.int x4), some (.int (x5 + 1))]) (st' := []) rfl ?_
    exact h
theorem eX3_countOrders_0 {X : a_X} {m : Nat → Nat → Int32} {Q : Option Value → (Nat → Nat → Int32) → Prop} (h : CallI X mX3_relate [.ref 71] m (fun v2 m1 => (¬ v2 = 0 → vp_in 0 1024 ∧ ∀ m3, m3 = (a_up m1 76 (Int32.toNatClampNeg 0) 1) → Wp X mX3_countOrders 25 [some (.ref 71), some (.int (1 <<< ((m1 71 1) &&& 31))), some (.int 1), none, none] [] m3 Q) ∧ (v2 = 0 → Q (some (.int 0)) m1))) : Call X mX3_countOrders [.ref 71] m Q := by
  unfold Call
  refine Wp.loc (lv' := [some (.ref 71), none, none, none, none]) rfl ?_
  refine Wp.pk 1 (pc' := 1) (lv' := [some (.ref 71), none, none, none, none]) (st' := [.ref 71]) rfl ?_
  refine Wp.callI rfl rfl rfl (CallI.mono h (fun v2 m1 h => ?_))
  refine Wp.if_ne rfl rfl ⟨fun hc => ?_, fun hc => ?_⟩
  · replace h := h.1 hc
    refine Wp.pk 2 (pc' := 11) (lv' := [some (.ref 71), none, none, none, none]) (st' := [.ref 71, .int 1]) rfl ?_
    refine Wp.getI rfl rfl sh71 rfl ?_
    refine Wp.pk 3 (pc' := 17) (lv' := [some (.ref 71), some (.int (1 <<< ((m1 71 1) &&& 31))), none, none, none]) (st' := [.ref 71]) rfl ?_
    refine Wp.getR rfl rfl sh71 rfl ?_
    refine Wp.pk 2 (pc' := 22) (lv' := [some (.ref 71), some (.int (1 <<< ((m1 71 1) &&& 31))), none, none, none]) (st' := [.int 1, .int 0, .ref 76]) rfl ?_
    refine Wp.iastN rfl sh76 h.1 (fun m3 hm => ?_)
    replace h := h.2 _ hm
    refine Wp.pk 2 (pc' := 25) (lv' := [some (.ref 71), some (.int (1 <<< ((m1 71 1) &&& 31))), some (.int 1), none, none]) (st' := []) rfl ?_
    exact h
  · replace h := h.2 hc
    refine Wp.pk 1 (pc' := 8) (lv' := [some (.ref 71), none, none, none, none]) (st' := [.int 0]) rfl ?_
    exact Wp.iret rfl rfl ⟨rfl, h⟩
theorem eX3_countOrders_25 {X : a_X} {m : Nat → Nat → Int32} {Q : Option Value → (Nat → Nat → Int32) → Prop} {x1 x2 : Int32} (h : (x1 ≤ x2 → vp_in (x1 - 1) 1024 ∧ Q (some (.int (m 76 (Int32.toNatClampNeg (x1 - 1))))) m) ∧ (¬ x1 ≤ x2 → vp_in x2 1024 ∧ ∀ m1, m1 = (a_up m 76 (Int32.toNatClampNeg x2) 0) → Wp X mX3_countOrders 39 [some (.ref 71), some (.int x1), some (.int x2), some (.int 0), none] [] m1 Q)) : Wp X mX3_countOrders 25 [some (.ref 71), some (.int x1), some (.int x2), none, none] [] m Q := by
  refine Wp.pk 2 (pc' := 27) (lv' := [some (.ref 71), some (.int x1), some (.int x2), none, none]) (st' := [.int x1, .int x2]) rfl ?_
  refine Wp.icmp_ge rfl rfl ⟨fun hc => ?_, fun hc => ?_⟩
  · replace h := h.1 hc
    refine Wp.pk 1 (pc' := 105) (lv' := [some (.ref 71), some (.int x1), some (.int x2), none, none]) (st' := [.ref 71]) rfl ?_
    refine Wp.getR rfl rfl sh71 rfl ?_
    refine Wp.pk 3 (pc' := 111) (lv' := [some (.ref 71), some (.int x1), some (.int x2), none, none]) (st' := [.int (x1 - 1), .ref 76]) rfl ?_
    refine Wp.iald rfl sh76 ⟨h.1, ?_⟩
    replace h := h.2
    exact Wp.iret rfl rfl ⟨rfl, h⟩
  · replace h := h.2 hc
    refine Wp.pk 1 (pc' := 31) (lv' := [some (.ref 71), some (.int x1), some (.int x2), none, none]) (st' := [.ref 71]) rfl ?_
    refine Wp.getR rfl rfl sh71 rfl ?_
    refine Wp.pk 2 (pc' := 36) (lv' := [some (.ref 71), some (.int x1), some (.int x2), none, none]) (st' := [.int 0, .int x2, .ref 76]) rfl ?_
    refine Wp.iastN rfl sh76 h.1 (fun m1 hm => ?_)
    replace h := h.2 _ hm
    refine Wp.pk 2 (pc' := 39) (lv' := [some (.ref 71), some (.int x1), some (.int x2), some (.int 0), none]) (st' := []) rfl ?_
    exact h
theorem eX3_countOrders_39 {X : a_X} {m : Nat → Nat → Int32} {Q : Option Value → (Nat → Nat → Int32) → Prop} {x1 x2 x3 : Int32} (h : ((m 71 1) ≤ x3 → Wp X mX3_countOrders 25 [some (.ref 71), some (.int x1), some (.int (x2 + 1)), none, none] [] m Q) ∧ (¬ (m 71 1) ≤ x3 → ((x2 &&& ((1 <<< (x3 &&& 31)) ^^^ (-1))) = x2 → Wp X mX3_countOrders 39 [some (.ref 71), some (.int x1), some (.int x2), some (.int (x3 + 1)), none] [] m Q) ∧ (¬ (x2 &&& ((1 <<< (x3 &&& 31)) ^^^ (-1))) = x2 → vp_in x3 10 ∧ (¬ ((m 74 (Int32.toNatClampNeg x3)) &&& ((x2 &&& ((1 <<< (x3 &&& 31)) ^^^ (-1))) ^^^ (-1))) = 0 → Wp X mX3_countOrders 39 [some (.ref 71), some (.int x1), some (.int x2), some (.int (x3 + 1)), none] [] m Q) ∧ (((m 74 (Int32.toNatClampNeg x3)) &&& ((x2 &&& ((1 <<< (x3 &&& 31)) ^^^ (-1))) ^^^ (-1))) = 0 → vp_in x2 1024 ∧ vp_in (x2 &&& ((1 <<< (x3 &&& 31)) ^^^ (-1))) 1024 ∧ vp_in x2 1024 ∧ ∀ m1, m1 = (a_up m 76 (Int32.toNatClampNeg x2) ((m 76 (Int32.toNatClampNeg x2)) + (m 76 (Int32.toNatClampNeg (x2 &&& ((1 <<< (x3 &&& 31)) ^^^ (-1))))))) → Wp X mX3_countOrders 39 [some (.ref 71), some (.int x1), some (.int x2), some (.int (x3 + 1)), none] [] m1 Q)))) : Wp X mX3_countOrders 39 [some (.ref 71), some (.int x1), some (.int x2), some (.int x3), none] [] m Q := by
  refine Wp.pk 2 (pc' := 41) (lv' := [some (.ref 71), some (.int x1), some (.int x2), some (.int x3), none]) (st' := [.ref 71, .int x3]) rfl ?_
  refine Wp.getI rfl rfl sh71 rfl ?_
  refine Wp.icmp_ge rfl rfl ⟨fun hc => ?_, fun hc => ?_⟩
  · replace h := h.1 hc
    refine Wp.pk 2 (pc' := 25) (lv' := [some (.ref 71), some (.int x1), some (.int (x2 + 1)), some (.int x3), none]) (st' := []) rfl ?_
    exact Wp.fgt (lv := [some (.ref 71), some (.int x1), some (.int (x2 + 1)), none, none]) (a_lle.of (a_lleb_e (a_lleb_e (a_lleb_e (a_lleb_i (a_lleb_e trivial)))))) h
  · replace h := h.2 hc
    refine Wp.pk 10 (pc' := 59) (lv' := [some (.ref 71), some (.int x1), some (.int x2), some (.int x3), some (.int (x2 &&& ((1 <<< (x3 &&& 31)) ^^^ (-1))))]) (st' := [.int x2, .int (x2 &&& ((1 <<< (x3 &&& 31)) ^^^ (-1)))]) rfl ?_
    refine Wp.icmp_eq rfl rfl ⟨fun hc => ?_, fun hc => ?_⟩
    · replace h := h.1 hc
      refine Wp.pk 2 (pc' := 39) (lv' := [some (.ref 71), some (.int x1), some (.int x2), some (.int (x3 + 1)), some (.int (x2 &&& ((1 <<< (x3 &&& 31)) ^^^ (-1))))]) (st' := []) rfl ?_
      exact Wp.fgt (lv := [some (.ref 71), some (.int x1), some (.int x2), some (.int (x3 + 1)), none]) (a_lle.of (a_lleb_e (a_lleb_e (a_lleb_e (a_lleb_e (a_lleb_i trivial)))))) h
    · replace h := h.2 hc
      refine Wp.pk 1 (pc' := 63) (lv' := [some (.ref 71), some (.int x1), some (.int x2), some (.int x3), some (.int (x2 &&& ((1 <<< (x3 &&& 31)) ^^^ (-1))))]) (st' := [.ref 71]) rfl ?_
      refine Wp.getR rfl rfl sh71 rfl ?_
      refine Wp.pk 1 (pc' := 67) (lv' := [some (.ref 71), some (.int x1), some (.int x2), some (.int x3), some (.int (x2 &&& ((1 <<< (x3 &&& 31)) ^^^ (-1))))]) (st' := [.int x3, .ref 74]) rfl ?_
      refine Wp.iald rfl sh74 ⟨h.1, ?_⟩
      replace h := h.2
      refine Wp.pk 4 (pc' := 73) (lv' := [some (.ref 71), some (.int x1), some (.int x2), some (.int x3), some (.int (x2 &&& ((1 <<< (x3 &&& 31)) ^^^ (-1))))]) (st' := [.int ((m 74 (Int32.toNatClampNeg x3)) &&& ((x2 &&& ((1 <<< (x3 &&& 31)) ^^^ (-1))) ^^^ (-1)))]) rfl ?_
      refine Wp.if_ne rfl rfl ⟨fun hc => ?_, fun hc => ?_⟩
      · replace h := h.1 hc
        refine Wp.pk 2 (pc' := 39) (lv' := [some (.ref 71), some (.int x1), some (.int x2), some (.int (x3 + 1)), some (.int (x2 &&& ((1 <<< (x3 &&& 31)) ^^^ (-1))))]) (st' := []) rfl ?_
        exact Wp.fgt (lv := [some (.ref 71), some (.int x1), some (.int x2), some (.int (x3 + 1)), none]) (a_lle.of (a_lleb_e (a_lleb_e (a_lleb_e (a_lleb_e (a_lleb_i trivial)))))) h
      · replace h := h.2 hc
        refine Wp.pk 1 (pc' := 77) (lv' := [some (.ref 71), some (.int x1), some (.int x2), some (.int x3), some (.int (x2 &&& ((1 <<< (x3 &&& 31)) ^^^ (-1))))]) (st' := [.ref 71]) rfl ?_
        refine Wp.getR rfl rfl sh71 rfl ?_
        refine Wp.pk 2 (pc' := 82) (lv' := [some (.ref 71), some (.int x1), some (.int x2), some (.int x3), some (.int (x2 &&& ((1 <<< (x3 &&& 31)) ^^^ (-1))))]) (st' := [.int x2, .ref 76, .int x2, .ref 76]) rfl ?_
        refine Wp.iald rfl sh76 ⟨h.1, ?_⟩
        replace h := h.2
        refine Wp.pk 1 (pc' := 84) (lv' := [some (.ref 71), some (.int x1), some (.int x2), some (.int x3), some (.int (x2 &&& ((1 <<< (x3 &&& 31)) ^^^ (-1))))]) (st' := [.ref 71, .int (m 76 (Int32.toNatClampNeg x2)), .int x2, .ref 76]) rfl ?_
        refine Wp.getR rfl rfl sh71 rfl ?_
        refine Wp.pk 1 (pc' := 89) (lv' := [some (.ref 71), some (.int x1), some (.int x2), some (.int x3), some (.int (x2 &&& ((1 <<< (x3 &&& 31)) ^^^ (-1))))]) (st' := [.int (x2 &&& ((1 <<< (x3 &&& 31)) ^^^ (-1))), .ref 76, .int (m 76 (Int32.toNatClampNeg x2)), .int x2, .ref 76]) rfl ?_
        refine Wp.iald rfl sh76 ⟨h.1, ?_⟩
        replace h := h.2
        refine Wp.pk 1 (pc' := 91) (lv' := [some (.ref 71), some (.int x1), some (.int x2), some (.int x3), some (.int (x2 &&& ((1 <<< (x3 &&& 31)) ^^^ (-1))))]) (st' := [.int ((m 76 (Int32.toNatClampNeg x2)) + (m 76 (Int32.toNatClampNeg (x2 &&& ((1 <<< (x3 &&& 31)) ^^^ (-1)))))), .int x2, .ref 76]) rfl ?_
        refine Wp.iastN rfl sh76 h.1 (fun m1 hm => ?_)
        replace h := h.2 _ hm
        refine Wp.pk 2 (pc' := 39) (lv' := [some (.ref 71), some (.int x1), some (.int x2), some (.int (x3 + 1)), some (.int (x2 &&& ((1 <<< (x3 &&& 31)) ^^^ (-1))))]) (st' := []) rfl ?_
        exact Wp.fgt (lv := [some (.ref 71), some (.int x1), some (.int x2), some (.int (x3 + 1)), none]) (a_lle.of (a_lleb_e (a_lleb_e (a_lleb_e (a_lleb_e (a_lleb_i trivial)))))) h
theorem eX3_firstOrderAt_0 {X : a_X} {m : Nat → Nat → Int32} {Q : Option Value → (Nat → Nat → Int32) → Prop} {x1 : Int32} (h : ((m 71 1) ≤ x1 → Q (some (.int (-1))) m) ∧ (¬ (m 71 1) ≤ x1 → CallI X mX3_hasOrder [.ref 71] m (fun v2 m1 => (v2 = 0 → Q (some (.int (-1))) m1) ∧ (¬ v2 = 0 → vp_in x1 10 ∧ Q (some (.int (m1 75 (Int32.toNatClampNeg x1)))) m1)))) : Call X mX3_firstOrderAt [.ref 71, .int x1] m Q := by
  unfold Call
  refine Wp.loc (lv' := [some (.ref 71), some (.int x1)]) rfl ?_
  refine Wp.pk 2 (pc' := 2) (lv' := [some (.ref 71), some (.int x1)]) (st' := [.ref 71, .int x1]) rfl ?_
  refine Wp.getI rfl rfl sh71 rfl ?_
  refine Wp.icmp_ge rfl rfl ⟨fun hc => ?_, fun hc => ?_⟩
  · replace h := h.1 hc
    refine Wp.pk 1 (pc' := 25) (lv' := [some (.ref 71), some (.int x1)]) (st' := [.int (-1)]) rfl ?_
    exact Wp.iret rfl rfl ⟨rfl, h⟩
  · replace h := h.2 hc
    refine Wp.pk 1 (pc' := 9) (lv' := [some (.ref 71), some (.int x1)]) (st' := [.ref 71]) rfl ?_
    refine Wp.callI rfl rfl rfl (CallI.mono h (fun v2 m1 h => ?_))
    refine Wp.if_eq rfl rfl ⟨fun hc => ?_, fun hc => ?_⟩
    · replace h := h.1 hc
      refine Wp.pk 1 (pc' := 25) (lv' := [some (.ref 71), some (.int x1)]) (st' := [.int (-1)]) rfl ?_
      exact Wp.iret rfl rfl ⟨rfl, h⟩
    · replace h := h.2 hc
      refine Wp.pk 1 (pc' := 16) (lv' := [some (.ref 71), some (.int x1)]) (st' := [.ref 71]) rfl ?_
      refine Wp.getR rfl rfl sh71 rfl ?_
      refine Wp.pk 1 (pc' := 20) (lv' := [some (.ref 71), some (.int x1)]) (st' := [.int x1, .ref 75]) rfl ?_
      refine Wp.iald rfl sh75 ⟨h.1, ?_⟩
      replace h := h.2
      refine Wp.pk 1 (pc' := 25) (lv' := [some (.ref 71), some (.int x1)]) (st' := [.int (m1 75 (Int32.toNatClampNeg x1))]) rfl ?_
      exact Wp.iret rfl rfl ⟨rfl, h⟩
theorem eX3_liesOver_0 {X : a_X} {m : Nat → Nat → Int32} {Q : Option Value → (Nat → Nat → Int32) → Prop} {x1 x2 : Int32} (h : CallI X mX3_hasOrder [.ref 71] m (fun v2 m1 => (¬ v2 = 0 → vp_in x1 10 ∧ Wp X mX3_liesOver 24 [some (.ref 71), none, some (.int x2), some (.int (m1 74 (Int32.toNatClampNeg x1))), some (.int ((m1 71 1) - 1))] [] m1 Q) ∧ (v2 = 0 → Q (some (.int 0)) m1))) : Call X mX3_liesOver [.ref 71, .int x1, .int x2] m Q := by
  unfold Call
  refine Wp.loc (lv' := [some (.ref 71), some (.int x1), some (.int x2), none, none]) rfl ?_
  refine Wp.pk 1 (pc' := 1) (lv' := [some (.ref 71), some (.int x1), some (.int x2), none, none]) (st' := [.ref 71]) rfl ?_
  refine Wp.callI rfl rfl rfl (CallI.mono h (fun v2 m1 h => ?_))
  refine Wp.if_ne rfl rfl ⟨fun hc => ?_, fun hc => ?_⟩
  · replace h := h.1 hc
    refine Wp.pk 1 (pc' := 10) (lv' := [some (.ref 71), some (.int x1), some (.int x2), none, none]) (st' := [.ref 71]) rfl ?_
    refine Wp.getR rfl rfl sh71 rfl ?_
    refine Wp.pk 1 (pc' := 14) (lv' := [some (.ref 71), some (.int x1), some (.int x2), none, none]) (st' := [.int x1, .ref 74]) rfl ?_
    refine Wp.iald rfl sh74 ⟨h.1, ?_⟩
    replace h := h.2
    refine Wp.pk 2 (pc' := 17) (lv' := [some (.ref 71), some (.int x1), some (.int x2), some (.int (m1 74 (Int32.toNatClampNeg x1))), none]) (st' := [.ref 71]) rfl ?_
    refine Wp.getI rfl rfl sh71 rfl ?_
    refine Wp.pk 3 (pc' := 24) (lv' := [some (.ref 71), some (.int x1), some (.int x2), some (.int (m1 74 (Int32.toNatClampNeg x1))), some (.int ((m1 71 1) - 1))]) (st' := []) rfl ?_
    exact Wp.fgt (lv := [some (.ref 71), none, some (.int x2), some (.int (m1 74 (Int32.toNatClampNeg x1))), some (.int ((m1 71 1) - 1))]) (a_lle.of (a_lleb_e (a_lleb_i (a_lleb_e (a_lleb_e (a_lleb_e trivial)))))) h
  · replace h := h.2 hc
    refine Wp.pk 1 (pc' := 8) (lv' := [some (.ref 71), some (.int x1), some (.int x2), none, none]) (st' := [.int 0]) rfl ?_
    exact Wp.iret rfl rfl ⟨rfl, h⟩
theorem eX3_liesOver_24 {X : a_X} {m : Nat → Nat → Int32} {Q : Option Value → (Nat → Nat → Int32) → Prop} {x2 x3 x4 : Int32} (h : (x4 < 0 → CallI X mX8_isIn [.int x3, .int x2] m (fun v2 m1 => a_fit .boolean v2 = true ∧ Q (some (.int v2)) m1)) ∧ (¬ x4 < 0 → vp_in x4 10 ∧ CallI X mX8_isIn [.int x3, .int (m 75 (Int32.toNatClampNeg x4))] m (fun v4 m3 => (v4 = 0 → Wp X mX3_liesOver 24 [some (.ref 71), none, some (.int x2), some (.int x3), some (.int (x4 + (-1)))] [] m3 Q) ∧ (¬ v4 = 0 → vp_in x4 10 ∧ vp_in (m3 75 (Int32.toNatClampNeg x4)) 10 ∧ Wp X mX3_liesOver 24 [some (.ref 71), none, some (.int x2), some (.int (x3 ||| (m3 74 (Int32.toNatClampNeg (m3 75 (Int32.toNatClampNeg x4)))))), some (.int (x4 + (-1)))] [] m3 Q)))) : Wp X mX3_liesOver 24 [some (.ref 71), none, some (.int x2), some (.int x3), some (.int x4)] [] m Q := by
  refine Wp.pk 1 (pc' := 26) (lv' := [some (.ref 71), none, some (.int x2), some (.int x3), some (.int x4)]) (st' := [.int x4]) rfl ?_
  refine Wp.if_lt rfl rfl ⟨fun hc => ?_, fun hc => ?_⟩
  · replace h := h.1 hc
    refine Wp.pk 2 (pc' := 66) (lv' := [some (.ref 71), none, some (.int x2), some (.int x3), some (.int x4)]) (st' := [.int x2, .int x3]) rfl ?_
    refine Wp.callI rfl rfl rfl (CallI.mono h (fun v2 m1 h => ?_))
    exact Wp.iret rfl rfl h
  · replace h := h.2 hc
    refine Wp.pk 2 (pc' := 31) (lv' := [some (.ref 71), none, some (.int x2), some (.int x3), some (.int x4)]) (st' := [.ref 71, .int x3]) rfl ?_
    refine Wp.getR rfl rfl sh71 rfl ?_
    refine Wp.pk 1 (pc' := 36) (lv' := [some (.ref 71), none, some (.int x2), some (.int x3), some (.int x4)]) (st' := [.int x4, .ref 75, .int x3]) rfl ?_
    refine Wp.iald rfl sh75 ⟨h.1, ?_⟩
    replace h := h.2
    refine Wp.callI rfl rfl rfl (CallI.mono h (fun v4 m3 h => ?_))
    refine Wp.if_eq rfl rfl ⟨fun hc => ?_, fun hc => ?_⟩
    · replace h := h.1 hc
      refine Wp.pk 2 (pc' := 24) (lv' := [some (.ref 71), none, some (.int x2), some (.int x3), some (.int (x4 + (-1)))]) (st' := []) rfl ?_
      exact h
    · replace h := h.2 hc
      refine Wp.pk 2 (pc' := 45) (lv' := [some (.ref 71), none, some (.int x2), some (.int x3), some (.int x4)]) (st' := [.ref 71, .int x3]) rfl ?_
      refine Wp.getR rfl rfl sh71 rfl ?_
      refine Wp.pk 1 (pc' := 49) (lv' := [some (.ref 71), none, some (.int x2), some (.int x3), some (.int x4)]) (st' := [.ref 71, .ref 74, .int x3]) rfl ?_
      refine Wp.getR rfl rfl sh71 rfl ?_
      refine Wp.pk 1 (pc' := 54) (lv' := [some (.ref 71), none, some (.int x2), some (.int x3), some (.int x4)]) (st' := [.int x4, .ref 75, .ref 74, .int x3]) rfl ?_
      refine Wp.iald rfl sh75 ⟨h.1, ?_⟩
      replace h := h.2
      refine Wp.iald rfl sh74 ⟨h.1, ?_⟩
      replace h := h.2
      refine Wp.pk 4 (pc' := 24) (lv' := [some (.ref 71), none, some (.int x2), some (.int (x3 ||| (m3 74 (Int32.toNatClampNeg (m3 75 (Int32.toNatClampNeg x4)))))), some (.int (x4 + (-1)))]) (st' := []) rfl ?_
      exact h
theorem eX3_hasOrder_0 {X : a_X} {m : Nat → Nat → Int32} {Q : Option Value → (Nat → Nat → Int32) → Prop} (h : CallI X mX3_relate [.ref 71] m (fun v2 m1 => (¬ v2 = 0 → Wp X mX3_hasOrder 13 [some (.ref 71), some (.int 0), some (.int 0), none] [] m1 Q) ∧ (v2 = 0 → Q (some (.int 0)) m1))) : Call X mX3_hasOrder [.ref 71] m Q := by
  unfold Call
  refine Wp.loc (lv' := [some (.ref 71), none, none, none]) rfl ?_
  refine Wp.pk 1 (pc' := 1) (lv' := [some (.ref 71), none, none, none]) (st' := [.ref 71]) rfl ?_
  refine Wp.callI rfl rfl rfl (CallI.mono h (fun v2 m1 h => ?_))
  refine Wp.if_ne rfl rfl ⟨fun hc => ?_, fun hc => ?_⟩
  · replace h := h.1 hc
    refine Wp.pk 4 (pc' := 13) (lv' := [some (.ref 71), some (.int 0), some (.int 0), none]) (st' := []) rfl ?_
    exact h
  · replace h := h.2 hc
    refine Wp.pk 1 (pc' := 8) (lv' := [some (.ref 71), none, none, none]) (st' := [.int 0]) rfl ?_
    exact Wp.iret rfl rfl ⟨rfl, h⟩
theorem eX3_hasOrder_13 {X : a_X} {m : Nat → Nat → Int32} {Q : Option Value → (Nat → Nat → Int32) → Prop} {x1 x2 : Int32} (h : ((m 71 1) ≤ x2 → Q (some (.int 1)) m) ∧ (¬ (m 71 1) ≤ x2 → CallI X mX3_leastThatCanStand [.ref 71, .int x1] m (fun v2 m1 => (¬ v2 = (-1) → vp_in x2 10 ∧ ∀ m3, m3 = (a_up m1 75 (Int32.toNatClampNeg x2) v2) → Wp X mX3_hasOrder 13 [some (.ref 71), some (.int (x1 ||| (1 <<< (v2 &&& 31)))), some (.int (x2 + 1)), none] [] m3 Q) ∧ (v2 = (-1) → Q (some (.int 0)) m1)))) : Wp X mX3_hasOrder 13 [some (.ref 71), some (.int x1), some (.int x2), none] [] m Q := by
  refine Wp.pk 2 (pc' := 15) (lv' := [some (.ref 71), some (.int x1), some (.int x2), none]) (st' := [.ref 71, .int x2]) rfl ?_
  refine Wp.getI rfl rfl sh71 rfl ?_
  refine Wp.icmp_ge rfl rfl ⟨fun hc => ?_, fun hc => ?_⟩
  · replace h := h.1 hc
    refine Wp.pk 1 (pc' := 54) (lv' := [some (.ref 71), some (.int x1), some (.int x2), none]) (st' := [.int 1]) rfl ?_
    exact Wp.iret rfl rfl ⟨rfl, h⟩
  · replace h := h.2 hc
    refine Wp.pk 2 (pc' := 23) (lv' := [some (.ref 71), some (.int x1), some (.int x2), none]) (st' := [.int x1, .ref 71]) rfl ?_
    refine Wp.callI rfl rfl rfl (CallI.mono h (fun v2 m1 h => ?_))
    refine Wp.pk 3 (pc' := 29) (lv' := [some (.ref 71), some (.int x1), some (.int x2), some (.int v2)]) (st' := [.int (-1), .int v2]) rfl ?_
    refine Wp.icmp_ne rfl rfl ⟨fun hc => ?_, fun hc => ?_⟩
    · replace h := h.1 hc
      refine Wp.pk 1 (pc' := 35) (lv' := [some (.ref 71), some (.int x1), some (.int x2), some (.int v2)]) (st' := [.ref 71]) rfl ?_
      refine Wp.getR rfl rfl sh71 rfl ?_
      refine Wp.pk 2 (pc' := 40) (lv' := [some (.ref 71), some (.int x1), some (.int x2), some (.int v2)]) (st' := [.int v2, .int x2, .ref 75]) rfl ?_
      refine Wp.iastN rfl sh75 h.1 (fun m3 hm => ?_)
      replace h := h.2 _ hm
      refine Wp.pk 8 (pc' := 13) (lv' := [some (.ref 71), some (.int (x1 ||| (1 <<< (v2 &&& 31)))), some (.int (x2 + 1)), some (.int v2)]) (st' := []) rfl ?_
      exact Wp.fgt (lv := [some (.ref 71), some (.int (x1 ||| (1 <<< (v2 &&& 31)))), some (.int (x2 + 1)), none]) (a_lle.of (a_lleb_e (a_lleb_e (a_lleb_e (a_lleb_i trivial))))) h
    · replace h := h.2 hc
      refine Wp.pk 1 (pc' := 33) (lv' := [some (.ref 71), some (.int x1), some (.int x2), some (.int v2)]) (st' := [.int 0]) rfl ?_
      exact Wp.iret rfl rfl ⟨rfl, h⟩
theorem eX3_leastThatCanStand_0 {X : a_X} {m : Nat → Nat → Int32} {Q : Option Value → (Nat → Nat → Int32) → Prop} {x1 : Int32} (h : Wp X mX3_leastThatCanStand 2 [some (.ref 71), some (.int x1), some (.int 0)] [] m Q) : Call X mX3_leastThatCanStand [.ref 71, .int x1] m Q := by
  unfold Call
  refine Wp.loc (lv' := [some (.ref 71), some (.int x1), none]) rfl ?_
  refine Wp.pk 2 (pc' := 2) (lv' := [some (.ref 71), some (.int x1), some (.int 0)]) (st' := []) rfl ?_
  exact h
theorem eX3_leastThatCanStand_2 {X : a_X} {m : Nat → Nat → Int32} {Q : Option Value → (Nat → Nat → Int32) → Prop} {x1 x2 : Int32} (h : ((m 71 1) ≤ x2 → Q (some (.int (-1))) m) ∧ (¬ (m 71 1) ≤ x2 → CallI X mX8_isIn [.int x1, .int x2] m (fun v2 m1 => (¬ v2 = 0 → Wp X mX3_leastThatCanStand 2 [some (.ref 71), some (.int x1), some (.int (x2 + 1))] [] m1 Q) ∧ (v2 = 0 → vp_in x2 10 ∧ (¬ ((m1 74 (Int32.toNatClampNeg x2)) &&& (x1 ^^^ (-1))) = 0 → Wp X mX3_leastThatCanStand 2 [some (.ref 71), some (.int x1), some (.int (x2 + 1))] [] m1 Q) ∧ (((m1 74 (Int32.toNatClampNeg x2)) &&& (x1 ^^^ (-1))) = 0 → Q (some (.int x2)) m1))))) : Wp X mX3_leastThatCanStand 2 [some (.ref 71), some (.int x1), some (.int x2)] [] m Q := by
  refine Wp.pk 2 (pc' := 4) (lv' := [some (.ref 71), some (.int x1), some (.int x2)]) (st' := [.ref 71, .int x2]) rfl ?_
  refine Wp.getI rfl rfl sh71 rfl ?_
  refine Wp.icmp_ge rfl rfl ⟨fun hc => ?_, fun hc => ?_⟩
  · replace h := h.1 hc
    refine Wp.pk 1 (pc' := 40) (lv' := [some (.ref 71), some (.int x1), some (.int x2)]) (st' := [.int (-1)]) rfl ?_
    exact Wp.iret rfl rfl ⟨rfl, h⟩
  · replace h := h.2 hc
    refine Wp.pk 2 (pc' := 12) (lv' := [some (.ref 71), some (.int x1), some (.int x2)]) (st' := [.int x2, .int x1]) rfl ?_
    refine Wp.callI rfl rfl rfl (CallI.mono h (fun v2 m1 h => ?_))
    refine Wp.if_ne rfl rfl ⟨fun hc => ?_, fun hc => ?_⟩
    · replace h := h.1 hc
      refine Wp.pk 2 (pc' := 2) (lv' := [some (.ref 71), some (.int x1), some (.int (x2 + 1))]) (st' := []) rfl ?_
      exact h
    · replace h := h.2 hc
      refine Wp.pk 1 (pc' := 19) (lv' := [some (.ref 71), some (.int x1), some (.int x2)]) (st' := [.ref 71]) rfl ?_
      refine Wp.getR rfl rfl sh71 rfl ?_
      refine Wp.pk 1 (pc' := 23) (lv' := [some (.ref 71), some (.int x1), some (.int x2)]) (st' := [.int x2, .ref 74]) rfl ?_
      refine Wp.iald rfl sh74 ⟨h.1, ?_⟩
      replace h := h.2
      refine Wp.pk 4 (pc' := 28) (lv' := [some (.ref 71), some (.int x1), some (.int x2)]) (st' := [.int ((m1 74 (Int32.toNatClampNeg x2)) &&& (x1 ^^^ (-1)))]) rfl ?_
      refine Wp.if_ne rfl rfl ⟨fun hc => ?_, fun hc => ?_⟩
      · replace h := h.1 hc
        refine Wp.pk 2 (pc' := 2) (lv' := [some (.ref 71), some (.int x1), some (.int (x2 + 1))]) (st' := []) rfl ?_
        exact h
      · replace h := h.2 hc
        refine Wp.pk 1 (pc' := 32) (lv' := [some (.ref 71), some (.int x1), some (.int x2)]) (st' := [.int x2]) rfl ?_
        exact Wp.iret rfl rfl ⟨rfl, h⟩
theorem eX3_relate_0 {X : a_X} {m : Nat → Nat → Int32} {Q : Option Value → (Nat → Nat → Int32) → Prop} (h : CallV X mJ7_fill_53178 [.ref 74, .int 0] m (fun m1 => Wp X mX3_relate 10 [some (.ref 71), some (.int 0), none] [] m1 Q)) : Call X mX3_relate [.ref 71] m Q := by
  unfold Call
  refine Wp.loc (lv' := [some (.ref 71), none, none]) rfl ?_
  refine Wp.pk 1 (pc' := 1) (lv' := [some (.ref 71), none, none]) (st' := [.ref 71]) rfl ?_
  refine Wp.getR rfl rfl sh71 rfl ?_
  refine Wp.pk 1 (pc' := 5) (lv' := [some (.ref 71), none, none]) (st' := [.int 0, .ref 74]) rfl ?_
  refine Wp.callV rfl rfl rfl (CallV.mono h (fun m1 h => ?_))
  refine Wp.pk 2 (pc' := 10) (lv' := [some (.ref 71), some (.int 0), none]) (st' := []) rfl ?_
  exact h
theorem eX3_relate_10 {X : a_X} {m : Nat → Nat → Int32} {Q : Option Value → (Nat → Nat → Int32) → Prop} {x1 : Int32} (h : (128 ≤ x1 → Q (some (.int 1)) m) ∧ (¬ 128 ≤ x1 → vp_in x1 128 ∧ (¬ (m 73 (Int32.toNatClampNeg x1)) = (-1) → ((m 73 (Int32.toNatClampNeg x1)) < 0 → ((m 73 (Int32.toNatClampNeg x1)) < 0 → Wp X mX3_relate 10 [some (.ref 71), some (.int (x1 + 1)), none] [] m Q) ∧ (¬ (m 73 (Int32.toNatClampNeg x1)) < 0 → vp_in (m 73 (Int32.toNatClampNeg x1)) 10 ∧ vp_in x1 128 ∧ vp_in (m 73 (Int32.toNatClampNeg x1)) 10 ∧ ∀ m1, m1 = (a_up m 74 (Int32.toNatClampNeg (m 73 (Int32.toNatClampNeg x1))) ((m 74 (Int32.toNatClampNeg (m 73 (Int32.toNatClampNeg x1)))) ||| ((m 72 (Int32.toNatClampNeg x1)) &&& ((1 <<< ((m 73 (Int32.toNatClampNeg x1)) &&& 31)) ^^^ (-1))))) → Wp X mX3_relate 10 [some (.ref 71), some (.int (x1 + 1)), none] [] m1 Q)) ∧ (¬ (m 73 (Int32.toNatClampNeg x1)) < 0 → vp_in x1 128 ∧ CallI X mX8_isIn [.int (m 72 (Int32.toNatClampNeg x1)), .int (m 73 (Int32.toNatClampNeg x1))] m (fun v3 m2 => (¬ v3 = 0 → ((m 73 (Int32.toNatClampNeg x1)) < 0 → Wp X mX3_relate 10 [some (.ref 71), some (.int (x1 + 1)), none] [] m2 Q) ∧ (¬ (m 73 (Int32.toNatClampNeg x1)) < 0 → vp_in (m 73 (Int32.toNatClampNeg x1)) 10 ∧ vp_in x1 128 ∧ vp_in (m 73 (Int32.toNatClampNeg x1)) 10 ∧ ∀ m4, m4 = (a_up m2 74 (Int32.toNatClampNeg (m 73 (Int32.toNatClampNeg x1))) ((m2 74 (Int32.toNatClampNeg (m 73 (Int32.toNatClampNeg x1)))) ||| ((m2 72 (Int32.toNatClampNeg x1)) &&& ((1 <<< ((m 73 (Int32.toNatClampNeg x1)) &&& 31)) ^^^ (-1))))) → Wp X mX3_relate 10 [some (.ref 71), some (.int (x1 + 1)), none] [] m4 Q)) ∧ (v3 = 0 → Q (some (.int 0)) m2)))) ∧ ((m 73 (Int32.toNatClampNeg x1)) = (-1) → vp_in x1 128 ∧ (¬ (m 72 (Int32.toNatClampNeg x1)) = 0 → Q (some (.int 0)) m) ∧ ((m 72 (Int32.toNatClampNeg x1)) = 0 → ((m 73 (Int32.toNatClampNeg x1)) < 0 → ((m 73 (Int32.toNatClampNeg x1)) < 0 → Wp X mX3_relate 10 [some (.ref 71), some (.int (x1 + 1)), none] [] m Q) ∧ (¬ (m 73 (Int32.toNatClampNeg x1)) < 0 → vp_in (m 73 (Int32.toNatClampNeg x1)) 10 ∧ vp_in x1 128 ∧ vp_in (m 73 (Int32.toNatClampNeg x1)) 10 ∧ ∀ m5, m5 = (a_up m 74 (Int32.toNatClampNeg (m 73 (Int32.toNatClampNeg x1))) ((m 74 (Int32.toNatClampNeg (m 73 (Int32.toNatClampNeg x1)))) ||| ((m 72 (Int32.toNatClampNeg x1)) &&& ((1 <<< ((m 73 (Int32.toNatClampNeg x1)) &&& 31)) ^^^ (-1))))) → Wp X mX3_relate 10 [some (.ref 71), some (.int (x1 + 1)), none] [] m5 Q)) ∧ (¬ (m 73 (Int32.toNatClampNeg x1)) < 0 → vp_in x1 128 ∧ CallI X mX8_isIn [.int (m 72 (Int32.toNatClampNeg x1)), .int (m 73 (Int32.toNatClampNeg x1))] m (fun v7 m6 => (¬ v7 = 0 → ((m 73 (Int32.toNatClampNeg x1)) < 0 → Wp X mX3_relate 10 [some (.ref 71), some (.int (x1 + 1)), none] [] m6 Q) ∧ (¬ (m 73 (Int32.toNatClampNeg x1)) < 0 → vp_in (m 73 (Int32.toNatClampNeg x1)) 10 ∧ vp_in x1 128 ∧ vp_in (m 73 (Int32.toNatClampNeg x1)) 10 ∧ ∀ m8, m8 = (a_up m6 74 (Int32.toNatClampNeg (m 73 (Int32.toNatClampNeg x1))) ((m6 74 (Int32.toNatClampNeg (m 73 (Int32.toNatClampNeg x1)))) ||| ((m6 72 (Int32.toNatClampNeg x1)) &&& ((1 <<< ((m 73 (Int32.toNatClampNeg x1)) &&& 31)) ^^^ (-1))))) → Wp X mX3_relate 10 [some (.ref 71), some (.int (x1 + 1)), none] [] m8 Q)) ∧ (v7 = 0 → Q (some (.int 0)) m6))))))) : Wp X mX3_relate 10 [some (.ref 71), some (.int x1), none] [] m Q := by
  refine Wp.pk 2 (pc' := 14) (lv' := [some (.ref 71), some (.int x1), none]) (st' := [.int 128, .int x1]) rfl ?_
  refine Wp.icmp_ge rfl rfl ⟨fun hc => ?_, fun hc => ?_⟩
  · replace h := h.1 hc
    refine Wp.pk 1 (pc' := 89) (lv' := [some (.ref 71), some (.int x1), none]) (st' := [.int 1]) rfl ?_
    exact Wp.iret rfl rfl ⟨rfl, h⟩
  · replace h := h.2 hc
    refine Wp.pk 1 (pc' := 18) (lv' := [some (.ref 71), some (.int x1), none]) (st' := [.ref 71]) rfl ?_
    refine Wp.getR rfl rfl sh71 rfl ?_
    refine Wp.pk 1 (pc' := 22) (lv' := [some (.ref 71), some (.int x1), none]) (st' := [.int x1, .ref 73]) rfl ?_
    refine Wp.iald rfl sh73 ⟨h.1, ?_⟩
    replace h := h.2
    refine Wp.pk 3 (pc' := 26) (lv' := [some (.ref 71), some (.int x1), some (.int (m 73 (Int32.toNatClampNeg x1)))]) (st' := [.int (-1), .int (m 73 (Int32.toNatClampNeg x1))]) rfl ?_
    refine Wp.icmp_ne rfl rfl ⟨fun hc => ?_, fun hc => ?_⟩
    · replace h := h.1 hc
      refine Wp.pk 1 (pc' := 39) (lv' := [some (.ref 71), some (.int x1), some (.int (m 73 (Int32.toNatClampNeg x1)))]) (st' := [.int (m 73 (Int32.toNatClampNeg x1))]) rfl ?_
      refine Wp.if_lt rfl rfl ⟨fun hc => ?_, fun hc => ?_⟩
      · replace h := h.1 hc
        refine Wp.pk 1 (pc' := 58) (lv' := [some (.ref 71), some (.int x1), some (.int (m 73 (Int32.toNatClampNeg x1)))]) (st' := [.int (m 73 (Int32.toNatClampNeg x1))]) rfl ?_
        refine Wp.if_lt rfl rfl ⟨fun hc => ?_, fun hc => ?_⟩
        · replace h := h.1 hc
          refine Wp.pk 2 (pc' := 10) (lv' := [some (.ref 71), some (.int (x1 + 1)), some (.int (m 73 (Int32.toNatClampNeg x1)))]) (st' := []) rfl ?_
          exact Wp.fgt (lv := [some (.ref 71), some (.int (x1 + 1)), none]) (a_lle.of (a_lleb_e (a_lleb_e (a_lleb_i trivial)))) h
        · replace h := h.2 hc
          refine Wp.pk 1 (pc' := 62) (lv' := [some (.ref 71), some (.int x1), some (.int (m 73 (Int32.toNatClampNeg x1)))]) (st' := [.ref 71]) rfl ?_
          refine Wp.getR rfl rfl sh71 rfl ?_
          refine Wp.pk 2 (pc' := 67) (lv' := [some (.ref 71), some (.int x1), some (.int (m 73 (Int32.toNatClampNeg x1)))]) (st' := [.int (m 73 (Int32.toNatClampNeg x1)), .ref 74, .int (m 73 (Int32.toNatClampNeg x1)), .ref 74]) rfl ?_
          refine Wp.iald rfl sh74 ⟨h.1, ?_⟩
          replace h := h.2
          refine Wp.pk 1 (pc' := 69) (lv' := [some (.ref 71), some (.int x1), some (.int (m 73 (Int32.toNatClampNeg x1)))]) (st' := [.ref 71, .int (m 74 (Int32.toNatClampNeg (m 73 (Int32.toNatClampNeg x1)))), .int (m 73 (Int32.toNatClampNeg x1)), .ref 74]) rfl ?_
          refine Wp.getR rfl rfl sh71 rfl ?_
          refine Wp.pk 1 (pc' := 73) (lv' := [some (.ref 71), some (.int x1), some (.int (m 73 (Int32.toNatClampNeg x1)))]) (st' := [.int x1, .ref 72, .int (m 74 (Int32.toNatClampNeg (m 73 (Int32.toNatClampNeg x1)))), .int (m 73 (Int32.toNatClampNeg x1)), .ref 74]) rfl ?_
          refine Wp.iald rfl sh72 ⟨h.1, ?_⟩
          replace h := h.2
          refine Wp.pk 7 (pc' := 81) (lv' := [some (.ref 71), some (.int x1), some (.int (m 73 (Int32.toNatClampNeg x1)))]) (st' := [.int ((m 74 (Int32.toNatClampNeg (m 73 (Int32.toNatClampNeg x1)))) ||| ((m 72 (Int32.toNatClampNeg x1)) &&& ((1 <<< ((m 73 (Int32.toNatClampNeg x1)) &&& 31)) ^^^ (-1)))), .int (m 73 (Int32.toNatClampNeg x1)), .ref 74]) rfl ?_
          refine Wp.iastN rfl sh74 h.1 (fun m1 hm => ?_)
          replace h := h.2 _ hm
          refine Wp.pk 2 (pc' := 10) (lv' := [some (.ref 71), some (.int (x1 + 1)), some (.int (m 73 (Int32.toNatClampNeg x1)))]) (st' := []) rfl ?_
          exact Wp.fgt (lv := [some (.ref 71), some (.int (x1 + 1)), none]) (a_lle.of (a_lleb_e (a_lleb_e (a_lleb_i trivial)))) h
      · replace h := h.2 hc
        refine Wp.pk 1 (pc' := 43) (lv' := [some (.ref 71), some (.int x1), some (.int (m 73 (Int32.toNatClampNeg x1)))]) (st' := [.ref 71]) rfl ?_
        refine Wp.getR rfl rfl sh71 rfl ?_
        refine Wp.pk 1 (pc' := 47) (lv' := [some (.ref 71), some (.int x1), some (.int (m 73 (Int32.toNatClampNeg x1)))]) (st' := [.int x1, .ref 72]) rfl ?_
        refine Wp.iald rfl sh72 ⟨h.1, ?_⟩
        replace h := h.2
        refine Wp.pk 1 (pc' := 49) (lv' := [some (.ref 71), some (.int x1), some (.int (m 73 (Int32.toNatClampNeg x1)))]) (st' := [.int (m 73 (Int32.toNatClampNeg x1)), .int (m 72 (Int32.toNatClampNeg x1))]) rfl ?_
        refine Wp.callI rfl rfl rfl (CallI.mono h (fun v3 m2 h => ?_))
        refine Wp.if_ne rfl rfl ⟨fun hc => ?_, fun hc => ?_⟩
        · replace h := h.1 hc
          refine Wp.pk 1 (pc' := 58) (lv' := [some (.ref 71), some (.int x1), some (.int (m 73 (Int32.toNatClampNeg x1)))]) (st' := [.int (m 73 (Int32.toNatClampNeg x1))]) rfl ?_
          refine Wp.if_lt rfl rfl ⟨fun hc => ?_, fun hc => ?_⟩
          · replace h := h.1 hc
            refine Wp.pk 2 (pc' := 10) (lv' := [some (.ref 71), some (.int (x1 + 1)), some (.int (m 73 (Int32.toNatClampNeg x1)))]) (st' := []) rfl ?_
            exact Wp.fgt (lv := [some (.ref 71), some (.int (x1 + 1)), none]) (a_lle.of (a_lleb_e (a_lleb_e (a_lleb_i trivial)))) h
          · replace h := h.2 hc
            refine Wp.pk 1 (pc' := 62) (lv' := [some (.ref 71), some (.int x1), some (.int (m 73 (Int32.toNatClampNeg x1)))]) (st' := [.ref 71]) rfl ?_
            refine Wp.getR rfl rfl sh71 rfl ?_
            refine Wp.pk 2 (pc' := 67) (lv' := [some (.ref 71), some (.int x1), some (.int (m 73 (Int32.toNatClampNeg x1)))]) (st' := [.int (m 73 (Int32.toNatClampNeg x1)), .ref 74, .int (m 73 (Int32.toNatClampNeg x1)), .ref 74]) rfl ?_
            refine Wp.iald rfl sh74 ⟨h.1, ?_⟩
            replace h := h.2
            refine Wp.pk 1 (pc' := 69) (lv' := [some (.ref 71), some (.int x1), some (.int (m 73 (Int32.toNatClampNeg x1)))]) (st' := [.ref 71, .int (m2 74 (Int32.toNatClampNeg (m 73 (Int32.toNatClampNeg x1)))), .int (m 73 (Int32.toNatClampNeg x1)), .ref 74]) rfl ?_
            refine Wp.getR rfl rfl sh71 rfl ?_
            refine Wp.pk 1 (pc' := 73) (lv' := [some (.ref 71), some (.int x1), some (.int (m 73 (Int32.toNatClampNeg x1)))]) (st' := [.int x1, .ref 72, .int (m2 74 (Int32.toNatClampNeg (m 73 (Int32.toNatClampNeg x1)))), .int (m 73 (Int32.toNatClampNeg x1)), .ref 74]) rfl ?_
            refine Wp.iald rfl sh72 ⟨h.1, ?_⟩
            replace h := h.2
            refine Wp.pk 7 (pc' := 81) (lv' := [some (.ref 71), some (.int x1), some (.int (m 73 (Int32.toNatClampNeg x1)))]) (st' := [.int ((m2 74 (Int32.toNatClampNeg (m 73 (Int32.toNatClampNeg x1)))) ||| ((m2 72 (Int32.toNatClampNeg x1)) &&& ((1 <<< ((m 73 (Int32.toNatClampNeg x1)) &&& 31)) ^^^ (-1)))), .int (m 73 (Int32.toNatClampNeg x1)), .ref 74]) rfl ?_
            refine Wp.iastN rfl sh74 h.1 (fun m4 hm => ?_)
            replace h := h.2 _ hm
            refine Wp.pk 2 (pc' := 10) (lv' := [some (.ref 71), some (.int (x1 + 1)), some (.int (m 73 (Int32.toNatClampNeg x1)))]) (st' := []) rfl ?_
            exact Wp.fgt (lv := [some (.ref 71), some (.int (x1 + 1)), none]) (a_lle.of (a_lleb_e (a_lleb_e (a_lleb_i trivial)))) h
        · replace h := h.2 hc
          refine Wp.pk 1 (pc' := 56) (lv' := [some (.ref 71), some (.int x1), some (.int (m 73 (Int32.toNatClampNeg x1)))]) (st' := [.int 0]) rfl ?_
          exact Wp.iret rfl rfl ⟨rfl, h⟩
    · replace h := h.2 hc
      refine Wp.pk 1 (pc' := 30) (lv' := [some (.ref 71), some (.int x1), some (.int (m 73 (Int32.toNatClampNeg x1)))]) (st' := [.ref 71]) rfl ?_
      refine Wp.getR rfl rfl sh71 rfl ?_
      refine Wp.pk 1 (pc' := 34) (lv' := [some (.ref 71), some (.int x1), some (.int (m 73 (Int32.toNatClampNeg x1)))]) (st' := [.int x1, .ref 72]) rfl ?_
      refine Wp.iald rfl sh72 ⟨h.1, ?_⟩
      replace h := h.2
      refine Wp.if_ne rfl rfl ⟨fun hc => ?_, fun hc => ?_⟩
      · replace h := h.1 hc
        refine Wp.pk 1 (pc' := 56) (lv' := [some (.ref 71), some (.int x1), some (.int (m 73 (Int32.toNatClampNeg x1)))]) (st' := [.int 0]) rfl ?_
        exact Wp.iret rfl rfl ⟨rfl, h⟩
      · replace h := h.2 hc
        refine Wp.pk 1 (pc' := 39) (lv' := [some (.ref 71), some (.int x1), some (.int (m 73 (Int32.toNatClampNeg x1)))]) (st' := [.int (m 73 (Int32.toNatClampNeg x1))]) rfl ?_
        refine Wp.if_lt rfl rfl ⟨fun hc => ?_, fun hc => ?_⟩
        · replace h := h.1 hc
          refine Wp.pk 1 (pc' := 58) (lv' := [some (.ref 71), some (.int x1), some (.int (m 73 (Int32.toNatClampNeg x1)))]) (st' := [.int (m 73 (Int32.toNatClampNeg x1))]) rfl ?_
          refine Wp.if_lt rfl rfl ⟨fun hc => ?_, fun hc => ?_⟩
          · replace h := h.1 hc
            refine Wp.pk 2 (pc' := 10) (lv' := [some (.ref 71), some (.int (x1 + 1)), some (.int (m 73 (Int32.toNatClampNeg x1)))]) (st' := []) rfl ?_
            exact Wp.fgt (lv := [some (.ref 71), some (.int (x1 + 1)), none]) (a_lle.of (a_lleb_e (a_lleb_e (a_lleb_i trivial)))) h
          · replace h := h.2 hc
            refine Wp.pk 1 (pc' := 62) (lv' := [some (.ref 71), some (.int x1), some (.int (m 73 (Int32.toNatClampNeg x1)))]) (st' := [.ref 71]) rfl ?_
            refine Wp.getR rfl rfl sh71 rfl ?_
            refine Wp.pk 2 (pc' := 67) (lv' := [some (.ref 71), some (.int x1), some (.int (m 73 (Int32.toNatClampNeg x1)))]) (st' := [.int (m 73 (Int32.toNatClampNeg x1)), .ref 74, .int (m 73 (Int32.toNatClampNeg x1)), .ref 74]) rfl ?_
            refine Wp.iald rfl sh74 ⟨h.1, ?_⟩
            replace h := h.2
            refine Wp.pk 1 (pc' := 69) (lv' := [some (.ref 71), some (.int x1), some (.int (m 73 (Int32.toNatClampNeg x1)))]) (st' := [.ref 71, .int (m 74 (Int32.toNatClampNeg (m 73 (Int32.toNatClampNeg x1)))), .int (m 73 (Int32.toNatClampNeg x1)), .ref 74]) rfl ?_
            refine Wp.getR rfl rfl sh71 rfl ?_
            refine Wp.pk 1 (pc' := 73) (lv' := [some (.ref 71), some (.int x1), some (.int (m 73 (Int32.toNatClampNeg x1)))]) (st' := [.int x1, .ref 72, .int (m 74 (Int32.toNatClampNeg (m 73 (Int32.toNatClampNeg x1)))), .int (m 73 (Int32.toNatClampNeg x1)), .ref 74]) rfl ?_
            refine Wp.iald rfl sh72 ⟨h.1, ?_⟩
            replace h := h.2
            refine Wp.pk 7 (pc' := 81) (lv' := [some (.ref 71), some (.int x1), some (.int (m 73 (Int32.toNatClampNeg x1)))]) (st' := [.int ((m 74 (Int32.toNatClampNeg (m 73 (Int32.toNatClampNeg x1)))) ||| ((m 72 (Int32.toNatClampNeg x1)) &&& ((1 <<< ((m 73 (Int32.toNatClampNeg x1)) &&& 31)) ^^^ (-1)))), .int (m 73 (Int32.toNatClampNeg x1)), .ref 74]) rfl ?_
            refine Wp.iastN rfl sh74 h.1 (fun m5 hm => ?_)
            replace h := h.2 _ hm
            refine Wp.pk 2 (pc' := 10) (lv' := [some (.ref 71), some (.int (x1 + 1)), some (.int (m 73 (Int32.toNatClampNeg x1)))]) (st' := []) rfl ?_
            exact Wp.fgt (lv := [some (.ref 71), some (.int (x1 + 1)), none]) (a_lle.of (a_lleb_e (a_lleb_e (a_lleb_i trivial)))) h
        · replace h := h.2 hc
          refine Wp.pk 1 (pc' := 43) (lv' := [some (.ref 71), some (.int x1), some (.int (m 73 (Int32.toNatClampNeg x1)))]) (st' := [.ref 71]) rfl ?_
          refine Wp.getR rfl rfl sh71 rfl ?_
          refine Wp.pk 1 (pc' := 47) (lv' := [some (.ref 71), some (.int x1), some (.int (m 73 (Int32.toNatClampNeg x1)))]) (st' := [.int x1, .ref 72]) rfl ?_
          refine Wp.iald rfl sh72 ⟨h.1, ?_⟩
          replace h := h.2
          refine Wp.pk 1 (pc' := 49) (lv' := [some (.ref 71), some (.int x1), some (.int (m 73 (Int32.toNatClampNeg x1)))]) (st' := [.int (m 73 (Int32.toNatClampNeg x1)), .int (m 72 (Int32.toNatClampNeg x1))]) rfl ?_
          refine Wp.callI rfl rfl rfl (CallI.mono h (fun v7 m6 h => ?_))
          refine Wp.if_ne rfl rfl ⟨fun hc => ?_, fun hc => ?_⟩
          · replace h := h.1 hc
            refine Wp.pk 1 (pc' := 58) (lv' := [some (.ref 71), some (.int x1), some (.int (m 73 (Int32.toNatClampNeg x1)))]) (st' := [.int (m 73 (Int32.toNatClampNeg x1))]) rfl ?_
            refine Wp.if_lt rfl rfl ⟨fun hc => ?_, fun hc => ?_⟩
            · replace h := h.1 hc
              refine Wp.pk 2 (pc' := 10) (lv' := [some (.ref 71), some (.int (x1 + 1)), some (.int (m 73 (Int32.toNatClampNeg x1)))]) (st' := []) rfl ?_
              exact Wp.fgt (lv := [some (.ref 71), some (.int (x1 + 1)), none]) (a_lle.of (a_lleb_e (a_lleb_e (a_lleb_i trivial)))) h
            · replace h := h.2 hc
              refine Wp.pk 1 (pc' := 62) (lv' := [some (.ref 71), some (.int x1), some (.int (m 73 (Int32.toNatClampNeg x1)))]) (st' := [.ref 71]) rfl ?_
              refine Wp.getR rfl rfl sh71 rfl ?_
              refine Wp.pk 2 (pc' := 67) (lv' := [some (.ref 71), some (.int x1), some (.int (m 73 (Int32.toNatClampNeg x1)))]) (st' := [.int (m 73 (Int32.toNatClampNeg x1)), .ref 74, .int (m 73 (Int32.toNatClampNeg x1)), .ref 74]) rfl ?_
              refine Wp.iald rfl sh74 ⟨h.1, ?_⟩
              replace h := h.2
              refine Wp.pk 1 (pc' := 69) (lv' := [some (.ref 71), some (.int x1), some (.int (m 73 (Int32.toNatClampNeg x1)))]) (st' := [.ref 71, .int (m6 74 (Int32.toNatClampNeg (m 73 (Int32.toNatClampNeg x1)))), .int (m 73 (Int32.toNatClampNeg x1)), .ref 74]) rfl ?_
              refine Wp.getR rfl rfl sh71 rfl ?_
              refine Wp.pk 1 (pc' := 73) (lv' := [some (.ref 71), some (.int x1), some (.int (m 73 (Int32.toNatClampNeg x1)))]) (st' := [.int x1, .ref 72, .int (m6 74 (Int32.toNatClampNeg (m 73 (Int32.toNatClampNeg x1)))), .int (m 73 (Int32.toNatClampNeg x1)), .ref 74]) rfl ?_
              refine Wp.iald rfl sh72 ⟨h.1, ?_⟩
              replace h := h.2
              refine Wp.pk 7 (pc' := 81) (lv' := [some (.ref 71), some (.int x1), some (.int (m 73 (Int32.toNatClampNeg x1)))]) (st' := [.int ((m6 74 (Int32.toNatClampNeg (m 73 (Int32.toNatClampNeg x1)))) ||| ((m6 72 (Int32.toNatClampNeg x1)) &&& ((1 <<< ((m 73 (Int32.toNatClampNeg x1)) &&& 31)) ^^^ (-1)))), .int (m 73 (Int32.toNatClampNeg x1)), .ref 74]) rfl ?_
              refine Wp.iastN rfl sh74 h.1 (fun m8 hm => ?_)
              replace h := h.2 _ hm
              refine Wp.pk 2 (pc' := 10) (lv' := [some (.ref 71), some (.int (x1 + 1)), some (.int (m 73 (Int32.toNatClampNeg x1)))]) (st' := []) rfl ?_
              exact Wp.fgt (lv := [some (.ref 71), some (.int (x1 + 1)), none]) (a_lle.of (a_lleb_e (a_lleb_e (a_lleb_i trivial)))) h
          · replace h := h.2 hc
            refine Wp.pk 1 (pc' := 56) (lv' := [some (.ref 71), some (.int x1), some (.int (m 73 (Int32.toNatClampNeg x1)))]) (st' := [.int 0]) rfl ?_
            exact Wp.iret rfl rfl ⟨rfl, h⟩
theorem eX2_toRead_0 {X : a_X} {m : Nat → Nat → Int32} {Q : Option Value → (Nat → Nat → Int32) → Prop} {x2 : Int32} (h : CallV X mX2_lookUnder [.ref 47, .ref 15, .int x2] m (fun m1 => CallI X mX0_allCells [.ref 15, .int x2] m1 (fun v3 m2 => CallI X mX0_toFree [.ref 15, .int x2] m2 (fun v5 m4 => CallI X mJ6_bitCount_0f7a4 [.int v5] m4 (fun v7 m6 => Wp X mX2_toRead 41 [some (.ref 47), some (.ref 15), none, some (.int v3), some (.int v5), some (.int (-1)), some (.int 21), some (.int 0), some (.int (1 <<< (v7 &&& 31))), some (.int 0), none] [] m6 Q))))) : Call X mX2_toRead [.ref 47, .ref 15, .int x2] m Q := by
  unfold Call
  refine Wp.loc (lv' := [some (.ref 47), some (.ref 15), some (.int x2), none, none, none, none, none, none, none, none]) rfl ?_
  refine Wp.pk 3 (pc' := 3) (lv' := [some (.ref 47), some (.ref 15), some (.int x2), none, none, none, none, none, none, none, none]) (st' := [.int x2, .ref 15, .ref 47]) rfl ?_
  refine Wp.callV rfl rfl rfl (CallV.mono h (fun m1 h => ?_))
  refine Wp.pk 2 (pc' := 8) (lv' := [some (.ref 47), some (.ref 15), some (.int x2), none, none, none, none, none, none, none, none]) (st' := [.int x2, .ref 15]) rfl ?_
  refine Wp.callI rfl rfl rfl (CallI.mono h (fun v3 m2 h => ?_))
  refine Wp.pk 3 (pc' := 14) (lv' := [some (.ref 47), some (.ref 15), some (.int x2), some (.int v3), none, none, none, none, none, none, none]) (st' := [.int x2, .ref 15]) rfl ?_
  refine Wp.callI rfl rfl rfl (CallI.mono h (fun v5 m4 h => ?_))
  refine Wp.pk 9 (pc' := 32) (lv' := [some (.ref 47), some (.ref 15), some (.int x2), some (.int v3), some (.int v5), some (.int (-1)), some (.int 21), some (.int 0), none, none, none]) (st' := [.int v5, .int 1]) rfl ?_
  refine Wp.callI rfl rfl rfl (CallI.mono h (fun v7 m6 h => ?_))
  refine Wp.pk 4 (pc' := 41) (lv' := [some (.ref 47), some (.ref 15), some (.int x2), some (.int v3), some (.int v5), some (.int (-1)), some (.int 21), some (.int 0), some (.int (1 <<< (v7 &&& 31))), some (.int 0), none]) (st' := []) rfl ?_
  exact Wp.fgt (lv := [some (.ref 47), some (.ref 15), none, some (.int v3), some (.int v5), some (.int (-1)), some (.int 21), some (.int 0), some (.int (1 <<< (v7 &&& 31))), some (.int 0), none]) (a_lle.of (a_lleb_e (a_lleb_e (a_lleb_i (a_lleb_e (a_lleb_e (a_lleb_e (a_lleb_e (a_lleb_e (a_lleb_e (a_lleb_e (a_lleb_e trivial)))))))))))) h
theorem eX2_toRead_41 {X : a_X} {m : Nat → Nat → Int32} {Q : Option Value → (Nat → Nat → Int32) → Prop} {x3 x4 x5 x6 x7 x8 x9 : Int32} (h : (x8 ≤ x9 → Q (some (.int x5)) m) ∧ (¬ x8 ≤ x9 → CallI X mJ6_bitCount_0f7a4 [.int x7] m (fun v2 m1 => (x6 ≤ v2 → Wp X mX2_toRead 41 [some (.ref 47), some (.ref 15), none, some (.int x3), some (.int x4), some (.int x5), some (.int x6), some (.int ((x7 - x4) &&& x4)), some (.int x8), some (.int (x9 + 1)), none] [] m1 Q) ∧ (¬ x6 ≤ v2 → CallI X mX2_isLiftable [.ref 47, .ref 15, .int x7] m1 (fun v4 m3 => (v4 = 0 → Wp X mX2_toRead 41 [some (.ref 47), some (.ref 15), none, some (.int x3), some (.int x4), some (.int x5), some (.int x6), some (.int ((x7 - x4) &&& x4)), some (.int x8), some (.int (x9 + 1)), none] [] m3 Q) ∧ (¬ v4 = 0 → CallI X mX2_seenWithout [.ref 47, .int x7] m3 (fun v6 m5 => CallI X mX5_canRead [.ref 1, .int v6, .int x3] m5 (fun v8 m7 => (v8 = 0 → Wp X mX2_toRead 41 [some (.ref 47), some (.ref 15), none, some (.int x3), some (.int x4), some (.int x5), some (.int x6), some (.int ((x7 - x4) &&& x4)), some (.int x8), some (.int (x9 + 1)), none] [] m7 Q) ∧ (¬ v8 = 0 → Wp X mX2_toRead 41 [some (.ref 47), some (.ref 15), none, some (.int x3), some (.int x4), some (.int x7), some (.int v2), some (.int ((x7 - x4) &&& x4)), some (.int x8), some (.int (x9 + 1)), none] [] m7 Q))))))))) : Wp X mX2_toRead 41 [some (.ref 47), some (.ref 15), none, some (.int x3), some (.int x4), some (.int x5), some (.int x6), some (.int x7), some (.int x8), some (.int x9), none] [] m Q := by
  refine Wp.pk 2 (pc' := 45) (lv' := [some (.ref 47), some (.ref 15), none, some (.int x3), some (.int x4), some (.int x5), some (.int x6), some (.int x7), some (.int x8), some (.int x9), none]) (st' := [.int x8, .int x9]) rfl ?_
  refine Wp.icmp_ge rfl rfl ⟨fun hc => ?_, fun hc => ?_⟩
  · replace h := h.1 hc
    refine Wp.pk 1 (pc' := 115) (lv' := [some (.ref 47), some (.ref 15), none, some (.int x3), some (.int x4), some (.int x5), some (.int x6), some (.int x7), some (.int x8), some (.int x9), none]) (st' := [.int x5]) rfl ?_
    exact Wp.iret rfl rfl ⟨rfl, h⟩
  · replace h := h.2 hc
    refine Wp.pk 1 (pc' := 50) (lv' := [some (.ref 47), some (.ref 15), none, some (.int x3), some (.int x4), some (.int x5), some (.int x6), some (.int x7), some (.int x8), some (.int x9), none]) (st' := [.int x7]) rfl ?_
    refine Wp.callI rfl rfl rfl (CallI.mono h (fun v2 m1 h => ?_))
    refine Wp.pk 3 (pc' := 59) (lv' := [some (.ref 47), some (.ref 15), none, some (.int x3), some (.int x4), some (.int x5), some (.int x6), some (.int x7), some (.int x8), some (.int x9), some (.int v2)]) (st' := [.int x6, .int v2]) rfl ?_
    refine Wp.icmp_ge rfl rfl ⟨fun hc => ?_, fun hc => ?_⟩
    · replace h := h.1 hc
      refine Wp.pk 8 (pc' := 41) (lv' := [some (.ref 47), some (.ref 15), none, some (.int x3), some (.int x4), some (.int x5), some (.int x6), some (.int ((x7 - x4) &&& x4)), some (.int x8), some (.int (x9 + 1)), some (.int v2)]) (st' := []) rfl ?_
      exact Wp.fgt (lv := [some (.ref 47), some (.ref 15), none, some (.int x3), some (.int x4), some (.int x5), some (.int x6), some (.int ((x7 - x4) &&& x4)), some (.int x8), some (.int (x9 + 1)), none]) (a_lle.of (a_lleb_e (a_lleb_e (a_lleb_e (a_lleb_e (a_lleb_e (a_lleb_e (a_lleb_e (a_lleb_e (a_lleb_e (a_lleb_e (a_lleb_i trivial)))))))))))) h
    · replace h := h.2 hc
      refine Wp.pk 3 (pc' := 66) (lv' := [some (.ref 47), some (.ref 15), none, some (.int x3), some (.int x4), some (.int x5), some (.int x6), some (.int x7), some (.int x8), some (.int x9), some (.int v2)]) (st' := [.int x7, .ref 15, .ref 47]) rfl ?_
      refine Wp.callI rfl rfl rfl (CallI.mono h (fun v4 m3 h => ?_))
      refine Wp.if_eq rfl rfl ⟨fun hc => ?_, fun hc => ?_⟩
      · replace h := h.1 hc
        refine Wp.pk 8 (pc' := 41) (lv' := [some (.ref 47), some (.ref 15), none, some (.int x3), some (.int x4), some (.int x5), some (.int x6), some (.int ((x7 - x4) &&& x4)), some (.int x8), some (.int (x9 + 1)), some (.int v2)]) (st' := []) rfl ?_
        exact Wp.fgt (lv := [some (.ref 47), some (.ref 15), none, some (.int x3), some (.int x4), some (.int x5), some (.int x6), some (.int ((x7 - x4) &&& x4)), some (.int x8), some (.int (x9 + 1)), none]) (a_lle.of (a_lleb_e (a_lleb_e (a_lleb_e (a_lleb_e (a_lleb_e (a_lleb_e (a_lleb_e (a_lleb_e (a_lleb_e (a_lleb_e (a_lleb_i trivial)))))))))))) h
      · replace h := h.2 hc
        refine Wp.pk 1 (pc' := 73) (lv' := [some (.ref 47), some (.ref 15), none, some (.int x3), some (.int x4), some (.int x5), some (.int x6), some (.int x7), some (.int x8), some (.int x9), some (.int v2)]) (st' := [.ref 47]) rfl ?_
        refine Wp.getR rfl rfl sh47 rfl ?_
        refine Wp.pk 2 (pc' := 79) (lv' := [some (.ref 47), some (.ref 15), none, some (.int x3), some (.int x4), some (.int x5), some (.int x6), some (.int x7), some (.int x8), some (.int x9), some (.int v2)]) (st' := [.int x7, .ref 47, .ref 1]) rfl ?_
        refine Wp.callI rfl rfl rfl (CallI.mono h (fun v6 m5 h => ?_))
        refine Wp.pk 1 (pc' := 83) (lv' := [some (.ref 47), some (.ref 15), none, some (.int x3), some (.int x4), some (.int x5), some (.int x6), some (.int x7), some (.int x8), some (.int x9), some (.int v2)]) (st' := [.int x3, .int v6, .ref 1]) rfl ?_
        refine Wp.callI rfl rfl rfl (CallI.mono h (fun v8 m7 h => ?_))
        refine Wp.if_eq rfl rfl ⟨fun hc => ?_, fun hc => ?_⟩
        · replace h := h.1 hc
          refine Wp.pk 8 (pc' := 41) (lv' := [some (.ref 47), some (.ref 15), none, some (.int x3), some (.int x4), some (.int x5), some (.int x6), some (.int ((x7 - x4) &&& x4)), some (.int x8), some (.int (x9 + 1)), some (.int v2)]) (st' := []) rfl ?_
          exact Wp.fgt (lv := [some (.ref 47), some (.ref 15), none, some (.int x3), some (.int x4), some (.int x5), some (.int x6), some (.int ((x7 - x4) &&& x4)), some (.int x8), some (.int (x9 + 1)), none]) (a_lle.of (a_lleb_e (a_lleb_e (a_lleb_e (a_lleb_e (a_lleb_e (a_lleb_e (a_lleb_e (a_lleb_e (a_lleb_e (a_lleb_e (a_lleb_i trivial)))))))))))) h
        · replace h := h.2 hc
          refine Wp.pk 12 (pc' := 41) (lv' := [some (.ref 47), some (.ref 15), none, some (.int x3), some (.int x4), some (.int x7), some (.int v2), some (.int ((x7 - x4) &&& x4)), some (.int x8), some (.int (x9 + 1)), some (.int v2)]) (st' := []) rfl ?_
          exact Wp.fgt (lv := [some (.ref 47), some (.ref 15), none, some (.int x3), some (.int x4), some (.int x7), some (.int v2), some (.int ((x7 - x4) &&& x4)), some (.int x8), some (.int (x9 + 1)), none]) (a_lle.of (a_lleb_e (a_lleb_e (a_lleb_e (a_lleb_e (a_lleb_e (a_lleb_e (a_lleb_e (a_lleb_e (a_lleb_e (a_lleb_e (a_lleb_i trivial)))))))))))) h
theorem eX2_lookUnder_0 {X : a_X} {m : Nat → Nat → Int32} {Q : Option Value → (Nat → Nat → Int32) → Prop} {x2 : Int32} (h : Wp X mX2_lookUnder 2 [some (.ref 47), some (.ref 15), some (.int x2), some (.int 0), none, none] [] m Q) : Call X mX2_lookUnder [.ref 47, .ref 15, .int x2] m Q := by
  unfold Call
  refine Wp.loc (lv' := [some (.ref 47), some (.ref 15), some (.int x2), none, none, none]) rfl ?_
  refine Wp.pk 2 (pc' := 2) (lv' := [some (.ref 47), some (.ref 15), some (.int x2), some (.int 0), none, none]) (st' := []) rfl ?_
  exact h
theorem eX2_lookUnder_2 {X : a_X} {m : Nat → Nat → Int32} {Q : Option Value → (Nat → Nat → Int32) → Prop} {x2 x3 : Int32} (h : ((m 15 1) ≤ x3 → ∀ m1, m1 = (a_up m 47 3 0) → vp_in x2 20 ∧ Wp X mX2_lookUnder 39 [some (.ref 47), some (.ref 15), some (.int x2), some (.int (m1 18 (Int32.toNatClampNeg x2))), none, none] [] m1 Q) ∧ (¬ (m 15 1) ≤ x3 → CallI X mX0_coversOf [.ref 15, .int x3] m (fun v3 m2 => vp_in x3 20 ∧ ∀ m4, m4 = (a_up m2 48 (Int32.toNatClampNeg x3) v3) → Wp X mX2_lookUnder 2 [some (.ref 47), some (.ref 15), some (.int x2), some (.int (x3 + 1)), none, none] [] m4 Q))) : Wp X mX2_lookUnder 2 [some (.ref 47), some (.ref 15), some (.int x2), some (.int x3), none, none] [] m Q := by
  refine Wp.pk 2 (pc' := 4) (lv' := [some (.ref 47), some (.ref 15), some (.int x2), some (.int x3), none, none]) (st' := [.ref 15, .int x3]) rfl ?_
  refine Wp.getI rfl rfl sh15 rfl ?_
  refine Wp.icmp_ge rfl rfl ⟨fun hc => ?_, fun hc => ?_⟩
  · replace h := h.1 hc
    refine Wp.pk 2 (pc' := 29) (lv' := [some (.ref 47), some (.ref 15), some (.int x2), some (.int x3), none, none]) (st' := [.int 0, .ref 47]) rfl ?_
    refine Wp.putN rfl rfl sh47 rfl rfl (fun m1 hm => ?_)
    replace h := h _ hm
    refine Wp.pk 1 (pc' := 33) (lv' := [some (.ref 47), some (.ref 15), some (.int x2), some (.int x3), none, none]) (st' := [.ref 15]) rfl ?_
    refine Wp.getR rfl rfl sh15 rfl ?_
    refine Wp.pk 1 (pc' := 37) (lv' := [some (.ref 47), some (.ref 15), some (.int x2), some (.int x3), none, none]) (st' := [.int x2, .ref 18]) rfl ?_
    refine Wp.iald rfl sh18 ⟨h.1, ?_⟩
    replace h := h.2
    refine Wp.pk 1 (pc' := 39) (lv' := [some (.ref 47), some (.ref 15), some (.int x2), some (.int (m1 18 (Int32.toNatClampNeg x2))), none, none]) (st' := []) rfl ?_
    exact h
  · replace h := h.2 hc
    refine Wp.pk 1 (pc' := 11) (lv' := [some (.ref 47), some (.ref 15), some (.int x2), some (.int x3), none, none]) (st' := [.ref 47]) rfl ?_
    refine Wp.getR rfl rfl sh47 rfl ?_
    refine Wp.pk 3 (pc' := 17) (lv' := [some (.ref 47), some (.ref 15), some (.int x2), some (.int x3), none, none]) (st' := [.int x3, .ref 15, .int x3, .ref 48]) rfl ?_
    refine Wp.callI rfl rfl rfl (CallI.mono h (fun v3 m2 h => ?_))
    refine Wp.iastN rfl sh48 h.1 (fun m4 hm => ?_)
    replace h := h.2 _ hm
    refine Wp.pk 2 (pc' := 2) (lv' := [some (.ref 47), some (.ref 15), some (.int x2), some (.int (x3 + 1)), none, none]) (st' := []) rfl ?_
    exact h
theorem eX2_lookUnder_39 {X : a_X} {m : Nat → Nat → Int32} {Q : Option Value → (Nat → Nat → Int32) → Prop} {x2 x3 : Int32} (h : CallI X mX0_bottom [.ref 15, .int x2] m (fun v2 m1 => (v2 ≤ x3 → Q none m1) ∧ (¬ v2 ≤ x3 → vp_in x2 20 ∧ Wp X mX2_lookUnder 56 [some (.ref 47), some (.ref 15), some (.int x2), some (.int x3), some (.int (m1 17 (Int32.toNatClampNeg x2))), none] [] m1 Q))) : Wp X mX2_lookUnder 39 [some (.ref 47), some (.ref 15), some (.int x2), some (.int x3), none, none] [] m Q := by
  refine Wp.pk 3 (pc' := 42) (lv' := [some (.ref 47), some (.ref 15), some (.int x2), some (.int x3), none, none]) (st' := [.int x2, .ref 15, .int x3]) rfl ?_
  refine Wp.callI rfl rfl rfl (CallI.mono h (fun v2 m1 h => ?_))
  refine Wp.icmp_ge rfl rfl ⟨fun hc => ?_, fun hc => ?_⟩
  · replace h := h.1 hc
    exact Wp.vret rfl rfl h
  · replace h := h.2 hc
    refine Wp.pk 1 (pc' := 49) (lv' := [some (.ref 47), some (.ref 15), some (.int x2), some (.int x3), none, none]) (st' := [.ref 15]) rfl ?_
    refine Wp.getR rfl rfl sh15 rfl ?_
    refine Wp.pk 1 (pc' := 53) (lv' := [some (.ref 47), some (.ref 15), some (.int x2), some (.int x3), none, none]) (st' := [.int x2, .ref 17]) rfl ?_
    refine Wp.iald rfl sh17 ⟨h.1, ?_⟩
    replace h := h.2
    refine Wp.pk 1 (pc' := 56) (lv' := [some (.ref 47), some (.ref 15), some (.int x2), some (.int x3), some (.int (m1 17 (Int32.toNatClampNeg x2))), none]) (st' := []) rfl ?_
    exact h
theorem eX2_lookUnder_56 {X : a_X} {m : Nat → Nat → Int32} {Q : Option Value → (Nat → Nat → Int32) → Prop} {x2 x3 x4 : Int32} (h : CallI X mX0_right [.ref 15, .int x2] m (fun v2 m1 => (v2 ≤ x4 → Wp X mX2_lookUnder 39 [some (.ref 47), some (.ref 15), some (.int x2), some (.int (x3 + 1)), none, none] [] m1 Q) ∧ (¬ v2 ≤ x4 → CallI X mX8_cellAt [.int x4, .int x3] m1 (fun v4 m3 => vp_in v4 128 ∧ CallI X mX8_isIn [.int (m3 21 (Int32.toNatClampNeg v4)), .int x2] m3 (fun v6 m5 => (v6 = 0 → Wp X mX2_lookUnder 56 [some (.ref 47), some (.ref 15), some (.int x2), some (.int x3), some (.int (x4 + 1)), none] [] m5 Q) ∧ (¬ v6 = 0 → CallI X mX0_laterThan [.int (m3 21 (Int32.toNatClampNeg v4)), .int x2] m5 (fun v8 m7 => vp_in (m5 47 3) 128 ∧ ∀ m9, m9 = (a_up m7 49 (Int32.toNatClampNeg (m5 47 3)) v8) → ∀ m10, m10 = (a_up m9 47 3 ((m9 47 3) + 1)) → Wp X mX2_lookUnder 56 [some (.ref 47), some (.ref 15), some (.int x2), some (.int x3), some (.int (x4 + 1)), none] [] m10 Q))))))) : Wp X mX2_lookUnder 56 [some (.ref 47), some (.ref 15), some (.int x2), some (.int x3), some (.int x4), none] [] m Q := by
  refine Wp.pk 3 (pc' := 60) (lv' := [some (.ref 47), some (.ref 15), some (.int x2), some (.int x3), some (.int x4), none]) (st' := [.int x2, .ref 15, .int x4]) rfl ?_
  refine Wp.callI rfl rfl rfl (CallI.mono h (fun v2 m1 h => ?_))
  refine Wp.icmp_ge rfl rfl ⟨fun hc => ?_, fun hc => ?_⟩
  · replace h := h.1 hc
    refine Wp.pk 2 (pc' := 39) (lv' := [some (.ref 47), some (.ref 15), some (.int x2), some (.int (x3 + 1)), some (.int x4), none]) (st' := []) rfl ?_
    exact Wp.fgt (lv := [some (.ref 47), some (.ref 15), some (.int x2), some (.int (x3 + 1)), none, none]) (a_lle.of (a_lleb_e (a_lleb_e (a_lleb_e (a_lleb_e (a_lleb_i (a_lleb_e trivial))))))) h
  · replace h := h.2 hc
    refine Wp.pk 1 (pc' := 67) (lv' := [some (.ref 47), some (.ref 15), some (.int x2), some (.int x3), some (.int x4), none]) (st' := [.ref 15]) rfl ?_
    refine Wp.getR rfl rfl sh15 rfl ?_
    refine Wp.pk 2 (pc' := 73) (lv' := [some (.ref 47), some (.ref 15), some (.int x2), some (.int x3), some (.int x4), none]) (st' := [.int x3, .int x4, .ref 21]) rfl ?_
    refine Wp.callI rfl rfl rfl (CallI.mono h (fun v4 m3 h => ?_))
    refine Wp.iald rfl sh21 ⟨h.1, ?_⟩
    replace h := h.2
    refine Wp.pk 3 (pc' := 82) (lv' := [some (.ref 47), some (.ref 15), some (.int x2), some (.int x3), some (.int x4), some (.int (m3 21 (Int32.toNatClampNeg v4)))]) (st' := [.int x2, .int (m3 21 (Int32.toNatClampNeg v4))]) rfl ?_
    refine Wp.callI rfl rfl rfl (CallI.mono h (fun v6 m5 h => ?_))
    refine Wp.if_eq rfl rfl ⟨fun hc => ?_, fun hc => ?_⟩
    · replace h := h.1 hc
      refine Wp.pk 2 (pc' := 56) (lv' := [some (.ref 47), some (.ref 15), some (.int x2), some (.int x3), some (.int (x4 + 1)), some (.int (m3 21 (Int32.toNatClampNeg v4)))]) (st' := []) rfl ?_
      exact Wp.fgt (lv := [some (.ref 47), some (.ref 15), some (.int x2), some (.int x3), some (.int (x4 + 1)), none]) (a_lle.of (a_lleb_e (a_lleb_e (a_lleb_e (a_lleb_e (a_lleb_e (a_lleb_i trivial))))))) h
    · replace h := h.2 hc
      refine Wp.pk 1 (pc' := 89) (lv' := [some (.ref 47), some (.ref 15), some (.int x2), some (.int x3), some (.int x4), some (.int (m3 21 (Int32.toNatClampNeg v4)))]) (st' := [.ref 47]) rfl ?_
      refine Wp.getR rfl rfl sh47 rfl ?_
      refine Wp.pk 1 (pc' := 93) (lv' := [some (.ref 47), some (.ref 15), some (.int x2), some (.int x3), some (.int x4), some (.int (m3 21 (Int32.toNatClampNeg v4)))]) (st' := [.ref 47, .ref 49]) rfl ?_
      refine Wp.getI rfl rfl sh47 rfl ?_
      refine Wp.pk 2 (pc' := 99) (lv' := [some (.ref 47), some (.ref 15), some (.int x2), some (.int x3), some (.int x4), some (.int (m3 21 (Int32.toNatClampNeg v4)))]) (st' := [.int x2, .int (m3 21 (Int32.toNatClampNeg v4)), .int (m5 47 3), .ref 49]) rfl ?_
      refine Wp.callI rfl rfl rfl (CallI.mono h (fun v8 m7 h => ?_))
      refine Wp.iastN rfl sh49 h.1 (fun m9 hm => ?_)
      replace h := h.2 _ hm
      refine Wp.pk 2 (pc' := 105) (lv' := [some (.ref 47), some (.ref 15), some (.int x2), some (.int x3), some (.int x4), some (.int (m3 21 (Int32.toNatClampNeg v4)))]) (st' := [.ref 47, .ref 47]) rfl ?_
      refine Wp.getI rfl rfl sh47 rfl ?_
      refine Wp.pk 2 (pc' := 110) (lv' := [some (.ref 47), some (.ref 15), some (.int x2), some (.int x3), some (.int x4), some (.int (m3 21 (Int32.toNatClampNeg v4)))]) (st' := [.int ((m9 47 3) + 1), .ref 47]) rfl ?_
      refine Wp.putN rfl rfl sh47 rfl rfl (fun m10 hm => ?_)
      replace h := h _ hm
      refine Wp.pk 2 (pc' := 56) (lv' := [some (.ref 47), some (.ref 15), some (.int x2), some (.int x3), some (.int (x4 + 1)), some (.int (m3 21 (Int32.toNatClampNeg v4)))]) (st' := []) rfl ?_
      exact Wp.fgt (lv := [some (.ref 47), some (.ref 15), some (.int x2), some (.int x3), some (.int (x4 + 1)), none]) (a_lle.of (a_lleb_e (a_lleb_e (a_lleb_e (a_lleb_e (a_lleb_e (a_lleb_i trivial))))))) h
theorem eX2_isLiftable_0 {X : a_X} {m : Nat → Nat → Int32} {Q : Option Value → (Nat → Nat → Int32) → Prop} {x2 : Int32} (h : Wp X mX2_isLiftable 2 [some (.ref 47), some (.ref 15), some (.int x2), some (.int 0)] [] m Q) : Call X mX2_isLiftable [.ref 47, .ref 15, .int x2] m Q := by
  unfold Call
  refine Wp.loc (lv' := [some (.ref 47), some (.ref 15), some (.int x2), none]) rfl ?_
  refine Wp.pk 2 (pc' := 2) (lv' := [some (.ref 47), some (.ref 15), some (.int x2), some (.int 0)]) (st' := []) rfl ?_
  exact h
theorem eX2_isLiftable_2 {X : a_X} {m : Nat → Nat → Int32} {Q : Option Value → (Nat → Nat → Int32) → Prop} {x2 x3 : Int32} (h : ((m 15 1) ≤ x3 → Q (some (.int 1)) m) ∧ (¬ (m 15 1) ≤ x3 → CallI X mX8_isIn [.int x2, .int x3] m (fun v2 m1 => (v2 = 0 → Wp X mX2_isLiftable 2 [some (.ref 47), some (.ref 15), some (.int x2), some (.int (x3 + 1))] [] m1 Q) ∧ (¬ v2 = 0 → vp_in x3 20 ∧ (((m1 48 (Int32.toNatClampNeg x3)) &&& (x2 ^^^ (-1))) = 0 → Wp X mX2_isLiftable 2 [some (.ref 47), some (.ref 15), some (.int x2), some (.int (x3 + 1))] [] m1 Q) ∧ (¬ ((m1 48 (Int32.toNatClampNeg x3)) &&& (x2 ^^^ (-1))) = 0 → Q (some (.int 0)) m1))))) : Wp X mX2_isLiftable 2 [some (.ref 47), some (.ref 15), some (.int x2), some (.int x3)] [] m Q := by
  refine Wp.pk 2 (pc' := 4) (lv' := [some (.ref 47), some (.ref 15), some (.int x2), some (.int x3)]) (st' := [.ref 15, .int x3]) rfl ?_
  refine Wp.getI rfl rfl sh15 rfl ?_
  refine Wp.icmp_ge rfl rfl ⟨fun hc => ?_, fun hc => ?_⟩
  · replace h := h.1 hc
    refine Wp.pk 1 (pc' := 40) (lv' := [some (.ref 47), some (.ref 15), some (.int x2), some (.int x3)]) (st' := [.int 1]) rfl ?_
    exact Wp.iret rfl rfl ⟨rfl, h⟩
  · replace h := h.2 hc
    refine Wp.pk 2 (pc' := 12) (lv' := [some (.ref 47), some (.ref 15), some (.int x2), some (.int x3)]) (st' := [.int x3, .int x2]) rfl ?_
    refine Wp.callI rfl rfl rfl (CallI.mono h (fun v2 m1 h => ?_))
    refine Wp.if_eq rfl rfl ⟨fun hc => ?_, fun hc => ?_⟩
    · replace h := h.1 hc
      refine Wp.pk 2 (pc' := 2) (lv' := [some (.ref 47), some (.ref 15), some (.int x2), some (.int (x3 + 1))]) (st' := []) rfl ?_
      exact h
    · replace h := h.2 hc
      refine Wp.pk 1 (pc' := 19) (lv' := [some (.ref 47), some (.ref 15), some (.int x2), some (.int x3)]) (st' := [.ref 47]) rfl ?_
      refine Wp.getR rfl rfl sh47 rfl ?_
      refine Wp.pk 1 (pc' := 23) (lv' := [some (.ref 47), some (.ref 15), some (.int x2), some (.int x3)]) (st' := [.int x3, .ref 48]) rfl ?_
      refine Wp.iald rfl sh48 ⟨h.1, ?_⟩
      replace h := h.2
      refine Wp.pk 4 (pc' := 28) (lv' := [some (.ref 47), some (.ref 15), some (.int x2), some (.int x3)]) (st' := [.int ((m1 48 (Int32.toNatClampNeg x3)) &&& (x2 ^^^ (-1)))]) rfl ?_
      refine Wp.if_eq rfl rfl ⟨fun hc => ?_, fun hc => ?_⟩
      · replace h := h.1 hc
        refine Wp.pk 2 (pc' := 2) (lv' := [some (.ref 47), some (.ref 15), some (.int x2), some (.int (x3 + 1))]) (st' := []) rfl ?_
        exact h
      · replace h := h.2 hc
        refine Wp.pk 1 (pc' := 32) (lv' := [some (.ref 47), some (.ref 15), some (.int x2), some (.int x3)]) (st' := [.int 0]) rfl ?_
        exact Wp.iret rfl rfl ⟨rfl, h⟩
theorem eX2_seenWithout_0 {X : a_X} {m : Nat → Nat → Int32} {Q : Option Value → (Nat → Nat → Int32) → Prop} {x1 : Int32} (h : Wp X mX2_seenWithout 4 [some (.ref 47), some (.int x1), some (.int 0), some (.int 0)] [] m Q) : Call X mX2_seenWithout [.ref 47, .int x1] m Q := by
  unfold Call
  refine Wp.loc (lv' := [some (.ref 47), some (.int x1), none, none]) rfl ?_
  refine Wp.pk 4 (pc' := 4) (lv' := [some (.ref 47), some (.int x1), some (.int 0), some (.int 0)]) (st' := []) rfl ?_
  exact h
theorem eX2_seenWithout_4 {X : a_X} {m : Nat → Nat → Int32} {Q : Option Value → (Nat → Nat → Int32) → Prop} {x1 x2 x3 : Int32} (h : ((m 47 3) ≤ x3 → Q (some (.int x2)) m) ∧ (¬ (m 47 3) ≤ x3 → vp_in x3 128 ∧ (¬ ((m 49 (Int32.toNatClampNeg x3)) &&& (x1 ^^^ (-1))) = 0 → Wp X mX2_seenWithout 4 [some (.ref 47), some (.int x1), some (.int x2), some (.int (x3 + 1))] [] m Q) ∧ (((m 49 (Int32.toNatClampNeg x3)) &&& (x1 ^^^ (-1))) = 0 → Wp X mX2_seenWithout 4 [some (.ref 47), some (.int x1), some (.int (x2 + 1)), some (.int (x3 + 1))] [] m Q))) : Wp X mX2_seenWithout 4 [some (.ref 47), some (.int x1), some (.int x2), some (.int x3)] [] m Q := by
  refine Wp.pk 2 (pc' := 6) (lv' := [some (.ref 47), some (.int x1), some (.int x2), some (.int x3)]) (st' := [.ref 47, .int x3]) rfl ?_
  refine Wp.getI rfl rfl sh47 rfl ?_
  refine Wp.icmp_ge rfl rfl ⟨fun hc => ?_, fun hc => ?_⟩
  · replace h := h.1 hc
    refine Wp.pk 1 (pc' := 35) (lv' := [some (.ref 47), some (.int x1), some (.int x2), some (.int x3)]) (st' := [.int x2]) rfl ?_
    exact Wp.iret rfl rfl ⟨rfl, h⟩
  · replace h := h.2 hc
    refine Wp.pk 1 (pc' := 13) (lv' := [some (.ref 47), some (.int x1), some (.int x2), some (.int x3)]) (st' := [.ref 47]) rfl ?_
    refine Wp.getR rfl rfl sh47 rfl ?_
    refine Wp.pk 1 (pc' := 17) (lv' := [some (.ref 47), some (.int x1), some (.int x2), some (.int x3)]) (st' := [.int x3, .ref 49]) rfl ?_
    refine Wp.iald rfl sh49 ⟨h.1, ?_⟩
    replace h := h.2
    refine Wp.pk 4 (pc' := 22) (lv' := [some (.ref 47), some (.int x1), some (.int x2), some (.int x3)]) (st' := [.int ((m 49 (Int32.toNatClampNeg x3)) &&& (x1 ^^^ (-1)))]) rfl ?_
    refine Wp.if_ne rfl rfl ⟨fun hc => ?_, fun hc => ?_⟩
    · replace h := h.1 hc
      refine Wp.pk 2 (pc' := 4) (lv' := [some (.ref 47), some (.int x1), some (.int x2), some (.int (x3 + 1))]) (st' := []) rfl ?_
      exact h
    · replace h := h.2 hc
      refine Wp.pk 3 (pc' := 4) (lv' := [some (.ref 47), some (.int x1), some (.int (x2 + 1)), some (.int (x3 + 1))]) (st' := []) rfl ?_
      exact h
