theorem eX9_copy_0 {X : a_X} {m : Nat → Nat → Int32} {Q : Option Value → (Nat → Nat → Int32) → Prop} {x1 x2 : Int32} (h : Wp X mX9_copy 2 [some (.ref 77), some (.int x1), some (.int x2), some (.int 0)] [] m Q) : Call X mX9_copy [.ref 77, .int x1, .int x2] m Q := by
  unfold Call
  refine Wp.loc (lv' := [some (.ref 77), some (.int x1), some (.int x2), none]) rfl ?_
  refine Wp.pk 2 (pc' := 2) (lv' := [some (.ref 77), some (.int x1), some (.int x2), some (.int 0)]) (st' := []) rfl ?_
  exact h
theorem eX9_copy_2 {X : a_X} {m : Nat → Nat → Int32} {Q : Option Value → (Nat → Nat → Int32) → Prop} {x1 x2 x3 : Int32} (h : (200 ≤ x3 → Q none m) ∧ (¬ 200 ≤ x3 → vp_in (x1 + x3) 800 ∧ vp_in (x2 + x3) 800 ∧ ∀ m1, m1 = (a_up m 78 (Int32.toNatClampNeg (x2 + x3)) (m 78 (Int32.toNatClampNeg (x1 + x3)))) → Wp X mX9_copy 2 [some (.ref 77), some (.int x1), some (.int x2), some (.int (x3 + 1))] [] m1 Q)) : Wp X mX9_copy 2 [some (.ref 77), some (.int x1), some (.int x2), some (.int x3)] [] m Q := by
  refine Wp.pk 2 (pc' := 6) (lv' := [some (.ref 77), some (.int x1), some (.int x2), some (.int x3)]) (st' := [.int 200, .int x3]) rfl ?_
  refine Wp.icmp_ge rfl rfl ⟨fun hc => ?_, fun hc => ?_⟩
  · replace h := h.1 hc
    exact Wp.vret rfl rfl h
  · replace h := h.2 hc
    refine Wp.pk 1 (pc' := 10) (lv' := [some (.ref 77), some (.int x1), some (.int x2), some (.int x3)]) (st' := [.ref 77]) rfl ?_
    refine Wp.getR rfl rfl sh77 rfl ?_
    refine Wp.pk 4 (pc' := 17) (lv' := [some (.ref 77), some (.int x1), some (.int x2), some (.int x3)]) (st' := [.ref 77, .int (x2 + x3), .ref 78]) rfl ?_
    refine Wp.getR rfl rfl sh77 rfl ?_
    refine Wp.pk 3 (pc' := 23) (lv' := [some (.ref 77), some (.int x1), some (.int x2), some (.int x3)]) (st' := [.int (x1 + x3), .ref 78, .int (x2 + x3), .ref 78]) rfl ?_
    refine Wp.iald rfl sh78 ⟨h.1, ?_⟩
    replace h := h.2
    refine Wp.iastN rfl sh78 h.1 (fun m1 hm => ?_)
    replace h := h.2 _ hm
    refine Wp.pk 2 (pc' := 2) (lv' := [some (.ref 77), some (.int x1), some (.int x2), some (.int (x3 + 1))]) (st' := []) rfl ?_
    exact h
theorem eX9_ownerOf_0 {X : a_X} {m : Nat → Nat → Int32} {Q : Option Value → (Nat → Nat → Int32) → Prop} {x1 x2 : Int32} (h : vp_in (x1 + x2) 800 ∧ vp_in (m 78 (Int32.toNatClampNeg (x1 + x2))) 24 ∧ Q (some (.int (m 83 (Int32.toNatClampNeg (m 78 (Int32.toNatClampNeg (x1 + x2))))))) m) : Call X mX9_ownerOf [.ref 77, .int x1, .int x2] m Q := by
  unfold Call
  refine Wp.loc (lv' := [some (.ref 77), some (.int x1), some (.int x2)]) rfl ?_
  refine Wp.pk 1 (pc' := 1) (lv' := [some (.ref 77), some (.int x1), some (.int x2)]) (st' := [.ref 77]) rfl ?_
  refine Wp.getR rfl rfl sh77 rfl ?_
  refine Wp.pk 1 (pc' := 5) (lv' := [some (.ref 77), some (.int x1), some (.int x2)]) (st' := [.ref 77, .ref 83]) rfl ?_
  refine Wp.getR rfl rfl sh77 rfl ?_
  refine Wp.pk 3 (pc' := 11) (lv' := [some (.ref 77), some (.int x1), some (.int x2)]) (st' := [.int (x1 + x2), .ref 78, .ref 83]) rfl ?_
  refine Wp.iald rfl sh78 ⟨h.1, ?_⟩
  replace h := h.2
  refine Wp.iald rfl sh83 ⟨h.1, ?_⟩
  replace h := h.2
  exact Wp.iret rfl rfl ⟨rfl, h⟩
theorem eX9_sizeOf_0 {X : a_X} {m : Nat → Nat → Int32} {Q : Option Value → (Nat → Nat → Int32) → Prop} {x1 : Int32} (h : vp_in x1 24 ∧ vp_in x1 24 ∧ Q (some (.int ((m 84 (Int32.toNatClampNeg x1)) * (m 85 (Int32.toNatClampNeg x1))))) m) : Call X mX9_sizeOf [.ref 77, .int x1] m Q := by
  unfold Call
  refine Wp.loc (lv' := [some (.ref 77), some (.int x1)]) rfl ?_
  refine Wp.pk 1 (pc' := 1) (lv' := [some (.ref 77), some (.int x1)]) (st' := [.ref 77]) rfl ?_
  refine Wp.getR rfl rfl sh77 rfl ?_
  refine Wp.pk 1 (pc' := 5) (lv' := [some (.ref 77), some (.int x1)]) (st' := [.int x1, .ref 84]) rfl ?_
  refine Wp.iald rfl sh84 ⟨h.1, ?_⟩
  replace h := h.2
  refine Wp.pk 1 (pc' := 7) (lv' := [some (.ref 77), some (.int x1)]) (st' := [.ref 77, .int (m 84 (Int32.toNatClampNeg x1))]) rfl ?_
  refine Wp.getR rfl rfl sh77 rfl ?_
  refine Wp.pk 1 (pc' := 11) (lv' := [some (.ref 77), some (.int x1)]) (st' := [.int x1, .ref 85, .int (m 84 (Int32.toNatClampNeg x1))]) rfl ?_
  refine Wp.iald rfl sh85 ⟨h.1, ?_⟩
  replace h := h.2
  refine Wp.pk 1 (pc' := 13) (lv' := [some (.ref 77), some (.int x1)]) (st' := [.int ((m 84 (Int32.toNatClampNeg x1)) * (m 85 (Int32.toNatClampNeg x1)))]) rfl ?_
  exact Wp.iret rfl rfl ⟨rfl, h⟩
theorem eX9_reaches_0 {X : a_X} {m : Nat → Nat → Int32} {Q : Option Value → (Nat → Nat → Int32) → Prop} {x1 x2 x3 x4 : Int32} (h : vp_in x1 24 ∧ CallI X mX9_in [.long (Int32.toInt64 (a_rem x4 16)), .long (Int32.toInt64 x2), .long (Int32.toInt64 ((x2 + (m 84 (Int32.toNatClampNeg x1))) - 1))] m (fun v2 m1 => (v2 = 0 → Q (some (.int 0)) m1) ∧ (¬ v2 = 0 → vp_in x1 24 ∧ CallI X mX9_in [.long (Int32.toInt64 (x4 / 16)), .long (Int32.toInt64 x3), .long (Int32.toInt64 ((x3 + (m1 85 (Int32.toNatClampNeg x1))) - 1))] m1 (fun v4 m3 => (v4 = 0 → Q (some (.int 0)) m3) ∧ (¬ v4 = 0 → Q (some (.int 1)) m3))))) : Call X mX9_reaches [.ref 77, .int x1, .int x2, .int x3, .int x4] m Q := by
  unfold Call
  refine Wp.loc (lv' := [some (.ref 77), some (.int x1), some (.int x2), some (.int x3), some (.int x4)]) rfl ?_
  refine Wp.pk 8 (pc' := 10) (lv' := [some (.ref 77), some (.int x1), some (.int x2), some (.int x3), some (.int x4)]) (st' := [.ref 77, .int x2, .long (Int32.toInt64 x2), .long (Int32.toInt64 (a_rem x4 16))]) rfl ?_
  refine Wp.getR rfl rfl sh77 rfl ?_
  refine Wp.pk 1 (pc' := 14) (lv' := [some (.ref 77), some (.int x1), some (.int x2), some (.int x3), some (.int x4)]) (st' := [.int x1, .ref 84, .int x2, .long (Int32.toInt64 x2), .long (Int32.toInt64 (a_rem x4 16))]) rfl ?_
  refine Wp.iald rfl sh84 ⟨h.1, ?_⟩
  replace h := h.2
  refine Wp.pk 4 (pc' := 19) (lv' := [some (.ref 77), some (.int x1), some (.int x2), some (.int x3), some (.int x4)]) (st' := [.long (Int32.toInt64 ((x2 + (m 84 (Int32.toNatClampNeg x1))) - 1)), .long (Int32.toInt64 x2), .long (Int32.toInt64 (a_rem x4 16))]) rfl ?_
  refine Wp.callI rfl rfl rfl (CallI.mono h (fun v2 m1 h => ?_))
  refine Wp.if_eq rfl rfl ⟨fun hc => ?_, fun hc => ?_⟩
  · replace h := h.1 hc
    refine Wp.pk 1 (pc' := 55) (lv' := [some (.ref 77), some (.int x1), some (.int x2), some (.int x3), some (.int x4)]) (st' := [.int 0]) rfl ?_
    exact Wp.iret rfl rfl ⟨rfl, h⟩
  · replace h := h.2 hc
    refine Wp.pk 8 (pc' := 35) (lv' := [some (.ref 77), some (.int x1), some (.int x2), some (.int x3), some (.int x4)]) (st' := [.ref 77, .int x3, .long (Int32.toInt64 x3), .long (Int32.toInt64 (x4 / 16))]) rfl ?_
    refine Wp.getR rfl rfl sh77 rfl ?_
    refine Wp.pk 1 (pc' := 39) (lv' := [some (.ref 77), some (.int x1), some (.int x2), some (.int x3), some (.int x4)]) (st' := [.int x1, .ref 85, .int x3, .long (Int32.toInt64 x3), .long (Int32.toInt64 (x4 / 16))]) rfl ?_
    refine Wp.iald rfl sh85 ⟨h.1, ?_⟩
    replace h := h.2
    refine Wp.pk 4 (pc' := 44) (lv' := [some (.ref 77), some (.int x1), some (.int x2), some (.int x3), some (.int x4)]) (st' := [.long (Int32.toInt64 ((x3 + (m1 85 (Int32.toNatClampNeg x1))) - 1)), .long (Int32.toInt64 x3), .long (Int32.toInt64 (x4 / 16))]) rfl ?_
    refine Wp.callI rfl rfl rfl (CallI.mono h (fun v4 m3 h => ?_))
    refine Wp.if_eq rfl rfl ⟨fun hc => ?_, fun hc => ?_⟩
    · replace h := h.1 hc
      refine Wp.pk 1 (pc' := 55) (lv' := [some (.ref 77), some (.int x1), some (.int x2), some (.int x3), some (.int x4)]) (st' := [.int 0]) rfl ?_
      exact Wp.iret rfl rfl ⟨rfl, h⟩
    · replace h := h.2 hc
      refine Wp.pk 2 (pc' := 55) (lv' := [some (.ref 77), some (.int x1), some (.int x2), some (.int x3), some (.int x4)]) (st' := [.int 1]) rfl ?_
      exact Wp.iret rfl rfl ⟨rfl, h⟩
theorem eX9_isTorn_0 {X : a_X} {m : Nat → Nat → Int32} {Q : Option Value → (Nat → Nat → Int32) → Prop} {x1 x2 x3 : Int32} (h : vp_in (((x1 + 100) + (4 * x2)) + (x3 / 32)) 800 ∧ CallI X mX9_has [.int (m 78 (Int32.toNatClampNeg (((x1 + 100) + (4 * x2)) + (x3 / 32)))), .int (a_rem x3 32)] m (fun v2 m1 => a_fit .boolean v2 = true ∧ Q (some (.int v2)) m1)) : Call X mX9_isTorn [.ref 77, .int x1, .int x2, .int x3] m Q := by
  unfold Call
  refine Wp.loc (lv' := [some (.ref 77), some (.int x1), some (.int x2), some (.int x3)]) rfl ?_
  refine Wp.pk 1 (pc' := 1) (lv' := [some (.ref 77), some (.int x1), some (.int x2), some (.int x3)]) (st' := [.ref 77]) rfl ?_
  refine Wp.getR rfl rfl sh77 rfl ?_
  refine Wp.pk 11 (pc' := 17) (lv' := [some (.ref 77), some (.int x1), some (.int x2), some (.int x3)]) (st' := [.int (((x1 + 100) + (4 * x2)) + (x3 / 32)), .ref 78]) rfl ?_
  refine Wp.iald rfl sh78 ⟨h.1, ?_⟩
  replace h := h.2
  refine Wp.pk 3 (pc' := 22) (lv' := [some (.ref 77), some (.int x1), some (.int x2), some (.int x3)]) (st' := [.int (a_rem x3 32), .int (m 78 (Int32.toNatClampNeg (((x1 + 100) + (4 * x2)) + (x3 / 32))))]) rfl ?_
  refine Wp.callI rfl rfl rfl (CallI.mono h (fun v2 m1 h => ?_))
  exact Wp.iret rfl rfl h
theorem eX9_lies_0 {X : a_X} {m : Nat → Nat → Int32} {Q : Option Value → (Nat → Nat → Int32) → Prop} {x1 x2 x3 : Int32} (h : vp_in ((x1 + 80) + x2) 800 ∧ (¬ (m 78 (Int32.toNatClampNeg ((x1 + 80) + x2))) = 1 → Q (some (.int 0)) m) ∧ ((m 78 (Int32.toNatClampNeg ((x1 + 80) + x2))) = 1 → vp_in (x1 + x2) 800 ∧ vp_in ((x1 + 20) + x2) 800 ∧ vp_in ((x1 + 40) + x2) 800 ∧ CallI X mX9_reaches [.ref 77, .int (m 78 (Int32.toNatClampNeg (x1 + x2))), .int (m 78 (Int32.toNatClampNeg ((x1 + 20) + x2))), .int (m 78 (Int32.toNatClampNeg ((x1 + 40) + x2))), .int x3] m (fun v2 m1 => (v2 = 0 → Q (some (.int 0)) m1) ∧ (¬ v2 = 0 → CallI X mX9_isTorn [.ref 77, .int x1, .int x2, .int x3] m1 (fun v4 m3 => (¬ v4 = 0 → Q (some (.int 0)) m3) ∧ (v4 = 0 → Q (some (.int 1)) m3)))))) : Call X mX9_lies [.ref 77, .int x1, .int x2, .int x3] m Q := by
  unfold Call
  refine Wp.loc (lv' := [some (.ref 77), some (.int x1), some (.int x2), some (.int x3)]) rfl ?_
  refine Wp.pk 1 (pc' := 1) (lv' := [some (.ref 77), some (.int x1), some (.int x2), some (.int x3)]) (st' := [.ref 77]) rfl ?_
  refine Wp.getR rfl rfl sh77 rfl ?_
  refine Wp.pk 5 (pc' := 10) (lv' := [some (.ref 77), some (.int x1), some (.int x2), some (.int x3)]) (st' := [.int ((x1 + 80) + x2), .ref 78]) rfl ?_
  refine Wp.iald rfl sh78 ⟨h.1, ?_⟩
  replace h := h.2
  refine Wp.pk 1 (pc' := 12) (lv' := [some (.ref 77), some (.int x1), some (.int x2), some (.int x3)]) (st' := [.int 1, .int (m 78 (Int32.toNatClampNeg ((x1 + 80) + x2)))]) rfl ?_
  refine Wp.icmp_ne rfl rfl ⟨fun hc => ?_, fun hc => ?_⟩
  · replace h := h.1 hc
    refine Wp.pk 1 (pc' := 68) (lv' := [some (.ref 77), some (.int x1), some (.int x2), some (.int x3)]) (st' := [.int 0]) rfl ?_
    exact Wp.iret rfl rfl ⟨rfl, h⟩
  · replace h := h.2 hc
    refine Wp.pk 2 (pc' := 17) (lv' := [some (.ref 77), some (.int x1), some (.int x2), some (.int x3)]) (st' := [.ref 77, .ref 77]) rfl ?_
    refine Wp.getR rfl rfl sh77 rfl ?_
    refine Wp.pk 3 (pc' := 23) (lv' := [some (.ref 77), some (.int x1), some (.int x2), some (.int x3)]) (st' := [.int (x1 + x2), .ref 78, .ref 77]) rfl ?_
    refine Wp.iald rfl sh78 ⟨h.1, ?_⟩
    replace h := h.2
    refine Wp.pk 1 (pc' := 25) (lv' := [some (.ref 77), some (.int x1), some (.int x2), some (.int x3)]) (st' := [.ref 77, .int (m 78 (Int32.toNatClampNeg (x1 + x2))), .ref 77]) rfl ?_
    refine Wp.getR rfl rfl sh77 rfl ?_
    refine Wp.pk 5 (pc' := 34) (lv' := [some (.ref 77), some (.int x1), some (.int x2), some (.int x3)]) (st' := [.int ((x1 + 20) + x2), .ref 78, .int (m 78 (Int32.toNatClampNeg (x1 + x2))), .ref 77]) rfl ?_
    refine Wp.iald rfl sh78 ⟨h.1, ?_⟩
    replace h := h.2
    refine Wp.pk 1 (pc' := 36) (lv' := [some (.ref 77), some (.int x1), some (.int x2), some (.int x3)]) (st' := [.ref 77, .int (m 78 (Int32.toNatClampNeg ((x1 + 20) + x2))), .int (m 78 (Int32.toNatClampNeg (x1 + x2))), .ref 77]) rfl ?_
    refine Wp.getR rfl rfl sh77 rfl ?_
    refine Wp.pk 5 (pc' := 45) (lv' := [some (.ref 77), some (.int x1), some (.int x2), some (.int x3)]) (st' := [.int ((x1 + 40) + x2), .ref 78, .int (m 78 (Int32.toNatClampNeg ((x1 + 20) + x2))), .int (m 78 (Int32.toNatClampNeg (x1 + x2))), .ref 77]) rfl ?_
    refine Wp.iald rfl sh78 ⟨h.1, ?_⟩
    replace h := h.2
    refine Wp.pk 1 (pc' := 47) (lv' := [some (.ref 77), some (.int x1), some (.int x2), some (.int x3)]) (st' := [.int x3, .int (m 78 (Int32.toNatClampNeg ((x1 + 40) + x2))), .int (m 78 (Int32.toNatClampNeg ((x1 + 20) + x2))), .int (m 78 (Int32.toNatClampNeg (x1 + x2))), .ref 77]) rfl ?_
    refine Wp.callI rfl rfl rfl (CallI.mono h (fun v2 m1 h => ?_))
    refine Wp.if_eq rfl rfl ⟨fun hc => ?_, fun hc => ?_⟩
    · replace h := h.1 hc
      refine Wp.pk 1 (pc' := 68) (lv' := [some (.ref 77), some (.int x1), some (.int x2), some (.int x3)]) (st' := [.int 0]) rfl ?_
      exact Wp.iret rfl rfl ⟨rfl, h⟩
    · replace h := h.2 hc
      refine Wp.pk 4 (pc' := 57) (lv' := [some (.ref 77), some (.int x1), some (.int x2), some (.int x3)]) (st' := [.int x3, .int x2, .int x1, .ref 77]) rfl ?_
      refine Wp.callI rfl rfl rfl (CallI.mono h (fun v4 m3 h => ?_))
      refine Wp.if_ne rfl rfl ⟨fun hc => ?_, fun hc => ?_⟩
      · replace h := h.1 hc
        refine Wp.pk 1 (pc' := 68) (lv' := [some (.ref 77), some (.int x1), some (.int x2), some (.int x3)]) (st' := [.int 0]) rfl ?_
        exact Wp.iret rfl rfl ⟨rfl, h⟩
      · replace h := h.2 hc
        refine Wp.pk 2 (pc' := 68) (lv' := [some (.ref 77), some (.int x1), some (.int x2), some (.int x3)]) (st' := [.int 1]) rfl ?_
        exact Wp.iret rfl rfl ⟨rfl, h⟩
theorem eX9_aboveAt_0 {X : a_X} {m : Nat → Nat → Int32} {Q : Option Value → (Nat → Nat → Int32) → Prop} {x1 x2 : Int32} (h : vp_in (x1 + 180) 800 ∧ Wp X mX9_aboveAt 13 [some (.ref 77), some (.int x1), some (.int x2), some (.int ((m 78 (Int32.toNatClampNeg (x1 + 180))) - 1))] [] m Q) : Call X mX9_aboveAt [.ref 77, .int x1, .int x2] m Q := by
  unfold Call
  refine Wp.loc (lv' := [some (.ref 77), some (.int x1), some (.int x2), none]) rfl ?_
  refine Wp.pk 1 (pc' := 1) (lv' := [some (.ref 77), some (.int x1), some (.int x2), none]) (st' := [.ref 77]) rfl ?_
  refine Wp.getR rfl rfl sh77 rfl ?_
  refine Wp.pk 3 (pc' := 9) (lv' := [some (.ref 77), some (.int x1), some (.int x2), none]) (st' := [.int (x1 + 180), .ref 78]) rfl ?_
  refine Wp.iald rfl sh78 ⟨h.1, ?_⟩
  replace h := h.2
  refine Wp.pk 3 (pc' := 13) (lv' := [some (.ref 77), some (.int x1), some (.int x2), some (.int ((m 78 (Int32.toNatClampNeg (x1 + 180))) - 1))]) (st' := []) rfl ?_
  exact h
theorem eX9_aboveAt_13 {X : a_X} {m : Nat → Nat → Int32} {Q : Option Value → (Nat → Nat → Int32) → Prop} {x1 x2 x3 : Int32} (h : (x3 < 0 → Q (some (.int (-1))) m) ∧ (¬ x3 < 0 → CallI X mX9_lies [.ref 77, .int x1, .int x3, .int x2] m (fun v2 m1 => (v2 = 0 → Wp X mX9_aboveAt 13 [some (.ref 77), some (.int x1), some (.int x2), some (.int (x3 + (-1)))] [] m1 Q) ∧ (¬ v2 = 0 → Q (some (.int x3)) m1)))) : Wp X mX9_aboveAt 13 [some (.ref 77), some (.int x1), some (.int x2), some (.int x3)] [] m Q := by
  refine Wp.pk 1 (pc' := 14) (lv' := [some (.ref 77), some (.int x1), some (.int x2), some (.int x3)]) (st' := [.int x3]) rfl ?_
  refine Wp.if_lt rfl rfl ⟨fun hc => ?_, fun hc => ?_⟩
  · replace h := h.1 hc
    refine Wp.pk 1 (pc' := 36) (lv' := [some (.ref 77), some (.int x1), some (.int x2), some (.int x3)]) (st' := [.int (-1)]) rfl ?_
    exact Wp.iret rfl rfl ⟨rfl, h⟩
  · replace h := h.2 hc
    refine Wp.pk 4 (pc' := 21) (lv' := [some (.ref 77), some (.int x1), some (.int x2), some (.int x3)]) (st' := [.int x2, .int x3, .int x1, .ref 77]) rfl ?_
    refine Wp.callI rfl rfl rfl (CallI.mono h (fun v2 m1 h => ?_))
    refine Wp.if_eq rfl rfl ⟨fun hc => ?_, fun hc => ?_⟩
    · replace h := h.1 hc
      refine Wp.pk 2 (pc' := 13) (lv' := [some (.ref 77), some (.int x1), some (.int x2), some (.int (x3 + (-1)))]) (st' := []) rfl ?_
      exact h
    · replace h := h.2 hc
      refine Wp.pk 1 (pc' := 28) (lv' := [some (.ref 77), some (.int x1), some (.int x2), some (.int x3)]) (st' := [.int x3]) rfl ?_
      exact Wp.iret rfl rfl ⟨rfl, h⟩
theorem eX9_see_0 {X : a_X} {m : Nat → Nat → Int32} {Q : Option Value → (Nat → Nat → Int32) → Prop} {x1 : Int32} (h : Wp X mX9_see 2 [some (.ref 77), some (.int x1), some (.int 0), none] [] m Q) : Call X mX9_see [.ref 77, .int x1] m Q := by
  unfold Call
  refine Wp.loc (lv' := [some (.ref 77), some (.int x1), none, none]) rfl ?_
  refine Wp.pk 2 (pc' := 2) (lv' := [some (.ref 77), some (.int x1), some (.int 0), none]) (st' := []) rfl ?_
  exact h
theorem eX9_see_2 {X : a_X} {m : Nat → Nat → Int32} {Q : Option Value → (Nat → Nat → Int32) → Prop} {x1 x2 : Int32} (h : (20 ≤ x2 → Wp X mX9_see 30 [some (.ref 77), some (.int x1), some (.int 0), none] [] m Q) ∧ (¬ 20 ≤ x2 → vp_in x2 20 ∧ ∀ m1, m1 = (a_up m 87 (Int32.toNatClampNeg x2) 0) → vp_in x2 20 ∧ ∀ m2, m2 = (a_up m1 88 (Int32.toNatClampNeg x2) 0) → Wp X mX9_see 2 [some (.ref 77), some (.int x1), some (.int (x2 + 1)), none] [] m2 Q)) : Wp X mX9_see 2 [some (.ref 77), some (.int x1), some (.int x2), none] [] m Q := by
  refine Wp.pk 2 (pc' := 5) (lv' := [some (.ref 77), some (.int x1), some (.int x2), none]) (st' := [.int 20, .int x2]) rfl ?_
  refine Wp.icmp_ge rfl rfl ⟨fun hc => ?_, fun hc => ?_⟩
  · replace h := h.1 hc
    refine Wp.pk 2 (pc' := 30) (lv' := [some (.ref 77), some (.int x1), some (.int 0), none]) (st' := []) rfl ?_
    exact h
  · replace h := h.2 hc
    refine Wp.pk 1 (pc' := 9) (lv' := [some (.ref 77), some (.int x1), some (.int x2), none]) (st' := [.ref 77]) rfl ?_
    refine Wp.getR rfl rfl sh77 rfl ?_
    refine Wp.pk 2 (pc' := 14) (lv' := [some (.ref 77), some (.int x1), some (.int x2), none]) (st' := [.int 0, .int x2, .ref 87]) rfl ?_
    refine Wp.iastN rfl sh87 h.1 (fun m1 hm => ?_)
    replace h := h.2 _ hm
    refine Wp.pk 1 (pc' := 16) (lv' := [some (.ref 77), some (.int x1), some (.int x2), none]) (st' := [.ref 77]) rfl ?_
    refine Wp.getR rfl rfl sh77 rfl ?_
    refine Wp.pk 2 (pc' := 21) (lv' := [some (.ref 77), some (.int x1), some (.int x2), none]) (st' := [.int 0, .int x2, .ref 88]) rfl ?_
    refine Wp.iastN rfl sh88 h.1 (fun m2 hm => ?_)
    replace h := h.2 _ hm
    refine Wp.pk 2 (pc' := 2) (lv' := [some (.ref 77), some (.int x1), some (.int (x2 + 1)), none]) (st' := []) rfl ?_
    exact h
theorem eX9_see_30 {X : a_X} {m : Nat → Nat → Int32} {Q : Option Value → (Nat → Nat → Int32) → Prop} {x1 x2 : Int32} (h : (128 ≤ x2 → Q none m) ∧ (¬ 128 ≤ x2 → CallI X mX9_aboveAt [.ref 77, .int x1, .int x2] m (fun v2 m1 => (v2 < 0 → Wp X mX9_see 30 [some (.ref 77), some (.int x1), some (.int (x2 + 1)), none] [] m1 Q) ∧ (¬ v2 < 0 → vp_in v2 20 ∧ vp_in v2 20 ∧ ∀ m3, m3 = (a_up m1 87 (Int32.toNatClampNeg v2) ((m1 87 (Int32.toNatClampNeg v2)) + 1)) → vp_in v2 20 ∧ vp_in (a_rem x2 16) 32 ∧ vp_in v2 20 ∧ ∀ m4, m4 = (a_up m3 88 (Int32.toNatClampNeg v2) ((m3 88 (Int32.toNatClampNeg v2)) + (m3 81 (Int32.toNatClampNeg (a_rem x2 16))))) → Wp X mX9_see 30 [some (.ref 77), some (.int x1), some (.int (x2 + 1)), none] [] m4 Q)))) : Wp X mX9_see 30 [some (.ref 77), some (.int x1), some (.int x2), none] [] m Q := by
  refine Wp.pk 2 (pc' := 34) (lv' := [some (.ref 77), some (.int x1), some (.int x2), none]) (st' := [.int 128, .int x2]) rfl ?_
  refine Wp.icmp_ge rfl rfl ⟨fun hc => ?_, fun hc => ?_⟩
  · replace h := h.1 hc
    exact Wp.vret rfl rfl h
  · replace h := h.2 hc
    refine Wp.pk 3 (pc' := 40) (lv' := [some (.ref 77), some (.int x1), some (.int x2), none]) (st' := [.int x2, .int x1, .ref 77]) rfl ?_
    refine Wp.callI rfl rfl rfl (CallI.mono h (fun v2 m1 h => ?_))
    refine Wp.pk 2 (pc' := 45) (lv' := [some (.ref 77), some (.int x1), some (.int x2), some (.int v2)]) (st' := [.int v2]) rfl ?_
    refine Wp.if_lt rfl rfl ⟨fun hc => ?_, fun hc => ?_⟩
    · replace h := h.1 hc
      refine Wp.pk 2 (pc' := 30) (lv' := [some (.ref 77), some (.int x1), some (.int (x2 + 1)), some (.int v2)]) (st' := []) rfl ?_
      exact Wp.fgt (lv := [some (.ref 77), some (.int x1), some (.int (x2 + 1)), none]) (a_lle.of (a_lleb_e (a_lleb_e (a_lleb_e (a_lleb_i trivial))))) h
    · replace h := h.2 hc
      refine Wp.pk 1 (pc' := 49) (lv' := [some (.ref 77), some (.int x1), some (.int x2), some (.int v2)]) (st' := [.ref 77]) rfl ?_
      refine Wp.getR rfl rfl sh77 rfl ?_
      refine Wp.pk 2 (pc' := 54) (lv' := [some (.ref 77), some (.int x1), some (.int x2), some (.int v2)]) (st' := [.int v2, .ref 87, .int v2, .ref 87]) rfl ?_
      refine Wp.iald rfl sh87 ⟨h.1, ?_⟩
      replace h := h.2
      refine Wp.pk 2 (pc' := 57) (lv' := [some (.ref 77), some (.int x1), some (.int x2), some (.int v2)]) (st' := [.int ((m1 87 (Int32.toNatClampNeg v2)) + 1), .int v2, .ref 87]) rfl ?_
      refine Wp.iastN rfl sh87 h.1 (fun m3 hm => ?_)
      replace h := h.2 _ hm
      refine Wp.pk 1 (pc' := 59) (lv' := [some (.ref 77), some (.int x1), some (.int x2), some (.int v2)]) (st' := [.ref 77]) rfl ?_
      refine Wp.getR rfl rfl sh77 rfl ?_
      refine Wp.pk 2 (pc' := 64) (lv' := [some (.ref 77), some (.int x1), some (.int x2), some (.int v2)]) (st' := [.int v2, .ref 88, .int v2, .ref 88]) rfl ?_
      refine Wp.iald rfl sh88 ⟨h.1, ?_⟩
      replace h := h.2
      refine Wp.pk 1 (pc' := 66) (lv' := [some (.ref 77), some (.int x1), some (.int x2), some (.int v2)]) (st' := [.ref 77, .int (m3 88 (Int32.toNatClampNeg v2)), .int v2, .ref 88]) rfl ?_
      refine Wp.getR rfl rfl sh77 rfl ?_
      refine Wp.pk 3 (pc' := 73) (lv' := [some (.ref 77), some (.int x1), some (.int x2), some (.int v2)]) (st' := [.int (a_rem x2 16), .ref 81, .int (m3 88 (Int32.toNatClampNeg v2)), .int v2, .ref 88]) rfl ?_
      refine Wp.iald rfl sh81 ⟨h.1, ?_⟩
      replace h := h.2
      refine Wp.pk 1 (pc' := 75) (lv' := [some (.ref 77), some (.int x1), some (.int x2), some (.int v2)]) (st' := [.int ((m3 88 (Int32.toNatClampNeg v2)) + (m3 81 (Int32.toNatClampNeg (a_rem x2 16)))), .int v2, .ref 88]) rfl ?_
      refine Wp.iastN rfl sh88 h.1 (fun m4 hm => ?_)
      replace h := h.2 _ hm
      refine Wp.pk 2 (pc' := 30) (lv' := [some (.ref 77), some (.int x1), some (.int (x2 + 1)), some (.int v2)]) (st' := []) rfl ?_
      exact Wp.fgt (lv := [some (.ref 77), some (.int x1), some (.int (x2 + 1)), none]) (a_lle.of (a_lleb_e (a_lleb_e (a_lleb_e (a_lleb_i trivial))))) h
theorem eX9_isRead_0 {X : a_X} {m : Nat → Nat → Int32} {Q : Option Value → (Nat → Nat → Int32) → Prop} {x1 x2 : Int32} (h : vp_in x2 20 ∧ vp_in 4 10 ∧ vp_in (x1 + x2) 800 ∧ CallI X mX9_sizeOf [.ref 77, .int (m 78 (Int32.toNatClampNeg (x1 + x2)))] m (fun v2 m1 => ((100 * (m 87 (Int32.toNatClampNeg x2))) < ((m 80 (Int32.toNatClampNeg 4)) * v2) → Q (some (.int 0)) m1) ∧ (¬ (100 * (m 87 (Int32.toNatClampNeg x2))) < ((m 80 (Int32.toNatClampNeg 4)) * v2) → Q (some (.int 1)) m1))) : Call X mX9_isRead [.ref 77, .int x1, .int x2] m Q := by
  unfold Call
  refine Wp.loc (lv' := [some (.ref 77), some (.int x1), some (.int x2)]) rfl ?_
  refine Wp.pk 2 (pc' := 3) (lv' := [some (.ref 77), some (.int x1), some (.int x2)]) (st' := [.ref 77, .int 100]) rfl ?_
  refine Wp.getR rfl rfl sh77 rfl ?_
  refine Wp.pk 1 (pc' := 7) (lv' := [some (.ref 77), some (.int x1), some (.int x2)]) (st' := [.int x2, .ref 87, .int 100]) rfl ?_
  refine Wp.iald rfl sh87 ⟨h.1, ?_⟩
  replace h := h.2
  refine Wp.pk 2 (pc' := 10) (lv' := [some (.ref 77), some (.int x1), some (.int x2)]) (st' := [.ref 77, .int (100 * (m 87 (Int32.toNatClampNeg x2)))]) rfl ?_
  refine Wp.getR rfl rfl sh77 rfl ?_
  refine Wp.pk 1 (pc' := 14) (lv' := [some (.ref 77), some (.int x1), some (.int x2)]) (st' := [.int 4, .ref 80, .int (100 * (m 87 (Int32.toNatClampNeg x2)))]) rfl ?_
  refine Wp.iald rfl sh80 ⟨h.1, ?_⟩
  replace h := h.2
  refine Wp.pk 2 (pc' := 17) (lv' := [some (.ref 77), some (.int x1), some (.int x2)]) (st' := [.ref 77, .ref 77, .int (m 80 (Int32.toNatClampNeg 4)), .int (100 * (m 87 (Int32.toNatClampNeg x2)))]) rfl ?_
  refine Wp.getR rfl rfl sh77 rfl ?_
  refine Wp.pk 3 (pc' := 23) (lv' := [some (.ref 77), some (.int x1), some (.int x2)]) (st' := [.int (x1 + x2), .ref 78, .ref 77, .int (m 80 (Int32.toNatClampNeg 4)), .int (100 * (m 87 (Int32.toNatClampNeg x2)))]) rfl ?_
  refine Wp.iald rfl sh78 ⟨h.1, ?_⟩
  replace h := h.2
  refine Wp.callI rfl rfl rfl (CallI.mono h (fun v2 m1 h => ?_))
  refine Wp.pk 1 (pc' := 28) (lv' := [some (.ref 77), some (.int x1), some (.int x2)]) (st' := [.int ((m 80 (Int32.toNatClampNeg 4)) * v2), .int (100 * (m 87 (Int32.toNatClampNeg x2)))]) rfl ?_
  refine Wp.icmp_lt rfl rfl ⟨fun hc => ?_, fun hc => ?_⟩
  · replace h := h.1 hc
    refine Wp.pk 1 (pc' := 36) (lv' := [some (.ref 77), some (.int x1), some (.int x2)]) (st' := [.int 0]) rfl ?_
    exact Wp.iret rfl rfl ⟨rfl, h⟩
  · replace h := h.2 hc
    refine Wp.pk 2 (pc' := 36) (lv' := [some (.ref 77), some (.int x1), some (.int x2)]) (st' := [.int 1]) rfl ?_
    exact Wp.iret rfl rfl ⟨rfl, h⟩
theorem eX9_worthOf_0 {X : a_X} {m : Nat → Nat → Int32} {Q : Option Value → (Nat → Nat → Int32) → Prop} {x1 x2 : Int32} (h : CallV X mX9_see [.ref 77, .int x1] m (fun m1 => Wp X mX9_worthOf 10 [some (.ref 77), some (.int x1), some (.int x2), some (.int 0), some (.int 0)] [] m1 Q)) : Call X mX9_worthOf [.ref 77, .int x1, .int x2] m Q := by
  unfold Call
  refine Wp.loc (lv' := [some (.ref 77), some (.int x1), some (.int x2), none, none]) rfl ?_
  refine Wp.pk 2 (pc' := 2) (lv' := [some (.ref 77), some (.int x1), some (.int x2), none, none]) (st' := [.int x1, .ref 77]) rfl ?_
  refine Wp.callV rfl rfl rfl (CallV.mono h (fun m1 h => ?_))
  refine Wp.pk 4 (pc' := 10) (lv' := [some (.ref 77), some (.int x1), some (.int x2), some (.int 0), some (.int 0)]) (st' := []) rfl ?_
  exact h
theorem eX9_worthOf_10 {X : a_X} {m : Nat → Nat → Int32} {Q : Option Value → (Nat → Nat → Int32) → Prop} {x1 x2 x3 x4 : Int32} (h : vp_in (x1 + 180) 800 ∧ ((m 78 (Int32.toNatClampNeg (x1 + 180))) ≤ x4 → Q (some (.int x3)) m) ∧ (¬ (m 78 (Int32.toNatClampNeg (x1 + 180))) ≤ x4 → CallI X mX9_ownerOf [.ref 77, .int x1, .int x4] m (fun v2 m1 => (¬ v2 = x2 → Wp X mX9_worthOf 10 [some (.ref 77), some (.int x1), some (.int x2), some (.int (x3 + 0)), some (.int (x4 + 1))] [] m1 Q) ∧ (v2 = x2 → CallI X mX9_isRead [.ref 77, .int x1, .int x4] m1 (fun v4 m3 => (v4 = 0 → Wp X mX9_worthOf 10 [some (.ref 77), some (.int x1), some (.int x2), some (.int (x3 + 0)), some (.int (x4 + 1))] [] m3 Q) ∧ (¬ v4 = 0 → vp_in x4 20 ∧ Wp X mX9_worthOf 10 [some (.ref 77), some (.int x1), some (.int x2), some (.int (x3 + (m3 88 (Int32.toNatClampNeg x4)))), some (.int (x4 + 1))] [] m3 Q)))))) : Wp X mX9_worthOf 10 [some (.ref 77), some (.int x1), some (.int x2), some (.int x3), some (.int x4)] [] m Q := by
  refine Wp.pk 2 (pc' := 13) (lv' := [some (.ref 77), some (.int x1), some (.int x2), some (.int x3), some (.int x4)]) (st' := [.ref 77, .int x4]) rfl ?_
  refine Wp.getR rfl rfl sh77 rfl ?_
  refine Wp.pk 3 (pc' := 21) (lv' := [some (.ref 77), some (.int x1), some (.int x2), some (.int x3), some (.int x4)]) (st' := [.int (x1 + 180), .ref 78, .int x4]) rfl ?_
  refine Wp.iald rfl sh78 ⟨h.1, ?_⟩
  replace h := h.2
  refine Wp.icmp_ge rfl rfl ⟨fun hc => ?_, fun hc => ?_⟩
  · replace h := h.1 hc
    refine Wp.pk 1 (pc' := 67) (lv' := [some (.ref 77), some (.int x1), some (.int x2), some (.int x3), some (.int x4)]) (st' := [.int x3]) rfl ?_
    exact Wp.iret rfl rfl ⟨rfl, h⟩
  · replace h := h.2 hc
    refine Wp.pk 4 (pc' := 30) (lv' := [some (.ref 77), some (.int x1), some (.int x2), some (.int x3), some (.int x4)]) (st' := [.int x4, .int x1, .ref 77, .int x3]) rfl ?_
    refine Wp.callI rfl rfl rfl (CallI.mono h (fun v2 m1 h => ?_))
    refine Wp.pk 1 (pc' := 34) (lv' := [some (.ref 77), some (.int x1), some (.int x2), some (.int x3), some (.int x4)]) (st' := [.int x2, .int v2, .int x3]) rfl ?_
    refine Wp.icmp_ne rfl rfl ⟨fun hc => ?_, fun hc => ?_⟩
    · replace h := h.1 hc
      refine Wp.pk 5 (pc' := 10) (lv' := [some (.ref 77), some (.int x1), some (.int x2), some (.int (x3 + 0)), some (.int (x4 + 1))]) (st' := []) rfl ?_
      exact h
    · replace h := h.2 hc
      refine Wp.pk 3 (pc' := 41) (lv' := [some (.ref 77), some (.int x1), some (.int x2), some (.int x3), some (.int x4)]) (st' := [.int x4, .int x1, .ref 77, .int x3]) rfl ?_
      refine Wp.callI rfl rfl rfl (CallI.mono h (fun v4 m3 h => ?_))
      refine Wp.if_eq rfl rfl ⟨fun hc => ?_, fun hc => ?_⟩
      · replace h := h.1 hc
        refine Wp.pk 5 (pc' := 10) (lv' := [some (.ref 77), some (.int x1), some (.int x2), some (.int (x3 + 0)), some (.int (x4 + 1))]) (st' := []) rfl ?_
        exact h
      · replace h := h.2 hc
        refine Wp.pk 1 (pc' := 48) (lv' := [some (.ref 77), some (.int x1), some (.int x2), some (.int x3), some (.int x4)]) (st' := [.ref 77, .int x3]) rfl ?_
        refine Wp.getR rfl rfl sh77 rfl ?_
        refine Wp.pk 1 (pc' := 53) (lv' := [some (.ref 77), some (.int x1), some (.int x2), some (.int x3), some (.int x4)]) (st' := [.int x4, .ref 88, .int x3]) rfl ?_
        refine Wp.iald rfl sh88 ⟨h.1, ?_⟩
        replace h := h.2
        refine Wp.pk 5 (pc' := 10) (lv' := [some (.ref 77), some (.int x1), some (.int x2), some (.int (x3 + (m3 88 (Int32.toNatClampNeg x4)))), some (.int (x4 + 1))]) (st' := []) rfl ?_
        exact h
theorem eX9_lay_0 {X : a_X} {m : Nat → Nat → Int32} {Q : Option Value → (Nat → Nat → Int32) → Prop} {x1 x2 x3 x4 : Int32} (h : CallV X mX9_see [.ref 77, .int x1] m (fun m1 => Wp X mX9_lay 8 [some (.ref 77), some (.int x1), some (.int x2), some (.int x3), some (.int x4), some (.int 0), none, none, none] [] m1 Q)) : Call X mX9_lay [.ref 77, .int x1, .int x2, .int x3, .int x4] m Q := by
  unfold Call
  refine Wp.loc (lv' := [some (.ref 77), some (.int x1), some (.int x2), some (.int x3), some (.int x4), none, none, none, none]) rfl ?_
  refine Wp.pk 2 (pc' := 2) (lv' := [some (.ref 77), some (.int x1), some (.int x2), some (.int x3), some (.int x4), none, none, none, none]) (st' := [.int x1, .ref 77]) rfl ?_
  refine Wp.callV rfl rfl rfl (CallV.mono h (fun m1 h => ?_))
  refine Wp.pk 2 (pc' := 8) (lv' := [some (.ref 77), some (.int x1), some (.int x2), some (.int x3), some (.int x4), some (.int 0), none, none, none]) (st' := []) rfl ?_
  exact h
theorem eX9_lay_8 {X : a_X} {m : Nat → Nat → Int32} {Q : Option Value → (Nat → Nat → Int32) → Prop} {x1 x2 x3 x4 x5 : Int32} (h : (20 ≤ x5 → vp_in (x1 + 180) 800 ∧ vp_in (x1 + (m 78 (Int32.toNatClampNeg (x1 + 180)))) 800 ∧ ∀ m1, m1 = (a_up m 78 (Int32.toNatClampNeg (x1 + (m 78 (Int32.toNatClampNeg (x1 + 180))))) x2) → vp_in ((x1 + 20) + (m 78 (Int32.toNatClampNeg (x1 + 180)))) 800 ∧ ∀ m2, m2 = (a_up m1 78 (Int32.toNatClampNeg ((x1 + 20) + (m 78 (Int32.toNatClampNeg (x1 + 180))))) x3) → vp_in ((x1 + 40) + (m 78 (Int32.toNatClampNeg (x1 + 180)))) 800 ∧ ∀ m3, m3 = (a_up m2 78 (Int32.toNatClampNeg ((x1 + 40) + (m 78 (Int32.toNatClampNeg (x1 + 180))))) x4) → vp_in (x1 + 181) 800 ∧ vp_in ((x1 + 60) + (m 78 (Int32.toNatClampNeg (x1 + 180)))) 800 ∧ ∀ m4, m4 = (a_up m3 78 (Int32.toNatClampNeg ((x1 + 60) + (m 78 (Int32.toNatClampNeg (x1 + 180))))) (m3 78 (Int32.toNatClampNeg (x1 + 181)))) → vp_in ((x1 + 80) + (m 78 (Int32.toNatClampNeg (x1 + 180)))) 800 ∧ ∀ m5, m5 = (a_up m4 78 (Int32.toNatClampNeg ((x1 + 80) + (m 78 (Int32.toNatClampNeg (x1 + 180))))) 1) → Wp X mX9_lay 122 [some (.ref 77), some (.int x1), some (.int x2), none, none, some (.int (m 78 (Int32.toNatClampNeg (x1 + 180)))), some (.int 0), none, none] [] m5 Q) ∧ (¬ 20 ≤ x5 → vp_in x5 20 ∧ vp_in x5 20 ∧ ∀ m6, m6 = (a_up m 89 (Int32.toNatClampNeg x5) (m 87 (Int32.toNatClampNeg x5))) → Wp X mX9_lay 8 [some (.ref 77), some (.int x1), some (.int x2), some (.int x3), some (.int x4), some (.int (x5 + 1)), none, none, none] [] m6 Q)) : Wp X mX9_lay 8 [some (.ref 77), some (.int x1), some (.int x2), some (.int x3), some (.int x4), some (.int x5), none, none, none] [] m Q := by
  refine Wp.pk 2 (pc' := 12) (lv' := [some (.ref 77), some (.int x1), some (.int x2), some (.int x3), some (.int x4), some (.int x5), none, none, none]) (st' := [.int 20, .int x5]) rfl ?_
  refine Wp.icmp_ge rfl rfl ⟨fun hc => ?_, fun hc => ?_⟩
  · replace h := h.1 hc
    refine Wp.pk 1 (pc' := 36) (lv' := [some (.ref 77), some (.int x1), some (.int x2), some (.int x3), some (.int x4), some (.int x5), none, none, none]) (st' := [.ref 77]) rfl ?_
    refine Wp.getR rfl rfl sh77 rfl ?_
    refine Wp.pk 3 (pc' := 44) (lv' := [some (.ref 77), some (.int x1), some (.int x2), some (.int x3), some (.int x4), some (.int x5), none, none, none]) (st' := [.int (x1 + 180), .ref 78]) rfl ?_
    refine Wp.iald rfl sh78 ⟨h.1, ?_⟩
    replace h := h.2
    refine Wp.pk 2 (pc' := 48) (lv' := [some (.ref 77), some (.int x1), some (.int x2), some (.int x3), some (.int x4), some (.int (m 78 (Int32.toNatClampNeg (x1 + 180)))), none, none, none]) (st' := [.ref 77]) rfl ?_
    refine Wp.getR rfl rfl sh77 rfl ?_
    refine Wp.pk 4 (pc' := 56) (lv' := [some (.ref 77), some (.int x1), some (.int x2), some (.int x3), some (.int x4), some (.int (m 78 (Int32.toNatClampNeg (x1 + 180)))), none, none, none]) (st' := [.int x2, .int (x1 + (m 78 (Int32.toNatClampNeg (x1 + 180)))), .ref 78]) rfl ?_
    refine Wp.iastN rfl sh78 h.1 (fun m1 hm => ?_)
    replace h := h.2 _ hm
    refine Wp.pk 1 (pc' := 58) (lv' := [some (.ref 77), some (.int x1), some (.int x2), some (.int x3), some (.int x4), some (.int (m 78 (Int32.toNatClampNeg (x1 + 180)))), none, none, none]) (st' := [.ref 77]) rfl ?_
    refine Wp.getR rfl rfl sh77 rfl ?_
    refine Wp.pk 6 (pc' := 69) (lv' := [some (.ref 77), some (.int x1), some (.int x2), some (.int x3), some (.int x4), some (.int (m 78 (Int32.toNatClampNeg (x1 + 180)))), none, none, none]) (st' := [.int x3, .int ((x1 + 20) + (m 78 (Int32.toNatClampNeg (x1 + 180)))), .ref 78]) rfl ?_
    refine Wp.iastN rfl sh78 h.1 (fun m2 hm => ?_)
    replace h := h.2 _ hm
    refine Wp.pk 1 (pc' := 71) (lv' := [some (.ref 77), some (.int x1), some (.int x2), some (.int x3), some (.int x4), some (.int (m 78 (Int32.toNatClampNeg (x1 + 180)))), none, none, none]) (st' := [.ref 77]) rfl ?_
    refine Wp.getR rfl rfl sh77 rfl ?_
    refine Wp.pk 6 (pc' := 83) (lv' := [some (.ref 77), some (.int x1), some (.int x2), some (.int x3), some (.int x4), some (.int (m 78 (Int32.toNatClampNeg (x1 + 180)))), none, none, none]) (st' := [.int x4, .int ((x1 + 40) + (m 78 (Int32.toNatClampNeg (x1 + 180)))), .ref 78]) rfl ?_
    refine Wp.iastN rfl sh78 h.1 (fun m3 hm => ?_)
    replace h := h.2 _ hm
    refine Wp.pk 1 (pc' := 85) (lv' := [some (.ref 77), some (.int x1), some (.int x2), some (.int x3), some (.int x4), some (.int (m 78 (Int32.toNatClampNeg (x1 + 180)))), none, none, none]) (st' := [.ref 77]) rfl ?_
    refine Wp.getR rfl rfl sh77 rfl ?_
    refine Wp.pk 6 (pc' := 96) (lv' := [some (.ref 77), some (.int x1), some (.int x2), some (.int x3), some (.int x4), some (.int (m 78 (Int32.toNatClampNeg (x1 + 180)))), none, none, none]) (st' := [.ref 77, .int ((x1 + 60) + (m 78 (Int32.toNatClampNeg (x1 + 180)))), .ref 78]) rfl ?_
    refine Wp.getR rfl rfl sh77 rfl ?_
    refine Wp.pk 3 (pc' := 104) (lv' := [some (.ref 77), some (.int x1), some (.int x2), some (.int x3), some (.int x4), some (.int (m 78 (Int32.toNatClampNeg (x1 + 180)))), none, none, none]) (st' := [.int (x1 + 181), .ref 78, .int ((x1 + 60) + (m 78 (Int32.toNatClampNeg (x1 + 180)))), .ref 78]) rfl ?_
    refine Wp.iald rfl sh78 ⟨h.1, ?_⟩
    replace h := h.2
    refine Wp.iastN rfl sh78 h.1 (fun m4 hm => ?_)
    replace h := h.2 _ hm
    refine Wp.pk 1 (pc' := 107) (lv' := [some (.ref 77), some (.int x1), some (.int x2), some (.int x3), some (.int x4), some (.int (m 78 (Int32.toNatClampNeg (x1 + 180)))), none, none, none]) (st' := [.ref 77]) rfl ?_
    refine Wp.getR rfl rfl sh77 rfl ?_
    refine Wp.pk 6 (pc' := 118) (lv' := [some (.ref 77), some (.int x1), some (.int x2), some (.int x3), some (.int x4), some (.int (m 78 (Int32.toNatClampNeg (x1 + 180)))), none, none, none]) (st' := [.int 1, .int ((x1 + 80) + (m 78 (Int32.toNatClampNeg (x1 + 180)))), .ref 78]) rfl ?_
    refine Wp.iastN rfl sh78 h.1 (fun m5 hm => ?_)
    replace h := h.2 _ hm
    refine Wp.pk 2 (pc' := 122) (lv' := [some (.ref 77), some (.int x1), some (.int x2), some (.int x3), some (.int x4), some (.int (m 78 (Int32.toNatClampNeg (x1 + 180)))), some (.int 0), none, none]) (st' := []) rfl ?_
    exact Wp.fgt (lv := [some (.ref 77), some (.int x1), some (.int x2), none, none, some (.int (m 78 (Int32.toNatClampNeg (x1 + 180)))), some (.int 0), none, none]) (a_lle.of (a_lleb_e (a_lleb_e (a_lleb_e (a_lleb_i (a_lleb_i (a_lleb_e (a_lleb_e (a_lleb_e (a_lleb_e trivial)))))))))) h
  · replace h := h.2 hc
    refine Wp.pk 1 (pc' := 16) (lv' := [some (.ref 77), some (.int x1), some (.int x2), some (.int x3), some (.int x4), some (.int x5), none, none, none]) (st' := [.ref 77]) rfl ?_
    refine Wp.getR rfl rfl sh77 rfl ?_
    refine Wp.pk 2 (pc' := 22) (lv' := [some (.ref 77), some (.int x1), some (.int x2), some (.int x3), some (.int x4), some (.int x5), none, none, none]) (st' := [.ref 77, .int x5, .ref 89]) rfl ?_
    refine Wp.getR rfl rfl sh77 rfl ?_
    refine Wp.pk 1 (pc' := 27) (lv' := [some (.ref 77), some (.int x1), some (.int x2), some (.int x3), some (.int x4), some (.int x5), none, none, none]) (st' := [.int x5, .ref 87, .int x5, .ref 89]) rfl ?_
    refine Wp.iald rfl sh87 ⟨h.1, ?_⟩
    replace h := h.2
    refine Wp.iastN rfl sh89 h.1 (fun m6 hm => ?_)
    replace h := h.2 _ hm
    refine Wp.pk 2 (pc' := 8) (lv' := [some (.ref 77), some (.int x1), some (.int x2), some (.int x3), some (.int x4), some (.int (x5 + 1)), none, none, none]) (st' := []) rfl ?_
    exact h
theorem eX9_lay_122 {X : a_X} {m : Nat → Nat → Int32} {Q : Option Value → (Nat → Nat → Int32) → Prop} {x1 x2 x5 x6 : Int32} (h : (4 ≤ x6 → vp_in (x1 + 180) 800 ∧ ∀ m1, m1 = (a_up m 78 (Int32.toNatClampNeg (x1 + 180)) (x5 + 1)) → CallV X mX9_see [.ref 77, .int x1] m1 (fun m2 => Wp X mX9_lay 177 [some (.ref 77), some (.int x1), some (.int x2), none, none, some (.int x5), some (.int 0), some (.int 0), none] [] m2 Q)) ∧ (¬ 4 ≤ x6 → vp_in (((x1 + 100) + (4 * x5)) + x6) 800 ∧ ∀ m3, m3 = (a_up m 78 (Int32.toNatClampNeg (((x1 + 100) + (4 * x5)) + x6)) 0) → Wp X mX9_lay 122 [some (.ref 77), some (.int x1), some (.int x2), none, none, some (.int x5), some (.int (x6 + 1)), none, none] [] m3 Q)) : Wp X mX9_lay 122 [some (.ref 77), some (.int x1), some (.int x2), none, none, some (.int x5), some (.int x6), none, none] [] m Q := by
  refine Wp.pk 2 (pc' := 125) (lv' := [some (.ref 77), some (.int x1), some (.int x2), none, none, some (.int x5), some (.int x6), none, none]) (st' := [.int 4, .int x6]) rfl ?_
  refine Wp.icmp_ge rfl rfl ⟨fun hc => ?_, fun hc => ?_⟩
  · replace h := h.1 hc
    refine Wp.pk 1 (pc' := 153) (lv' := [some (.ref 77), some (.int x1), some (.int x2), none, none, some (.int x5), some (.int x6), none, none]) (st' := [.ref 77]) rfl ?_
    refine Wp.getR rfl rfl sh77 rfl ?_
    refine Wp.pk 6 (pc' := 165) (lv' := [some (.ref 77), some (.int x1), some (.int x2), none, none, some (.int x5), some (.int x6), none, none]) (st' := [.int (x5 + 1), .int (x1 + 180), .ref 78]) rfl ?_
    refine Wp.iastN rfl sh78 h.1 (fun m1 hm => ?_)
    replace h := h.2 _ hm
    refine Wp.pk 2 (pc' := 168) (lv' := [some (.ref 77), some (.int x1), some (.int x2), none, none, some (.int x5), some (.int x6), none, none]) (st' := [.int x1, .ref 77]) rfl ?_
    refine Wp.callV rfl rfl rfl (CallV.mono h (fun m2 h => ?_))
    refine Wp.pk 4 (pc' := 177) (lv' := [some (.ref 77), some (.int x1), some (.int x2), none, none, some (.int x5), some (.int 0), some (.int 0), none]) (st' := []) rfl ?_
    exact h
  · replace h := h.2 hc
    refine Wp.pk 1 (pc' := 129) (lv' := [some (.ref 77), some (.int x1), some (.int x2), none, none, some (.int x5), some (.int x6), none, none]) (st' := [.ref 77]) rfl ?_
    refine Wp.getR rfl rfl sh77 rfl ?_
    refine Wp.pk 10 (pc' := 145) (lv' := [some (.ref 77), some (.int x1), some (.int x2), none, none, some (.int x5), some (.int x6), none, none]) (st' := [.int 0, .int (((x1 + 100) + (4 * x5)) + x6), .ref 78]) rfl ?_
    refine Wp.iastN rfl sh78 h.1 (fun m3 hm => ?_)
    replace h := h.2 _ hm
    refine Wp.pk 2 (pc' := 122) (lv' := [some (.ref 77), some (.int x1), some (.int x2), none, none, some (.int x5), some (.int (x6 + 1)), none, none]) (st' := []) rfl ?_
    exact h
theorem eX9_lay_177 {X : a_X} {m : Nat → Nat → Int32} {Q : Option Value → (Nat → Nat → Int32) → Prop} {x1 x2 x5 x6 x7 : Int32} (h : (x5 ≤ x7 → vp_in x2 24 ∧ vp_in ((x1 + 182) + (m 83 (Int32.toNatClampNeg x2))) 800 ∧ vp_in ((x1 + 182) + (m 83 (Int32.toNatClampNeg x2))) 800 ∧ ∀ m1, m1 = (a_up m 78 (Int32.toNatClampNeg ((x1 + 182) + (m 83 (Int32.toNatClampNeg x2)))) ((m 78 (Int32.toNatClampNeg ((x1 + 182) + (m 83 (Int32.toNatClampNeg x2))))) + x6)) → Q (some (.int x6)) m1) ∧ (¬ x5 ≤ x7 → vp_in (x1 + 181) 800 ∧ vp_in ((x1 + 60) + x7) 800 ∧ vp_in 2 10 ∧ ((m 80 (Int32.toNatClampNeg 2)) ≤ ((m 78 (Int32.toNatClampNeg (x1 + 181))) - (m 78 (Int32.toNatClampNeg ((x1 + 60) + x7)))) → CallI X mX9_ownerOf [.ref 77, .int x1, .int x7] m (fun v3 m2 => vp_in x2 24 ∧ (v3 = (m2 83 (Int32.toNatClampNeg x2)) → Wp X mX9_lay 177 [some (.ref 77), some (.int x1), some (.int x2), none, none, some (.int x5), some (.int (x6 + 0)), some (.int (x7 + 1)), none] [] m2 Q) ∧ (¬ v3 = (m2 83 (Int32.toNatClampNeg x2)) → Wp X mX9_lay 177 [some (.ref 77), some (.int x1), some (.int x2), none, none, some (.int x5), some (.int (x6 + 0)), some (.int (x7 + 1)), none] [] m2 Q))) ∧ (¬ (m 80 (Int32.toNatClampNeg 2)) ≤ ((m 78 (Int32.toNatClampNeg (x1 + 181))) - (m 78 (Int32.toNatClampNeg ((x1 + 60) + x7)))) → CallI X mX9_ownerOf [.ref 77, .int x1, .int x7] m (fun v5 m4 => vp_in x2 24 ∧ (v5 = (m4 83 (Int32.toNatClampNeg x2)) → Wp X mX9_lay 177 [some (.ref 77), some (.int x1), some (.int x2), none, none, some (.int x5), some (.int (x6 + 0)), some (.int (x7 + 1)), none] [] m4 Q) ∧ (¬ v5 = (m4 83 (Int32.toNatClampNeg x2)) → vp_in x7 20 ∧ vp_in x7 20 ∧ ((m4 89 (Int32.toNatClampNeg x7)) ≤ (m4 87 (Int32.toNatClampNeg x7)) → Wp X mX9_lay 177 [some (.ref 77), some (.int x1), some (.int x2), none, none, some (.int x5), some (.int (x6 + 0)), some (.int (x7 + 1)), none] [] m4 Q) ∧ (¬ (m4 89 (Int32.toNatClampNeg x7)) ≤ (m4 87 (Int32.toNatClampNeg x7)) → vp_in 3 10 ∧ Wp X mX9_lay 177 [some (.ref 77), some (.int x1), some (.int x2), none, none, some (.int x5), some (.int (x6 + (m4 80 (Int32.toNatClampNeg 3)))), some (.int (x7 + 1)), none] [] m4 Q)))))) : Wp X mX9_lay 177 [some (.ref 77), some (.int x1), some (.int x2), none, none, some (.int x5), some (.int x6), some (.int x7), none] [] m Q := by
  refine Wp.pk 2 (pc' := 181) (lv' := [some (.ref 77), some (.int x1), some (.int x2), none, none, some (.int x5), some (.int x6), some (.int x7), none]) (st' := [.int x5, .int x7]) rfl ?_
  refine Wp.icmp_ge rfl rfl ⟨fun hc => ?_, fun hc => ?_⟩
  · replace h := h.1 hc
    refine Wp.pk 1 (pc' := 283) (lv' := [some (.ref 77), some (.int x1), some (.int x2), none, none, some (.int x5), some (.int x6), some (.int x7), none]) (st' := [.ref 77]) rfl ?_
    refine Wp.getR rfl rfl sh77 rfl ?_
    refine Wp.pk 4 (pc' := 292) (lv' := [some (.ref 77), some (.int x1), some (.int x2), none, none, some (.int x5), some (.int x6), some (.int x7), none]) (st' := [.ref 77, .int (x1 + 182), .ref 78]) rfl ?_
    refine Wp.getR rfl rfl sh77 rfl ?_
    refine Wp.pk 1 (pc' := 296) (lv' := [some (.ref 77), some (.int x1), some (.int x2), none, none, some (.int x5), some (.int x6), some (.int x7), none]) (st' := [.int x2, .ref 83, .int (x1 + 182), .ref 78]) rfl ?_
    refine Wp.iald rfl sh83 ⟨h.1, ?_⟩
    replace h := h.2
    refine Wp.pk 2 (pc' := 299) (lv' := [some (.ref 77), some (.int x1), some (.int x2), none, none, some (.int x5), some (.int x6), some (.int x7), none]) (st' := [.int ((x1 + 182) + (m 83 (Int32.toNatClampNeg x2))), .ref 78, .int ((x1 + 182) + (m 83 (Int32.toNatClampNeg x2))), .ref 78]) rfl ?_
    refine Wp.iald rfl sh78 ⟨h.1, ?_⟩
    replace h := h.2
    refine Wp.pk 2 (pc' := 303) (lv' := [some (.ref 77), some (.int x1), some (.int x2), none, none, some (.int x5), some (.int x6), some (.int x7), none]) (st' := [.int ((m 78 (Int32.toNatClampNeg ((x1 + 182) + (m 83 (Int32.toNatClampNeg x2))))) + x6), .int ((x1 + 182) + (m 83 (Int32.toNatClampNeg x2))), .ref 78]) rfl ?_
    refine Wp.iastN rfl sh78 h.1 (fun m1 hm => ?_)
    replace h := h.2 _ hm
    refine Wp.pk 1 (pc' := 306) (lv' := [some (.ref 77), some (.int x1), some (.int x2), none, none, some (.int x5), some (.int x6), some (.int x7), none]) (st' := [.int x6]) rfl ?_
    exact Wp.iret rfl rfl ⟨rfl, h⟩
  · replace h := h.2 hc
    refine Wp.pk 1 (pc' := 185) (lv' := [some (.ref 77), some (.int x1), some (.int x2), none, none, some (.int x5), some (.int x6), some (.int x7), none]) (st' := [.ref 77]) rfl ?_
    refine Wp.getR rfl rfl sh77 rfl ?_
    refine Wp.pk 3 (pc' := 193) (lv' := [some (.ref 77), some (.int x1), some (.int x2), none, none, some (.int x5), some (.int x6), some (.int x7), none]) (st' := [.int (x1 + 181), .ref 78]) rfl ?_
    refine Wp.iald rfl sh78 ⟨h.1, ?_⟩
    replace h := h.2
    refine Wp.pk 1 (pc' := 195) (lv' := [some (.ref 77), some (.int x1), some (.int x2), none, none, some (.int x5), some (.int x6), some (.int x7), none]) (st' := [.ref 77, .int (m 78 (Int32.toNatClampNeg (x1 + 181)))]) rfl ?_
    refine Wp.getR rfl rfl sh77 rfl ?_
    refine Wp.pk 5 (pc' := 205) (lv' := [some (.ref 77), some (.int x1), some (.int x2), none, none, some (.int x5), some (.int x6), some (.int x7), none]) (st' := [.int ((x1 + 60) + x7), .ref 78, .int (m 78 (Int32.toNatClampNeg (x1 + 181)))]) rfl ?_
    refine Wp.iald rfl sh78 ⟨h.1, ?_⟩
    replace h := h.2
    refine Wp.pk 2 (pc' := 208) (lv' := [some (.ref 77), some (.int x1), some (.int x2), none, none, some (.int x5), some (.int x6), some (.int x7), none]) (st' := [.ref 77, .int ((m 78 (Int32.toNatClampNeg (x1 + 181))) - (m 78 (Int32.toNatClampNeg ((x1 + 60) + x7))))]) rfl ?_
    refine Wp.getR rfl rfl sh77 rfl ?_
    refine Wp.pk 1 (pc' := 212) (lv' := [some (.ref 77), some (.int x1), some (.int x2), none, none, some (.int x5), some (.int x6), some (.int x7), none]) (st' := [.int 2, .ref 80, .int ((m 78 (Int32.toNatClampNeg (x1 + 181))) - (m 78 (Int32.toNatClampNeg ((x1 + 60) + x7))))]) rfl ?_
    refine Wp.iald rfl sh80 ⟨h.1, ?_⟩
    replace h := h.2
    refine Wp.icmp_ge rfl rfl ⟨fun hc => ?_, fun hc => ?_⟩
    · replace h := h.1 hc
      refine Wp.pk 6 (pc' := 229) (lv' := [some (.ref 77), some (.int x1), some (.int x2), none, none, some (.int x5), some (.int x6), some (.int x7), some (.int 0)]) (st' := [.int x7, .int x1, .ref 77, .int x6]) rfl ?_
      refine Wp.callI rfl rfl rfl (CallI.mono h (fun v3 m2 h => ?_))
      refine Wp.pk 1 (pc' := 233) (lv' := [some (.ref 77), some (.int x1), some (.int x2), none, none, some (.int x5), some (.int x6), some (.int x7), some (.int 0)]) (st' := [.ref 77, .int v3, .int x6]) rfl ?_
      refine Wp.getR rfl rfl sh77 rfl ?_
      refine Wp.pk 1 (pc' := 237) (lv' := [some (.ref 77), some (.int x1), some (.int x2), none, none, some (.int x5), some (.int x6), some (.int x7), some (.int 0)]) (st' := [.int x2, .ref 83, .int v3, .int x6]) rfl ?_
      refine Wp.iald rfl sh83 ⟨h.1, ?_⟩
      replace h := h.2
      refine Wp.icmp_eq rfl rfl ⟨fun hc => ?_, fun hc => ?_⟩
      · replace h := h.1 hc
        refine Wp.pk 5 (pc' := 177) (lv' := [some (.ref 77), some (.int x1), some (.int x2), none, none, some (.int x5), some (.int (x6 + 0)), some (.int (x7 + 1)), some (.int 0)]) (st' := []) rfl ?_
        exact Wp.fgt (lv := [some (.ref 77), some (.int x1), some (.int x2), none, none, some (.int x5), some (.int (x6 + 0)), some (.int (x7 + 1)), none]) (a_lle.of (a_lleb_e (a_lleb_e (a_lleb_e (a_lleb_e (a_lleb_e (a_lleb_e (a_lleb_e (a_lleb_e (a_lleb_i trivial)))))))))) h
      · replace h := h.2 hc
        refine Wp.pk 7 (pc' := 177) (lv' := [some (.ref 77), some (.int x1), some (.int x2), none, none, some (.int x5), some (.int (x6 + 0)), some (.int (x7 + 1)), some (.int 0)]) (st' := []) rfl ?_
        exact Wp.fgt (lv := [some (.ref 77), some (.int x1), some (.int x2), none, none, some (.int x5), some (.int (x6 + 0)), some (.int (x7 + 1)), none]) (a_lle.of (a_lleb_e (a_lleb_e (a_lleb_e (a_lleb_e (a_lleb_e (a_lleb_e (a_lleb_e (a_lleb_e (a_lleb_i trivial)))))))))) h
    · replace h := h.2 hc
      refine Wp.pk 7 (pc' := 229) (lv' := [some (.ref 77), some (.int x1), some (.int x2), none, none, some (.int x5), some (.int x6), some (.int x7), some (.int 1)]) (st' := [.int x7, .int x1, .ref 77, .int x6]) rfl ?_
      refine Wp.callI rfl rfl rfl (CallI.mono h (fun v5 m4 h => ?_))
      refine Wp.pk 1 (pc' := 233) (lv' := [some (.ref 77), some (.int x1), some (.int x2), none, none, some (.int x5), some (.int x6), some (.int x7), some (.int 1)]) (st' := [.ref 77, .int v5, .int x6]) rfl ?_
      refine Wp.getR rfl rfl sh77 rfl ?_
      refine Wp.pk 1 (pc' := 237) (lv' := [some (.ref 77), some (.int x1), some (.int x2), none, none, some (.int x5), some (.int x6), some (.int x7), some (.int 1)]) (st' := [.int x2, .ref 83, .int v5, .int x6]) rfl ?_
      refine Wp.iald rfl sh83 ⟨h.1, ?_⟩
      replace h := h.2
      refine Wp.icmp_eq rfl rfl ⟨fun hc => ?_, fun hc => ?_⟩
      · replace h := h.1 hc
        refine Wp.pk 5 (pc' := 177) (lv' := [some (.ref 77), some (.int x1), some (.int x2), none, none, some (.int x5), some (.int (x6 + 0)), some (.int (x7 + 1)), some (.int 1)]) (st' := []) rfl ?_
        exact Wp.fgt (lv := [some (.ref 77), some (.int x1), some (.int x2), none, none, some (.int x5), some (.int (x6 + 0)), some (.int (x7 + 1)), none]) (a_lle.of (a_lleb_e (a_lleb_e (a_lleb_e (a_lleb_e (a_lleb_e (a_lleb_e (a_lleb_e (a_lleb_e (a_lleb_i trivial)))))))))) h
      · replace h := h.2 hc
        refine Wp.pk 3 (pc' := 247) (lv' := [some (.ref 77), some (.int x1), some (.int x2), none, none, some (.int x5), some (.int x6), some (.int x7), some (.int 1)]) (st' := [.ref 77, .int x6]) rfl ?_
        refine Wp.getR rfl rfl sh77 rfl ?_
        refine Wp.pk 1 (pc' := 252) (lv' := [some (.ref 77), some (.int x1), some (.int x2), none, none, some (.int x5), some (.int x6), some (.int x7), some (.int 1)]) (st' := [.int x7, .ref 87, .int x6]) rfl ?_
        refine Wp.iald rfl sh87 ⟨h.1, ?_⟩
        replace h := h.2
        refine Wp.pk 1 (pc' := 254) (lv' := [some (.ref 77), some (.int x1), some (.int x2), none, none, some (.int x5), some (.int x6), some (.int x7), some (.int 1)]) (st' := [.ref 77, .int (m4 87 (Int32.toNatClampNeg x7)), .int x6]) rfl ?_
        refine Wp.getR rfl rfl sh77 rfl ?_
        refine Wp.pk 1 (pc' := 259) (lv' := [some (.ref 77), some (.int x1), some (.int x2), none, none, some (.int x5), some (.int x6), some (.int x7), some (.int 1)]) (st' := [.int x7, .ref 89, .int (m4 87 (Int32.toNatClampNeg x7)), .int x6]) rfl ?_
        refine Wp.iald rfl sh89 ⟨h.1, ?_⟩
        replace h := h.2
        refine Wp.icmp_ge rfl rfl ⟨fun hc => ?_, fun hc => ?_⟩
        · replace h := h.1 hc
          refine Wp.pk 5 (pc' := 177) (lv' := [some (.ref 77), some (.int x1), some (.int x2), none, none, some (.int x5), some (.int (x6 + 0)), some (.int (x7 + 1)), some (.int 1)]) (st' := []) rfl ?_
          exact Wp.fgt (lv := [some (.ref 77), some (.int x1), some (.int x2), none, none, some (.int x5), some (.int (x6 + 0)), some (.int (x7 + 1)), none]) (a_lle.of (a_lleb_e (a_lleb_e (a_lleb_e (a_lleb_e (a_lleb_e (a_lleb_e (a_lleb_e (a_lleb_e (a_lleb_i trivial)))))))))) h
        · replace h := h.2 hc
          refine Wp.pk 1 (pc' := 264) (lv' := [some (.ref 77), some (.int x1), some (.int x2), none, none, some (.int x5), some (.int x6), some (.int x7), some (.int 1)]) (st' := [.ref 77, .int x6]) rfl ?_
          refine Wp.getR rfl rfl sh77 rfl ?_
          refine Wp.pk 1 (pc' := 268) (lv' := [some (.ref 77), some (.int x1), some (.int x2), none, none, some (.int x5), some (.int x6), some (.int x7), some (.int 1)]) (st' := [.int 3, .ref 80, .int x6]) rfl ?_
          refine Wp.iald rfl sh80 ⟨h.1, ?_⟩
          replace h := h.2
          refine Wp.pk 5 (pc' := 177) (lv' := [some (.ref 77), some (.int x1), some (.int x2), none, none, some (.int x5), some (.int (x6 + (m4 80 (Int32.toNatClampNeg 3)))), some (.int (x7 + 1)), some (.int 1)]) (st' := []) rfl ?_
          exact Wp.fgt (lv := [some (.ref 77), some (.int x1), some (.int x2), none, none, some (.int x5), some (.int (x6 + (m4 80 (Int32.toNatClampNeg 3)))), some (.int (x7 + 1)), none]) (a_lle.of (a_lleb_e (a_lleb_e (a_lleb_e (a_lleb_e (a_lleb_e (a_lleb_e (a_lleb_e (a_lleb_e (a_lleb_i trivial)))))))))) h
theorem eX9_isWithin_0 {X : a_X} {m : Nat → Nat → Int32} {Q : Option Value → (Nat → Nat → Int32) → Prop} {x1 x2 x3 : Int32} (h : (x2 < 0 → Q (some (.int 0)) m) ∧ (¬ x2 < 0 → (x3 < 0 → Q (some (.int 0)) m) ∧ (¬ x3 < 0 → vp_in 0 10 ∧ vp_in x1 24 ∧ (((m 80 (Int32.toNatClampNeg 0)) - (m 84 (Int32.toNatClampNeg x1))) < x2 → Q (some (.int 0)) m) ∧ (¬ ((m 80 (Int32.toNatClampNeg 0)) - (m 84 (Int32.toNatClampNeg x1))) < x2 → vp_in 1 10 ∧ vp_in x1 24 ∧ (((m 80 (Int32.toNatClampNeg 1)) - (m 85 (Int32.toNatClampNeg x1))) < x3 → Q (some (.int 0)) m) ∧ (¬ ((m 80 (Int32.toNatClampNeg 1)) - (m 85 (Int32.toNatClampNeg x1))) < x3 → Q (some (.int 1)) m))))) : Call X mX9_isWithin [.ref 77, .int x1, .int x2, .int x3] m Q := by
  unfold Call
  refine Wp.loc (lv' := [some (.ref 77), some (.int x1), some (.int x2), some (.int x3)]) rfl ?_
  refine Wp.pk 1 (pc' := 1) (lv' := [some (.ref 77), some (.int x1), some (.int x2), some (.int x3)]) (st' := [.int x2]) rfl ?_
  refine Wp.if_lt rfl rfl ⟨fun hc => ?_, fun hc => ?_⟩
  · replace h := h.1 hc
    refine Wp.pk 1 (pc' := 47) (lv' := [some (.ref 77), some (.int x1), some (.int x2), some (.int x3)]) (st' := [.int 0]) rfl ?_
    exact Wp.iret rfl rfl ⟨rfl, h⟩
  · replace h := h.2 hc
    refine Wp.pk 1 (pc' := 5) (lv' := [some (.ref 77), some (.int x1), some (.int x2), some (.int x3)]) (st' := [.int x3]) rfl ?_
    refine Wp.if_lt rfl rfl ⟨fun hc => ?_, fun hc => ?_⟩
    · replace h := h.1 hc
      refine Wp.pk 1 (pc' := 47) (lv' := [some (.ref 77), some (.int x1), some (.int x2), some (.int x3)]) (st' := [.int 0]) rfl ?_
      exact Wp.iret rfl rfl ⟨rfl, h⟩
    · replace h := h.2 hc
      refine Wp.pk 2 (pc' := 10) (lv' := [some (.ref 77), some (.int x1), some (.int x2), some (.int x3)]) (st' := [.ref 77, .int x2]) rfl ?_
      refine Wp.getR rfl rfl sh77 rfl ?_
      refine Wp.pk 1 (pc' := 14) (lv' := [some (.ref 77), some (.int x1), some (.int x2), some (.int x3)]) (st' := [.int 0, .ref 80, .int x2]) rfl ?_
      refine Wp.iald rfl sh80 ⟨h.1, ?_⟩
      replace h := h.2
      refine Wp.pk 1 (pc' := 16) (lv' := [some (.ref 77), some (.int x1), some (.int x2), some (.int x3)]) (st' := [.ref 77, .int (m 80 (Int32.toNatClampNeg 0)), .int x2]) rfl ?_
      refine Wp.getR rfl rfl sh77 rfl ?_
      refine Wp.pk 1 (pc' := 20) (lv' := [some (.ref 77), some (.int x1), some (.int x2), some (.int x3)]) (st' := [.int x1, .ref 84, .int (m 80 (Int32.toNatClampNeg 0)), .int x2]) rfl ?_
      refine Wp.iald rfl sh84 ⟨h.1, ?_⟩
      replace h := h.2
      refine Wp.pk 1 (pc' := 22) (lv' := [some (.ref 77), some (.int x1), some (.int x2), some (.int x3)]) (st' := [.int ((m 80 (Int32.toNatClampNeg 0)) - (m 84 (Int32.toNatClampNeg x1))), .int x2]) rfl ?_
      refine Wp.icmp_gt rfl rfl ⟨fun hc => ?_, fun hc => ?_⟩
      · replace h := h.1 hc
        refine Wp.pk 1 (pc' := 47) (lv' := [some (.ref 77), some (.int x1), some (.int x2), some (.int x3)]) (st' := [.int 0]) rfl ?_
        exact Wp.iret rfl rfl ⟨rfl, h⟩
      · replace h := h.2 hc
        refine Wp.pk 2 (pc' := 27) (lv' := [some (.ref 77), some (.int x1), some (.int x2), some (.int x3)]) (st' := [.ref 77, .int x3]) rfl ?_
        refine Wp.getR rfl rfl sh77 rfl ?_
        refine Wp.pk 1 (pc' := 31) (lv' := [some (.ref 77), some (.int x1), some (.int x2), some (.int x3)]) (st' := [.int 1, .ref 80, .int x3]) rfl ?_
        refine Wp.iald rfl sh80 ⟨h.1, ?_⟩
        replace h := h.2
        refine Wp.pk 1 (pc' := 33) (lv' := [some (.ref 77), some (.int x1), some (.int x2), some (.int x3)]) (st' := [.ref 77, .int (m 80 (Int32.toNatClampNeg 1)), .int x3]) rfl ?_
        refine Wp.getR rfl rfl sh77 rfl ?_
        refine Wp.pk 1 (pc' := 37) (lv' := [some (.ref 77), some (.int x1), some (.int x2), some (.int x3)]) (st' := [.int x1, .ref 85, .int (m 80 (Int32.toNatClampNeg 1)), .int x3]) rfl ?_
        refine Wp.iald rfl sh85 ⟨h.1, ?_⟩
        replace h := h.2
        refine Wp.pk 1 (pc' := 39) (lv' := [some (.ref 77), some (.int x1), some (.int x2), some (.int x3)]) (st' := [.int ((m 80 (Int32.toNatClampNeg 1)) - (m 85 (Int32.toNatClampNeg x1))), .int x3]) rfl ?_
        refine Wp.icmp_gt rfl rfl ⟨fun hc => ?_, fun hc => ?_⟩
        · replace h := h.1 hc
          refine Wp.pk 1 (pc' := 47) (lv' := [some (.ref 77), some (.int x1), some (.int x2), some (.int x3)]) (st' := [.int 0]) rfl ?_
          exact Wp.iret rfl rfl ⟨rfl, h⟩
        · replace h := h.2 hc
          refine Wp.pk 2 (pc' := 47) (lv' := [some (.ref 77), some (.int x1), some (.int x2), some (.int x3)]) (st' := [.int 1]) rfl ?_
          exact Wp.iret rfl rfl ⟨rfl, h⟩
theorem eX9_isClear_0 {X : a_X} {m : Nat → Nat → Int32} {Q : Option Value → (Nat → Nat → Int32) → Prop} {x1 x2 x3 : Int32} (h : Wp X mX9_isClear 6 [some (.ref 77), some (.int x1), some (.int x2), some (.int x3), some (.int 1), some (.int 0)] [] m Q) : Call X mX9_isClear [.ref 77, .int x1, .int x2, .int x3] m Q := by
  unfold Call
  refine Wp.loc (lv' := [some (.ref 77), some (.int x1), some (.int x2), some (.int x3), none, none]) rfl ?_
  refine Wp.pk 4 (pc' := 6) (lv' := [some (.ref 77), some (.int x1), some (.int x2), some (.int x3), some (.int 1), some (.int 0)]) (st' := []) rfl ?_
  exact h
theorem eX9_isClear_6 {X : a_X} {m : Nat → Nat → Int32} {Q : Option Value → (Nat → Nat → Int32) → Prop} {x1 x2 x3 x4 x5 : Int32} (h : (128 ≤ x5 → a_fit .boolean x4 = true ∧ Q (some (.int x4)) m) ∧ (¬ 128 ≤ x5 → (x4 = 0 → Wp X mX9_isClear 6 [some (.ref 77), some (.int x1), some (.int x2), some (.int x3), some (.int 0), some (.int (x5 + 1))] [] m Q) ∧ (¬ x4 = 0 → vp_in x5 256 ∧ ((m 82 (Int32.toNatClampNeg x5)) = 0 → Wp X mX9_isClear 6 [some (.ref 77), some (.int x1), some (.int x2), some (.int x3), some (.int 1), some (.int (x5 + 1))] [] m Q) ∧ (¬ (m 82 (Int32.toNatClampNeg x5)) = 0 → CallI X mX9_reaches [.ref 77, .int x1, .int x2, .int x3, .int x5] m (fun v2 m1 => (¬ v2 = 0 → Wp X mX9_isClear 6 [some (.ref 77), some (.int x1), some (.int x2), some (.int x3), some (.int 0), some (.int (x5 + 1))] [] m1 Q) ∧ (v2 = 0 → Wp X mX9_isClear 6 [some (.ref 77), some (.int x1), some (.int x2), some (.int x3), some (.int 1), some (.int (x5 + 1))] [] m1 Q)))))) : Wp X mX9_isClear 6 [some (.ref 77), some (.int x1), some (.int x2), some (.int x3), some (.int x4), some (.int x5)] [] m Q := by
  refine Wp.pk 2 (pc' := 11) (lv' := [some (.ref 77), some (.int x1), some (.int x2), some (.int x3), some (.int x4), some (.int x5)]) (st' := [.int 128, .int x5]) rfl ?_
  refine Wp.icmp_ge rfl rfl ⟨fun hc => ?_, fun hc => ?_⟩
  · replace h := h.1 hc
    refine Wp.pk 1 (pc' := 56) (lv' := [some (.ref 77), some (.int x1), some (.int x2), some (.int x3), some (.int x4), some (.int x5)]) (st' := [.int x4]) rfl ?_
    exact Wp.iret rfl rfl h
  · replace h := h.2 hc
    refine Wp.pk 1 (pc' := 16) (lv' := [some (.ref 77), some (.int x1), some (.int x2), some (.int x3), some (.int x4), some (.int x5)]) (st' := [.int x4]) rfl ?_
    refine Wp.if_eq rfl rfl ⟨fun hc => ?_, fun hc => ?_⟩
    · replace h := h.1 hc
      refine Wp.pk 4 (pc' := 6) (lv' := [some (.ref 77), some (.int x1), some (.int x2), some (.int x3), some (.int 0), some (.int (x5 + 1))]) (st' := []) rfl ?_
      exact h
    · replace h := h.2 hc
      refine Wp.pk 1 (pc' := 20) (lv' := [some (.ref 77), some (.int x1), some (.int x2), some (.int x3), some (.int x4), some (.int x5)]) (st' := [.ref 77]) rfl ?_
      refine Wp.getR rfl rfl sh77 rfl ?_
      refine Wp.pk 1 (pc' := 25) (lv' := [some (.ref 77), some (.int x1), some (.int x2), some (.int x3), some (.int x4), some (.int x5)]) (st' := [.int x5, .ref 82]) rfl ?_
      refine Wp.bald rfl sh82 ⟨h.1, ?_⟩
      replace h := h.2
      refine Wp.if_eq rfl rfl ⟨fun hc => ?_, fun hc => ?_⟩
      · replace h := h.1 hc
        refine Wp.pk 5 (pc' := 6) (lv' := [some (.ref 77), some (.int x1), some (.int x2), some (.int x3), some (.int 1), some (.int (x5 + 1))]) (st' := []) rfl ?_
        exact h
      · replace h := h.2 hc
        refine Wp.pk 5 (pc' := 35) (lv' := [some (.ref 77), some (.int x1), some (.int x2), some (.int x3), some (.int x4), some (.int x5)]) (st' := [.int x5, .int x3, .int x2, .int x1, .ref 77]) rfl ?_
        refine Wp.callI rfl rfl rfl (CallI.mono h (fun v2 m1 h => ?_))
        refine Wp.if_ne rfl rfl ⟨fun hc => ?_, fun hc => ?_⟩
        · replace h := h.1 hc
          refine Wp.pk 4 (pc' := 6) (lv' := [some (.ref 77), some (.int x1), some (.int x2), some (.int x3), some (.int 0), some (.int (x5 + 1))]) (st' := []) rfl ?_
          exact h
        · replace h := h.2 hc
          refine Wp.pk 5 (pc' := 6) (lv' := [some (.ref 77), some (.int x1), some (.int x2), some (.int x3), some (.int 1), some (.int (x5 + 1))]) (st' := []) rfl ?_
          exact h
theorem eX9_paste_0 {X : a_X} {m : Nat → Nat → Int32} {Q : Option Value → (Nat → Nat → Int32) → Prop} {x1 x2 x3 : Int32} (h : CallI X mX9_isKind [.ref 77, .int x1] m (fun v2 m1 => (¬ v2 = 0 → CallI X mX9_isWithin [.ref 77, .int x1, .int x2, .int x3] m1 (fun v4 m3 => (¬ v4 = 0 → CallI X mX9_isClear [.ref 77, .int x1, .int x2, .int x3] m3 (fun v6 m5 => (¬ v6 = 0 → vp_in 180 800 ∧ (¬ (m5 78 (Int32.toNatClampNeg 180)) = 20 → CallI X mX9_lay [.ref 77, .int 0, .int x1, .int x2, .int x3] m5 (fun v8 m7 => vp_in 180 800 ∧ Q (some (.int ((m7 78 (Int32.toNatClampNeg 180)) - 1))) m7)) ∧ ((m5 78 (Int32.toNatClampNeg 180)) = 20 → Q (some (.int (-100000004))) m5)) ∧ (v6 = 0 → Q (some (.int (-100000003))) m5))) ∧ (v4 = 0 → Q (some (.int (-100000002))) m3))) ∧ (v2 = 0 → Q (some (.int (-100000001))) m1))) : Call X mX9_paste [.ref 77, .int x1, .int x2, .int x3] m Q := by
  unfold Call
  refine Wp.loc (lv' := [some (.ref 77), some (.int x1), some (.int x2), some (.int x3), none]) rfl ?_
  refine Wp.pk 2 (pc' := 2) (lv' := [some (.ref 77), some (.int x1), some (.int x2), some (.int x3), none]) (st' := [.int x1, .ref 77]) rfl ?_
  refine Wp.callI rfl rfl rfl (CallI.mono h (fun v2 m1 h => ?_))
  refine Wp.if_ne rfl rfl ⟨fun hc => ?_, fun hc => ?_⟩
  · replace h := h.1 hc
    refine Wp.pk 4 (pc' := 15) (lv' := [some (.ref 77), some (.int x1), some (.int x2), some (.int x3), none]) (st' := [.int x3, .int x2, .int x1, .ref 77]) rfl ?_
    refine Wp.callI rfl rfl rfl (CallI.mono h (fun v4 m3 h => ?_))
    refine Wp.if_ne rfl rfl ⟨fun hc => ?_, fun hc => ?_⟩
    · replace h := h.1 hc
      refine Wp.pk 4 (pc' := 28) (lv' := [some (.ref 77), some (.int x1), some (.int x2), some (.int x3), none]) (st' := [.int x3, .int x2, .int x1, .ref 77]) rfl ?_
      refine Wp.callI rfl rfl rfl (CallI.mono h (fun v6 m5 h => ?_))
      refine Wp.if_ne rfl rfl ⟨fun hc => ?_, fun hc => ?_⟩
      · replace h := h.1 hc
        refine Wp.pk 1 (pc' := 38) (lv' := [some (.ref 77), some (.int x1), some (.int x2), some (.int x3), none]) (st' := [.ref 77]) rfl ?_
        refine Wp.getR rfl rfl sh77 rfl ?_
        refine Wp.pk 1 (pc' := 44) (lv' := [some (.ref 77), some (.int x1), some (.int x2), some (.int x3), none]) (st' := [.int 180, .ref 78]) rfl ?_
        refine Wp.iald rfl sh78 ⟨h.1, ?_⟩
        replace h := h.2
        refine Wp.pk 1 (pc' := 47) (lv' := [some (.ref 77), some (.int x1), some (.int x2), some (.int x3), none]) (st' := [.int 20, .int (m5 78 (Int32.toNatClampNeg 180))]) rfl ?_
        refine Wp.icmp_ne rfl rfl ⟨fun hc => ?_, fun hc => ?_⟩
        · replace h := h.1 hc
          refine Wp.pk 5 (pc' := 58) (lv' := [some (.ref 77), some (.int x1), some (.int x2), some (.int x3), none]) (st' := [.int x3, .int x2, .int x1, .int 0, .ref 77]) rfl ?_
          refine Wp.callI rfl rfl rfl (CallI.mono h (fun v8 m7 h => ?_))
          refine Wp.pk 2 (pc' := 64) (lv' := [some (.ref 77), some (.int x1), some (.int x2), some (.int x3), some (.int v8)]) (st' := [.ref 77]) rfl ?_
          refine Wp.getR rfl rfl sh77 rfl ?_
          refine Wp.pk 1 (pc' := 70) (lv' := [some (.ref 77), some (.int x1), some (.int x2), some (.int x3), some (.int v8)]) (st' := [.int 180, .ref 78]) rfl ?_
          refine Wp.iald rfl sh78 ⟨h.1, ?_⟩
          replace h := h.2
          refine Wp.pk 2 (pc' := 73) (lv' := [some (.ref 77), some (.int x1), some (.int x2), some (.int x3), some (.int v8)]) (st' := [.int ((m7 78 (Int32.toNatClampNeg 180)) - 1)]) rfl ?_
          exact Wp.iret rfl rfl ⟨rfl, h⟩
        · replace h := h.2 hc
          refine Wp.ldc rfl rfl ?_
          exact Wp.iret rfl rfl ⟨rfl, h⟩
      · replace h := h.2 hc
        refine Wp.ldc rfl rfl ?_
        exact Wp.iret rfl rfl ⟨rfl, h⟩
    · replace h := h.2 hc
      refine Wp.ldc rfl rfl ?_
      exact Wp.iret rfl rfl ⟨rfl, h⟩
  · replace h := h.2 hc
    refine Wp.ldc rfl rfl ?_
    exact Wp.iret rfl rfl ⟨rfl, h⟩
theorem eX9_days_0 {X : a_X} {m : Nat → Nat → Int32} {Q : Option Value → (Nat → Nat → Int32) → Prop} {x1 : Int32} (h : CallI X mX9_in [.long (Int32.toInt64 x1), .long 0, .long 999] m (fun v2 m1 => (¬ v2 = 0 → vp_in 181 800 ∧ vp_in 181 800 ∧ ∀ m3, m3 = (a_up m1 78 (Int32.toNatClampNeg 181) ((m1 78 (Int32.toNatClampNeg 181)) + x1)) → vp_in 181 800 ∧ Q (some (.int (m3 78 (Int32.toNatClampNeg 181)))) m3) ∧ (v2 = 0 → Q (some (.int (-100000002))) m1))) : Call X mX9_days [.ref 77, .int x1] m Q := by
  unfold Call
  refine Wp.loc (lv' := [some (.ref 77), some (.int x1)]) rfl ?_
  refine Wp.pk 3 (pc' := 3) (lv' := [some (.ref 77), some (.int x1)]) (st' := [.long 0, .long (Int32.toInt64 x1)]) rfl ?_
  refine Wp.ldc2 rfl rfl ?_
  refine Wp.callI rfl rfl rfl (CallI.mono h (fun v2 m1 h => ?_))
  refine Wp.if_ne rfl rfl ⟨fun hc => ?_, fun hc => ?_⟩
  · replace h := h.1 hc
    refine Wp.pk 1 (pc' := 16) (lv' := [some (.ref 77), some (.int x1)]) (st' := [.ref 77]) rfl ?_
    refine Wp.getR rfl rfl sh77 rfl ?_
    refine Wp.pk 2 (pc' := 23) (lv' := [some (.ref 77), some (.int x1)]) (st' := [.int 181, .ref 78, .int 181, .ref 78]) rfl ?_
    refine Wp.iald rfl sh78 ⟨h.1, ?_⟩
    replace h := h.2
    refine Wp.pk 2 (pc' := 26) (lv' := [some (.ref 77), some (.int x1)]) (st' := [.int ((m1 78 (Int32.toNatClampNeg 181)) + x1), .int 181, .ref 78]) rfl ?_
    refine Wp.iastN rfl sh78 h.1 (fun m3 hm => ?_)
    replace h := h.2 _ hm
    refine Wp.pk 1 (pc' := 28) (lv' := [some (.ref 77), some (.int x1)]) (st' := [.ref 77]) rfl ?_
    refine Wp.getR rfl rfl sh77 rfl ?_
    refine Wp.pk 1 (pc' := 34) (lv' := [some (.ref 77), some (.int x1)]) (st' := [.int 181, .ref 78]) rfl ?_
    refine Wp.iald rfl sh78 ⟨h.1, ?_⟩
    replace h := h.2
    exact Wp.iret rfl rfl ⟨rfl, h⟩
  · replace h := h.2 hc
    refine Wp.ldc rfl rfl ?_
    exact Wp.iret rfl rfl ⟨rfl, h⟩
theorem eX9_above_0 {X : a_X} {m : Nat → Nat → Int32} {Q : Option Value → (Nat → Nat → Int32) → Prop} {x1 x2 : Int32} (h : CallI X mX9_isCell [.ref 77, .int x1, .int x2] m (fun v2 m1 => (v2 = 0 → Q (some (.int (-100000002))) m1) ∧ (¬ v2 = 0 → CallI X mX9_aboveAt [.ref 77, .int 0, .int ((16 * x2) + x1)] m1 (fun v4 m3 => Q (some (.int v4)) m3)))) : Call X mX9_above [.ref 77, .int x1, .int x2] m Q := by
  unfold Call
  refine Wp.loc (lv' := [some (.ref 77), some (.int x1), some (.int x2)]) rfl ?_
  refine Wp.pk 3 (pc' := 3) (lv' := [some (.ref 77), some (.int x1), some (.int x2)]) (st' := [.int x2, .int x1, .ref 77]) rfl ?_
  refine Wp.callI rfl rfl rfl (CallI.mono h (fun v2 m1 h => ?_))
  refine Wp.if_eq rfl rfl ⟨fun hc => ?_, fun hc => ?_⟩
  · replace h := h.1 hc
    refine Wp.ldc rfl rfl ?_
    exact Wp.iret rfl rfl ⟨rfl, h⟩
  · replace h := h.2 hc
    refine Wp.pk 7 (pc' := 17) (lv' := [some (.ref 77), some (.int x1), some (.int x2)]) (st' := [.int ((16 * x2) + x1), .int 0, .ref 77]) rfl ?_
    refine Wp.callI rfl rfl rfl (CallI.mono h (fun v4 m3 h => ?_))
    refine Wp.pk 1 (pc' := 25) (lv' := [some (.ref 77), some (.int x1), some (.int x2)]) (st' := [.int v4]) rfl ?_
    exact Wp.iret rfl rfl ⟨rfl, h⟩
theorem eX9_isBill_0 {X : a_X} {m : Nat → Nat → Int32} {Q : Option Value → (Nat → Nat → Int32) → Prop} {x1 : Int32} (h : vp_in 180 800 ∧ CallI X mX9_in [.long (Int32.toInt64 x1), .long 0, .long (Int32.toInt64 ((m 78 (Int32.toNatClampNeg 180)) - 1))] m (fun v2 m1 => a_fit .boolean v2 = true ∧ Q (some (.int v2)) m1)) : Call X mX9_isBill [.ref 77, .int x1] m Q := by
  unfold Call
  refine Wp.loc (lv' := [some (.ref 77), some (.int x1)]) rfl ?_
  refine Wp.pk 4 (pc' := 4) (lv' := [some (.ref 77), some (.int x1)]) (st' := [.ref 77, .long 0, .long (Int32.toInt64 x1)]) rfl ?_
  refine Wp.getR rfl rfl sh77 rfl ?_
  refine Wp.pk 1 (pc' := 10) (lv' := [some (.ref 77), some (.int x1)]) (st' := [.int 180, .ref 78, .long 0, .long (Int32.toInt64 x1)]) rfl ?_
  refine Wp.iald rfl sh78 ⟨h.1, ?_⟩
  replace h := h.2
  refine Wp.pk 3 (pc' := 14) (lv' := [some (.ref 77), some (.int x1)]) (st' := [.long (Int32.toInt64 ((m 78 (Int32.toNatClampNeg 180)) - 1)), .long 0, .long (Int32.toInt64 x1)]) rfl ?_
  refine Wp.callI rfl rfl rfl (CallI.mono h (fun v2 m1 h => ?_))
  exact Wp.iret rfl rfl h
theorem eX9_tornMany_0 {X : a_X} {m : Nat → Nat → Int32} {Q : Option Value → (Nat → Nat → Int32) → Prop} {x1 : Int32} (h : Wp X mX9_tornMany 4 [some (.ref 77), some (.int x1), some (.int 0), some (.int 0)] [] m Q) : Call X mX9_tornMany [.ref 77, .int x1] m Q := by
  unfold Call
  refine Wp.loc (lv' := [some (.ref 77), some (.int x1), none, none]) rfl ?_
  refine Wp.pk 4 (pc' := 4) (lv' := [some (.ref 77), some (.int x1), some (.int 0), some (.int 0)]) (st' := []) rfl ?_
  exact h
theorem eX9_tornMany_4 {X : a_X} {m : Nat → Nat → Int32} {Q : Option Value → (Nat → Nat → Int32) → Prop} {x1 x2 x3 : Int32} (h : (128 ≤ x3 → Q (some (.int x2)) m) ∧ (¬ 128 ≤ x3 → CallI X mX9_isTorn [.ref 77, .int 0, .int x1, .int x3] m (fun v2 m1 => CallI X mX9_one [.int v2] m1 (fun v4 m3 => Wp X mX9_tornMany 4 [some (.ref 77), some (.int x1), some (.int (x2 + v4)), some (.int (x3 + 1))] [] m3 Q)))) : Wp X mX9_tornMany 4 [some (.ref 77), some (.int x1), some (.int x2), some (.int x3)] [] m Q := by
  refine Wp.pk 2 (pc' := 8) (lv' := [some (.ref 77), some (.int x1), some (.int x2), some (.int x3)]) (st' := [.int 128, .int x3]) rfl ?_
  refine Wp.icmp_ge rfl rfl ⟨fun hc => ?_, fun hc => ?_⟩
  · replace h := h.1 hc
    refine Wp.pk 1 (pc' := 31) (lv' := [some (.ref 77), some (.int x1), some (.int x2), some (.int x3)]) (st' := [.int x2]) rfl ?_
    exact Wp.iret rfl rfl ⟨rfl, h⟩
  · replace h := h.2 hc
    refine Wp.pk 5 (pc' := 16) (lv' := [some (.ref 77), some (.int x1), some (.int x2), some (.int x3)]) (st' := [.int x3, .int x1, .int 0, .ref 77, .int x2]) rfl ?_
    refine Wp.callI rfl rfl rfl (CallI.mono h (fun v2 m1 h => ?_))
    refine Wp.callI rfl rfl rfl (CallI.mono h (fun v4 m3 h => ?_))
    refine Wp.pk 4 (pc' := 4) (lv' := [some (.ref 77), some (.int x1), some (.int (x2 + v4)), some (.int (x3 + 1))]) (st' := []) rfl ?_
    exact h
theorem eX9_bill_0 {X : a_X} {m : Nat → Nat → Int32} {Q : Option Value → (Nat → Nat → Int32) → Prop} {x1 x2 : Int32} (h : CallI X mX9_isBill [.ref 77, .int x1] m (fun v2 m1 => (¬ v2 = 0 → CallV X mX9_see [.ref 77, .int 0] m1 (fun m3 => (x2 = 0 → vp_in x1 800 ∧ Q (some (.int (m3 78 (Int32.toNatClampNeg x1)))) m3) ∧ (x2 = 1 → vp_in (20 + x1) 800 ∧ Q (some (.int (m3 78 (Int32.toNatClampNeg (20 + x1))))) m3) ∧ (x2 = 2 → vp_in (40 + x1) 800 ∧ Q (some (.int (m3 78 (Int32.toNatClampNeg (40 + x1))))) m3) ∧ (x2 = 3 → vp_in (60 + x1) 800 ∧ Q (some (.int (m3 78 (Int32.toNatClampNeg (60 + x1))))) m3) ∧ (x2 = 4 → vp_in x1 20 ∧ Q (some (.int (m3 87 (Int32.toNatClampNeg x1)))) m3) ∧ (x2 = 5 → vp_in (80 + x1) 800 ∧ (¬ (m3 78 (Int32.toNatClampNeg (80 + x1))) = 1 → Q (some (.int 0)) m3) ∧ ((m3 78 (Int32.toNatClampNeg (80 + x1))) = 1 → CallI X mX9_tornMany [.ref 77, .int x1] m3 (fun v5 m4 => Q (some (.int v5)) m4))) ∧ (x2 = 6 → CallI X mX9_isRead [.ref 77, .int 0, .int x1] m3 (fun v7 m6 => CallI X mX9_one [.int v7] m6 (fun v9 m8 => Q (some (.int v9)) m8))) ∧ (x2 = 7 → CallI X mX9_isRead [.ref 77, .int 0, .int x1] m3 (fun v11 m10 => (v11 = 0 → Q (some (.int 0)) m10) ∧ (¬ v11 = 0 → vp_in x1 20 ∧ Q (some (.int (m10 88 (Int32.toNatClampNeg x1)))) m10))) ∧ (x2 = 8 → vp_in (80 + x1) 800 ∧ Q (some (.int (m3 78 (Int32.toNatClampNeg (80 + x1))))) m3) ∧ (Int32.toInt x2 < 0 ∨ 8 < Int32.toInt x2 → Q (some (.int (-100000002))) m3))) ∧ (v2 = 0 → Q (some (.int (-100000001))) m1))) : Call X mX9_bill [.ref 77, .int x1, .int x2] m Q := by
  unfold Call
  refine Wp.loc (lv' := [some (.ref 77), some (.int x1), some (.int x2)]) rfl ?_
  refine Wp.pk 2 (pc' := 2) (lv' := [some (.ref 77), some (.int x1), some (.int x2)]) (st' := [.int x1, .ref 77]) rfl ?_
  refine Wp.callI rfl rfl rfl (CallI.mono h (fun v2 m1 h => ?_))
  refine Wp.if_ne rfl rfl ⟨fun hc => ?_, fun hc => ?_⟩
  · replace h := h.1 hc
    refine Wp.pk 2 (pc' := 13) (lv' := [some (.ref 77), some (.int x1), some (.int x2)]) (st' := [.int 0, .ref 77]) rfl ?_
    refine Wp.callV rfl rfl rfl (CallV.mono h (fun m3 h => ?_))
    refine Wp.pk 1 (pc' := 17) (lv' := [some (.ref 77), some (.int x1), some (.int x2)]) (st' := [.int x2]) rfl ?_
    refine Wp.tsw (lo := 0) (hi := 8) rfl (fun hc => ?_) (fun j hj1 hj2 hc => ?_)
    · replace h := h.2.2.2.2.2.2.2.2.2 hc
      refine ⟨175, rfl, ?_⟩
      refine Wp.ldc rfl rfl ?_
      exact Wp.iret rfl rfl ⟨rfl, h⟩
    · rcases (show j = 0 ∨ j = 1 ∨ j = 2 ∨ j = 3 ∨ j = 4 ∨ j = 5 ∨ j = 6 ∨ j = 7 ∨ j = 8 by omega) with rfl | rfl | rfl | rfl | rfl | rfl | rfl | rfl | rfl
      · replace h := (h.1 (Int32.toInt_inj.mp (hc.trans (by decide))))
        refine ⟨_, 68, rfl, rfl, ?_⟩
        refine Wp.pk 1 (pc' := 69) (lv' := [some (.ref 77), some (.int x1), some (.int x2)]) (st' := [.ref 77]) rfl ?_
        refine Wp.getR rfl rfl sh77 rfl ?_
        refine Wp.pk 1 (pc' := 73) (lv' := [some (.ref 77), some (.int x1), some (.int x2)]) (st' := [.int x1, .ref 78]) rfl ?_
        refine Wp.iald rfl sh78 ⟨h.1, ?_⟩
        replace h := h.2
        exact Wp.iret rfl rfl ⟨rfl, h⟩
      · replace h := (h.2.1 (Int32.toInt_inj.mp (hc.trans (by decide))))
        refine ⟨_, 75, rfl, rfl, ?_⟩
        refine Wp.pk 1 (pc' := 76) (lv' := [some (.ref 77), some (.int x1), some (.int x2)]) (st' := [.ref 77]) rfl ?_
        refine Wp.getR rfl rfl sh77 rfl ?_
        refine Wp.pk 3 (pc' := 83) (lv' := [some (.ref 77), some (.int x1), some (.int x2)]) (st' := [.int (20 + x1), .ref 78]) rfl ?_
        refine Wp.iald rfl sh78 ⟨h.1, ?_⟩
        replace h := h.2
        exact Wp.iret rfl rfl ⟨rfl, h⟩
      · replace h := (h.2.2.1 (Int32.toInt_inj.mp (hc.trans (by decide))))
        refine ⟨_, 85, rfl, rfl, ?_⟩
        refine Wp.pk 1 (pc' := 86) (lv' := [some (.ref 77), some (.int x1), some (.int x2)]) (st' := [.ref 77]) rfl ?_
        refine Wp.getR rfl rfl sh77 rfl ?_
        refine Wp.pk 3 (pc' := 93) (lv' := [some (.ref 77), some (.int x1), some (.int x2)]) (st' := [.int (40 + x1), .ref 78]) rfl ?_
        refine Wp.iald rfl sh78 ⟨h.1, ?_⟩
        replace h := h.2
        exact Wp.iret rfl rfl ⟨rfl, h⟩
      · replace h := (h.2.2.2.1 (Int32.toInt_inj.mp (hc.trans (by decide))))
        refine ⟨_, 95, rfl, rfl, ?_⟩
        refine Wp.pk 1 (pc' := 96) (lv' := [some (.ref 77), some (.int x1), some (.int x2)]) (st' := [.ref 77]) rfl ?_
        refine Wp.getR rfl rfl sh77 rfl ?_
        refine Wp.pk 3 (pc' := 103) (lv' := [some (.ref 77), some (.int x1), some (.int x2)]) (st' := [.int (60 + x1), .ref 78]) rfl ?_
        refine Wp.iald rfl sh78 ⟨h.1, ?_⟩
        replace h := h.2
        exact Wp.iret rfl rfl ⟨rfl, h⟩
      · replace h := (h.2.2.2.2.1 (Int32.toInt_inj.mp (hc.trans (by decide))))
        refine ⟨_, 105, rfl, rfl, ?_⟩
        refine Wp.pk 1 (pc' := 106) (lv' := [some (.ref 77), some (.int x1), some (.int x2)]) (st' := [.ref 77]) rfl ?_
        refine Wp.getR rfl rfl sh77 rfl ?_
        refine Wp.pk 1 (pc' := 110) (lv' := [some (.ref 77), some (.int x1), some (.int x2)]) (st' := [.int x1, .ref 87]) rfl ?_
        refine Wp.iald rfl sh87 ⟨h.1, ?_⟩
        replace h := h.2
        exact Wp.iret rfl rfl ⟨rfl, h⟩
      · replace h := (h.2.2.2.2.2.1 (Int32.toInt_inj.mp (hc.trans (by decide))))
        refine ⟨_, 112, rfl, rfl, ?_⟩
        refine Wp.pk 1 (pc' := 113) (lv' := [some (.ref 77), some (.int x1), some (.int x2)]) (st' := [.ref 77]) rfl ?_
        refine Wp.getR rfl rfl sh77 rfl ?_
        refine Wp.pk 3 (pc' := 120) (lv' := [some (.ref 77), some (.int x1), some (.int x2)]) (st' := [.int (80 + x1), .ref 78]) rfl ?_
        refine Wp.iald rfl sh78 ⟨h.1, ?_⟩
        replace h := h.2
        refine Wp.pk 1 (pc' := 122) (lv' := [some (.ref 77), some (.int x1), some (.int x2)]) (st' := [.int 1, .int (m3 78 (Int32.toNatClampNeg (80 + x1)))]) rfl ?_
        refine Wp.icmp_ne rfl rfl ⟨fun hc => ?_, fun hc => ?_⟩
        · replace h := h.1 hc
          refine Wp.pk 1 (pc' := 134) (lv' := [some (.ref 77), some (.int x1), some (.int x2)]) (st' := [.int 0]) rfl ?_
          exact Wp.iret rfl rfl ⟨rfl, h⟩
        · replace h := h.2 hc
          refine Wp.pk 2 (pc' := 127) (lv' := [some (.ref 77), some (.int x1), some (.int x2)]) (st' := [.int x1, .ref 77]) rfl ?_
          refine Wp.callI rfl rfl rfl (CallI.mono h (fun v5 m4 h => ?_))
          refine Wp.pk 1 (pc' := 134) (lv' := [some (.ref 77), some (.int x1), some (.int x2)]) (st' := [.int v5]) rfl ?_
          exact Wp.iret rfl rfl ⟨rfl, h⟩
      · replace h := (h.2.2.2.2.2.2.1 (Int32.toInt_inj.mp (hc.trans (by decide))))
        refine ⟨_, 135, rfl, rfl, ?_⟩
        refine Wp.pk 3 (pc' := 138) (lv' := [some (.ref 77), some (.int x1), some (.int x2)]) (st' := [.int x1, .int 0, .ref 77]) rfl ?_
        refine Wp.callI rfl rfl rfl (CallI.mono h (fun v7 m6 h => ?_))
        refine Wp.callI rfl rfl rfl (CallI.mono h (fun v9 m8 h => ?_))
        exact Wp.iret rfl rfl ⟨rfl, h⟩
      · replace h := (h.2.2.2.2.2.2.2.1 (Int32.toInt_inj.mp (hc.trans (by decide))))
        refine ⟨_, 145, rfl, rfl, ?_⟩
        refine Wp.pk 3 (pc' := 148) (lv' := [some (.ref 77), some (.int x1), some (.int x2)]) (st' := [.int x1, .int 0, .ref 77]) rfl ?_
        refine Wp.callI rfl rfl rfl (CallI.mono h (fun v11 m10 h => ?_))
        refine Wp.if_eq rfl rfl ⟨fun hc => ?_, fun hc => ?_⟩
        · replace h := h.1 hc
          refine Wp.pk 1 (pc' := 164) (lv' := [some (.ref 77), some (.int x1), some (.int x2)]) (st' := [.int 0]) rfl ?_
          exact Wp.iret rfl rfl ⟨rfl, h⟩
        · replace h := h.2 hc
          refine Wp.pk 1 (pc' := 155) (lv' := [some (.ref 77), some (.int x1), some (.int x2)]) (st' := [.ref 77]) rfl ?_
          refine Wp.getR rfl rfl sh77 rfl ?_
          refine Wp.pk 1 (pc' := 159) (lv' := [some (.ref 77), some (.int x1), some (.int x2)]) (st' := [.int x1, .ref 88]) rfl ?_
          refine Wp.iald rfl sh88 ⟨h.1, ?_⟩
          replace h := h.2
          refine Wp.pk 1 (pc' := 164) (lv' := [some (.ref 77), some (.int x1), some (.int x2)]) (st' := [.int (m10 88 (Int32.toNatClampNeg x1))]) rfl ?_
          exact Wp.iret rfl rfl ⟨rfl, h⟩
      · replace h := (h.2.2.2.2.2.2.2.2.1 (Int32.toInt_inj.mp (hc.trans (by decide))))
        refine ⟨_, 165, rfl, rfl, ?_⟩
        refine Wp.pk 1 (pc' := 166) (lv' := [some (.ref 77), some (.int x1), some (.int x2)]) (st' := [.ref 77]) rfl ?_
        refine Wp.getR rfl rfl sh77 rfl ?_
        refine Wp.pk 3 (pc' := 173) (lv' := [some (.ref 77), some (.int x1), some (.int x2)]) (st' := [.int (80 + x1), .ref 78]) rfl ?_
        refine Wp.iald rfl sh78 ⟨h.1, ?_⟩
        replace h := h.2
        exact Wp.iret rfl rfl ⟨rfl, h⟩
  · replace h := h.2 hc
    refine Wp.ldc rfl rfl ?_
    exact Wp.iret rfl rfl ⟨rfl, h⟩
theorem eX9_overOf_0 {X : a_X} {m : Nat → Nat → Int32} {Q : Option Value → (Nat → Nat → Int32) → Prop} {x1 : Int32} (h : Wp X mX9_overOf 6 [some (.ref 77), some (.int x1), some (.int 0), some (.int (x1 + 1)), none, none] [] m Q) : Call X mX9_overOf [.ref 77, .int x1] m Q := by
  unfold Call
  refine Wp.loc (lv' := [some (.ref 77), some (.int x1), none, none, none, none]) rfl ?_
  refine Wp.pk 6 (pc' := 6) (lv' := [some (.ref 77), some (.int x1), some (.int 0), some (.int (x1 + 1)), none, none]) (st' := []) rfl ?_
  exact h
theorem eX9_overOf_6 {X : a_X} {m : Nat → Nat → Int32} {Q : Option Value → (Nat → Nat → Int32) → Prop} {x1 x2 x3 : Int32} (h : vp_in 180 800 ∧ ((m 78 (Int32.toNatClampNeg 180)) ≤ x3 → Q (some (.int x2)) m) ∧ (¬ (m 78 (Int32.toNatClampNeg 180)) ≤ x3 → Wp X mX9_overOf 24 [some (.ref 77), some (.int x1), some (.int x2), some (.int x3), some (.int 0), some (.int 0)] [] m Q)) : Wp X mX9_overOf 6 [some (.ref 77), some (.int x1), some (.int x2), some (.int x3), none, none] [] m Q := by
  refine Wp.pk 2 (pc' := 8) (lv' := [some (.ref 77), some (.int x1), some (.int x2), some (.int x3), none, none]) (st' := [.ref 77, .int x3]) rfl ?_
  refine Wp.getR rfl rfl sh77 rfl ?_
  refine Wp.pk 1 (pc' := 14) (lv' := [some (.ref 77), some (.int x1), some (.int x2), some (.int x3), none, none]) (st' := [.int 180, .ref 78, .int x3]) rfl ?_
  refine Wp.iald rfl sh78 ⟨h.1, ?_⟩
  replace h := h.2
  refine Wp.icmp_ge rfl rfl ⟨fun hc => ?_, fun hc => ?_⟩
  · replace h := h.1 hc
    refine Wp.pk 1 (pc' := 89) (lv' := [some (.ref 77), some (.int x1), some (.int x2), some (.int x3), none, none]) (st' := [.int x2]) rfl ?_
    exact Wp.iret rfl rfl ⟨rfl, h⟩
  · replace h := h.2 hc
    refine Wp.pk 4 (pc' := 24) (lv' := [some (.ref 77), some (.int x1), some (.int x2), some (.int x3), some (.int 0), some (.int 0)]) (st' := []) rfl ?_
    exact h
theorem eX9_overOf_24 {X : a_X} {m : Nat → Nat → Int32} {Q : Option Value → (Nat → Nat → Int32) → Prop} {x1 x2 x3 x4 x5 : Int32} (h : (128 ≤ x5 → CallI X mX9_one [.int x4] m (fun v2 m1 => Wp X mX9_overOf 6 [some (.ref 77), some (.int x1), some (.int (x2 ||| (v2 <<< (x3 &&& 31)))), some (.int (x3 + 1)), none, none] [] m1 Q)) ∧ (¬ 128 ≤ x5 → (¬ x4 = 0 → Wp X mX9_overOf 24 [some (.ref 77), some (.int x1), some (.int x2), some (.int x3), some (.int 1), some (.int (x5 + 1))] [] m Q) ∧ (x4 = 0 → CallI X mX9_lies [.ref 77, .int 0, .int x3, .int x5] m (fun v4 m3 => (v4 = 0 → Wp X mX9_overOf 24 [some (.ref 77), some (.int x1), some (.int x2), some (.int x3), some (.int 0), some (.int (x5 + 1))] [] m3 Q) ∧ (¬ v4 = 0 → CallI X mX9_lies [.ref 77, .int 0, .int x1, .int x5] m3 (fun v6 m5 => (v6 = 0 → Wp X mX9_overOf 24 [some (.ref 77), some (.int x1), some (.int x2), some (.int x3), some (.int 0), some (.int (x5 + 1))] [] m5 Q) ∧ (¬ v6 = 0 → Wp X mX9_overOf 24 [some (.ref 77), some (.int x1), some (.int x2), some (.int x3), some (.int 1), some (.int (x5 + 1))] [] m5 Q))))))) : Wp X mX9_overOf 24 [some (.ref 77), some (.int x1), some (.int x2), some (.int x3), some (.int x4), some (.int x5)] [] m Q := by
  refine Wp.pk 2 (pc' := 29) (lv' := [some (.ref 77), some (.int x1), some (.int x2), some (.int x3), some (.int x4), some (.int x5)]) (st' := [.int 128, .int x5]) rfl ?_
  refine Wp.icmp_ge rfl rfl ⟨fun hc => ?_, fun hc => ?_⟩
  · replace h := h.1 hc
    refine Wp.pk 2 (pc' := 75) (lv' := [some (.ref 77), some (.int x1), some (.int x2), some (.int x3), some (.int x4), some (.int x5)]) (st' := [.int x4, .int x2]) rfl ?_
    refine Wp.callI rfl rfl rfl (CallI.mono h (fun v2 m1 h => ?_))
    refine Wp.pk 6 (pc' := 6) (lv' := [some (.ref 77), some (.int x1), some (.int (x2 ||| (v2 <<< (x3 &&& 31)))), some (.int (x3 + 1)), some (.int x4), some (.int x5)]) (st' := []) rfl ?_
    exact Wp.fgt (lv := [some (.ref 77), some (.int x1), some (.int (x2 ||| (v2 <<< (x3 &&& 31)))), some (.int (x3 + 1)), none, none]) (a_lle.of (a_lleb_e (a_lleb_e (a_lleb_e (a_lleb_e (a_lleb_i (a_lleb_i trivial))))))) h
  · replace h := h.2 hc
    refine Wp.pk 1 (pc' := 34) (lv' := [some (.ref 77), some (.int x1), some (.int x2), some (.int x3), some (.int x4), some (.int x5)]) (st' := [.int x4]) rfl ?_
    refine Wp.if_ne rfl rfl ⟨fun hc => ?_, fun hc => ?_⟩
    · replace h := h.1 hc
      refine Wp.pk 5 (pc' := 24) (lv' := [some (.ref 77), some (.int x1), some (.int x2), some (.int x3), some (.int 1), some (.int (x5 + 1))]) (st' := []) rfl ?_
      exact h
    · replace h := h.2 hc
      refine Wp.pk 4 (pc' := 42) (lv' := [some (.ref 77), some (.int x1), some (.int x2), some (.int x3), some (.int x4), some (.int x5)]) (st' := [.int x5, .int x3, .int 0, .ref 77]) rfl ?_
      refine Wp.callI rfl rfl rfl (CallI.mono h (fun v4 m3 h => ?_))
      refine Wp.if_eq rfl rfl ⟨fun hc => ?_, fun hc => ?_⟩
      · replace h := h.1 hc
        refine Wp.pk 4 (pc' := 24) (lv' := [some (.ref 77), some (.int x1), some (.int x2), some (.int x3), some (.int 0), some (.int (x5 + 1))]) (st' := []) rfl ?_
        exact h
      · replace h := h.2 hc
        refine Wp.pk 4 (pc' := 53) (lv' := [some (.ref 77), some (.int x1), some (.int x2), some (.int x3), some (.int x4), some (.int x5)]) (st' := [.int x5, .int x1, .int 0, .ref 77]) rfl ?_
        refine Wp.callI rfl rfl rfl (CallI.mono h (fun v6 m5 h => ?_))
        refine Wp.if_eq rfl rfl ⟨fun hc => ?_, fun hc => ?_⟩
        · replace h := h.1 hc
          refine Wp.pk 4 (pc' := 24) (lv' := [some (.ref 77), some (.int x1), some (.int x2), some (.int x3), some (.int 0), some (.int (x5 + 1))]) (st' := []) rfl ?_
          exact h
        · replace h := h.2 hc
          refine Wp.pk 5 (pc' := 24) (lv' := [some (.ref 77), some (.int x1), some (.int x2), some (.int x3), some (.int 1), some (.int (x5 + 1))]) (st' := []) rfl ?_
          exact h
theorem eX9_over_0 {X : a_X} {m : Nat → Nat → Int32} {Q : Option Value → (Nat → Nat → Int32) → Prop} {x1 : Int32} (h : CallI X mX9_isBill [.ref 77, .int x1] m (fun v2 m1 => (v2 = 0 → Q (some (.int (-100000001))) m1) ∧ (¬ v2 = 0 → CallI X mX9_overOf [.ref 77, .int x1] m1 (fun v4 m3 => Q (some (.int v4)) m3)))) : Call X mX9_over [.ref 77, .int x1] m Q := by
  unfold Call
  refine Wp.loc (lv' := [some (.ref 77), some (.int x1)]) rfl ?_
  refine Wp.pk 2 (pc' := 2) (lv' := [some (.ref 77), some (.int x1)]) (st' := [.int x1, .ref 77]) rfl ?_
  refine Wp.callI rfl rfl rfl (CallI.mono h (fun v2 m1 h => ?_))
  refine Wp.if_eq rfl rfl ⟨fun hc => ?_, fun hc => ?_⟩
  · replace h := h.1 hc
    refine Wp.ldc rfl rfl ?_
    exact Wp.iret rfl rfl ⟨rfl, h⟩
  · replace h := h.2 hc
    refine Wp.pk 2 (pc' := 10) (lv' := [some (.ref 77), some (.int x1)]) (st' := [.int x1, .ref 77]) rfl ?_
    refine Wp.callI rfl rfl rfl (CallI.mono h (fun v4 m3 h => ?_))
    refine Wp.pk 1 (pc' := 18) (lv' := [some (.ref 77), some (.int x1)]) (st' := [.int v4]) rfl ?_
    exact Wp.iret rfl rfl ⟨rfl, h⟩
theorem eX9_freeOf_0 {X : a_X} {m : Nat → Nat → Int32} {Q : Option Value → (Nat → Nat → Int32) → Prop} {x1 : Int32} (h : CallI X mX9_overOf [.ref 77, .int x1] m (fun v2 m1 => Wp X mX9_freeOf 10 [some (.ref 77), none, some (.int v2), some (.int (x1 + 1))] [] m1 Q)) : Call X mX9_freeOf [.ref 77, .int x1] m Q := by
  unfold Call
  refine Wp.loc (lv' := [some (.ref 77), some (.int x1), none, none]) rfl ?_
  refine Wp.pk 2 (pc' := 2) (lv' := [some (.ref 77), some (.int x1), none, none]) (st' := [.int x1, .ref 77]) rfl ?_
  refine Wp.callI rfl rfl rfl (CallI.mono h (fun v2 m1 h => ?_))
  refine Wp.pk 5 (pc' := 10) (lv' := [some (.ref 77), some (.int x1), some (.int v2), some (.int (x1 + 1))]) (st' := []) rfl ?_
  exact Wp.fgt (lv := [some (.ref 77), none, some (.int v2), some (.int (x1 + 1))]) (a_lle.of (a_lleb_e (a_lleb_i (a_lleb_e (a_lleb_e trivial))))) h
theorem eX9_freeOf_10 {X : a_X} {m : Nat → Nat → Int32} {Q : Option Value → (Nat → Nat → Int32) → Prop} {x2 x3 : Int32} (h : vp_in 180 800 ∧ ((m 78 (Int32.toNatClampNeg 180)) ≤ x3 → Q (some (.int x2)) m) ∧ (¬ (m 78 (Int32.toNatClampNeg 180)) ≤ x3 → CallI X mX9_has [.int x2, .int x3] m (fun v2 m1 => (v2 = 0 → Wp X mX9_freeOf 10 [some (.ref 77), none, some (.int (x2 ||| 0)), some (.int (x3 + 1))] [] m1 Q) ∧ (¬ v2 = 0 → CallI X mX9_overOf [.ref 77, .int x3] m1 (fun v4 m3 => Wp X mX9_freeOf 10 [some (.ref 77), none, some (.int (x2 ||| v4)), some (.int (x3 + 1))] [] m3 Q))))) : Wp X mX9_freeOf 10 [some (.ref 77), none, some (.int x2), some (.int x3)] [] m Q := by
  refine Wp.pk 2 (pc' := 12) (lv' := [some (.ref 77), none, some (.int x2), some (.int x3)]) (st' := [.ref 77, .int x3]) rfl ?_
  refine Wp.getR rfl rfl sh77 rfl ?_
  refine Wp.pk 1 (pc' := 18) (lv' := [some (.ref 77), none, some (.int x2), some (.int x3)]) (st' := [.int 180, .ref 78, .int x3]) rfl ?_
  refine Wp.iald rfl sh78 ⟨h.1, ?_⟩
  replace h := h.2
  refine Wp.icmp_ge rfl rfl ⟨fun hc => ?_, fun hc => ?_⟩
  · replace h := h.1 hc
    refine Wp.pk 1 (pc' := 49) (lv' := [some (.ref 77), none, some (.int x2), some (.int x3)]) (st' := [.int x2]) rfl ?_
    exact Wp.iret rfl rfl ⟨rfl, h⟩
  · replace h := h.2 hc
    refine Wp.pk 3 (pc' := 25) (lv' := [some (.ref 77), none, some (.int x2), some (.int x3)]) (st' := [.int x3, .int x2, .int x2]) rfl ?_
    refine Wp.callI rfl rfl rfl (CallI.mono h (fun v2 m1 h => ?_))
    refine Wp.if_eq rfl rfl ⟨fun hc => ?_, fun hc => ?_⟩
    · replace h := h.1 hc
      refine Wp.pk 5 (pc' := 10) (lv' := [some (.ref 77), none, some (.int (x2 ||| 0)), some (.int (x3 + 1))]) (st' := []) rfl ?_
      exact h
    · replace h := h.2 hc
      refine Wp.pk 2 (pc' := 33) (lv' := [some (.ref 77), none, some (.int x2), some (.int x3)]) (st' := [.int x3, .ref 77, .int x2]) rfl ?_
      refine Wp.callI rfl rfl rfl (CallI.mono h (fun v4 m3 h => ?_))
      refine Wp.pk 5 (pc' := 10) (lv' := [some (.ref 77), none, some (.int (x2 ||| v4)), some (.int (x3 + 1))]) (st' := []) rfl ?_
      exact h
theorem eX9_free_0 {X : a_X} {m : Nat → Nat → Int32} {Q : Option Value → (Nat → Nat → Int32) → Prop} {x1 : Int32} (h : CallI X mX9_isBill [.ref 77, .int x1] m (fun v2 m1 => (¬ v2 = 0 → vp_in (80 + x1) 800 ∧ (¬ (m1 78 (Int32.toNatClampNeg (80 + x1))) = 1 → Q (some (.int (-100000003))) m1) ∧ ((m1 78 (Int32.toNatClampNeg (80 + x1))) = 1 → CallI X mX9_freeOf [.ref 77, .int x1] m1 (fun v4 m3 => Q (some (.int v4)) m3))) ∧ (v2 = 0 → Q (some (.int (-100000001))) m1))) : Call X mX9_free [.ref 77, .int x1] m Q := by
  unfold Call
  refine Wp.loc (lv' := [some (.ref 77), some (.int x1)]) rfl ?_
  refine Wp.pk 2 (pc' := 2) (lv' := [some (.ref 77), some (.int x1)]) (st' := [.int x1, .ref 77]) rfl ?_
  refine Wp.callI rfl rfl rfl (CallI.mono h (fun v2 m1 h => ?_))
  refine Wp.if_ne rfl rfl ⟨fun hc => ?_, fun hc => ?_⟩
  · replace h := h.1 hc
    refine Wp.pk 1 (pc' := 12) (lv' := [some (.ref 77), some (.int x1)]) (st' := [.ref 77]) rfl ?_
    refine Wp.getR rfl rfl sh77 rfl ?_
    refine Wp.pk 3 (pc' := 19) (lv' := [some (.ref 77), some (.int x1)]) (st' := [.int (80 + x1), .ref 78]) rfl ?_
    refine Wp.iald rfl sh78 ⟨h.1, ?_⟩
    replace h := h.2
    refine Wp.pk 1 (pc' := 21) (lv' := [some (.ref 77), some (.int x1)]) (st' := [.int 1, .int (m1 78 (Int32.toNatClampNeg (80 + x1)))]) rfl ?_
    refine Wp.icmp_ne rfl rfl ⟨fun hc => ?_, fun hc => ?_⟩
    · replace h := h.1 hc
      refine Wp.ldc rfl rfl ?_
      exact Wp.iret rfl rfl ⟨rfl, h⟩
    · replace h := h.2 hc
      refine Wp.pk 2 (pc' := 26) (lv' := [some (.ref 77), some (.int x1)]) (st' := [.int x1, .ref 77]) rfl ?_
      refine Wp.callI rfl rfl rfl (CallI.mono h (fun v4 m3 h => ?_))
      refine Wp.pk 1 (pc' := 34) (lv' := [some (.ref 77), some (.int x1)]) (st' := [.int v4]) rfl ?_
      exact Wp.iret rfl rfl ⟨rfl, h⟩
  · replace h := h.2 hc
    refine Wp.ldc rfl rfl ?_
    exact Wp.iret rfl rfl ⟨rfl, h⟩
theorem eX9_isWhole_0 {X : a_X} {m : Nat → Nat → Int32} {Q : Option Value → (Nat → Nat → Int32) → Prop} {x1 : Int32} (h : Wp X mX9_isWhole 4 [some (.ref 77), some (.int x1), some (.int 1), some (.int 0)] [] m Q) : Call X mX9_isWhole [.ref 77, .int x1] m Q := by
  unfold Call
  refine Wp.loc (lv' := [some (.ref 77), some (.int x1), none, none]) rfl ?_
  refine Wp.pk 4 (pc' := 4) (lv' := [some (.ref 77), some (.int x1), some (.int 1), some (.int 0)]) (st' := []) rfl ?_
  exact h
theorem eX9_isWhole_4 {X : a_X} {m : Nat → Nat → Int32} {Q : Option Value → (Nat → Nat → Int32) → Prop} {x1 x2 x3 : Int32} (h : vp_in 180 800 ∧ ((m 78 (Int32.toNatClampNeg 180)) ≤ x3 → a_fit .boolean x2 = true ∧ Q (some (.int x2)) m) ∧ (¬ (m 78 (Int32.toNatClampNeg 180)) ≤ x3 → (x2 = 0 → Wp X mX9_isWhole 4 [some (.ref 77), some (.int x1), some (.int 0), some (.int (x3 + 1))] [] m Q) ∧ (¬ x2 = 0 → CallI X mX9_has [.int x1, .int x3] m (fun v2 m1 => (v2 = 0 → Wp X mX9_isWhole 4 [some (.ref 77), some (.int x1), some (.int 1), some (.int (x3 + 1))] [] m1 Q) ∧ (¬ v2 = 0 → vp_in x3 20 ∧ (¬ ((m1 90 (Int32.toNatClampNeg x3)) &&& (x1 ^^^ (-1))) = 0 → Wp X mX9_isWhole 4 [some (.ref 77), some (.int x1), some (.int 0), some (.int (x3 + 1))] [] m1 Q) ∧ (((m1 90 (Int32.toNatClampNeg x3)) &&& (x1 ^^^ (-1))) = 0 → Wp X mX9_isWhole 4 [some (.ref 77), some (.int x1), some (.int 1), some (.int (x3 + 1))] [] m1 Q)))))) : Wp X mX9_isWhole 4 [some (.ref 77), some (.int x1), some (.int x2), some (.int x3)] [] m Q := by
  refine Wp.pk 2 (pc' := 6) (lv' := [some (.ref 77), some (.int x1), some (.int x2), some (.int x3)]) (st' := [.ref 77, .int x3]) rfl ?_
  refine Wp.getR rfl rfl sh77 rfl ?_
  refine Wp.pk 1 (pc' := 12) (lv' := [some (.ref 77), some (.int x1), some (.int x2), some (.int x3)]) (st' := [.int 180, .ref 78, .int x3]) rfl ?_
  refine Wp.iald rfl sh78 ⟨h.1, ?_⟩
  replace h := h.2
  refine Wp.icmp_ge rfl rfl ⟨fun hc => ?_, fun hc => ?_⟩
  · replace h := h.1 hc
    refine Wp.pk 1 (pc' := 54) (lv' := [some (.ref 77), some (.int x1), some (.int x2), some (.int x3)]) (st' := [.int x2]) rfl ?_
    exact Wp.iret rfl rfl h
  · replace h := h.2 hc
    refine Wp.pk 1 (pc' := 17) (lv' := [some (.ref 77), some (.int x1), some (.int x2), some (.int x3)]) (st' := [.int x2]) rfl ?_
    refine Wp.if_eq rfl rfl ⟨fun hc => ?_, fun hc => ?_⟩
    · replace h := h.1 hc
      refine Wp.pk 4 (pc' := 4) (lv' := [some (.ref 77), some (.int x1), some (.int 0), some (.int (x3 + 1))]) (st' := []) rfl ?_
      exact h
    · replace h := h.2 hc
      refine Wp.pk 2 (pc' := 22) (lv' := [some (.ref 77), some (.int x1), some (.int x2), some (.int x3)]) (st' := [.int x3, .int x1]) rfl ?_
      refine Wp.callI rfl rfl rfl (CallI.mono h (fun v2 m1 h => ?_))
      refine Wp.if_eq rfl rfl ⟨fun hc => ?_, fun hc => ?_⟩
      · replace h := h.1 hc
        refine Wp.pk 5 (pc' := 4) (lv' := [some (.ref 77), some (.int x1), some (.int 1), some (.int (x3 + 1))]) (st' := []) rfl ?_
        exact h
      · replace h := h.2 hc
        refine Wp.pk 1 (pc' := 29) (lv' := [some (.ref 77), some (.int x1), some (.int x2), some (.int x3)]) (st' := [.ref 77]) rfl ?_
        refine Wp.getR rfl rfl sh77 rfl ?_
        refine Wp.pk 1 (pc' := 33) (lv' := [some (.ref 77), some (.int x1), some (.int x2), some (.int x3)]) (st' := [.int x3, .ref 90]) rfl ?_
        refine Wp.iald rfl sh90 ⟨h.1, ?_⟩
        replace h := h.2
        refine Wp.pk 4 (pc' := 38) (lv' := [some (.ref 77), some (.int x1), some (.int x2), some (.int x3)]) (st' := [.int ((m1 90 (Int32.toNatClampNeg x3)) &&& (x1 ^^^ (-1)))]) rfl ?_
        refine Wp.if_ne rfl rfl ⟨fun hc => ?_, fun hc => ?_⟩
        · replace h := h.1 hc
          refine Wp.pk 4 (pc' := 4) (lv' := [some (.ref 77), some (.int x1), some (.int 0), some (.int (x3 + 1))]) (st' := []) rfl ?_
          exact h
        · replace h := h.2 hc
          refine Wp.pk 5 (pc' := 4) (lv' := [some (.ref 77), some (.int x1), some (.int 1), some (.int (x3 + 1))]) (st' := []) rfl ?_
          exact h
theorem eX9_isReadWithout_0 {X : a_X} {m : Nat → Nat → Int32} {Q : Option Value → (Nat → Nat → Int32) → Prop} {x1 x2 : Int32} (h : CallV X mX9_copy [.ref 77, .int 0, .int 200] m (fun m1 => Wp X mX9_isReadWithout 10 [some (.ref 77), some (.int x1), some (.int x2), some (.int 0)] [] m1 Q)) : Call X mX9_isReadWithout [.ref 77, .int x1, .int x2] m Q := by
  unfold Call
  refine Wp.loc (lv' := [some (.ref 77), some (.int x1), some (.int x2), none]) rfl ?_
  refine Wp.pk 3 (pc' := 5) (lv' := [some (.ref 77), some (.int x1), some (.int x2), none]) (st' := [.int 200, .int 0, .ref 77]) rfl ?_
  refine Wp.callV rfl rfl rfl (CallV.mono h (fun m1 h => ?_))
  refine Wp.pk 2 (pc' := 10) (lv' := [some (.ref 77), some (.int x1), some (.int x2), some (.int 0)]) (st' := []) rfl ?_
  exact h
theorem eX9_isReadWithout_10 {X : a_X} {m : Nat → Nat → Int32} {Q : Option Value → (Nat → Nat → Int32) → Prop} {x1 x2 x3 : Int32} (h : vp_in 180 800 ∧ ((m 78 (Int32.toNatClampNeg 180)) ≤ x3 → CallV X mX9_see [.ref 77, .int 200] m (fun m1 => CallI X mX9_isRead [.ref 77, .int 200, .int x1] m1 (fun v3 m2 => a_fit .boolean v3 = true ∧ Q (some (.int v3)) m2))) ∧ (¬ (m 78 (Int32.toNatClampNeg 180)) ≤ x3 → CallI X mX9_has [.int x2, .int x3] m (fun v5 m4 => (v5 = 0 → vp_in (80 + x3) 800 ∧ vp_in (280 + x3) 800 ∧ ∀ m6, m6 = (a_up m4 78 (Int32.toNatClampNeg (280 + x3)) (m4 78 (Int32.toNatClampNeg (80 + x3)))) → Wp X mX9_isReadWithout 10 [some (.ref 77), some (.int x1), some (.int x2), some (.int (x3 + 1))] [] m6 Q) ∧ (¬ v5 = 0 → vp_in (280 + x3) 800 ∧ ∀ m7, m7 = (a_up m4 78 (Int32.toNatClampNeg (280 + x3)) 0) → Wp X mX9_isReadWithout 10 [some (.ref 77), some (.int x1), some (.int x2), some (.int (x3 + 1))] [] m7 Q)))) : Wp X mX9_isReadWithout 10 [some (.ref 77), some (.int x1), some (.int x2), some (.int x3)] [] m Q := by
  refine Wp.pk 2 (pc' := 12) (lv' := [some (.ref 77), some (.int x1), some (.int x2), some (.int x3)]) (st' := [.ref 77, .int x3]) rfl ?_
  refine Wp.getR rfl rfl sh77 rfl ?_
  refine Wp.pk 1 (pc' := 18) (lv' := [some (.ref 77), some (.int x1), some (.int x2), some (.int x3)]) (st' := [.int 180, .ref 78, .int x3]) rfl ?_
  refine Wp.iald rfl sh78 ⟨h.1, ?_⟩
  replace h := h.2
  refine Wp.icmp_ge rfl rfl ⟨fun hc => ?_, fun hc => ?_⟩
  · replace h := h.1 hc
    refine Wp.pk 2 (pc' := 63) (lv' := [some (.ref 77), some (.int x1), some (.int x2), some (.int x3)]) (st' := [.int 200, .ref 77]) rfl ?_
    refine Wp.callV rfl rfl rfl (CallV.mono h (fun m1 h => ?_))
    refine Wp.pk 3 (pc' := 71) (lv' := [some (.ref 77), some (.int x1), some (.int x2), some (.int x3)]) (st' := [.int x1, .int 200, .ref 77]) rfl ?_
    refine Wp.callI rfl rfl rfl (CallI.mono h (fun v3 m2 h => ?_))
    exact Wp.iret rfl rfl h
  · replace h := h.2 hc
    refine Wp.pk 1 (pc' := 23) (lv' := [some (.ref 77), some (.int x1), some (.int x2), some (.int x3)]) (st' := [.ref 77]) rfl ?_
    refine Wp.getR rfl rfl sh77 rfl ?_
    refine Wp.pk 5 (pc' := 33) (lv' := [some (.ref 77), some (.int x1), some (.int x2), some (.int x3)]) (st' := [.int x3, .int x2, .int (280 + x3), .ref 78]) rfl ?_
    refine Wp.callI rfl rfl rfl (CallI.mono h (fun v5 m4 h => ?_))
    refine Wp.if_eq rfl rfl ⟨fun hc => ?_, fun hc => ?_⟩
    · replace h := h.1 hc
      refine Wp.pk 1 (pc' := 44) (lv' := [some (.ref 77), some (.int x1), some (.int x2), some (.int x3)]) (st' := [.ref 77, .int (280 + x3), .ref 78]) rfl ?_
      refine Wp.getR rfl rfl sh77 rfl ?_
      refine Wp.pk 3 (pc' := 51) (lv' := [some (.ref 77), some (.int x1), some (.int x2), some (.int x3)]) (st' := [.int (80 + x3), .ref 78, .int (280 + x3), .ref 78]) rfl ?_
      refine Wp.iald rfl sh78 ⟨h.1, ?_⟩
      replace h := h.2
      refine Wp.iastN rfl sh78 h.1 (fun m6 hm => ?_)
      replace h := h.2 _ hm
      refine Wp.pk 2 (pc' := 10) (lv' := [some (.ref 77), some (.int x1), some (.int x2), some (.int (x3 + 1))]) (st' := []) rfl ?_
      exact h
    · replace h := h.2 hc
      refine Wp.pk 2 (pc' := 52) (lv' := [some (.ref 77), some (.int x1), some (.int x2), some (.int x3)]) (st' := [.int 0, .int (280 + x3), .ref 78]) rfl ?_
      refine Wp.iastN rfl sh78 h.1 (fun m7 hm => ?_)
      replace h := h.2 _ hm
      refine Wp.pk 2 (pc' := 10) (lv' := [some (.ref 77), some (.int x1), some (.int x2), some (.int (x3 + 1))]) (st' := []) rfl ?_
      exact h
theorem eX9_reveal_0 {X : a_X} {m : Nat → Nat → Int32} {Q : Option Value → (Nat → Nat → Int32) → Prop} {x1 : Int32} (h : CallI X mX9_isBill [.ref 77, .int x1] m (fun v2 m1 => (¬ v2 = 0 → CallI X mX9_freeOf [.ref 77, .int x1] m1 (fun v4 m3 => vp_in (80 + x1) 800 ∧ ((m3 78 (Int32.toNatClampNeg (80 + x1))) = 0 → Q (some (.int (-100000003))) m3) ∧ (¬ (m3 78 (Int32.toNatClampNeg (80 + x1))) = 0 → CallI X mX9_ones [.int v4] m3 (fun v6 m5 => (v6 ≤ 12 → Wp X mX9_reveal 43 [some (.ref 77), some (.int x1), some (.int v4), some (.int 0), none, none] [] m5 Q) ∧ (¬ v6 ≤ 12 → Q (some (.int (-100000003))) m5))))) ∧ (v2 = 0 → Q (some (.int (-100000001))) m1))) : Call X mX9_reveal [.ref 77, .int x1] m Q := by
  unfold Call
  refine Wp.loc (lv' := [some (.ref 77), some (.int x1), none, none, none, none]) rfl ?_
  refine Wp.pk 2 (pc' := 2) (lv' := [some (.ref 77), some (.int x1), none, none, none, none]) (st' := [.int x1, .ref 77]) rfl ?_
  refine Wp.callI rfl rfl rfl (CallI.mono h (fun v2 m1 h => ?_))
  refine Wp.if_ne rfl rfl ⟨fun hc => ?_, fun hc => ?_⟩
  · replace h := h.1 hc
    refine Wp.pk 2 (pc' := 13) (lv' := [some (.ref 77), some (.int x1), none, none, none, none]) (st' := [.int x1, .ref 77]) rfl ?_
    refine Wp.callI rfl rfl rfl (CallI.mono h (fun v4 m3 h => ?_))
    refine Wp.pk 2 (pc' := 18) (lv' := [some (.ref 77), some (.int x1), some (.int v4), none, none, none]) (st' := [.ref 77]) rfl ?_
    refine Wp.getR rfl rfl sh77 rfl ?_
    refine Wp.pk 3 (pc' := 25) (lv' := [some (.ref 77), some (.int x1), some (.int v4), none, none, none]) (st' := [.int (80 + x1), .ref 78]) rfl ?_
    refine Wp.iald rfl sh78 ⟨h.1, ?_⟩
    replace h := h.2
    refine Wp.if_eq rfl rfl ⟨fun hc => ?_, fun hc => ?_⟩
    · replace h := h.1 hc
      refine Wp.ldc rfl rfl ?_
      exact Wp.iret rfl rfl ⟨rfl, h⟩
    · replace h := h.2 hc
      refine Wp.pk 1 (pc' := 30) (lv' := [some (.ref 77), some (.int x1), some (.int v4), none, none, none]) (st' := [.int v4]) rfl ?_
      refine Wp.callI rfl rfl rfl (CallI.mono h (fun v6 m5 h => ?_))
      refine Wp.pk 1 (pc' := 35) (lv' := [some (.ref 77), some (.int x1), some (.int v4), none, none, none]) (st' := [.int 12, .int v6]) rfl ?_
      refine Wp.icmp_le rfl rfl ⟨fun hc => ?_, fun hc => ?_⟩
      · replace h := h.1 hc
        refine Wp.pk 2 (pc' := 43) (lv' := [some (.ref 77), some (.int x1), some (.int v4), some (.int 0), none, none]) (st' := []) rfl ?_
        exact h
      · replace h := h.2 hc
        refine Wp.ldc rfl rfl ?_
        exact Wp.iret rfl rfl ⟨rfl, h⟩
  · replace h := h.2 hc
    refine Wp.ldc rfl rfl ?_
    exact Wp.iret rfl rfl ⟨rfl, h⟩
theorem eX9_reveal_43 {X : a_X} {m : Nat → Nat → Int32} {Q : Option Value → (Nat → Nat → Int32) → Prop} {x1 x2 x3 : Int32} (h : vp_in 180 800 ∧ ((m 78 (Int32.toNatClampNeg 180)) ≤ x3 → Wp X mX9_reveal 80 [some (.ref 77), some (.int x1), some (.int x2), some (.int (-1)), some (.int 0), some (.int 1)] [] m Q) ∧ (¬ (m 78 (Int32.toNatClampNeg 180)) ≤ x3 → CallI X mX9_overOf [.ref 77, .int x3] m (fun v2 m1 => vp_in x3 20 ∧ ∀ m3, m3 = (a_up m1 90 (Int32.toNatClampNeg x3) v2) → Wp X mX9_reveal 43 [some (.ref 77), some (.int x1), some (.int x2), some (.int (x3 + 1)), none, none] [] m3 Q))) : Wp X mX9_reveal 43 [some (.ref 77), some (.int x1), some (.int x2), some (.int x3), none, none] [] m Q := by
  refine Wp.pk 2 (pc' := 45) (lv' := [some (.ref 77), some (.int x1), some (.int x2), some (.int x3), none, none]) (st' := [.ref 77, .int x3]) rfl ?_
  refine Wp.getR rfl rfl sh77 rfl ?_
  refine Wp.pk 1 (pc' := 51) (lv' := [some (.ref 77), some (.int x1), some (.int x2), some (.int x3), none, none]) (st' := [.int 180, .ref 78, .int x3]) rfl ?_
  refine Wp.iald rfl sh78 ⟨h.1, ?_⟩
  replace h := h.2
  refine Wp.icmp_ge rfl rfl ⟨fun hc => ?_, fun hc => ?_⟩
  · replace h := h.1 hc
    refine Wp.pk 6 (pc' := 80) (lv' := [some (.ref 77), some (.int x1), some (.int x2), some (.int (-1)), some (.int 0), some (.int 1)]) (st' := []) rfl ?_
    exact h
  · replace h := h.2 hc
    refine Wp.pk 1 (pc' := 56) (lv' := [some (.ref 77), some (.int x1), some (.int x2), some (.int x3), none, none]) (st' := [.ref 77]) rfl ?_
    refine Wp.getR rfl rfl sh77 rfl ?_
    refine Wp.pk 3 (pc' := 62) (lv' := [some (.ref 77), some (.int x1), some (.int x2), some (.int x3), none, none]) (st' := [.int x3, .ref 77, .int x3, .ref 90]) rfl ?_
    refine Wp.callI rfl rfl rfl (CallI.mono h (fun v2 m1 h => ?_))
    refine Wp.iastN rfl sh90 h.1 (fun m3 hm => ?_)
    replace h := h.2 _ hm
    refine Wp.pk 2 (pc' := 43) (lv' := [some (.ref 77), some (.int x1), some (.int x2), some (.int (x3 + 1)), none, none]) (st' := []) rfl ?_
    exact h
theorem eX9_reveal_80 {X : a_X} {m : Nat → Nat → Int32} {Q : Option Value → (Nat → Nat → Int32) → Prop} {x1 x2 x3 x4 x5 : Int32} (h : (x5 = 0 → Q (some (.int x3)) m) ∧ (¬ x5 = 0 → (x3 < 0 → CallI X mX9_isWhole [.ref 77, .int x4] m (fun v2 m1 => (v2 = 0 → (x4 = x2 → Wp X mX9_reveal 80 [some (.ref 77), some (.int x1), some (.int x2), some (.int x3), some (.int (((x4 ||| (x2 ^^^ (-1))) + 1) &&& x2)), some (.int 0)] [] m1 Q) ∧ (¬ x4 = x2 → Wp X mX9_reveal 80 [some (.ref 77), some (.int x1), some (.int x2), some (.int x3), some (.int (((x4 ||| (x2 ^^^ (-1))) + 1) &&& x2)), some (.int 1)] [] m1 Q)) ∧ (¬ v2 = 0 → CallI X mX9_isReadWithout [.ref 77, .int x1, .int x4] m1 (fun v4 m3 => (v4 = 0 → (x4 = x2 → Wp X mX9_reveal 80 [some (.ref 77), some (.int x1), some (.int x2), some (.int x3), some (.int (((x4 ||| (x2 ^^^ (-1))) + 1) &&& x2)), some (.int 0)] [] m3 Q) ∧ (¬ x4 = x2 → Wp X mX9_reveal 80 [some (.ref 77), some (.int x1), some (.int x2), some (.int x3), some (.int (((x4 ||| (x2 ^^^ (-1))) + 1) &&& x2)), some (.int 1)] [] m3 Q)) ∧ (¬ v4 = 0 → (x4 = x2 → Wp X mX9_reveal 80 [some (.ref 77), some (.int x1), some (.int x2), some (.int x4), some (.int (((x4 ||| (x2 ^^^ (-1))) + 1) &&& x2)), some (.int 0)] [] m3 Q) ∧ (¬ x4 = x2 → Wp X mX9_reveal 80 [some (.ref 77), some (.int x1), some (.int x2), some (.int x4), some (.int (((x4 ||| (x2 ^^^ (-1))) + 1) &&& x2)), some (.int 1)] [] m3 Q)))))) ∧ (¬ x3 < 0 → CallI X mX9_ones [.int x4] m (fun v6 m5 => CallI X mX9_ones [.int x3] m5 (fun v8 m7 => (v8 ≤ v6 → (x4 = x2 → Wp X mX9_reveal 80 [some (.ref 77), some (.int x1), some (.int x2), some (.int x3), some (.int (((x4 ||| (x2 ^^^ (-1))) + 1) &&& x2)), some (.int 0)] [] m7 Q) ∧ (¬ x4 = x2 → Wp X mX9_reveal 80 [some (.ref 77), some (.int x1), some (.int x2), some (.int x3), some (.int (((x4 ||| (x2 ^^^ (-1))) + 1) &&& x2)), some (.int 1)] [] m7 Q)) ∧ (¬ v8 ≤ v6 → CallI X mX9_isWhole [.ref 77, .int x4] m7 (fun v10 m9 => (v10 = 0 → (x4 = x2 → Wp X mX9_reveal 80 [some (.ref 77), some (.int x1), some (.int x2), some (.int x3), some (.int (((x4 ||| (x2 ^^^ (-1))) + 1) &&& x2)), some (.int 0)] [] m9 Q) ∧ (¬ x4 = x2 → Wp X mX9_reveal 80 [some (.ref 77), some (.int x1), some (.int x2), some (.int x3), some (.int (((x4 ||| (x2 ^^^ (-1))) + 1) &&& x2)), some (.int 1)] [] m9 Q)) ∧ (¬ v10 = 0 → CallI X mX9_isReadWithout [.ref 77, .int x1, .int x4] m9 (fun v12 m11 => (v12 = 0 → (x4 = x2 → Wp X mX9_reveal 80 [some (.ref 77), some (.int x1), some (.int x2), some (.int x3), some (.int (((x4 ||| (x2 ^^^ (-1))) + 1) &&& x2)), some (.int 0)] [] m11 Q) ∧ (¬ x4 = x2 → Wp X mX9_reveal 80 [some (.ref 77), some (.int x1), some (.int x2), some (.int x3), some (.int (((x4 ||| (x2 ^^^ (-1))) + 1) &&& x2)), some (.int 1)] [] m11 Q)) ∧ (¬ v12 = 0 → (x4 = x2 → Wp X mX9_reveal 80 [some (.ref 77), some (.int x1), some (.int x2), some (.int x4), some (.int (((x4 ||| (x2 ^^^ (-1))) + 1) &&& x2)), some (.int 0)] [] m11 Q) ∧ (¬ x4 = x2 → Wp X mX9_reveal 80 [some (.ref 77), some (.int x1), some (.int x2), some (.int x4), some (.int (((x4 ||| (x2 ^^^ (-1))) + 1) &&& x2)), some (.int 1)] [] m11 Q))))))))))) : Wp X mX9_reveal 80 [some (.ref 77), some (.int x1), some (.int x2), some (.int x3), some (.int x4), some (.int x5)] [] m Q := by
  refine Wp.pk 1 (pc' := 82) (lv' := [some (.ref 77), some (.int x1), some (.int x2), some (.int x3), some (.int x4), some (.int x5)]) (st' := [.int x5]) rfl ?_
  refine Wp.if_eq rfl rfl ⟨fun hc => ?_, fun hc => ?_⟩
  · replace h := h.1 hc
    refine Wp.pk 1 (pc' := 152) (lv' := [some (.ref 77), some (.int x1), some (.int x2), some (.int x3), some (.int x4), some (.int x5)]) (st' := [.int x3]) rfl ?_
    exact Wp.iret rfl rfl ⟨rfl, h⟩
  · replace h := h.2 hc
    refine Wp.pk 1 (pc' := 86) (lv' := [some (.ref 77), some (.int x1), some (.int x2), some (.int x3), some (.int x4), some (.int x5)]) (st' := [.int x3]) rfl ?_
    refine Wp.if_lt rfl rfl ⟨fun hc => ?_, fun hc => ?_⟩
    · replace h := h.1 hc
      refine Wp.pk 2 (pc' := 104) (lv' := [some (.ref 77), some (.int x1), some (.int x2), some (.int x3), some (.int x4), some (.int x5)]) (st' := [.int x4, .ref 77]) rfl ?_
      refine Wp.callI rfl rfl rfl (CallI.mono h (fun v2 m1 h => ?_))
      refine Wp.if_eq rfl rfl ⟨fun hc => ?_, fun hc => ?_⟩
      · replace h := h.1 hc
        refine Wp.pk 2 (pc' := 126) (lv' := [some (.ref 77), some (.int x1), some (.int x2), some (.int x3), some (.int x4), some (.int x5)]) (st' := [.int x2, .int x4]) rfl ?_
        refine Wp.icmp_eq rfl rfl ⟨fun hc => ?_, fun hc => ?_⟩
        · replace h := h.1 hc
          refine Wp.pk 13 (pc' := 80) (lv' := [some (.ref 77), some (.int x1), some (.int x2), some (.int x3), some (.int (((x4 ||| (x2 ^^^ (-1))) + 1) &&& x2)), some (.int 0)]) (st' := []) rfl ?_
          exact h
        · replace h := h.2 hc
          refine Wp.pk 14 (pc' := 80) (lv' := [some (.ref 77), some (.int x1), some (.int x2), some (.int x3), some (.int (((x4 ||| (x2 ^^^ (-1))) + 1) &&& x2)), some (.int 1)]) (st' := []) rfl ?_
          exact h
      · replace h := h.2 hc
        refine Wp.pk 3 (pc' := 114) (lv' := [some (.ref 77), some (.int x1), some (.int x2), some (.int x3), some (.int x4), some (.int x5)]) (st' := [.int x4, .int x1, .ref 77]) rfl ?_
        refine Wp.callI rfl rfl rfl (CallI.mono h (fun v4 m3 h => ?_))
        refine Wp.if_eq rfl rfl ⟨fun hc => ?_, fun hc => ?_⟩
        · replace h := h.1 hc
          refine Wp.pk 2 (pc' := 126) (lv' := [some (.ref 77), some (.int x1), some (.int x2), some (.int x3), some (.int x4), some (.int x5)]) (st' := [.int x2, .int x4]) rfl ?_
          refine Wp.icmp_eq rfl rfl ⟨fun hc => ?_, fun hc => ?_⟩
          · replace h := h.1 hc
            refine Wp.pk 13 (pc' := 80) (lv' := [some (.ref 77), some (.int x1), some (.int x2), some (.int x3), some (.int (((x4 ||| (x2 ^^^ (-1))) + 1) &&& x2)), some (.int 0)]) (st' := []) rfl ?_
            exact h
          · replace h := h.2 hc
            refine Wp.pk 14 (pc' := 80) (lv' := [some (.ref 77), some (.int x1), some (.int x2), some (.int x3), some (.int (((x4 ||| (x2 ^^^ (-1))) + 1) &&& x2)), some (.int 1)]) (st' := []) rfl ?_
            exact h
        · replace h := h.2 hc
          refine Wp.pk 4 (pc' := 126) (lv' := [some (.ref 77), some (.int x1), some (.int x2), some (.int x4), some (.int x4), some (.int x5)]) (st' := [.int x2, .int x4]) rfl ?_
          refine Wp.icmp_eq rfl rfl ⟨fun hc => ?_, fun hc => ?_⟩
          · replace h := h.1 hc
            refine Wp.pk 13 (pc' := 80) (lv' := [some (.ref 77), some (.int x1), some (.int x2), some (.int x4), some (.int (((x4 ||| (x2 ^^^ (-1))) + 1) &&& x2)), some (.int 0)]) (st' := []) rfl ?_
            exact h
          · replace h := h.2 hc
            refine Wp.pk 14 (pc' := 80) (lv' := [some (.ref 77), some (.int x1), some (.int x2), some (.int x4), some (.int (((x4 ||| (x2 ^^^ (-1))) + 1) &&& x2)), some (.int 1)]) (st' := []) rfl ?_
            exact h
    · replace h := h.2 hc
      refine Wp.pk 1 (pc' := 91) (lv' := [some (.ref 77), some (.int x1), some (.int x2), some (.int x3), some (.int x4), some (.int x5)]) (st' := [.int x4]) rfl ?_
      refine Wp.callI rfl rfl rfl (CallI.mono h (fun v6 m5 h => ?_))
      refine Wp.pk 1 (pc' := 95) (lv' := [some (.ref 77), some (.int x1), some (.int x2), some (.int x3), some (.int x4), some (.int x5)]) (st' := [.int x3, .int v6]) rfl ?_
      refine Wp.callI rfl rfl rfl (CallI.mono h (fun v8 m7 h => ?_))
      refine Wp.icmp_ge rfl rfl ⟨fun hc => ?_, fun hc => ?_⟩
      · replace h := h.1 hc
        refine Wp.pk 2 (pc' := 126) (lv' := [some (.ref 77), some (.int x1), some (.int x2), some (.int x3), some (.int x4), some (.int x5)]) (st' := [.int x2, .int x4]) rfl ?_
        refine Wp.icmp_eq rfl rfl ⟨fun hc => ?_, fun hc => ?_⟩
        · replace h := h.1 hc
          refine Wp.pk 13 (pc' := 80) (lv' := [some (.ref 77), some (.int x1), some (.int x2), some (.int x3), some (.int (((x4 ||| (x2 ^^^ (-1))) + 1) &&& x2)), some (.int 0)]) (st' := []) rfl ?_
          exact h
        · replace h := h.2 hc
          refine Wp.pk 14 (pc' := 80) (lv' := [some (.ref 77), some (.int x1), some (.int x2), some (.int x3), some (.int (((x4 ||| (x2 ^^^ (-1))) + 1) &&& x2)), some (.int 1)]) (st' := []) rfl ?_
          exact h
      · replace h := h.2 hc
        refine Wp.pk 2 (pc' := 104) (lv' := [some (.ref 77), some (.int x1), some (.int x2), some (.int x3), some (.int x4), some (.int x5)]) (st' := [.int x4, .ref 77]) rfl ?_
        refine Wp.callI rfl rfl rfl (CallI.mono h (fun v10 m9 h => ?_))
        refine Wp.if_eq rfl rfl ⟨fun hc => ?_, fun hc => ?_⟩
        · replace h := h.1 hc
          refine Wp.pk 2 (pc' := 126) (lv' := [some (.ref 77), some (.int x1), some (.int x2), some (.int x3), some (.int x4), some (.int x5)]) (st' := [.int x2, .int x4]) rfl ?_
          refine Wp.icmp_eq rfl rfl ⟨fun hc => ?_, fun hc => ?_⟩
          · replace h := h.1 hc
            refine Wp.pk 13 (pc' := 80) (lv' := [some (.ref 77), some (.int x1), some (.int x2), some (.int x3), some (.int (((x4 ||| (x2 ^^^ (-1))) + 1) &&& x2)), some (.int 0)]) (st' := []) rfl ?_
            exact h
          · replace h := h.2 hc
            refine Wp.pk 14 (pc' := 80) (lv' := [some (.ref 77), some (.int x1), some (.int x2), some (.int x3), some (.int (((x4 ||| (x2 ^^^ (-1))) + 1) &&& x2)), some (.int 1)]) (st' := []) rfl ?_
            exact h
        · replace h := h.2 hc
          refine Wp.pk 3 (pc' := 114) (lv' := [some (.ref 77), some (.int x1), some (.int x2), some (.int x3), some (.int x4), some (.int x5)]) (st' := [.int x4, .int x1, .ref 77]) rfl ?_
          refine Wp.callI rfl rfl rfl (CallI.mono h (fun v12 m11 h => ?_))
          refine Wp.if_eq rfl rfl ⟨fun hc => ?_, fun hc => ?_⟩
          · replace h := h.1 hc
            refine Wp.pk 2 (pc' := 126) (lv' := [some (.ref 77), some (.int x1), some (.int x2), some (.int x3), some (.int x4), some (.int x5)]) (st' := [.int x2, .int x4]) rfl ?_
            refine Wp.icmp_eq rfl rfl ⟨fun hc => ?_, fun hc => ?_⟩
            · replace h := h.1 hc
              refine Wp.pk 13 (pc' := 80) (lv' := [some (.ref 77), some (.int x1), some (.int x2), some (.int x3), some (.int (((x4 ||| (x2 ^^^ (-1))) + 1) &&& x2)), some (.int 0)]) (st' := []) rfl ?_
              exact h
            · replace h := h.2 hc
              refine Wp.pk 14 (pc' := 80) (lv' := [some (.ref 77), some (.int x1), some (.int x2), some (.int x3), some (.int (((x4 ||| (x2 ^^^ (-1))) + 1) &&& x2)), some (.int 1)]) (st' := []) rfl ?_
              exact h
          · replace h := h.2 hc
            refine Wp.pk 4 (pc' := 126) (lv' := [some (.ref 77), some (.int x1), some (.int x2), some (.int x4), some (.int x4), some (.int x5)]) (st' := [.int x2, .int x4]) rfl ?_
            refine Wp.icmp_eq rfl rfl ⟨fun hc => ?_, fun hc => ?_⟩
            · replace h := h.1 hc
              refine Wp.pk 13 (pc' := 80) (lv' := [some (.ref 77), some (.int x1), some (.int x2), some (.int x4), some (.int (((x4 ||| (x2 ^^^ (-1))) + 1) &&& x2)), some (.int 0)]) (st' := []) rfl ?_
              exact h
            · replace h := h.2 hc
              refine Wp.pk 14 (pc' := 80) (lv' := [some (.ref 77), some (.int x1), some (.int x2), some (.int x4), some (.int (((x4 ||| (x2 ^^^ (-1))) + 1) &&& x2)), some (.int 1)]) (st' := []) rfl ?_
              exact h
theorem eX9_peel_0 {X : a_X} {m : Nat → Nat → Int32} {Q : Option Value → (Nat → Nat → Int32) → Prop} {x1 : Int32} (h : CallI X mX9_isBill [.ref 77, .int x1] m (fun v2 m1 => (¬ v2 = 0 → vp_in (80 + x1) 800 ∧ ((m1 78 (Int32.toNatClampNeg (80 + x1))) = 0 → Q (some (.int (-100000003))) m1) ∧ (¬ (m1 78 (Int32.toNatClampNeg (80 + x1))) = 0 → CallI X mX9_overOf [.ref 77, .int x1] m1 (fun v4 m3 => (v4 = 0 → Wp X mX9_peel 38 [some (.ref 77), some (.int x1), some (.int 0), some (.int 0)] [] m3 Q) ∧ (¬ v4 = 0 → Q (some (.int (-100000003))) m3)))) ∧ (v2 = 0 → Q (some (.int (-100000001))) m1))) : Call X mX9_peel [.ref 77, .int x1] m Q := by
  unfold Call
  refine Wp.loc (lv' := [some (.ref 77), some (.int x1), none, none]) rfl ?_
  refine Wp.pk 2 (pc' := 2) (lv' := [some (.ref 77), some (.int x1), none, none]) (st' := [.int x1, .ref 77]) rfl ?_
  refine Wp.callI rfl rfl rfl (CallI.mono h (fun v2 m1 h => ?_))
  refine Wp.if_ne rfl rfl ⟨fun hc => ?_, fun hc => ?_⟩
  · replace h := h.1 hc
    refine Wp.pk 1 (pc' := 12) (lv' := [some (.ref 77), some (.int x1), none, none]) (st' := [.ref 77]) rfl ?_
    refine Wp.getR rfl rfl sh77 rfl ?_
    refine Wp.pk 3 (pc' := 19) (lv' := [some (.ref 77), some (.int x1), none, none]) (st' := [.int (80 + x1), .ref 78]) rfl ?_
    refine Wp.iald rfl sh78 ⟨h.1, ?_⟩
    replace h := h.2
    refine Wp.if_eq rfl rfl ⟨fun hc => ?_, fun hc => ?_⟩
    · replace h := h.1 hc
      refine Wp.ldc rfl rfl ?_
      exact Wp.iret rfl rfl ⟨rfl, h⟩
    · replace h := h.2 hc
      refine Wp.pk 2 (pc' := 25) (lv' := [some (.ref 77), some (.int x1), none, none]) (st' := [.int x1, .ref 77]) rfl ?_
      refine Wp.callI rfl rfl rfl (CallI.mono h (fun v4 m3 h => ?_))
      refine Wp.if_eq rfl rfl ⟨fun hc => ?_, fun hc => ?_⟩
      · replace h := h.1 hc
        refine Wp.pk 4 (pc' := 38) (lv' := [some (.ref 77), some (.int x1), some (.int 0), some (.int 0)]) (st' := []) rfl ?_
        exact h
      · replace h := h.2 hc
        refine Wp.ldc rfl rfl ?_
        exact Wp.iret rfl rfl ⟨rfl, h⟩
  · replace h := h.2 hc
    refine Wp.ldc rfl rfl ?_
    exact Wp.iret rfl rfl ⟨rfl, h⟩
theorem eX9_peel_38 {X : a_X} {m : Nat → Nat → Int32} {Q : Option Value → (Nat → Nat → Int32) → Prop} {x1 x2 x3 : Int32} (h : (128 ≤ x3 → vp_in (80 + x1) 800 ∧ ∀ m1, m1 = (a_up m 78 (Int32.toNatClampNeg (80 + x1)) 0) → Q (some (.int x2)) m1) ∧ (¬ 128 ≤ x3 → CallI X mX9_aboveAt [.ref 77, .int 0, .int x3] m (fun v3 m2 => (¬ v3 = x1 → Wp X mX9_peel 38 [some (.ref 77), some (.int x1), some (.int x2), some (.int (x3 + 1))] [] m2 Q) ∧ (v3 = x1 → vp_in (80 + x1) 800 ∧ ∀ m4, m4 = (a_up m2 78 (Int32.toNatClampNeg (80 + x1)) 0) → CallI X mX9_aboveAt [.ref 77, .int 0, .int x3] m4 (fun v6 m5 => (v6 < 0 → CallI X mX9_one [.int 0] m5 (fun v8 m7 => vp_in (80 + x1) 800 ∧ ∀ m9, m9 = (a_up m7 78 (Int32.toNatClampNeg (80 + x1)) 1) → Wp X mX9_peel 38 [some (.ref 77), some (.int x1), some (.int (x2 + v8)), some (.int (x3 + 1))] [] m9 Q)) ∧ (¬ v6 < 0 → CallI X mX9_one [.int 1] m5 (fun v11 m10 => vp_in (80 + x1) 800 ∧ ∀ m12, m12 = (a_up m10 78 (Int32.toNatClampNeg (80 + x1)) 1) → Wp X mX9_peel 38 [some (.ref 77), some (.int x1), some (.int (x2 + v11)), some (.int (x3 + 1))] [] m12 Q))))))) : Wp X mX9_peel 38 [some (.ref 77), some (.int x1), some (.int x2), some (.int x3)] [] m Q := by
  refine Wp.pk 2 (pc' := 42) (lv' := [some (.ref 77), some (.int x1), some (.int x2), some (.int x3)]) (st' := [.int 128, .int x3]) rfl ?_
  refine Wp.icmp_ge rfl rfl ⟨fun hc => ?_, fun hc => ?_⟩
  · replace h := h.1 hc
    refine Wp.pk 1 (pc' := 102) (lv' := [some (.ref 77), some (.int x1), some (.int x2), some (.int x3)]) (st' := [.ref 77]) rfl ?_
    refine Wp.getR rfl rfl sh77 rfl ?_
    refine Wp.pk 4 (pc' := 110) (lv' := [some (.ref 77), some (.int x1), some (.int x2), some (.int x3)]) (st' := [.int 0, .int (80 + x1), .ref 78]) rfl ?_
    refine Wp.iastN rfl sh78 h.1 (fun m1 hm => ?_)
    replace h := h.2 _ hm
    refine Wp.pk 1 (pc' := 112) (lv' := [some (.ref 77), some (.int x1), some (.int x2), some (.int x3)]) (st' := [.int x2]) rfl ?_
    exact Wp.iret rfl rfl ⟨rfl, h⟩
  · replace h := h.2 hc
    refine Wp.pk 3 (pc' := 48) (lv' := [some (.ref 77), some (.int x1), some (.int x2), some (.int x3)]) (st' := [.int x3, .int 0, .ref 77]) rfl ?_
    refine Wp.callI rfl rfl rfl (CallI.mono h (fun v3 m2 h => ?_))
    refine Wp.pk 1 (pc' := 52) (lv' := [some (.ref 77), some (.int x1), some (.int x2), some (.int x3)]) (st' := [.int x1, .int v3]) rfl ?_
    refine Wp.icmp_ne rfl rfl ⟨fun hc => ?_, fun hc => ?_⟩
    · replace h := h.1 hc
      refine Wp.pk 2 (pc' := 38) (lv' := [some (.ref 77), some (.int x1), some (.int x2), some (.int (x3 + 1))]) (st' := []) rfl ?_
      exact h
    · replace h := h.2 hc
      refine Wp.pk 1 (pc' := 56) (lv' := [some (.ref 77), some (.int x1), some (.int x2), some (.int x3)]) (st' := [.ref 77]) rfl ?_
      refine Wp.getR rfl rfl sh77 rfl ?_
      refine Wp.pk 4 (pc' := 64) (lv' := [some (.ref 77), some (.int x1), some (.int x2), some (.int x3)]) (st' := [.int 0, .int (80 + x1), .ref 78]) rfl ?_
      refine Wp.iastN rfl sh78 h.1 (fun m4 hm => ?_)
      replace h := h.2 _ hm
      refine Wp.pk 4 (pc' := 69) (lv' := [some (.ref 77), some (.int x1), some (.int x2), some (.int x3)]) (st' := [.int x3, .int 0, .ref 77, .int x2]) rfl ?_
      refine Wp.callI rfl rfl rfl (CallI.mono h (fun v6 m5 h => ?_))
      refine Wp.if_lt rfl rfl ⟨fun hc => ?_, fun hc => ?_⟩
      · replace h := h.1 hc
        refine Wp.pk 1 (pc' := 80) (lv' := [some (.ref 77), some (.int x1), some (.int x2), some (.int x3)]) (st' := [.int 0, .int x2]) rfl ?_
        refine Wp.callI rfl rfl rfl (CallI.mono h (fun v8 m7 h => ?_))
        refine Wp.pk 3 (pc' := 86) (lv' := [some (.ref 77), some (.int x1), some (.int (x2 + v8)), some (.int x3)]) (st' := [.ref 77]) rfl ?_
        refine Wp.getR rfl rfl sh77 rfl ?_
        refine Wp.pk 4 (pc' := 94) (lv' := [some (.ref 77), some (.int x1), some (.int (x2 + v8)), some (.int x3)]) (st' := [.int 1, .int (80 + x1), .ref 78]) rfl ?_
        refine Wp.iastN rfl sh78 h.1 (fun m9 hm => ?_)
        replace h := h.2 _ hm
        refine Wp.pk 2 (pc' := 38) (lv' := [some (.ref 77), some (.int x1), some (.int (x2 + v8)), some (.int (x3 + 1))]) (st' := []) rfl ?_
        exact h
      · replace h := h.2 hc
        refine Wp.pk 2 (pc' := 80) (lv' := [some (.ref 77), some (.int x1), some (.int x2), some (.int x3)]) (st' := [.int 1, .int x2]) rfl ?_
        refine Wp.callI rfl rfl rfl (CallI.mono h (fun v11 m10 h => ?_))
        refine Wp.pk 3 (pc' := 86) (lv' := [some (.ref 77), some (.int x1), some (.int (x2 + v11)), some (.int x3)]) (st' := [.ref 77]) rfl ?_
        refine Wp.getR rfl rfl sh77 rfl ?_
        refine Wp.pk 4 (pc' := 94) (lv' := [some (.ref 77), some (.int x1), some (.int (x2 + v11)), some (.int x3)]) (st' := [.int 1, .int (80 + x1), .ref 78]) rfl ?_
        refine Wp.iastN rfl sh78 h.1 (fun m12 hm => ?_)
        replace h := h.2 _ hm
        refine Wp.pk 2 (pc' := 38) (lv' := [some (.ref 77), some (.int x1), some (.int (x2 + v11)), some (.int (x3 + 1))]) (st' := []) rfl ?_
        exact h
theorem eX9_tearAt_0 {X : a_X} {m : Nat → Nat → Int32} {Q : Option Value → (Nat → Nat → Int32) → Prop} {x1 : Int32} (h : CallI X mX9_aboveAt [.ref 77, .int 0, .int x1] m (fun v2 m1 => (v2 < 0 → Q (some (.int v2)) m1) ∧ (¬ v2 < 0 → vp_in ((100 + (4 * v2)) + (x1 / 32)) 800 ∧ vp_in ((100 + (4 * v2)) + (x1 / 32)) 800 ∧ ∀ m3, m3 = (a_up m1 78 (Int32.toNatClampNeg ((100 + (4 * v2)) + (x1 / 32))) ((m1 78 (Int32.toNatClampNeg ((100 + (4 * v2)) + (x1 / 32)))) ||| (1 <<< ((a_rem x1 32) &&& 31)))) → Q (some (.int v2)) m3))) : Call X mX9_tearAt [.ref 77, .int x1] m Q := by
  unfold Call
  refine Wp.loc (lv' := [some (.ref 77), some (.int x1), none]) rfl ?_
  refine Wp.pk 3 (pc' := 3) (lv' := [some (.ref 77), some (.int x1), none]) (st' := [.int x1, .int 0, .ref 77]) rfl ?_
  refine Wp.callI rfl rfl rfl (CallI.mono h (fun v2 m1 h => ?_))
  refine Wp.pk 2 (pc' := 8) (lv' := [some (.ref 77), some (.int x1), some (.int v2)]) (st' := [.int v2]) rfl ?_
  refine Wp.if_lt rfl rfl ⟨fun hc => ?_, fun hc => ?_⟩
  · replace h := h.1 hc
    refine Wp.pk 1 (pc' := 37) (lv' := [some (.ref 77), some (.int x1), some (.int v2)]) (st' := [.int v2]) rfl ?_
    exact Wp.iret rfl rfl ⟨rfl, h⟩
  · replace h := h.2 hc
    refine Wp.pk 1 (pc' := 12) (lv' := [some (.ref 77), some (.int x1), some (.int v2)]) (st' := [.ref 77]) rfl ?_
    refine Wp.getR rfl rfl sh77 rfl ?_
    refine Wp.pk 10 (pc' := 27) (lv' := [some (.ref 77), some (.int x1), some (.int v2)]) (st' := [.int ((100 + (4 * v2)) + (x1 / 32)), .ref 78, .int ((100 + (4 * v2)) + (x1 / 32)), .ref 78]) rfl ?_
    refine Wp.iald rfl sh78 ⟨h.1, ?_⟩
    replace h := h.2
    refine Wp.pk 6 (pc' := 35) (lv' := [some (.ref 77), some (.int x1), some (.int v2)]) (st' := [.int ((m1 78 (Int32.toNatClampNeg ((100 + (4 * v2)) + (x1 / 32)))) ||| (1 <<< ((a_rem x1 32) &&& 31))), .int ((100 + (4 * v2)) + (x1 / 32)), .ref 78]) rfl ?_
    refine Wp.iastN rfl sh78 h.1 (fun m3 hm => ?_)
    replace h := h.2 _ hm
    refine Wp.pk 1 (pc' := 37) (lv' := [some (.ref 77), some (.int x1), some (.int v2)]) (st' := [.int v2]) rfl ?_
    exact Wp.iret rfl rfl ⟨rfl, h⟩
theorem eX9_tear_0 {X : a_X} {m : Nat → Nat → Int32} {Q : Option Value → (Nat → Nat → Int32) → Prop} {x1 x2 : Int32} (h : CallI X mX9_isCell [.ref 77, .int x1, .int x2] m (fun v2 m1 => (v2 = 0 → Q (some (.int (-100000002))) m1) ∧ (¬ v2 = 0 → CallI X mX9_tearAt [.ref 77, .int ((16 * x2) + x1)] m1 (fun v4 m3 => Q (some (.int v4)) m3)))) : Call X mX9_tear [.ref 77, .int x1, .int x2] m Q := by
  unfold Call
  refine Wp.loc (lv' := [some (.ref 77), some (.int x1), some (.int x2)]) rfl ?_
  refine Wp.pk 3 (pc' := 3) (lv' := [some (.ref 77), some (.int x1), some (.int x2)]) (st' := [.int x2, .int x1, .ref 77]) rfl ?_
  refine Wp.callI rfl rfl rfl (CallI.mono h (fun v2 m1 h => ?_))
  refine Wp.if_eq rfl rfl ⟨fun hc => ?_, fun hc => ?_⟩
  · replace h := h.1 hc
    refine Wp.ldc rfl rfl ?_
    exact Wp.iret rfl rfl ⟨rfl, h⟩
  · replace h := h.2 hc
    refine Wp.pk 6 (pc' := 16) (lv' := [some (.ref 77), some (.int x1), some (.int x2)]) (st' := [.int ((16 * x2) + x1), .ref 77]) rfl ?_
    refine Wp.callI rfl rfl rfl (CallI.mono h (fun v4 m3 h => ?_))
    refine Wp.pk 1 (pc' := 24) (lv' := [some (.ref 77), some (.int x1), some (.int x2)]) (st' := [.int v4]) rfl ?_
    exact Wp.iret rfl rfl ⟨rfl, h⟩
theorem eX9_draw_0 {X : a_X} {m : Nat → Nat → Int32} {Q : Option Value → (Nat → Nat → Int32) → Prop} {x1 : Int32} (h : vp_in 190 800 ∧ vp_in 190 800 ∧ ∀ m1, m1 = (a_up m 78 (Int32.toNatClampNeg 190) (Int64.toInt32 (a_remL (((Int32.toInt64 (m 78 (Int32.toNatClampNeg 190))) * 1103515245) + 12345) 2147483648))) → vp_in 190 800 ∧ ¬ x1 = 0 ∧ Q (some (.int (a_rem ((m1 78 (Int32.toNatClampNeg 190)) / 65536) x1))) m1) : Call X mX9_draw [.ref 77, .int x1] m Q := by
  unfold Call
  refine Wp.loc (lv' := [some (.ref 77), some (.int x1)]) rfl ?_
  refine Wp.pk 1 (pc' := 1) (lv' := [some (.ref 77), some (.int x1)]) (st' := [.ref 77]) rfl ?_
  refine Wp.getR rfl rfl sh77 rfl ?_
  refine Wp.pk 2 (pc' := 8) (lv' := [some (.ref 77), some (.int x1)]) (st' := [.ref 77, .int 190, .ref 78]) rfl ?_
  refine Wp.getR rfl rfl sh77 rfl ?_
  refine Wp.pk 1 (pc' := 14) (lv' := [some (.ref 77), some (.int x1)]) (st' := [.int 190, .ref 78, .int 190, .ref 78]) rfl ?_
  refine Wp.iald rfl sh78 ⟨h.1, ?_⟩
  replace h := h.2
  refine Wp.pk 1 (pc' := 16) (lv' := [some (.ref 77), some (.int x1)]) (st' := [.long (Int32.toInt64 (m 78 (Int32.toNatClampNeg 190))), .int 190, .ref 78]) rfl ?_
  refine Wp.ldc2 rfl rfl ?_
  refine Wp.pk 1 (pc' := 20) (lv' := [some (.ref 77), some (.int x1)]) (st' := [.long ((Int32.toInt64 (m 78 (Int32.toNatClampNeg 190))) * 1103515245), .int 190, .ref 78]) rfl ?_
  refine Wp.ldc2 rfl rfl ?_
  refine Wp.pk 1 (pc' := 24) (lv' := [some (.ref 77), some (.int x1)]) (st' := [.long (((Int32.toInt64 (m 78 (Int32.toNatClampNeg 190))) * 1103515245) + 12345), .int 190, .ref 78]) rfl ?_
  refine Wp.ldc2 rfl rfl ?_
  refine Wp.pk 2 (pc' := 29) (lv' := [some (.ref 77), some (.int x1)]) (st' := [.int (Int64.toInt32 (a_remL (((Int32.toInt64 (m 78 (Int32.toNatClampNeg 190))) * 1103515245) + 12345) 2147483648)), .int 190, .ref 78]) rfl ?_
  refine Wp.iastN rfl sh78 h.1 (fun m1 hm => ?_)
  replace h := h.2 _ hm
  refine Wp.pk 1 (pc' := 31) (lv' := [some (.ref 77), some (.int x1)]) (st' := [.ref 77]) rfl ?_
  refine Wp.getR rfl rfl sh77 rfl ?_
  refine Wp.pk 1 (pc' := 37) (lv' := [some (.ref 77), some (.int x1)]) (st' := [.int 190, .ref 78]) rfl ?_
  refine Wp.iald rfl sh78 ⟨h.1, ?_⟩
  replace h := h.2
  refine Wp.ldc_w rfl rfl ?_
  refine Wp.pk 2 (pc' := 43) (lv' := [some (.ref 77), some (.int x1)]) (st' := [.int x1, .int ((m1 78 (Int32.toNatClampNeg 190)) / 65536)]) rfl ?_
  refine Wp.irem rfl ⟨h.1, ?_⟩
  replace h := h.2
  exact Wp.iret rfl rfl ⟨rfl, h⟩
theorem eX9_rain_0 {X : a_X} {m : Nat → Nat → Int32} {Q : Option Value → (Nat → Nat → Int32) → Prop} {x1 : Int32} (h : CallI X mX9_in [.long (Int32.toInt64 x1), .long 0, .long 100] m (fun v2 m1 => (¬ v2 = 0 → Wp X mX9_rain 19 [some (.ref 77), some (.int x1), some (.int 0), some (.int 0), none] [] m1 Q) ∧ (v2 = 0 → Q (some (.int (-100000002))) m1))) : Call X mX9_rain [.ref 77, .int x1] m Q := by
  unfold Call
  refine Wp.loc (lv' := [some (.ref 77), some (.int x1), none, none, none]) rfl ?_
  refine Wp.pk 3 (pc' := 3) (lv' := [some (.ref 77), some (.int x1), none, none, none]) (st' := [.long 0, .long (Int32.toInt64 x1)]) rfl ?_
  refine Wp.ldc2 rfl rfl ?_
  refine Wp.callI rfl rfl rfl (CallI.mono h (fun v2 m1 h => ?_))
  refine Wp.if_ne rfl rfl ⟨fun hc => ?_, fun hc => ?_⟩
  · replace h := h.1 hc
    refine Wp.pk 4 (pc' := 19) (lv' := [some (.ref 77), some (.int x1), some (.int 0), some (.int 0), none]) (st' := []) rfl ?_
    exact h
  · replace h := h.2 hc
    refine Wp.ldc rfl rfl ?_
    exact Wp.iret rfl rfl ⟨rfl, h⟩
theorem eX9_rain_19 {X : a_X} {m : Nat → Nat → Int32} {Q : Option Value → (Nat → Nat → Int32) → Prop} {x1 x2 x3 : Int32} (h : (128 ≤ x3 → Q (some (.int x2)) m) ∧ (¬ 128 ≤ x3 → CallI X mX9_aboveAt [.ref 77, .int 0, .int x3] m (fun v2 m1 => (v2 < 0 → Wp X mX9_rain 19 [some (.ref 77), some (.int x1), some (.int x2), some (.int (x3 + 1)), none] [] m1 Q) ∧ (¬ v2 < 0 → CallI X mX9_draw [.ref 77, .int 100] m1 (fun v4 m3 => (x1 ≤ v4 → Wp X mX9_rain 19 [some (.ref 77), some (.int x1), some (.int x2), some (.int (x3 + 1)), none] [] m3 Q) ∧ (¬ x1 ≤ v4 → CallI X mX9_tearAt [.ref 77, .int x3] m3 (fun v6 m5 => Wp X mX9_rain 19 [some (.ref 77), some (.int x1), some (.int (x2 + 1)), some (.int (x3 + 1)), none] [] m5 Q))))))) : Wp X mX9_rain 19 [some (.ref 77), some (.int x1), some (.int x2), some (.int x3), none] [] m Q := by
  refine Wp.pk 2 (pc' := 23) (lv' := [some (.ref 77), some (.int x1), some (.int x2), some (.int x3), none]) (st' := [.int 128, .int x3]) rfl ?_
  refine Wp.icmp_ge rfl rfl ⟨fun hc => ?_, fun hc => ?_⟩
  · replace h := h.1 hc
    refine Wp.pk 1 (pc' := 62) (lv' := [some (.ref 77), some (.int x1), some (.int x2), some (.int x3), none]) (st' := [.int x2]) rfl ?_
    exact Wp.iret rfl rfl ⟨rfl, h⟩
  · replace h := h.2 hc
    refine Wp.pk 3 (pc' := 29) (lv' := [some (.ref 77), some (.int x1), some (.int x2), some (.int x3), none]) (st' := [.int x3, .int 0, .ref 77]) rfl ?_
    refine Wp.callI rfl rfl rfl (CallI.mono h (fun v2 m1 h => ?_))
    refine Wp.if_lt rfl rfl ⟨fun hc => ?_, fun hc => ?_⟩
    · replace h := h.1 hc
      refine Wp.pk 2 (pc' := 19) (lv' := [some (.ref 77), some (.int x1), some (.int x2), some (.int (x3 + 1)), none]) (st' := []) rfl ?_
      exact h
    · replace h := h.2 hc
      refine Wp.pk 2 (pc' := 38) (lv' := [some (.ref 77), some (.int x1), some (.int x2), some (.int x3), none]) (st' := [.int 100, .ref 77]) rfl ?_
      refine Wp.callI rfl rfl rfl (CallI.mono h (fun v4 m3 h => ?_))
      refine Wp.pk 1 (pc' := 42) (lv' := [some (.ref 77), some (.int x1), some (.int x2), some (.int x3), none]) (st' := [.int x1, .int v4]) rfl ?_
      refine Wp.icmp_ge rfl rfl ⟨fun hc => ?_, fun hc => ?_⟩
      · replace h := h.1 hc
        refine Wp.pk 2 (pc' := 19) (lv' := [some (.ref 77), some (.int x1), some (.int x2), some (.int (x3 + 1)), none]) (st' := []) rfl ?_
        exact h
      · replace h := h.2 hc
        refine Wp.pk 2 (pc' := 47) (lv' := [some (.ref 77), some (.int x1), some (.int x2), some (.int x3), none]) (st' := [.int x3, .ref 77]) rfl ?_
        refine Wp.callI rfl rfl rfl (CallI.mono h (fun v6 m5 h => ?_))
        refine Wp.pk 4 (pc' := 19) (lv' := [some (.ref 77), some (.int x1), some (.int (x2 + 1)), some (.int (x3 + 1)), some (.int v6)]) (st' := []) rfl ?_
        exact Wp.fgt (lv := [some (.ref 77), some (.int x1), some (.int (x2 + 1)), some (.int (x3 + 1)), none]) (a_lle.of (a_lleb_e (a_lleb_e (a_lleb_e (a_lleb_e (a_lleb_i trivial)))))) h
theorem eX9_onMany_0 {X : a_X} {m : Nat → Nat → Int32} {Q : Option Value → (Nat → Nat → Int32) → Prop} {x1 : Int32} (h : Wp X mX9_onMany 4 [some (.ref 77), some (.int x1), some (.int 0), some (.int 0)] [] m Q) : Call X mX9_onMany [.ref 77, .int x1] m Q := by
  unfold Call
  refine Wp.loc (lv' := [some (.ref 77), some (.int x1), none, none]) rfl ?_
  refine Wp.pk 4 (pc' := 4) (lv' := [some (.ref 77), some (.int x1), some (.int 0), some (.int 0)]) (st' := []) rfl ?_
  exact h
theorem eX9_onMany_4 {X : a_X} {m : Nat → Nat → Int32} {Q : Option Value → (Nat → Nat → Int32) → Prop} {x1 x2 x3 : Int32} (h : vp_in 180 800 ∧ ((m 78 (Int32.toNatClampNeg 180)) ≤ x3 → Q (some (.int x2)) m) ∧ (¬ (m 78 (Int32.toNatClampNeg 180)) ≤ x3 → vp_in (80 + x3) 800 ∧ (¬ (m 78 (Int32.toNatClampNeg (80 + x3))) = 1 → CallI X mX9_one [.int 0] m (fun v2 m1 => Wp X mX9_onMany 4 [some (.ref 77), some (.int x1), some (.int (x2 + v2)), some (.int (x3 + 1))] [] m1 Q)) ∧ ((m 78 (Int32.toNatClampNeg (80 + x3))) = 1 → CallI X mX9_ownerOf [.ref 77, .int 0, .int x3] m (fun v4 m3 => (¬ v4 = x1 → CallI X mX9_one [.int 0] m3 (fun v6 m5 => Wp X mX9_onMany 4 [some (.ref 77), some (.int x1), some (.int (x2 + v6)), some (.int (x3 + 1))] [] m5 Q)) ∧ (v4 = x1 → CallI X mX9_one [.int 1] m3 (fun v8 m7 => Wp X mX9_onMany 4 [some (.ref 77), some (.int x1), some (.int (x2 + v8)), some (.int (x3 + 1))] [] m7 Q)))))) : Wp X mX9_onMany 4 [some (.ref 77), some (.int x1), some (.int x2), some (.int x3)] [] m Q := by
  refine Wp.pk 2 (pc' := 6) (lv' := [some (.ref 77), some (.int x1), some (.int x2), some (.int x3)]) (st' := [.ref 77, .int x3]) rfl ?_
  refine Wp.getR rfl rfl sh77 rfl ?_
  refine Wp.pk 1 (pc' := 12) (lv' := [some (.ref 77), some (.int x1), some (.int x2), some (.int x3)]) (st' := [.int 180, .ref 78, .int x3]) rfl ?_
  refine Wp.iald rfl sh78 ⟨h.1, ?_⟩
  replace h := h.2
  refine Wp.icmp_ge rfl rfl ⟨fun hc => ?_, fun hc => ?_⟩
  · replace h := h.1 hc
    refine Wp.pk 1 (pc' := 57) (lv' := [some (.ref 77), some (.int x1), some (.int x2), some (.int x3)]) (st' := [.int x2]) rfl ?_
    exact Wp.iret rfl rfl ⟨rfl, h⟩
  · replace h := h.2 hc
    refine Wp.pk 2 (pc' := 18) (lv' := [some (.ref 77), some (.int x1), some (.int x2), some (.int x3)]) (st' := [.ref 77, .int x2]) rfl ?_
    refine Wp.getR rfl rfl sh77 rfl ?_
    refine Wp.pk 3 (pc' := 25) (lv' := [some (.ref 77), some (.int x1), some (.int x2), some (.int x3)]) (st' := [.int (80 + x3), .ref 78, .int x2]) rfl ?_
    refine Wp.iald rfl sh78 ⟨h.1, ?_⟩
    replace h := h.2
    refine Wp.pk 1 (pc' := 27) (lv' := [some (.ref 77), some (.int x1), some (.int x2), some (.int x3)]) (st' := [.int 1, .int (m 78 (Int32.toNatClampNeg (80 + x3))), .int x2]) rfl ?_
    refine Wp.icmp_ne rfl rfl ⟨fun hc => ?_, fun hc => ?_⟩
    · replace h := h.1 hc
      refine Wp.pk 1 (pc' := 45) (lv' := [some (.ref 77), some (.int x1), some (.int x2), some (.int x3)]) (st' := [.int 0, .int x2]) rfl ?_
      refine Wp.callI rfl rfl rfl (CallI.mono h (fun v2 m1 h => ?_))
      refine Wp.pk 4 (pc' := 4) (lv' := [some (.ref 77), some (.int x1), some (.int (x2 + v2)), some (.int (x3 + 1))]) (st' := []) rfl ?_
      exact h
    · replace h := h.2 hc
      refine Wp.pk 3 (pc' := 33) (lv' := [some (.ref 77), some (.int x1), some (.int x2), some (.int x3)]) (st' := [.int x3, .int 0, .ref 77, .int x2]) rfl ?_
      refine Wp.callI rfl rfl rfl (CallI.mono h (fun v4 m3 h => ?_))
      refine Wp.pk 1 (pc' := 37) (lv' := [some (.ref 77), some (.int x1), some (.int x2), some (.int x3)]) (st' := [.int x1, .int v4, .int x2]) rfl ?_
      refine Wp.icmp_ne rfl rfl ⟨fun hc => ?_, fun hc => ?_⟩
      · replace h := h.1 hc
        refine Wp.pk 1 (pc' := 45) (lv' := [some (.ref 77), some (.int x1), some (.int x2), some (.int x3)]) (st' := [.int 0, .int x2]) rfl ?_
        refine Wp.callI rfl rfl rfl (CallI.mono h (fun v6 m5 h => ?_))
        refine Wp.pk 4 (pc' := 4) (lv' := [some (.ref 77), some (.int x1), some (.int (x2 + v6)), some (.int (x3 + 1))]) (st' := []) rfl ?_
        exact h
      · replace h := h.2 hc
        refine Wp.pk 2 (pc' := 45) (lv' := [some (.ref 77), some (.int x1), some (.int x2), some (.int x3)]) (st' := [.int 1, .int x2]) rfl ?_
        refine Wp.callI rfl rfl rfl (CallI.mono h (fun v8 m7 h => ?_))
        refine Wp.pk 4 (pc' := 4) (lv' := [some (.ref 77), some (.int x1), some (.int (x2 + v8)), some (.int (x3 + 1))]) (st' := []) rfl ?_
        exact h
theorem eX9_owner_0 {X : a_X} {m : Nat → Nat → Int32} {Q : Option Value → (Nat → Nat → Int32) → Prop} {x1 x2 : Int32} (h : CallI X mX9_in [.long (Int32.toInt64 x1), .long 0, .long 5] m (fun v2 m1 => (¬ v2 = 0 → (¬ x2 = 0 → (¬ x2 = 1 → (¬ x2 = 2 → Q (some (.int (-100000002))) m1) ∧ (x2 = 2 → CallI X mX9_onMany [.ref 77, .int x1] m1 (fun v4 m3 => Q (some (.int v4)) m3))) ∧ (x2 = 1 → vp_in (182 + x1) 800 ∧ Q (some (.int (m1 78 (Int32.toNatClampNeg (182 + x1))))) m1)) ∧ (x2 = 0 → CallI X mX9_worthOf [.ref 77, .int 0, .int x1] m1 (fun v6 m5 => Q (some (.int v6)) m5))) ∧ (v2 = 0 → Q (some (.int (-100000001))) m1))) : Call X mX9_owner [.ref 77, .int x1, .int x2] m Q := by
  unfold Call
  refine Wp.loc (lv' := [some (.ref 77), some (.int x1), some (.int x2)]) rfl ?_
  refine Wp.pk 3 (pc' := 3) (lv' := [some (.ref 77), some (.int x1), some (.int x2)]) (st' := [.long 0, .long (Int32.toInt64 x1)]) rfl ?_
  refine Wp.ldc2 rfl rfl ?_
  refine Wp.callI rfl rfl rfl (CallI.mono h (fun v2 m1 h => ?_))
  refine Wp.if_ne rfl rfl ⟨fun hc => ?_, fun hc => ?_⟩
  · replace h := h.1 hc
    refine Wp.pk 1 (pc' := 16) (lv' := [some (.ref 77), some (.int x1), some (.int x2)]) (st' := [.int x2]) rfl ?_
    refine Wp.if_ne rfl rfl ⟨fun hc => ?_, fun hc => ?_⟩
    · replace h := h.1 hc
      refine Wp.pk 2 (pc' := 30) (lv' := [some (.ref 77), some (.int x1), some (.int x2)]) (st' := [.int 1, .int x2]) rfl ?_
      refine Wp.icmp_ne rfl rfl ⟨fun hc => ?_, fun hc => ?_⟩
      · replace h := h.1 hc
        refine Wp.pk 2 (pc' := 48) (lv' := [some (.ref 77), some (.int x1), some (.int x2)]) (st' := [.int 2, .int x2]) rfl ?_
        refine Wp.icmp_ne rfl rfl ⟨fun hc => ?_, fun hc => ?_⟩
        · replace h := h.1 hc
          refine Wp.ldc rfl rfl ?_
          exact Wp.iret rfl rfl ⟨rfl, h⟩
        · replace h := h.2 hc
          refine Wp.pk 2 (pc' := 53) (lv' := [some (.ref 77), some (.int x1), some (.int x2)]) (st' := [.int x1, .ref 77]) rfl ?_
          refine Wp.callI rfl rfl rfl (CallI.mono h (fun v4 m3 h => ?_))
          refine Wp.pk 1 (pc' := 61) (lv' := [some (.ref 77), some (.int x1), some (.int x2)]) (st' := [.int v4]) rfl ?_
          exact Wp.iret rfl rfl ⟨rfl, h⟩
      · replace h := h.2 hc
        refine Wp.pk 1 (pc' := 34) (lv' := [some (.ref 77), some (.int x1), some (.int x2)]) (st' := [.ref 77]) rfl ?_
        refine Wp.getR rfl rfl sh77 rfl ?_
        refine Wp.pk 3 (pc' := 42) (lv' := [some (.ref 77), some (.int x1), some (.int x2)]) (st' := [.int (182 + x1), .ref 78]) rfl ?_
        refine Wp.iald rfl sh78 ⟨h.1, ?_⟩
        replace h := h.2
        refine Wp.pk 1 (pc' := 61) (lv' := [some (.ref 77), some (.int x1), some (.int x2)]) (st' := [.int (m1 78 (Int32.toNatClampNeg (182 + x1)))]) rfl ?_
        exact Wp.iret rfl rfl ⟨rfl, h⟩
    · replace h := h.2 hc
      refine Wp.pk 3 (pc' := 22) (lv' := [some (.ref 77), some (.int x1), some (.int x2)]) (st' := [.int x1, .int 0, .ref 77]) rfl ?_
      refine Wp.callI rfl rfl rfl (CallI.mono h (fun v6 m5 h => ?_))
      refine Wp.pk 1 (pc' := 61) (lv' := [some (.ref 77), some (.int x1), some (.int x2)]) (st' := [.int v6]) rfl ?_
      exact Wp.iret rfl rfl ⟨rfl, h⟩
  · replace h := h.2 hc
    refine Wp.ldc rfl rfl ?_
    exact Wp.iret rfl rfl ⟨rfl, h⟩
