theorem eX7_lookAt_0 {X : a_X} {m : Nat → Nat → Int32} {Q : Option Value → (Nat → Nat → Int32) → Prop} {s : Nat} (hs : sSight s) {b : Nat} (hb : sBills b) (h : CallV X mJ7_fill_53178 [.ref (s + 2), .int 0] m (fun m1 => CallV X mJ7_fill_53178 [.ref (s + 3), .int 0] m1 (fun m2 => Wp X mX7_lookAt 18 [some (.ref s), some (.ref b), some (.int 0), none, none, none] [] m2 Q))) : Call X mX7_lookAt [.ref s, .ref b] m Q := by
  unfold Call
  refine Wp.loc (lv' := [some (.ref s), some (.ref b), none, none, none, none]) rfl ?_
  refine Wp.pk 1 (pc' := 1) (lv' := [some (.ref s), some (.ref b), none, none, none, none]) (st' := [.ref s]) rfl ?_
  refine Wp.getR rfl rfl hs.1 rfl ?_
  refine Wp.pk 1 (pc' := 5) (lv' := [some (.ref s), some (.ref b), none, none, none, none]) (st' := [.int 0, .ref (s + 2)]) rfl ?_
  refine Wp.callV rfl rfl rfl (CallV.mono h (fun m1 h => ?_))
  refine Wp.pk 1 (pc' := 9) (lv' := [some (.ref s), some (.ref b), none, none, none, none]) (st' := [.ref s]) rfl ?_
  refine Wp.getR rfl rfl hs.1 rfl ?_
  refine Wp.pk 1 (pc' := 13) (lv' := [some (.ref s), some (.ref b), none, none, none, none]) (st' := [.int 0, .ref (s + 3)]) rfl ?_
  refine Wp.callV rfl rfl rfl (CallV.mono h (fun m2 h => ?_))
  refine Wp.pk 2 (pc' := 18) (lv' := [some (.ref s), some (.ref b), some (.int 0), none, none, none]) (st' := []) rfl ?_
  exact h
theorem eX7_lookAt_18 {X : a_X} {m : Nat → Nat → Int32} {Q : Option Value → (Nat → Nat → Int32) → Prop} {s : Nat} (hs : sSight s) {b : Nat} (hb : sBills b) {x2 : Int32} (h : ((m 1 1) ≤ x2 → Q none m) ∧ (¬ (m 1 1) ≤ x2 → Wp X mX7_lookAt 31 [some (.ref s), some (.ref b), some (.int x2), some (.int 0), none, none] [] m Q)) : Wp X mX7_lookAt 18 [some (.ref s), some (.ref b), some (.int x2), none, none, none] [] m Q := by
  refine Wp.pk 2 (pc' := 20) (lv' := [some (.ref s), some (.ref b), some (.int x2), none, none, none]) (st' := [.ref s, .int x2]) rfl ?_
  refine Wp.getR rfl rfl hs.1 rfl ?_
  refine Wp.getI rfl rfl sh1 rfl ?_
  refine Wp.icmp_ge rfl rfl ⟨fun hc => ?_, fun hc => ?_⟩
  · replace h := h.1 hc
    exact Wp.vret rfl rfl h
  · replace h := h.2 hc
    refine Wp.pk 2 (pc' := 31) (lv' := [some (.ref s), some (.ref b), some (.int x2), some (.int 0), none, none]) (st' := []) rfl ?_
    exact h
theorem eX7_lookAt_31 {X : a_X} {m : Nat → Nat → Int32} {Q : Option Value → (Nat → Nat → Int32) → Prop} {s : Nat} (hs : sSight s) {b : Nat} (hb : sBills b) {x2 x3 : Int32} (h : ((m 1 0) ≤ x3 → Wp X mX7_lookAt 18 [some (.ref s), some (.ref b), some (.int (x2 + 1)), none, none, none] [] m Q) ∧ (¬ (m 1 0) ≤ x3 → CallI X mX8_cellAt [.int x3, .int x2] m (fun v2 m1 => CallI X mX0_topAt [.ref b, .int v2] m1 (fun v4 m3 => vp_in v2 128 ∧ ∀ m5, m5 = (a_up m3 (s + 1) (Int32.toNatClampNeg v2) v4) → (v4 = (-1) → Wp X mX7_lookAt 31 [some (.ref s), some (.ref b), some (.int x2), some (.int (x3 + 1)), none, none] [] m5 Q) ∧ (¬ v4 = (-1) → vp_in v4 20 ∧ vp_in v4 20 ∧ ∀ m6, m6 = (a_up m5 (s + 2) (Int32.toNatClampNeg v4) ((m5 (s + 2) (Int32.toNatClampNeg v4)) + 1)) → vp_in v4 20 ∧ vp_in x3 16 ∧ vp_in v4 20 ∧ ∀ m7, m7 = (a_up m6 (s + 3) (Int32.toNatClampNeg v4) ((m6 (s + 3) (Int32.toNatClampNeg v4)) + (m6 2 (Int32.toNatClampNeg x3)))) → Wp X mX7_lookAt 31 [some (.ref s), some (.ref b), some (.int x2), some (.int (x3 + 1)), none, none] [] m7 Q))))) : Wp X mX7_lookAt 31 [some (.ref s), some (.ref b), some (.int x2), some (.int x3), none, none] [] m Q := by
  refine Wp.pk 2 (pc' := 33) (lv' := [some (.ref s), some (.ref b), some (.int x2), some (.int x3), none, none]) (st' := [.ref s, .int x3]) rfl ?_
  refine Wp.getR rfl rfl hs.1 rfl ?_
  refine Wp.getI rfl rfl sh1 rfl ?_
  refine Wp.icmp_ge rfl rfl ⟨fun hc => ?_, fun hc => ?_⟩
  · replace h := h.1 hc
    refine Wp.pk 2 (pc' := 18) (lv' := [some (.ref s), some (.ref b), some (.int (x2 + 1)), some (.int x3), none, none]) (st' := []) rfl ?_
    exact Wp.fgt (lv := [some (.ref s), some (.ref b), some (.int (x2 + 1)), none, none, none]) (a_lle.of (a_lleb_e (a_lleb_e (a_lleb_e (a_lleb_i (a_lleb_e (a_lleb_e trivial))))))) h
  · replace h := h.2 hc
    refine Wp.pk 2 (pc' := 44) (lv' := [some (.ref s), some (.ref b), some (.int x2), some (.int x3), none, none]) (st' := [.int x2, .int x3]) rfl ?_
    refine Wp.callI rfl rfl rfl (CallI.mono h (fun v2 m1 h => ?_))
    refine Wp.pk 3 (pc' := 52) (lv' := [some (.ref s), some (.ref b), some (.int x2), some (.int x3), some (.int v2), none]) (st' := [.int v2, .ref b]) rfl ?_
    refine Wp.callI rfl rfl (a_callV_at rfl rfl rfl hb.1 rfl) (CallI.mono h (fun v4 m3 h => ?_))
    refine Wp.pk 2 (pc' := 58) (lv' := [some (.ref s), some (.ref b), some (.int x2), some (.int x3), some (.int v2), some (.int v4)]) (st' := [.ref s]) rfl ?_
    refine Wp.getR rfl rfl hs.1 rfl ?_
    refine Wp.pk 2 (pc' := 65) (lv' := [some (.ref s), some (.ref b), some (.int x2), some (.int x3), some (.int v2), some (.int v4)]) (st' := [.int v4, .int v2, .ref (s + 1)]) rfl ?_
    refine Wp.iastN rfl hs.2.1 h.1 (fun m5 hm => ?_)
    replace h := h.2 _ hm
    refine Wp.pk 2 (pc' := 69) (lv' := [some (.ref s), some (.ref b), some (.int x2), some (.int x3), some (.int v2), some (.int v4)]) (st' := [.int (-1), .int v4]) rfl ?_
    refine Wp.icmp_eq rfl rfl ⟨fun hc => ?_, fun hc => ?_⟩
    · replace h := h.1 hc
      refine Wp.pk 2 (pc' := 31) (lv' := [some (.ref s), some (.ref b), some (.int x2), some (.int (x3 + 1)), some (.int v2), some (.int v4)]) (st' := []) rfl ?_
      exact Wp.fgt (lv := [some (.ref s), some (.ref b), some (.int x2), some (.int (x3 + 1)), none, none]) (a_lle.of (a_lleb_e (a_lleb_e (a_lleb_e (a_lleb_e (a_lleb_i (a_lleb_i trivial))))))) h
    · replace h := h.2 hc
      refine Wp.pk 1 (pc' := 73) (lv' := [some (.ref s), some (.ref b), some (.int x2), some (.int x3), some (.int v2), some (.int v4)]) (st' := [.ref s]) rfl ?_
      refine Wp.getR rfl rfl hs.1 rfl ?_
      refine Wp.pk 2 (pc' := 79) (lv' := [some (.ref s), some (.ref b), some (.int x2), some (.int x3), some (.int v2), some (.int v4)]) (st' := [.int v4, .ref (s + 2), .int v4, .ref (s + 2)]) rfl ?_
      refine Wp.iald rfl hs.2.2.1 ⟨h.1, ?_⟩
      replace h := h.2
      refine Wp.pk 2 (pc' := 82) (lv' := [some (.ref s), some (.ref b), some (.int x2), some (.int x3), some (.int v2), some (.int v4)]) (st' := [.int ((m5 (s + 2) (Int32.toNatClampNeg v4)) + 1), .int v4, .ref (s + 2)]) rfl ?_
      refine Wp.iastN rfl hs.2.2.1 h.1 (fun m6 hm => ?_)
      replace h := h.2 _ hm
      refine Wp.pk 1 (pc' := 84) (lv' := [some (.ref s), some (.ref b), some (.int x2), some (.int x3), some (.int v2), some (.int v4)]) (st' := [.ref s]) rfl ?_
      refine Wp.getR rfl rfl hs.1 rfl ?_
      refine Wp.pk 2 (pc' := 90) (lv' := [some (.ref s), some (.ref b), some (.int x2), some (.int x3), some (.int v2), some (.int v4)]) (st' := [.int v4, .ref (s + 3), .int v4, .ref (s + 3)]) rfl ?_
      refine Wp.iald rfl hs.2.2.2.1 ⟨h.1, ?_⟩
      replace h := h.2
      refine Wp.pk 1 (pc' := 92) (lv' := [some (.ref s), some (.ref b), some (.int x2), some (.int x3), some (.int v2), some (.int v4)]) (st' := [.ref s, .int (m6 (s + 3) (Int32.toNatClampNeg v4)), .int v4, .ref (s + 3)]) rfl ?_
      refine Wp.getR rfl rfl hs.1 rfl ?_
      refine Wp.getR rfl rfl sh1 rfl ?_
      refine Wp.pk 1 (pc' := 99) (lv' := [some (.ref s), some (.ref b), some (.int x2), some (.int x3), some (.int v2), some (.int v4)]) (st' := [.int x3, .ref 2, .int (m6 (s + 3) (Int32.toNatClampNeg v4)), .int v4, .ref (s + 3)]) rfl ?_
      refine Wp.iald rfl sh2 ⟨h.1, ?_⟩
      replace h := h.2
      refine Wp.pk 1 (pc' := 101) (lv' := [some (.ref s), some (.ref b), some (.int x2), some (.int x3), some (.int v2), some (.int v4)]) (st' := [.int ((m6 (s + 3) (Int32.toNatClampNeg v4)) + (m6 2 (Int32.toNatClampNeg x3))), .int v4, .ref (s + 3)]) rfl ?_
      refine Wp.iastN rfl hs.2.2.2.1 h.1 (fun m7 hm => ?_)
      replace h := h.2 _ hm
      refine Wp.pk 2 (pc' := 31) (lv' := [some (.ref s), some (.ref b), some (.int x2), some (.int (x3 + 1)), some (.int v2), some (.int v4)]) (st' := []) rfl ?_
      exact Wp.fgt (lv := [some (.ref s), some (.ref b), some (.int x2), some (.int (x3 + 1)), none, none]) (a_lle.of (a_lleb_e (a_lleb_e (a_lleb_e (a_lleb_e (a_lleb_i (a_lleb_i trivial))))))) h
theorem eX7_worthOf_0 {X : a_X} {m : Nat → Nat → Int32} {Q : Option Value → (Nat → Nat → Int32) → Prop} {s : Nat} (hs : sSight s) {b : Nat} (hb : sBills b) {x2 : Int32} (h : vp_in x2 20 ∧ CallI X mX0_allCells [.ref b, .int x2] m (fun v2 m1 => CallI X mX5_canRead [.ref 1, .int (m (s + 2) (Int32.toNatClampNeg x2)), .int v2] m1 (fun v4 m3 => (v4 = 0 → Q (some (.int 0)) m3) ∧ (¬ v4 = 0 → vp_in x2 20 ∧ Q (some (.int (m3 (s + 3) (Int32.toNatClampNeg x2)))) m3)))) : Call X mX7_worthOf [.ref s, .ref b, .int x2] m Q := by
  unfold Call
  refine Wp.loc (lv' := [some (.ref s), some (.ref b), some (.int x2)]) rfl ?_
  refine Wp.pk 1 (pc' := 1) (lv' := [some (.ref s), some (.ref b), some (.int x2)]) (st' := [.ref s]) rfl ?_
  refine Wp.getR rfl rfl hs.1 rfl ?_
  refine Wp.pk 1 (pc' := 5) (lv' := [some (.ref s), some (.ref b), some (.int x2)]) (st' := [.ref s, .ref 1]) rfl ?_
  refine Wp.getR rfl rfl hs.1 rfl ?_
  refine Wp.pk 1 (pc' := 9) (lv' := [some (.ref s), some (.ref b), some (.int x2)]) (st' := [.int x2, .ref (s + 2), .ref 1]) rfl ?_
  refine Wp.iald rfl hs.2.2.1 ⟨h.1, ?_⟩
  replace h := h.2
  refine Wp.pk 2 (pc' := 12) (lv' := [some (.ref s), some (.ref b), some (.int x2)]) (st' := [.int x2, .ref b, .int (m (s + 2) (Int32.toNatClampNeg x2)), .ref 1]) rfl ?_
  refine Wp.callI rfl rfl (a_callV_at rfl rfl rfl hb.1 rfl) (CallI.mono h (fun v2 m1 h => ?_))
  refine Wp.callI rfl rfl rfl (CallI.mono h (fun v4 m3 h => ?_))
  refine Wp.if_eq rfl rfl ⟨fun hc => ?_, fun hc => ?_⟩
  · replace h := h.1 hc
    refine Wp.pk 1 (pc' := 31) (lv' := [some (.ref s), some (.ref b), some (.int x2)]) (st' := [.int 0]) rfl ?_
    exact Wp.iret rfl rfl ⟨rfl, h⟩
  · replace h := h.2 hc
    refine Wp.pk 1 (pc' := 22) (lv' := [some (.ref s), some (.ref b), some (.int x2)]) (st' := [.ref s]) rfl ?_
    refine Wp.getR rfl rfl hs.1 rfl ?_
    refine Wp.pk 1 (pc' := 26) (lv' := [some (.ref s), some (.ref b), some (.int x2)]) (st' := [.int x2, .ref (s + 3)]) rfl ?_
    refine Wp.iald rfl hs.2.2.2.1 ⟨h.1, ?_⟩
    replace h := h.2
    refine Wp.pk 1 (pc' := 31) (lv' := [some (.ref s), some (.ref b), some (.int x2)]) (st' := [.int (m3 (s + 3) (Int32.toNatClampNeg x2))]) rfl ?_
    exact Wp.iret rfl rfl ⟨rfl, h⟩
theorem eX7_worthOfOwner_0 {X : a_X} {m : Nat → Nat → Int32} {Q : Option Value → (Nat → Nat → Int32) → Prop} {s : Nat} (hs : sSight s) {b : Nat} (hb : sBills b) {x2 : Int32} (h : Wp X mX7_worthOfOwner 5 [some (.ref s), some (.ref b), some (.int x2), some (.int 0), some (.int 0)] [] m Q) : Call X mX7_worthOfOwner [.ref s, .ref b, .int x2] m Q := by
  unfold Call
  refine Wp.loc (lv' := [some (.ref s), some (.ref b), some (.int x2), none, none]) rfl ?_
  refine Wp.pk 4 (pc' := 5) (lv' := [some (.ref s), some (.ref b), some (.int x2), some (.int 0), some (.int 0)]) (st' := []) rfl ?_
  exact h
theorem eX7_worthOfOwner_5 {X : a_X} {m : Nat → Nat → Int32} {Q : Option Value → (Nat → Nat → Int32) → Prop} {s : Nat} (hs : sSight s) {b : Nat} (hb : sBills b) {x2 x3 x4 : Int32} (h : ((m b 1) ≤ x4 → Q (some (.int x3)) m) ∧ (¬ (m b 1) ≤ x4 → CallI X mX0_ownerOf [.ref b, .int x4] m (fun v2 m1 => (¬ v2 = x2 → Wp X mX7_worthOfOwner 5 [some (.ref s), some (.ref b), some (.int x2), some (.int x3), some (.int (x4 + 1))] [] m1 Q) ∧ (v2 = x2 → CallI X mX7_worthOf [.ref s, .ref b, .int x4] m1 (fun v4 m3 => Wp X mX7_worthOfOwner 5 [some (.ref s), some (.ref b), some (.int x2), some (.int (x3 + v4)), some (.int (x4 + 1))] [] m3 Q))))) : Wp X mX7_worthOfOwner 5 [some (.ref s), some (.ref b), some (.int x2), some (.int x3), some (.int x4)] [] m Q := by
  refine Wp.pk 2 (pc' := 8) (lv' := [some (.ref s), some (.ref b), some (.int x2), some (.int x3), some (.int x4)]) (st' := [.ref b, .int x4]) rfl ?_
  refine Wp.getI rfl rfl hb.1 rfl ?_
  refine Wp.icmp_ge rfl rfl ⟨fun hc => ?_, fun hc => ?_⟩
  · replace h := h.1 hc
    refine Wp.pk 1 (pc' := 41) (lv' := [some (.ref s), some (.ref b), some (.int x2), some (.int x3), some (.int x4)]) (st' := [.int x3]) rfl ?_
    exact Wp.iret rfl rfl ⟨rfl, h⟩
  · replace h := h.2 hc
    refine Wp.pk 2 (pc' := 17) (lv' := [some (.ref s), some (.ref b), some (.int x2), some (.int x3), some (.int x4)]) (st' := [.int x4, .ref b]) rfl ?_
    refine Wp.callI rfl rfl (a_callV_at rfl rfl rfl hb.1 rfl) (CallI.mono h (fun v2 m1 h => ?_))
    refine Wp.pk 1 (pc' := 21) (lv' := [some (.ref s), some (.ref b), some (.int x2), some (.int x3), some (.int x4)]) (st' := [.int x2, .int v2]) rfl ?_
    refine Wp.icmp_ne rfl rfl ⟨fun hc => ?_, fun hc => ?_⟩
    · replace h := h.1 hc
      refine Wp.pk 2 (pc' := 5) (lv' := [some (.ref s), some (.ref b), some (.int x2), some (.int x3), some (.int (x4 + 1))]) (st' := []) rfl ?_
      exact h
    · replace h := h.2 hc
      refine Wp.pk 4 (pc' := 29) (lv' := [some (.ref s), some (.ref b), some (.int x2), some (.int x3), some (.int x4)]) (st' := [.int x4, .ref b, .ref s, .int x3]) rfl ?_
      refine Wp.callI rfl rfl (a_callV_at rfl rfl rfl hs.1 rfl) (CallI.mono h (fun v4 m3 h => ?_))
      refine Wp.pk 4 (pc' := 5) (lv' := [some (.ref s), some (.ref b), some (.int x2), some (.int (x3 + v4)), some (.int (x4 + 1))]) (st' := []) rfl ?_
      exact h
theorem eX7_weigh_0 {X : a_X} {m : Nat → Nat → Int32} {Q : Option Value → (Nat → Nat → Int32) → Prop} {s : Nat} (hs : sSight s) {b : Nat} (hb : sBills b) {x2 x3 x4 : Int32} (h : CallI X mX7_hide [.ref s, .int x2, .int x3, .int x4] m (fun v2 m1 => ∀ m3, m3 = (a_up m1 s 7 0) → CallI X mX5_passersOf [.ref 1, .int x2, .int x3] m3 (fun v5 m4 => ∀ m6, m6 = (a_up m4 s 6 v5) → (¬ v2 = 0 → Wp X mX7_weigh 37 [some (.ref s), some (.ref b), some (.int x2), none, none, some (.int v2), some (.int 0)] [] m6 Q) ∧ (v2 = 0 → Q none m6)))) : Call X mX7_weigh [.ref s, .ref b, .int x2, .int x3, .int x4] m Q := by
  unfold Call
  refine Wp.loc (lv' := [some (.ref s), some (.ref b), some (.int x2), some (.int x3), some (.int x4), none, none]) rfl ?_
  refine Wp.pk 4 (pc' := 5) (lv' := [some (.ref s), some (.ref b), some (.int x2), some (.int x3), some (.int x4), none, none]) (st' := [.int x4, .int x3, .int x2, .ref s]) rfl ?_
  refine Wp.callI rfl rfl (a_callV_at rfl rfl rfl hs.1 rfl) (CallI.mono h (fun v2 m1 h => ?_))
  refine Wp.pk 3 (pc' := 12) (lv' := [some (.ref s), some (.ref b), some (.int x2), some (.int x3), some (.int x4), some (.int v2), none]) (st' := [.int 0, .ref s]) rfl ?_
  refine Wp.putN rfl rfl hs.1 rfl rfl (fun m3 hm => ?_)
  replace h := h _ hm
  refine Wp.pk 2 (pc' := 17) (lv' := [some (.ref s), some (.ref b), some (.int x2), some (.int x3), some (.int x4), some (.int v2), none]) (st' := [.ref s, .ref s]) rfl ?_
  refine Wp.getR rfl rfl hs.1 rfl ?_
  refine Wp.pk 2 (pc' := 22) (lv' := [some (.ref s), some (.ref b), some (.int x2), some (.int x3), some (.int x4), some (.int v2), none]) (st' := [.int x3, .int x2, .ref 1, .ref s]) rfl ?_
  refine Wp.callI rfl rfl rfl (CallI.mono h (fun v5 m4 h => ?_))
  refine Wp.putN rfl rfl hs.1 rfl rfl (fun m6 hm => ?_)
  replace h := h _ hm
  refine Wp.pk 1 (pc' := 30) (lv' := [some (.ref s), some (.ref b), some (.int x2), some (.int x3), some (.int x4), some (.int v2), none]) (st' := [.int v2]) rfl ?_
  refine Wp.if_ne rfl rfl ⟨fun hc => ?_, fun hc => ?_⟩
  · replace h := h.1 hc
    refine Wp.pk 2 (pc' := 37) (lv' := [some (.ref s), some (.ref b), some (.int x2), some (.int x3), some (.int x4), some (.int v2), some (.int 0)]) (st' := []) rfl ?_
    exact Wp.fgt (lv := [some (.ref s), some (.ref b), some (.int x2), none, none, some (.int v2), some (.int 0)]) (a_lle.of (a_lleb_e (a_lleb_e (a_lleb_e (a_lleb_i (a_lleb_i (a_lleb_e (a_lleb_e trivial)))))))) h
  · replace h := h.2 hc
    exact Wp.vret rfl rfl h
theorem eX7_weigh_37 {X : a_X} {m : Nat → Nat → Int32} {Q : Option Value → (Nat → Nat → Int32) → Prop} {s : Nat} (hs : sSight s) {b : Nat} (hb : sBills b) {x2 x5 x6 : Int32} (h : ((m b 1) ≤ x6 → ∀ m1, m1 = (a_up m s 6 ((m s 6) - (m s 7))) → Q none m1) ∧ (¬ (m b 1) ≤ x6 → CallI X mX8_isIn [.int x5, .int x6] m (fun v3 m2 => (v3 = 0 → Wp X mX7_weigh 37 [some (.ref s), some (.ref b), some (.int x2), none, none, some (.int x5), some (.int (x6 + 1))] [] m2 Q) ∧ (¬ v3 = 0 → vp_in x2 12 ∧ CallV X mX7_weighLoss [.ref s, .ref b, .int x6, .int (m2 4 (Int32.toNatClampNeg x2))] m2 (fun m4 => vp_in x6 20 ∧ ∀ m5, m5 = (a_up m4 (s + 4) (Int32.toNatClampNeg x6) 0) → vp_in x6 20 ∧ ∀ m6, m6 = (a_up m5 (s + 5) (Int32.toNatClampNeg x6) 0) → Wp X mX7_weigh 37 [some (.ref s), some (.ref b), some (.int x2), none, none, some (.int x5), some (.int (x6 + 1))] [] m6 Q))))) : Wp X mX7_weigh 37 [some (.ref s), some (.ref b), some (.int x2), none, none, some (.int x5), some (.int x6)] [] m Q := by
  refine Wp.pk 2 (pc' := 40) (lv' := [some (.ref s), some (.ref b), some (.int x2), none, none, some (.int x5), some (.int x6)]) (st' := [.ref b, .int x6]) rfl ?_
  refine Wp.getI rfl rfl hb.1 rfl ?_
  refine Wp.icmp_ge rfl rfl ⟨fun hc => ?_, fun hc => ?_⟩
  · replace h := h.1 hc
    refine Wp.pk 2 (pc' := 96) (lv' := [some (.ref s), some (.ref b), some (.int x2), none, none, some (.int x5), some (.int x6)]) (st' := [.ref s, .ref s]) rfl ?_
    refine Wp.getI rfl rfl hs.1 rfl ?_
    refine Wp.pk 1 (pc' := 100) (lv' := [some (.ref s), some (.ref b), some (.int x2), none, none, some (.int x5), some (.int x6)]) (st' := [.ref s, .int (m s 6), .ref s]) rfl ?_
    refine Wp.getI rfl rfl hs.1 rfl ?_
    refine Wp.pk 1 (pc' := 104) (lv' := [some (.ref s), some (.ref b), some (.int x2), none, none, some (.int x5), some (.int x6)]) (st' := [.int ((m s 6) - (m s 7)), .ref s]) rfl ?_
    refine Wp.putN rfl rfl hs.1 rfl rfl (fun m1 hm => ?_)
    replace h := h _ hm
    exact Wp.vret rfl rfl h
  · replace h := h.2 hc
    refine Wp.pk 2 (pc' := 50) (lv' := [some (.ref s), some (.ref b), some (.int x2), none, none, some (.int x5), some (.int x6)]) (st' := [.int x6, .int x5]) rfl ?_
    refine Wp.callI rfl rfl rfl (CallI.mono h (fun v3 m2 h => ?_))
    refine Wp.if_eq rfl rfl ⟨fun hc => ?_, fun hc => ?_⟩
    · replace h := h.1 hc
      refine Wp.pk 2 (pc' := 37) (lv' := [some (.ref s), some (.ref b), some (.int x2), none, none, some (.int x5), some (.int (x6 + 1))]) (st' := []) rfl ?_
      exact h
    · replace h := h.2 hc
      refine Wp.pk 4 (pc' := 61) (lv' := [some (.ref s), some (.ref b), some (.int x2), none, none, some (.int x5), some (.int x6)]) (st' := [.ref s, .int x6, .ref b, .ref s]) rfl ?_
      refine Wp.getR rfl rfl hs.1 rfl ?_
      refine Wp.getR rfl rfl sh1 rfl ?_
      refine Wp.pk 1 (pc' := 68) (lv' := [some (.ref s), some (.ref b), some (.int x2), none, none, some (.int x5), some (.int x6)]) (st' := [.int x2, .ref 4, .int x6, .ref b, .ref s]) rfl ?_
      refine Wp.iald rfl sh4 ⟨h.1, ?_⟩
      replace h := h.2
      refine Wp.callV rfl rfl (a_callV_at rfl rfl rfl hs.1 rfl) (CallV.mono h (fun m4 h => ?_))
      refine Wp.pk 1 (pc' := 73) (lv' := [some (.ref s), some (.ref b), some (.int x2), none, none, some (.int x5), some (.int x6)]) (st' := [.ref s]) rfl ?_
      refine Wp.getR rfl rfl hs.1 rfl ?_
      refine Wp.pk 2 (pc' := 79) (lv' := [some (.ref s), some (.ref b), some (.int x2), none, none, some (.int x5), some (.int x6)]) (st' := [.int 0, .int x6, .ref (s + 4)]) rfl ?_
      refine Wp.iastN rfl hs.2.2.2.2.1 h.1 (fun m5 hm => ?_)
      replace h := h.2 _ hm
      refine Wp.pk 1 (pc' := 81) (lv' := [some (.ref s), some (.ref b), some (.int x2), none, none, some (.int x5), some (.int x6)]) (st' := [.ref s]) rfl ?_
      refine Wp.getR rfl rfl hs.1 rfl ?_
      refine Wp.pk 2 (pc' := 87) (lv' := [some (.ref s), some (.ref b), some (.int x2), none, none, some (.int x5), some (.int x6)]) (st' := [.int 0, .int x6, .ref (s + 5)]) rfl ?_
      refine Wp.iastN rfl hs.2.2.2.2.2 h.1 (fun m6 hm => ?_)
      replace h := h.2 _ hm
      refine Wp.pk 2 (pc' := 37) (lv' := [some (.ref s), some (.ref b), some (.int x2), none, none, some (.int x5), some (.int (x6 + 1))]) (st' := []) rfl ?_
      exact h
theorem eX7_hide_0 {X : a_X} {m : Nat → Nat → Int32} {Q : Option Value → (Nat → Nat → Int32) → Prop} {s : Nat} (hs : sSight s) {x1 x2 x3 : Int32} (h : vp_in x1 12 ∧ vp_in x1 12 ∧ Wp X mX7_hide 32 [some (.ref s), none, some (.int x2), none, some (.int 0), some (.int (x3 + (m 6 (Int32.toNatClampNeg x1)))), some (.int (x2 + (m 5 (Int32.toNatClampNeg x1)))), some (.int x3), none, none] [] m Q) : Call X mX7_hide [.ref s, .int x1, .int x2, .int x3] m Q := by
  unfold Call
  refine Wp.loc (lv' := [some (.ref s), some (.int x1), some (.int x2), some (.int x3), none, none, none, none, none, none]) rfl ?_
  refine Wp.pk 4 (pc' := 5) (lv' := [some (.ref s), some (.int x1), some (.int x2), some (.int x3), some (.int 0), none, none, none, none, none]) (st' := [.ref s, .int x3]) rfl ?_
  refine Wp.getR rfl rfl hs.1 rfl ?_
  refine Wp.getR rfl rfl sh1 rfl ?_
  refine Wp.pk 1 (pc' := 12) (lv' := [some (.ref s), some (.int x1), some (.int x2), some (.int x3), some (.int 0), none, none, none, none, none]) (st' := [.int x1, .ref 6, .int x3]) rfl ?_
  refine Wp.iald rfl sh6 ⟨h.1, ?_⟩
  replace h := h.2
  refine Wp.pk 4 (pc' := 18) (lv' := [some (.ref s), some (.int x1), some (.int x2), some (.int x3), some (.int 0), some (.int (x3 + (m 6 (Int32.toNatClampNeg x1)))), none, none, none, none]) (st' := [.ref s, .int x2]) rfl ?_
  refine Wp.getR rfl rfl hs.1 rfl ?_
  refine Wp.getR rfl rfl sh1 rfl ?_
  refine Wp.pk 1 (pc' := 25) (lv' := [some (.ref s), some (.int x1), some (.int x2), some (.int x3), some (.int 0), some (.int (x3 + (m 6 (Int32.toNatClampNeg x1)))), none, none, none, none]) (st' := [.int x1, .ref 5, .int x2]) rfl ?_
  refine Wp.iald rfl sh5 ⟨h.1, ?_⟩
  replace h := h.2
  refine Wp.pk 4 (pc' := 32) (lv' := [some (.ref s), some (.int x1), some (.int x2), some (.int x3), some (.int 0), some (.int (x3 + (m 6 (Int32.toNatClampNeg x1)))), some (.int (x2 + (m 5 (Int32.toNatClampNeg x1)))), some (.int x3), none, none]) (st' := []) rfl ?_
  exact Wp.fgt (lv := [some (.ref s), none, some (.int x2), none, some (.int 0), some (.int (x3 + (m 6 (Int32.toNatClampNeg x1)))), some (.int (x2 + (m 5 (Int32.toNatClampNeg x1)))), some (.int x3), none, none]) (a_lle.of (a_lleb_e (a_lleb_i (a_lleb_e (a_lleb_i (a_lleb_e (a_lleb_e (a_lleb_e (a_lleb_e (a_lleb_e (a_lleb_e trivial))))))))))) h
theorem eX7_hide_32 {X : a_X} {m : Nat → Nat → Int32} {Q : Option Value → (Nat → Nat → Int32) → Prop} {s : Nat} (hs : sSight s) {x2 x4 x5 x6 x7 : Int32} (h : (x5 ≤ x7 → Q (some (.int x4)) m) ∧ (¬ x5 ≤ x7 → Wp X mX7_hide 42 [some (.ref s), none, some (.int x2), none, some (.int x4), some (.int x5), some (.int x6), some (.int x7), some (.int x2), none] [] m Q)) : Wp X mX7_hide 32 [some (.ref s), none, some (.int x2), none, some (.int x4), some (.int x5), some (.int x6), some (.int x7), none, none] [] m Q := by
  refine Wp.pk 2 (pc' := 36) (lv' := [some (.ref s), none, some (.int x2), none, some (.int x4), some (.int x5), some (.int x6), some (.int x7), none, none]) (st' := [.int x5, .int x7]) rfl ?_
  refine Wp.icmp_ge rfl rfl ⟨fun hc => ?_, fun hc => ?_⟩
  · replace h := h.1 hc
    refine Wp.pk 1 (pc' := 123) (lv' := [some (.ref s), none, some (.int x2), none, some (.int x4), some (.int x5), some (.int x6), some (.int x7), none, none]) (st' := [.int x4]) rfl ?_
    exact Wp.iret rfl rfl ⟨rfl, h⟩
  · replace h := h.2 hc
    refine Wp.pk 2 (pc' := 42) (lv' := [some (.ref s), none, some (.int x2), none, some (.int x4), some (.int x5), some (.int x6), some (.int x7), some (.int x2), none]) (st' := []) rfl ?_
    exact h
theorem eX7_hide_42 {X : a_X} {m : Nat → Nat → Int32} {Q : Option Value → (Nat → Nat → Int32) → Prop} {s : Nat} (hs : sSight s) {x2 x4 x5 x6 x7 x8 : Int32} (h : (x6 ≤ x8 → Wp X mX7_hide 32 [some (.ref s), none, some (.int x2), none, some (.int x4), some (.int x5), some (.int x6), some (.int (x7 + 1)), none, none] [] m Q) ∧ (¬ x6 ≤ x8 → CallI X mX8_cellAt [.int x8, .int x7] m (fun v2 m1 => vp_in v2 128 ∧ ((m1 (s + 1) (Int32.toNatClampNeg v2)) = (-1) → Wp X mX7_hide 42 [some (.ref s), none, some (.int x2), none, some (.int x4), some (.int x5), some (.int x6), some (.int x7), some (.int (x8 + 1)), none] [] m1 Q) ∧ (¬ (m1 (s + 1) (Int32.toNatClampNeg v2)) = (-1) → vp_in (m1 (s + 1) (Int32.toNatClampNeg v2)) 20 ∧ vp_in (m1 (s + 1) (Int32.toNatClampNeg v2)) 20 ∧ ∀ m3, m3 = (a_up m1 (s + 4) (Int32.toNatClampNeg (m1 (s + 1) (Int32.toNatClampNeg v2))) ((m1 (s + 4) (Int32.toNatClampNeg (m1 (s + 1) (Int32.toNatClampNeg v2)))) + 1)) → vp_in (m1 (s + 1) (Int32.toNatClampNeg v2)) 20 ∧ vp_in x8 16 ∧ vp_in (m1 (s + 1) (Int32.toNatClampNeg v2)) 20 ∧ ∀ m4, m4 = (a_up m3 (s + 5) (Int32.toNatClampNeg (m1 (s + 1) (Int32.toNatClampNeg v2))) ((m3 (s + 5) (Int32.toNatClampNeg (m1 (s + 1) (Int32.toNatClampNeg v2)))) + (m3 2 (Int32.toNatClampNeg x8)))) → Wp X mX7_hide 42 [some (.ref s), none, some (.int x2), none, some (.int (x4 ||| (1 <<< ((m1 (s + 1) (Int32.toNatClampNeg v2)) &&& 31)))), some (.int x5), some (.int x6), some (.int x7), some (.int (x8 + 1)), none] [] m4 Q)))) : Wp X mX7_hide 42 [some (.ref s), none, some (.int x2), none, some (.int x4), some (.int x5), some (.int x6), some (.int x7), some (.int x8), none] [] m Q := by
  refine Wp.pk 2 (pc' := 46) (lv' := [some (.ref s), none, some (.int x2), none, some (.int x4), some (.int x5), some (.int x6), some (.int x7), some (.int x8), none]) (st' := [.int x6, .int x8]) rfl ?_
  refine Wp.icmp_ge rfl rfl ⟨fun hc => ?_, fun hc => ?_⟩
  · replace h := h.1 hc
    refine Wp.pk 2 (pc' := 32) (lv' := [some (.ref s), none, some (.int x2), none, some (.int x4), some (.int x5), some (.int x6), some (.int (x7 + 1)), some (.int x8), none]) (st' := []) rfl ?_
    exact Wp.fgt (lv := [some (.ref s), none, some (.int x2), none, some (.int x4), some (.int x5), some (.int x6), some (.int (x7 + 1)), none, none]) (a_lle.of (a_lleb_e (a_lleb_e (a_lleb_e (a_lleb_e (a_lleb_e (a_lleb_e (a_lleb_e (a_lleb_e (a_lleb_i (a_lleb_e trivial))))))))))) h
  · replace h := h.2 hc
    refine Wp.pk 1 (pc' := 50) (lv' := [some (.ref s), none, some (.int x2), none, some (.int x4), some (.int x5), some (.int x6), some (.int x7), some (.int x8), none]) (st' := [.ref s]) rfl ?_
    refine Wp.getR rfl rfl hs.1 rfl ?_
    refine Wp.pk 2 (pc' := 57) (lv' := [some (.ref s), none, some (.int x2), none, some (.int x4), some (.int x5), some (.int x6), some (.int x7), some (.int x8), none]) (st' := [.int x7, .int x8, .ref (s + 1)]) rfl ?_
    refine Wp.callI rfl rfl rfl (CallI.mono h (fun v2 m1 h => ?_))
    refine Wp.iald rfl hs.2.1 ⟨h.1, ?_⟩
    replace h := h.2
    refine Wp.pk 3 (pc' := 66) (lv' := [some (.ref s), none, some (.int x2), none, some (.int x4), some (.int x5), some (.int x6), some (.int x7), some (.int x8), some (.int (m1 (s + 1) (Int32.toNatClampNeg v2)))]) (st' := [.int (-1), .int (m1 (s + 1) (Int32.toNatClampNeg v2))]) rfl ?_
    refine Wp.icmp_eq rfl rfl ⟨fun hc => ?_, fun hc => ?_⟩
    · replace h := h.1 hc
      refine Wp.pk 2 (pc' := 42) (lv' := [some (.ref s), none, some (.int x2), none, some (.int x4), some (.int x5), some (.int x6), some (.int x7), some (.int (x8 + 1)), some (.int (m1 (s + 1) (Int32.toNatClampNeg v2)))]) (st' := []) rfl ?_
      exact Wp.fgt (lv := [some (.ref s), none, some (.int x2), none, some (.int x4), some (.int x5), some (.int x6), some (.int x7), some (.int (x8 + 1)), none]) (a_lle.of (a_lleb_e (a_lleb_e (a_lleb_e (a_lleb_e (a_lleb_e (a_lleb_e (a_lleb_e (a_lleb_e (a_lleb_e (a_lleb_i trivial))))))))))) h
    · replace h := h.2 hc
      refine Wp.pk 7 (pc' := 79) (lv' := [some (.ref s), none, some (.int x2), none, some (.int (x4 ||| (1 <<< ((m1 (s + 1) (Int32.toNatClampNeg v2)) &&& 31)))), some (.int x5), some (.int x6), some (.int x7), some (.int x8), some (.int (m1 (s + 1) (Int32.toNatClampNeg v2)))]) (st' := [.ref s]) rfl ?_
      refine Wp.getR rfl rfl hs.1 rfl ?_
      refine Wp.pk 2 (pc' := 85) (lv' := [some (.ref s), none, some (.int x2), none, some (.int (x4 ||| (1 <<< ((m1 (s + 1) (Int32.toNatClampNeg v2)) &&& 31)))), some (.int x5), some (.int x6), some (.int x7), some (.int x8), some (.int (m1 (s + 1) (Int32.toNatClampNeg v2)))]) (st' := [.int (m1 (s + 1) (Int32.toNatClampNeg v2)), .ref (s + 4), .int (m1 (s + 1) (Int32.toNatClampNeg v2)), .ref (s + 4)]) rfl ?_
      refine Wp.iald rfl hs.2.2.2.2.1 ⟨h.1, ?_⟩
      replace h := h.2
      refine Wp.pk 2 (pc' := 88) (lv' := [some (.ref s), none, some (.int x2), none, some (.int (x4 ||| (1 <<< ((m1 (s + 1) (Int32.toNatClampNeg v2)) &&& 31)))), some (.int x5), some (.int x6), some (.int x7), some (.int x8), some (.int (m1 (s + 1) (Int32.toNatClampNeg v2)))]) (st' := [.int ((m1 (s + 4) (Int32.toNatClampNeg (m1 (s + 1) (Int32.toNatClampNeg v2)))) + 1), .int (m1 (s + 1) (Int32.toNatClampNeg v2)), .ref (s + 4)]) rfl ?_
      refine Wp.iastN rfl hs.2.2.2.2.1 h.1 (fun m3 hm => ?_)
      replace h := h.2 _ hm
      refine Wp.pk 1 (pc' := 90) (lv' := [some (.ref s), none, some (.int x2), none, some (.int (x4 ||| (1 <<< ((m1 (s + 1) (Int32.toNatClampNeg v2)) &&& 31)))), some (.int x5), some (.int x6), some (.int x7), some (.int x8), some (.int (m1 (s + 1) (Int32.toNatClampNeg v2)))]) (st' := [.ref s]) rfl ?_
      refine Wp.getR rfl rfl hs.1 rfl ?_
      refine Wp.pk 2 (pc' := 96) (lv' := [some (.ref s), none, some (.int x2), none, some (.int (x4 ||| (1 <<< ((m1 (s + 1) (Int32.toNatClampNeg v2)) &&& 31)))), some (.int x5), some (.int x6), some (.int x7), some (.int x8), some (.int (m1 (s + 1) (Int32.toNatClampNeg v2)))]) (st' := [.int (m1 (s + 1) (Int32.toNatClampNeg v2)), .ref (s + 5), .int (m1 (s + 1) (Int32.toNatClampNeg v2)), .ref (s + 5)]) rfl ?_
      refine Wp.iald rfl hs.2.2.2.2.2 ⟨h.1, ?_⟩
      replace h := h.2
      refine Wp.pk 1 (pc' := 98) (lv' := [some (.ref s), none, some (.int x2), none, some (.int (x4 ||| (1 <<< ((m1 (s + 1) (Int32.toNatClampNeg v2)) &&& 31)))), some (.int x5), some (.int x6), some (.int x7), some (.int x8), some (.int (m1 (s + 1) (Int32.toNatClampNeg v2)))]) (st' := [.ref s, .int (m3 (s + 5) (Int32.toNatClampNeg (m1 (s + 1) (Int32.toNatClampNeg v2)))), .int (m1 (s + 1) (Int32.toNatClampNeg v2)), .ref (s + 5)]) rfl ?_
      refine Wp.getR rfl rfl hs.1 rfl ?_
      refine Wp.getR rfl rfl sh1 rfl ?_
      refine Wp.pk 1 (pc' := 106) (lv' := [some (.ref s), none, some (.int x2), none, some (.int (x4 ||| (1 <<< ((m1 (s + 1) (Int32.toNatClampNeg v2)) &&& 31)))), some (.int x5), some (.int x6), some (.int x7), some (.int x8), some (.int (m1 (s + 1) (Int32.toNatClampNeg v2)))]) (st' := [.int x8, .ref 2, .int (m3 (s + 5) (Int32.toNatClampNeg (m1 (s + 1) (Int32.toNatClampNeg v2)))), .int (m1 (s + 1) (Int32.toNatClampNeg v2)), .ref (s + 5)]) rfl ?_
      refine Wp.iald rfl sh2 ⟨h.1, ?_⟩
      replace h := h.2
      refine Wp.pk 1 (pc' := 108) (lv' := [some (.ref s), none, some (.int x2), none, some (.int (x4 ||| (1 <<< ((m1 (s + 1) (Int32.toNatClampNeg v2)) &&& 31)))), some (.int x5), some (.int x6), some (.int x7), some (.int x8), some (.int (m1 (s + 1) (Int32.toNatClampNeg v2)))]) (st' := [.int ((m3 (s + 5) (Int32.toNatClampNeg (m1 (s + 1) (Int32.toNatClampNeg v2)))) + (m3 2 (Int32.toNatClampNeg x8))), .int (m1 (s + 1) (Int32.toNatClampNeg v2)), .ref (s + 5)]) rfl ?_
      refine Wp.iastN rfl hs.2.2.2.2.2 h.1 (fun m4 hm => ?_)
      replace h := h.2 _ hm
      refine Wp.pk 2 (pc' := 42) (lv' := [some (.ref s), none, some (.int x2), none, some (.int (x4 ||| (1 <<< ((m1 (s + 1) (Int32.toNatClampNeg v2)) &&& 31)))), some (.int x5), some (.int x6), some (.int x7), some (.int (x8 + 1)), some (.int (m1 (s + 1) (Int32.toNatClampNeg v2)))]) (st' := []) rfl ?_
      exact Wp.fgt (lv := [some (.ref s), none, some (.int x2), none, some (.int (x4 ||| (1 <<< ((m1 (s + 1) (Int32.toNatClampNeg v2)) &&& 31)))), some (.int x5), some (.int x6), some (.int x7), some (.int (x8 + 1)), none]) (a_lle.of (a_lleb_e (a_lleb_e (a_lleb_e (a_lleb_e (a_lleb_e (a_lleb_e (a_lleb_e (a_lleb_e (a_lleb_e (a_lleb_i trivial))))))))))) h
theorem eX7_weighLoss_0 {X : a_X} {m : Nat → Nat → Int32} {Q : Option Value → (Nat → Nat → Int32) → Prop} {s : Nat} (hs : sSight s) {b : Nat} (hb : sBills b) {x2 x3 : Int32} (h : CallI X mX0_ownerOf [.ref b, .int x2] m (fun v2 m1 => (¬ v2 = x3 → vp_in x2 20 ∧ ((m1 1 2) ≤ ((m1 b 2) - (m1 (b + 4) (Int32.toNatClampNeg x2))) → Q none m1) ∧ (¬ (m1 1 2) ≤ ((m1 b 2) - (m1 (b + 4) (Int32.toNatClampNeg x2))) → ∀ m3, m3 = (a_up m1 s 7 ((m1 s 7) + (m1 1 3))) → Q none m3)) ∧ (v2 = x3 → CallI X mX0_allCells [.ref b, .int x2] m1 (fun v5 m4 => vp_in x2 20 ∧ CallI X mX5_canRead [.ref 1, .int (m4 (s + 2) (Int32.toNatClampNeg x2)), .int v5] m4 (fun v7 m6 => (v7 = 0 → ∀ m8, m8 = (a_up m6 s 6 ((m4 s 6) - 0)) → vp_in x2 20 ∧ vp_in x2 20 ∧ CallI X mX5_canRead [.ref 1, .int ((m8 (s + 2) (Int32.toNatClampNeg x2)) - (m8 (s + 4) (Int32.toNatClampNeg x2))), .int v5] m8 (fun v10 m9 => (v10 = 0 → ∀ m11, m11 = (a_up m9 s 6 ((m8 s 6) + 0)) → Q none m11) ∧ (¬ v10 = 0 → vp_in x2 20 ∧ vp_in x2 20 ∧ ∀ m12, m12 = (a_up m9 s 6 ((m8 s 6) + ((m9 (s + 3) (Int32.toNatClampNeg x2)) - (m9 (s + 5) (Int32.toNatClampNeg x2))))) → Q none m12))) ∧ (¬ v7 = 0 → vp_in x2 20 ∧ ∀ m13, m13 = (a_up m6 s 6 ((m4 s 6) - (m6 (s + 3) (Int32.toNatClampNeg x2)))) → vp_in x2 20 ∧ vp_in x2 20 ∧ CallI X mX5_canRead [.ref 1, .int ((m13 (s + 2) (Int32.toNatClampNeg x2)) - (m13 (s + 4) (Int32.toNatClampNeg x2))), .int v5] m13 (fun v15 m14 => (v15 = 0 → ∀ m16, m16 = (a_up m14 s 6 ((m13 s 6) + 0)) → Q none m16) ∧ (¬ v15 = 0 → vp_in x2 20 ∧ vp_in x2 20 ∧ ∀ m17, m17 = (a_up m14 s 6 ((m13 s 6) + ((m14 (s + 3) (Int32.toNatClampNeg x2)) - (m14 (s + 5) (Int32.toNatClampNeg x2))))) → Q none m17)))))))) : Call X mX7_weighLoss [.ref s, .ref b, .int x2, .int x3] m Q := by
  unfold Call
  refine Wp.loc (lv' := [some (.ref s), some (.ref b), some (.int x2), some (.int x3), none]) rfl ?_
  refine Wp.pk 2 (pc' := 2) (lv' := [some (.ref s), some (.ref b), some (.int x2), some (.int x3), none]) (st' := [.int x2, .ref b]) rfl ?_
  refine Wp.callI rfl rfl (a_callV_at rfl rfl rfl hb.1 rfl) (CallI.mono h (fun v2 m1 h => ?_))
  refine Wp.pk 1 (pc' := 6) (lv' := [some (.ref s), some (.ref b), some (.int x2), some (.int x3), none]) (st' := [.int x3, .int v2]) rfl ?_
  refine Wp.icmp_ne rfl rfl ⟨fun hc => ?_, fun hc => ?_⟩
  · replace h := h.1 hc
    refine Wp.pk 1 (pc' := 108) (lv' := [some (.ref s), some (.ref b), some (.int x2), some (.int x3), none]) (st' := [.ref b]) rfl ?_
    refine Wp.getI rfl rfl hb.1 rfl ?_
    refine Wp.pk 1 (pc' := 112) (lv' := [some (.ref s), some (.ref b), some (.int x2), some (.int x3), none]) (st' := [.ref b, .int (m1 b 2)]) rfl ?_
    refine Wp.getR rfl rfl hb.1 rfl ?_
    refine Wp.pk 1 (pc' := 116) (lv' := [some (.ref s), some (.ref b), some (.int x2), some (.int x3), none]) (st' := [.int x2, .ref (b + 4), .int (m1 b 2)]) rfl ?_
    refine Wp.iald rfl hb.2.2.2.2.1 ⟨h.1, ?_⟩
    replace h := h.2
    refine Wp.pk 2 (pc' := 119) (lv' := [some (.ref s), some (.ref b), some (.int x2), some (.int x3), none]) (st' := [.ref s, .int ((m1 b 2) - (m1 (b + 4) (Int32.toNatClampNeg x2)))]) rfl ?_
    refine Wp.getR rfl rfl hs.1 rfl ?_
    refine Wp.getI rfl rfl sh1 rfl ?_
    refine Wp.icmp_ge rfl rfl ⟨fun hc => ?_, fun hc => ?_⟩
    · replace h := h.1 hc
      exact Wp.vret rfl rfl h
    · replace h := h.2 hc
      refine Wp.pk 2 (pc' := 130) (lv' := [some (.ref s), some (.ref b), some (.int x2), some (.int x3), none]) (st' := [.ref s, .ref s]) rfl ?_
      refine Wp.getI rfl rfl hs.1 rfl ?_
      refine Wp.pk 1 (pc' := 134) (lv' := [some (.ref s), some (.ref b), some (.int x2), some (.int x3), none]) (st' := [.ref s, .int (m1 s 7), .ref s]) rfl ?_
      refine Wp.getR rfl rfl hs.1 rfl ?_
      refine Wp.getI rfl rfl sh1 rfl ?_
      refine Wp.pk 1 (pc' := 141) (lv' := [some (.ref s), some (.ref b), some (.int x2), some (.int x3), none]) (st' := [.int ((m1 s 7) + (m1 1 3)), .ref s]) rfl ?_
      refine Wp.putN rfl rfl hs.1 rfl rfl (fun m3 hm => ?_)
      replace h := h _ hm
      exact Wp.vret rfl rfl h
  · replace h := h.2 hc
    refine Wp.pk 2 (pc' := 11) (lv' := [some (.ref s), some (.ref b), some (.int x2), some (.int x3), none]) (st' := [.int x2, .ref b]) rfl ?_
    refine Wp.callI rfl rfl (a_callV_at rfl rfl rfl hb.1 rfl) (CallI.mono h (fun v5 m4 h => ?_))
    refine Wp.pk 3 (pc' := 18) (lv' := [some (.ref s), some (.ref b), some (.int x2), some (.int x3), some (.int v5)]) (st' := [.ref s, .ref s]) rfl ?_
    refine Wp.getI rfl rfl hs.1 rfl ?_
    refine Wp.pk 1 (pc' := 22) (lv' := [some (.ref s), some (.ref b), some (.int x2), some (.int x3), some (.int v5)]) (st' := [.ref s, .int (m4 s 6), .ref s]) rfl ?_
    refine Wp.getR rfl rfl hs.1 rfl ?_
    refine Wp.pk 1 (pc' := 26) (lv' := [some (.ref s), some (.ref b), some (.int x2), some (.int x3), some (.int v5)]) (st' := [.ref s, .ref 1, .int (m4 s 6), .ref s]) rfl ?_
    refine Wp.getR rfl rfl hs.1 rfl ?_
    refine Wp.pk 1 (pc' := 30) (lv' := [some (.ref s), some (.ref b), some (.int x2), some (.int x3), some (.int v5)]) (st' := [.int x2, .ref (s + 2), .ref 1, .int (m4 s 6), .ref s]) rfl ?_
    refine Wp.iald rfl hs.2.2.1 ⟨h.1, ?_⟩
    replace h := h.2
    refine Wp.pk 1 (pc' := 33) (lv' := [some (.ref s), some (.ref b), some (.int x2), some (.int x3), some (.int v5)]) (st' := [.int v5, .int (m4 (s + 2) (Int32.toNatClampNeg x2)), .ref 1, .int (m4 s 6), .ref s]) rfl ?_
    refine Wp.callI rfl rfl rfl (CallI.mono h (fun v7 m6 h => ?_))
    refine Wp.if_eq rfl rfl ⟨fun hc => ?_, fun hc => ?_⟩
    · replace h := h.1 hc
      refine Wp.pk 2 (pc' := 50) (lv' := [some (.ref s), some (.ref b), some (.int x2), some (.int x3), some (.int v5)]) (st' := [.int ((m4 s 6) - 0), .ref s]) rfl ?_
      refine Wp.putN rfl rfl hs.1 rfl rfl (fun m8 hm => ?_)
      replace h := h _ hm
      refine Wp.pk 2 (pc' := 55) (lv' := [some (.ref s), some (.ref b), some (.int x2), some (.int x3), some (.int v5)]) (st' := [.ref s, .ref s]) rfl ?_
      refine Wp.getI rfl rfl hs.1 rfl ?_
      refine Wp.pk 1 (pc' := 59) (lv' := [some (.ref s), some (.ref b), some (.int x2), some (.int x3), some (.int v5)]) (st' := [.ref s, .int (m8 s 6), .ref s]) rfl ?_
      refine Wp.getR rfl rfl hs.1 rfl ?_
      refine Wp.pk 1 (pc' := 63) (lv' := [some (.ref s), some (.ref b), some (.int x2), some (.int x3), some (.int v5)]) (st' := [.ref s, .ref 1, .int (m8 s 6), .ref s]) rfl ?_
      refine Wp.getR rfl rfl hs.1 rfl ?_
      refine Wp.pk 1 (pc' := 67) (lv' := [some (.ref s), some (.ref b), some (.int x2), some (.int x3), some (.int v5)]) (st' := [.int x2, .ref (s + 2), .ref 1, .int (m8 s 6), .ref s]) rfl ?_
      refine Wp.iald rfl hs.2.2.1 ⟨h.1, ?_⟩
      replace h := h.2
      refine Wp.pk 1 (pc' := 69) (lv' := [some (.ref s), some (.ref b), some (.int x2), some (.int x3), some (.int v5)]) (st' := [.ref s, .int (m8 (s + 2) (Int32.toNatClampNeg x2)), .ref 1, .int (m8 s 6), .ref s]) rfl ?_
      refine Wp.getR rfl rfl hs.1 rfl ?_
      refine Wp.pk 1 (pc' := 73) (lv' := [some (.ref s), some (.ref b), some (.int x2), some (.int x3), some (.int v5)]) (st' := [.int x2, .ref (s + 4), .int (m8 (s + 2) (Int32.toNatClampNeg x2)), .ref 1, .int (m8 s 6), .ref s]) rfl ?_
      refine Wp.iald rfl hs.2.2.2.2.1 ⟨h.1, ?_⟩
      replace h := h.2
      refine Wp.pk 2 (pc' := 77) (lv' := [some (.ref s), some (.ref b), some (.int x2), some (.int x3), some (.int v5)]) (st' := [.int v5, .int ((m8 (s + 2) (Int32.toNatClampNeg x2)) - (m8 (s + 4) (Int32.toNatClampNeg x2))), .ref 1, .int (m8 s 6), .ref s]) rfl ?_
      refine Wp.callI rfl rfl rfl (CallI.mono h (fun v10 m9 h => ?_))
      refine Wp.if_eq rfl rfl ⟨fun hc => ?_, fun hc => ?_⟩
      · replace h := h.1 hc
        refine Wp.pk 2 (pc' := 101) (lv' := [some (.ref s), some (.ref b), some (.int x2), some (.int x3), some (.int v5)]) (st' := [.int ((m8 s 6) + 0), .ref s]) rfl ?_
        refine Wp.putN rfl rfl hs.1 rfl rfl (fun m11 hm => ?_)
        replace h := h _ hm
        refine Wp.pk 1 (pc' := 144) (lv' := [some (.ref s), some (.ref b), some (.int x2), some (.int x3), some (.int v5)]) (st' := []) rfl ?_
        exact Wp.vret rfl rfl h
      · replace h := h.2 hc
        refine Wp.pk 1 (pc' := 84) (lv' := [some (.ref s), some (.ref b), some (.int x2), some (.int x3), some (.int v5)]) (st' := [.ref s, .int (m8 s 6), .ref s]) rfl ?_
        refine Wp.getR rfl rfl hs.1 rfl ?_
        refine Wp.pk 1 (pc' := 88) (lv' := [some (.ref s), some (.ref b), some (.int x2), some (.int x3), some (.int v5)]) (st' := [.int x2, .ref (s + 3), .int (m8 s 6), .ref s]) rfl ?_
        refine Wp.iald rfl hs.2.2.2.1 ⟨h.1, ?_⟩
        replace h := h.2
        refine Wp.pk 1 (pc' := 90) (lv' := [some (.ref s), some (.ref b), some (.int x2), some (.int x3), some (.int v5)]) (st' := [.ref s, .int (m9 (s + 3) (Int32.toNatClampNeg x2)), .int (m8 s 6), .ref s]) rfl ?_
        refine Wp.getR rfl rfl hs.1 rfl ?_
        refine Wp.pk 1 (pc' := 94) (lv' := [some (.ref s), some (.ref b), some (.int x2), some (.int x3), some (.int v5)]) (st' := [.int x2, .ref (s + 5), .int (m9 (s + 3) (Int32.toNatClampNeg x2)), .int (m8 s 6), .ref s]) rfl ?_
        refine Wp.iald rfl hs.2.2.2.2.2 ⟨h.1, ?_⟩
        replace h := h.2
        refine Wp.pk 3 (pc' := 101) (lv' := [some (.ref s), some (.ref b), some (.int x2), some (.int x3), some (.int v5)]) (st' := [.int ((m8 s 6) + ((m9 (s + 3) (Int32.toNatClampNeg x2)) - (m9 (s + 5) (Int32.toNatClampNeg x2)))), .ref s]) rfl ?_
        refine Wp.putN rfl rfl hs.1 rfl rfl (fun m12 hm => ?_)
        replace h := h _ hm
        refine Wp.pk 1 (pc' := 144) (lv' := [some (.ref s), some (.ref b), some (.int x2), some (.int x3), some (.int v5)]) (st' := []) rfl ?_
        exact Wp.vret rfl rfl h
    · replace h := h.2 hc
      refine Wp.pk 1 (pc' := 40) (lv' := [some (.ref s), some (.ref b), some (.int x2), some (.int x3), some (.int v5)]) (st' := [.ref s, .int (m4 s 6), .ref s]) rfl ?_
      refine Wp.getR rfl rfl hs.1 rfl ?_
      refine Wp.pk 1 (pc' := 44) (lv' := [some (.ref s), some (.ref b), some (.int x2), some (.int x3), some (.int v5)]) (st' := [.int x2, .ref (s + 3), .int (m4 s 6), .ref s]) rfl ?_
      refine Wp.iald rfl hs.2.2.2.1 ⟨h.1, ?_⟩
      replace h := h.2
      refine Wp.pk 2 (pc' := 50) (lv' := [some (.ref s), some (.ref b), some (.int x2), some (.int x3), some (.int v5)]) (st' := [.int ((m4 s 6) - (m6 (s + 3) (Int32.toNatClampNeg x2))), .ref s]) rfl ?_
      refine Wp.putN rfl rfl hs.1 rfl rfl (fun m13 hm => ?_)
      replace h := h _ hm
      refine Wp.pk 2 (pc' := 55) (lv' := [some (.ref s), some (.ref b), some (.int x2), some (.int x3), some (.int v5)]) (st' := [.ref s, .ref s]) rfl ?_
      refine Wp.getI rfl rfl hs.1 rfl ?_
      refine Wp.pk 1 (pc' := 59) (lv' := [some (.ref s), some (.ref b), some (.int x2), some (.int x3), some (.int v5)]) (st' := [.ref s, .int (m13 s 6), .ref s]) rfl ?_
      refine Wp.getR rfl rfl hs.1 rfl ?_
      refine Wp.pk 1 (pc' := 63) (lv' := [some (.ref s), some (.ref b), some (.int x2), some (.int x3), some (.int v5)]) (st' := [.ref s, .ref 1, .int (m13 s 6), .ref s]) rfl ?_
      refine Wp.getR rfl rfl hs.1 rfl ?_
      refine Wp.pk 1 (pc' := 67) (lv' := [some (.ref s), some (.ref b), some (.int x2), some (.int x3), some (.int v5)]) (st' := [.int x2, .ref (s + 2), .ref 1, .int (m13 s 6), .ref s]) rfl ?_
      refine Wp.iald rfl hs.2.2.1 ⟨h.1, ?_⟩
      replace h := h.2
      refine Wp.pk 1 (pc' := 69) (lv' := [some (.ref s), some (.ref b), some (.int x2), some (.int x3), some (.int v5)]) (st' := [.ref s, .int (m13 (s + 2) (Int32.toNatClampNeg x2)), .ref 1, .int (m13 s 6), .ref s]) rfl ?_
      refine Wp.getR rfl rfl hs.1 rfl ?_
      refine Wp.pk 1 (pc' := 73) (lv' := [some (.ref s), some (.ref b), some (.int x2), some (.int x3), some (.int v5)]) (st' := [.int x2, .ref (s + 4), .int (m13 (s + 2) (Int32.toNatClampNeg x2)), .ref 1, .int (m13 s 6), .ref s]) rfl ?_
      refine Wp.iald rfl hs.2.2.2.2.1 ⟨h.1, ?_⟩
      replace h := h.2
      refine Wp.pk 2 (pc' := 77) (lv' := [some (.ref s), some (.ref b), some (.int x2), some (.int x3), some (.int v5)]) (st' := [.int v5, .int ((m13 (s + 2) (Int32.toNatClampNeg x2)) - (m13 (s + 4) (Int32.toNatClampNeg x2))), .ref 1, .int (m13 s 6), .ref s]) rfl ?_
      refine Wp.callI rfl rfl rfl (CallI.mono h (fun v15 m14 h => ?_))
      refine Wp.if_eq rfl rfl ⟨fun hc => ?_, fun hc => ?_⟩
      · replace h := h.1 hc
        refine Wp.pk 2 (pc' := 101) (lv' := [some (.ref s), some (.ref b), some (.int x2), some (.int x3), some (.int v5)]) (st' := [.int ((m13 s 6) + 0), .ref s]) rfl ?_
        refine Wp.putN rfl rfl hs.1 rfl rfl (fun m16 hm => ?_)
        replace h := h _ hm
        refine Wp.pk 1 (pc' := 144) (lv' := [some (.ref s), some (.ref b), some (.int x2), some (.int x3), some (.int v5)]) (st' := []) rfl ?_
        exact Wp.vret rfl rfl h
      · replace h := h.2 hc
        refine Wp.pk 1 (pc' := 84) (lv' := [some (.ref s), some (.ref b), some (.int x2), some (.int x3), some (.int v5)]) (st' := [.ref s, .int (m13 s 6), .ref s]) rfl ?_
        refine Wp.getR rfl rfl hs.1 rfl ?_
        refine Wp.pk 1 (pc' := 88) (lv' := [some (.ref s), some (.ref b), some (.int x2), some (.int x3), some (.int v5)]) (st' := [.int x2, .ref (s + 3), .int (m13 s 6), .ref s]) rfl ?_
        refine Wp.iald rfl hs.2.2.2.1 ⟨h.1, ?_⟩
        replace h := h.2
        refine Wp.pk 1 (pc' := 90) (lv' := [some (.ref s), some (.ref b), some (.int x2), some (.int x3), some (.int v5)]) (st' := [.ref s, .int (m14 (s + 3) (Int32.toNatClampNeg x2)), .int (m13 s 6), .ref s]) rfl ?_
        refine Wp.getR rfl rfl hs.1 rfl ?_
        refine Wp.pk 1 (pc' := 94) (lv' := [some (.ref s), some (.ref b), some (.int x2), some (.int x3), some (.int v5)]) (st' := [.int x2, .ref (s + 5), .int (m14 (s + 3) (Int32.toNatClampNeg x2)), .int (m13 s 6), .ref s]) rfl ?_
        refine Wp.iald rfl hs.2.2.2.2.2 ⟨h.1, ?_⟩
        replace h := h.2
        refine Wp.pk 3 (pc' := 101) (lv' := [some (.ref s), some (.ref b), some (.int x2), some (.int x3), some (.int v5)]) (st' := [.int ((m13 s 6) + ((m14 (s + 3) (Int32.toNatClampNeg x2)) - (m14 (s + 5) (Int32.toNatClampNeg x2)))), .ref s]) rfl ?_
        refine Wp.putN rfl rfl hs.1 rfl rfl (fun m17 hm => ?_)
        replace h := h _ hm
        refine Wp.pk 1 (pc' := 144) (lv' := [some (.ref s), some (.ref b), some (.int x2), some (.int x3), some (.int v5)]) (st' := []) rfl ?_
        exact Wp.vret rfl rfl h
