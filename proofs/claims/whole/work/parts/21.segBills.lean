theorem eX0_takeAllAway_0 {X : a_X} {m : Nat → Nat → Int32} {Q : Option Value → (Nat → Nat → Int32) → Prop} (h : ∀ m1, m1 = (a_up m 15 1 0) → ∀ m2, m2 = (a_up m1 15 2 0) → ∀ m3, m3 = (a_up m2 15 9 0) → CallV X mJ7_fill_53178 [.ref 20, .int 0] m3 (fun m4 => CallV X mJ7_fill_53178 [.ref 21, .int 0] m4 (fun m5 => CallV X mJ7_fill_53178 [.ref 22, .int 0] m5 (fun m6 => Q none m6)))) : Call X mX0_takeAllAway [.ref 15] m Q := by
  unfold Call
  refine Wp.loc (lv' := [some (.ref 15)]) rfl ?_
  refine Wp.pk 2 (pc' := 2) (lv' := [some (.ref 15)]) (st' := [.int 0, .ref 15]) rfl ?_
  refine Wp.putN rfl rfl sh15 rfl rfl (fun m1 hm => ?_)
  replace h := h _ hm
  refine Wp.pk 2 (pc' := 7) (lv' := [some (.ref 15)]) (st' := [.int 0, .ref 15]) rfl ?_
  refine Wp.putN rfl rfl sh15 rfl rfl (fun m2 hm => ?_)
  replace h := h _ hm
  refine Wp.pk 2 (pc' := 12) (lv' := [some (.ref 15)]) (st' := [.int 0, .ref 15]) rfl ?_
  refine Wp.putN rfl rfl sh15 rfl rfl (fun m3 hm => ?_)
  replace h := h _ hm
  refine Wp.pk 1 (pc' := 16) (lv' := [some (.ref 15)]) (st' := [.ref 15]) rfl ?_
  refine Wp.getR rfl rfl sh15 rfl ?_
  refine Wp.pk 1 (pc' := 20) (lv' := [some (.ref 15)]) (st' := [.int 0, .ref 20]) rfl ?_
  refine Wp.callV rfl rfl rfl (CallV.mono h (fun m4 h => ?_))
  refine Wp.pk 1 (pc' := 24) (lv' := [some (.ref 15)]) (st' := [.ref 15]) rfl ?_
  refine Wp.getR rfl rfl sh15 rfl ?_
  refine Wp.pk 1 (pc' := 28) (lv' := [some (.ref 15)]) (st' := [.int 0, .ref 21]) rfl ?_
  refine Wp.callV rfl rfl rfl (CallV.mono h (fun m5 h => ?_))
  refine Wp.pk 1 (pc' := 32) (lv' := [some (.ref 15)]) (st' := [.ref 15]) rfl ?_
  refine Wp.getR rfl rfl sh15 rfl ?_
  refine Wp.pk 1 (pc' := 36) (lv' := [some (.ref 15)]) (st' := [.int 0, .ref 22]) rfl ?_
  refine Wp.callV rfl rfl rfl (CallV.mono h (fun m6 h => ?_))
  exact Wp.vret rfl rfl h
theorem eX0_copyFrom_0 {X : a_X} {m : Nat → Nat → Int32} {Q : Option Value → (Nat → Nat → Int32) → Prop} {b : Nat} (hb : sBills b) {b2 : Nat} (hb2 : sBills b2) (h : ∀ m1, m1 = (a_up m b 1 (m b2 1)) → ∀ m2, m2 = (a_up m1 b 2 (m1 b2 2)) → ∀ m3, m3 = (a_up m2 b 3 (m2 b2 3)) → ∀ m4, m4 = (a_up m3 b 9 (m3 b2 9)) → ∀ m5, m5 = (a_row m4 (b + 1) (va_cpy (m4 (b2 + 1)) (m4 (b + 1)) 0 0 20)) → ∀ m6, m6 = (a_row m5 (b + 2) (va_cpy (m5 (b2 + 2)) (m5 (b + 2)) 0 0 20)) → ∀ m7, m7 = (a_row m6 (b + 3) (va_cpy (m6 (b2 + 3)) (m6 (b + 3)) 0 0 20)) → ∀ m8, m8 = (a_row m7 (b + 4) (va_cpy (m7 (b2 + 4)) (m7 (b + 4)) 0 0 20)) → ∀ m9, m9 = (a_row m8 (b + 5) (va_cpy (m8 (b2 + 5)) (m8 (b + 5)) 0 0 6)) → ∀ m10, m10 = (a_row m9 (b + 6) (va_cpy (m9 (b2 + 6)) (m9 (b + 6)) 0 0 128)) → ∀ m11, m11 = (a_row m10 (b + 7) (va_cpy (m10 (b2 + 7)) (m10 (b + 7)) 0 0 128)) → Q none m11) : Call X mX0_copyFrom [.ref b, .ref b2] m Q := by
  unfold Call
  refine Wp.loc (lv' := [some (.ref b), some (.ref b2)]) rfl ?_
  refine Wp.pk 2 (pc' := 2) (lv' := [some (.ref b), some (.ref b2)]) (st' := [.ref b2, .ref b]) rfl ?_
  refine Wp.getI rfl rfl hb2.1 rfl ?_
  refine Wp.putN rfl rfl hb.1 rfl rfl (fun m1 hm => ?_)
  replace h := h _ hm
  refine Wp.pk 2 (pc' := 10) (lv' := [some (.ref b), some (.ref b2)]) (st' := [.ref b2, .ref b]) rfl ?_
  refine Wp.getI rfl rfl hb2.1 rfl ?_
  refine Wp.putN rfl rfl hb.1 rfl rfl (fun m2 hm => ?_)
  replace h := h _ hm
  refine Wp.pk 2 (pc' := 18) (lv' := [some (.ref b), some (.ref b2)]) (st' := [.ref b2, .ref b]) rfl ?_
  refine Wp.getI rfl rfl hb2.1 rfl ?_
  refine Wp.putN rfl rfl hb.1 rfl rfl (fun m3 hm => ?_)
  replace h := h _ hm
  refine Wp.pk 2 (pc' := 26) (lv' := [some (.ref b), some (.ref b2)]) (st' := [.ref b2, .ref b]) rfl ?_
  refine Wp.getI rfl rfl hb2.1 rfl ?_
  refine Wp.putN rfl rfl hb.1 rfl rfl (fun m4 hm => ?_)
  replace h := h _ hm
  refine Wp.pk 1 (pc' := 33) (lv' := [some (.ref b), some (.ref b2)]) (st' := [.ref b2]) rfl ?_
  refine Wp.getR rfl rfl hb2.1 rfl ?_
  refine Wp.pk 2 (pc' := 38) (lv' := [some (.ref b), some (.ref b2)]) (st' := [.ref b, .int 0, .ref (b2 + 1)]) rfl ?_
  refine Wp.getR rfl rfl hb.1 rfl ?_
  refine Wp.pk 2 (pc' := 44) (lv' := [some (.ref b), some (.ref b2)]) (st' := [.int 20, .int 0, .ref (b + 1), .int 0, .ref (b2 + 1)]) rfl ?_
  refine Wp.acopyN (n := 20) rfl rfl hb2.2.1 hb.2.1 rfl (fun m5 hm => ?_)
  replace h := h _ hm
  refine Wp.pk 1 (pc' := 48) (lv' := [some (.ref b), some (.ref b2)]) (st' := [.ref b2]) rfl ?_
  refine Wp.getR rfl rfl hb2.1 rfl ?_
  refine Wp.pk 2 (pc' := 53) (lv' := [some (.ref b), some (.ref b2)]) (st' := [.ref b, .int 0, .ref (b2 + 2)]) rfl ?_
  refine Wp.getR rfl rfl hb.1 rfl ?_
  refine Wp.pk 2 (pc' := 59) (lv' := [some (.ref b), some (.ref b2)]) (st' := [.int 20, .int 0, .ref (b + 2), .int 0, .ref (b2 + 2)]) rfl ?_
  refine Wp.acopyN (n := 20) rfl rfl hb2.2.2.1 hb.2.2.1 rfl (fun m6 hm => ?_)
  replace h := h _ hm
  refine Wp.pk 1 (pc' := 63) (lv' := [some (.ref b), some (.ref b2)]) (st' := [.ref b2]) rfl ?_
  refine Wp.getR rfl rfl hb2.1 rfl ?_
  refine Wp.pk 2 (pc' := 68) (lv' := [some (.ref b), some (.ref b2)]) (st' := [.ref b, .int 0, .ref (b2 + 3)]) rfl ?_
  refine Wp.getR rfl rfl hb.1 rfl ?_
  refine Wp.pk 2 (pc' := 74) (lv' := [some (.ref b), some (.ref b2)]) (st' := [.int 20, .int 0, .ref (b + 3), .int 0, .ref (b2 + 3)]) rfl ?_
  refine Wp.acopyN (n := 20) rfl rfl hb2.2.2.2.1 hb.2.2.2.1 rfl (fun m7 hm => ?_)
  replace h := h _ hm
  refine Wp.pk 1 (pc' := 78) (lv' := [some (.ref b), some (.ref b2)]) (st' := [.ref b2]) rfl ?_
  refine Wp.getR rfl rfl hb2.1 rfl ?_
  refine Wp.pk 2 (pc' := 83) (lv' := [some (.ref b), some (.ref b2)]) (st' := [.ref b, .int 0, .ref (b2 + 4)]) rfl ?_
  refine Wp.getR rfl rfl hb.1 rfl ?_
  refine Wp.pk 2 (pc' := 89) (lv' := [some (.ref b), some (.ref b2)]) (st' := [.int 20, .int 0, .ref (b + 4), .int 0, .ref (b2 + 4)]) rfl ?_
  refine Wp.acopyN (n := 20) rfl rfl hb2.2.2.2.2.1 hb.2.2.2.2.1 rfl (fun m8 hm => ?_)
  replace h := h _ hm
  refine Wp.pk 1 (pc' := 93) (lv' := [some (.ref b), some (.ref b2)]) (st' := [.ref b2]) rfl ?_
  refine Wp.getR rfl rfl hb2.1 rfl ?_
  refine Wp.pk 2 (pc' := 98) (lv' := [some (.ref b), some (.ref b2)]) (st' := [.ref b, .int 0, .ref (b2 + 5)]) rfl ?_
  refine Wp.getR rfl rfl hb.1 rfl ?_
  refine Wp.pk 2 (pc' := 104) (lv' := [some (.ref b), some (.ref b2)]) (st' := [.int 6, .int 0, .ref (b + 5), .int 0, .ref (b2 + 5)]) rfl ?_
  refine Wp.acopyN (n := 6) rfl rfl hb2.2.2.2.2.2.1 hb.2.2.2.2.2.1 rfl (fun m9 hm => ?_)
  replace h := h _ hm
  refine Wp.pk 1 (pc' := 108) (lv' := [some (.ref b), some (.ref b2)]) (st' := [.ref b2]) rfl ?_
  refine Wp.getR rfl rfl hb2.1 rfl ?_
  refine Wp.pk 2 (pc' := 113) (lv' := [some (.ref b), some (.ref b2)]) (st' := [.ref b, .int 0, .ref (b2 + 6)]) rfl ?_
  refine Wp.getR rfl rfl hb.1 rfl ?_
  refine Wp.pk 2 (pc' := 120) (lv' := [some (.ref b), some (.ref b2)]) (st' := [.int 128, .int 0, .ref (b + 6), .int 0, .ref (b2 + 6)]) rfl ?_
  refine Wp.acopyN (n := 128) rfl rfl hb2.2.2.2.2.2.2.1 hb.2.2.2.2.2.2.1 rfl (fun m10 hm => ?_)
  replace h := h _ hm
  refine Wp.pk 1 (pc' := 124) (lv' := [some (.ref b), some (.ref b2)]) (st' := [.ref b2]) rfl ?_
  refine Wp.getR rfl rfl hb2.1 rfl ?_
  refine Wp.pk 2 (pc' := 129) (lv' := [some (.ref b), some (.ref b2)]) (st' := [.ref b, .int 0, .ref (b2 + 7)]) rfl ?_
  refine Wp.getR rfl rfl hb.1 rfl ?_
  refine Wp.pk 2 (pc' := 136) (lv' := [some (.ref b), some (.ref b2)]) (st' := [.int 128, .int 0, .ref (b + 7), .int 0, .ref (b2 + 7)]) rfl ?_
  refine Wp.acopyN (n := 128) rfl rfl hb2.2.2.2.2.2.2.2 hb.2.2.2.2.2.2.2 rfl (fun m11 hm => ?_)
  replace h := h _ hm
  exact Wp.vret rfl rfl h
theorem eX0_has_0 {X : a_X} {m : Nat → Nat → Int32} {Q : Option Value → (Nat → Nat → Int32) → Prop} {b : Nat} (hb : sBills b) {x1 : Int32} (h : (x1 < 0 → Q (some (.int 0)) m) ∧ (¬ x1 < 0 → ((m b 1) ≤ x1 → Q (some (.int 0)) m) ∧ (¬ (m b 1) ≤ x1 → Q (some (.int 1)) m))) : Call X mX0_has [.ref b, .int x1] m Q := by
  unfold Call
  refine Wp.loc (lv' := [some (.ref b), some (.int x1)]) rfl ?_
  refine Wp.pk 1 (pc' := 1) (lv' := [some (.ref b), some (.int x1)]) (st' := [.int x1]) rfl ?_
  refine Wp.if_lt rfl rfl ⟨fun hc => ?_, fun hc => ?_⟩
  · replace h := h.1 hc
    refine Wp.pk 1 (pc' := 17) (lv' := [some (.ref b), some (.int x1)]) (st' := [.int 0]) rfl ?_
    exact Wp.iret rfl rfl ⟨rfl, h⟩
  · replace h := h.2 hc
    refine Wp.pk 2 (pc' := 6) (lv' := [some (.ref b), some (.int x1)]) (st' := [.ref b, .int x1]) rfl ?_
    refine Wp.getI rfl rfl hb.1 rfl ?_
    refine Wp.icmp_ge rfl rfl ⟨fun hc => ?_, fun hc => ?_⟩
    · replace h := h.1 hc
      refine Wp.pk 1 (pc' := 17) (lv' := [some (.ref b), some (.int x1)]) (st' := [.int 0]) rfl ?_
      exact Wp.iret rfl rfl ⟨rfl, h⟩
    · replace h := h.2 hc
      refine Wp.pk 2 (pc' := 17) (lv' := [some (.ref b), some (.int x1)]) (st' := [.int 1]) rfl ?_
      exact Wp.iret rfl rfl ⟨rfl, h⟩
theorem eX0_isFull_0 {X : a_X} {m : Nat → Nat → Int32} {Q : Option Value → (Nat → Nat → Int32) → Prop} {b : Nat} (hb : sBills b) (h : ((m b 1) < 20 → Q (some (.int 0)) m) ∧ (¬ (m b 1) < 20 → Q (some (.int 1)) m)) : Call X mX0_isFull [.ref b] m Q := by
  unfold Call
  refine Wp.loc (lv' := [some (.ref b)]) rfl ?_
  refine Wp.pk 1 (pc' := 1) (lv' := [some (.ref b)]) (st' := [.ref b]) rfl ?_
  refine Wp.getI rfl rfl hb.1 rfl ?_
  refine Wp.pk 1 (pc' := 6) (lv' := [some (.ref b)]) (st' := [.int 20, .int (m b 1)]) rfl ?_
  refine Wp.icmp_lt rfl rfl ⟨fun hc => ?_, fun hc => ?_⟩
  · replace h := h.1 hc
    refine Wp.pk 1 (pc' := 14) (lv' := [some (.ref b)]) (st' := [.int 0]) rfl ?_
    exact Wp.iret rfl rfl ⟨rfl, h⟩
  · replace h := h.2 hc
    refine Wp.pk 2 (pc' := 14) (lv' := [some (.ref b)]) (st' := [.int 1]) rfl ?_
    exact Wp.iret rfl rfl ⟨rfl, h⟩
theorem eX0_isOn_0 {X : a_X} {m : Nat → Nat → Int32} {Q : Option Value → (Nat → Nat → Int32) → Prop} {b : Nat} (hb : sBills b) {x1 : Int32} (h : CallI X mX8_isIn [.int (m b 9), .int x1] m (fun v2 m1 => a_fit .boolean v2 = true ∧ Q (some (.int v2)) m1)) : Call X mX0_isOn [.ref b, .int x1] m Q := by
  unfold Call
  refine Wp.loc (lv' := [some (.ref b), some (.int x1)]) rfl ?_
  refine Wp.pk 1 (pc' := 1) (lv' := [some (.ref b), some (.int x1)]) (st' := [.ref b]) rfl ?_
  refine Wp.getI rfl rfl hb.1 rfl ?_
  refine Wp.pk 1 (pc' := 5) (lv' := [some (.ref b), some (.int x1)]) (st' := [.int x1, .int (m b 9)]) rfl ?_
  refine Wp.callI rfl rfl rfl (CallI.mono h (fun v2 m1 h => ?_))
  exact Wp.iret rfl rfl h
theorem eX0_ownerOf_0 {X : a_X} {m : Nat → Nat → Int32} {Q : Option Value → (Nat → Nat → Int32) → Prop} {b : Nat} (hb : sBills b) {x1 : Int32} (h : vp_in x1 20 ∧ vp_in (m (b + 1) (Int32.toNatClampNeg x1)) 12 ∧ Q (some (.int (m 4 (Int32.toNatClampNeg (m (b + 1) (Int32.toNatClampNeg x1)))))) m) : Call X mX0_ownerOf [.ref b, .int x1] m Q := by
  unfold Call
  refine Wp.loc (lv' := [some (.ref b), some (.int x1)]) rfl ?_
  refine Wp.pk 1 (pc' := 1) (lv' := [some (.ref b), some (.int x1)]) (st' := [.ref b]) rfl ?_
  refine Wp.getR rfl rfl hb.1 rfl ?_
  refine Wp.getR rfl rfl sh1 rfl ?_
  refine Wp.pk 1 (pc' := 8) (lv' := [some (.ref b), some (.int x1)]) (st' := [.ref b, .ref 4]) rfl ?_
  refine Wp.getR rfl rfl hb.1 rfl ?_
  refine Wp.pk 1 (pc' := 12) (lv' := [some (.ref b), some (.int x1)]) (st' := [.int x1, .ref (b + 1), .ref 4]) rfl ?_
  refine Wp.iald rfl hb.2.1 ⟨h.1, ?_⟩
  replace h := h.2
  refine Wp.iald rfl sh4 ⟨h.1, ?_⟩
  replace h := h.2
  exact Wp.iret rfl rfl ⟨rfl, h⟩
theorem eX0_allCells_0 {X : a_X} {m : Nat → Nat → Int32} {Q : Option Value → (Nat → Nat → Int32) → Prop} {b : Nat} (hb : sBills b) {x1 : Int32} (h : vp_in x1 20 ∧ vp_in (m (b + 1) (Int32.toNatClampNeg x1)) 12 ∧ vp_in x1 20 ∧ vp_in (m (b + 1) (Int32.toNatClampNeg x1)) 12 ∧ Q (some (.int ((m 5 (Int32.toNatClampNeg (m (b + 1) (Int32.toNatClampNeg x1)))) * (m 6 (Int32.toNatClampNeg (m (b + 1) (Int32.toNatClampNeg x1))))))) m) : Call X mX0_allCells [.ref b, .int x1] m Q := by
  unfold Call
  refine Wp.loc (lv' := [some (.ref b), some (.int x1)]) rfl ?_
  refine Wp.pk 1 (pc' := 1) (lv' := [some (.ref b), some (.int x1)]) (st' := [.ref b]) rfl ?_
  refine Wp.getR rfl rfl hb.1 rfl ?_
  refine Wp.getR rfl rfl sh1 rfl ?_
  refine Wp.pk 1 (pc' := 8) (lv' := [some (.ref b), some (.int x1)]) (st' := [.ref b, .ref 5]) rfl ?_
  refine Wp.getR rfl rfl hb.1 rfl ?_
  refine Wp.pk 1 (pc' := 12) (lv' := [some (.ref b), some (.int x1)]) (st' := [.int x1, .ref (b + 1), .ref 5]) rfl ?_
  refine Wp.iald rfl hb.2.1 ⟨h.1, ?_⟩
  replace h := h.2
  refine Wp.iald rfl sh5 ⟨h.1, ?_⟩
  replace h := h.2
  refine Wp.pk 1 (pc' := 15) (lv' := [some (.ref b), some (.int x1)]) (st' := [.ref b, .int (m 5 (Int32.toNatClampNeg (m (b + 1) (Int32.toNatClampNeg x1))))]) rfl ?_
  refine Wp.getR rfl rfl hb.1 rfl ?_
  refine Wp.getR rfl rfl sh1 rfl ?_
  refine Wp.pk 1 (pc' := 22) (lv' := [some (.ref b), some (.int x1)]) (st' := [.ref b, .ref 6, .int (m 5 (Int32.toNatClampNeg (m (b + 1) (Int32.toNatClampNeg x1))))]) rfl ?_
  refine Wp.getR rfl rfl hb.1 rfl ?_
  refine Wp.pk 1 (pc' := 26) (lv' := [some (.ref b), some (.int x1)]) (st' := [.int x1, .ref (b + 1), .ref 6, .int (m 5 (Int32.toNatClampNeg (m (b + 1) (Int32.toNatClampNeg x1))))]) rfl ?_
  refine Wp.iald rfl hb.2.1 ⟨h.1, ?_⟩
  replace h := h.2
  refine Wp.iald rfl sh6 ⟨h.1, ?_⟩
  replace h := h.2
  refine Wp.pk 1 (pc' := 29) (lv' := [some (.ref b), some (.int x1)]) (st' := [.int ((m 5 (Int32.toNatClampNeg (m (b + 1) (Int32.toNatClampNeg x1)))) * (m 6 (Int32.toNatClampNeg (m (b + 1) (Int32.toNatClampNeg x1)))))]) rfl ?_
  exact Wp.iret rfl rfl ⟨rfl, h⟩
theorem eX0_right_0 {X : a_X} {m : Nat → Nat → Int32} {Q : Option Value → (Nat → Nat → Int32) → Prop} {b : Nat} (hb : sBills b) {x1 : Int32} (h : vp_in x1 20 ∧ vp_in x1 20 ∧ vp_in (m (b + 1) (Int32.toNatClampNeg x1)) 12 ∧ Q (some (.int ((m (b + 2) (Int32.toNatClampNeg x1)) + (m 5 (Int32.toNatClampNeg (m (b + 1) (Int32.toNatClampNeg x1))))))) m) : Call X mX0_right [.ref b, .int x1] m Q := by
  unfold Call
  refine Wp.loc (lv' := [some (.ref b), some (.int x1)]) rfl ?_
  refine Wp.pk 1 (pc' := 1) (lv' := [some (.ref b), some (.int x1)]) (st' := [.ref b]) rfl ?_
  refine Wp.getR rfl rfl hb.1 rfl ?_
  refine Wp.pk 1 (pc' := 5) (lv' := [some (.ref b), some (.int x1)]) (st' := [.int x1, .ref (b + 2)]) rfl ?_
  refine Wp.iald rfl hb.2.2.1 ⟨h.1, ?_⟩
  replace h := h.2
  refine Wp.pk 1 (pc' := 7) (lv' := [some (.ref b), some (.int x1)]) (st' := [.ref b, .int (m (b + 2) (Int32.toNatClampNeg x1))]) rfl ?_
  refine Wp.getR rfl rfl hb.1 rfl ?_
  refine Wp.getR rfl rfl sh1 rfl ?_
  refine Wp.pk 1 (pc' := 14) (lv' := [some (.ref b), some (.int x1)]) (st' := [.ref b, .ref 5, .int (m (b + 2) (Int32.toNatClampNeg x1))]) rfl ?_
  refine Wp.getR rfl rfl hb.1 rfl ?_
  refine Wp.pk 1 (pc' := 18) (lv' := [some (.ref b), some (.int x1)]) (st' := [.int x1, .ref (b + 1), .ref 5, .int (m (b + 2) (Int32.toNatClampNeg x1))]) rfl ?_
  refine Wp.iald rfl hb.2.1 ⟨h.1, ?_⟩
  replace h := h.2
  refine Wp.iald rfl sh5 ⟨h.1, ?_⟩
  replace h := h.2
  refine Wp.pk 1 (pc' := 21) (lv' := [some (.ref b), some (.int x1)]) (st' := [.int ((m (b + 2) (Int32.toNatClampNeg x1)) + (m 5 (Int32.toNatClampNeg (m (b + 1) (Int32.toNatClampNeg x1)))))]) rfl ?_
  exact Wp.iret rfl rfl ⟨rfl, h⟩
theorem eX0_bottom_0 {X : a_X} {m : Nat → Nat → Int32} {Q : Option Value → (Nat → Nat → Int32) → Prop} {b : Nat} (hb : sBills b) {x1 : Int32} (h : vp_in x1 20 ∧ vp_in x1 20 ∧ vp_in (m (b + 1) (Int32.toNatClampNeg x1)) 12 ∧ Q (some (.int ((m (b + 3) (Int32.toNatClampNeg x1)) + (m 6 (Int32.toNatClampNeg (m (b + 1) (Int32.toNatClampNeg x1))))))) m) : Call X mX0_bottom [.ref b, .int x1] m Q := by
  unfold Call
  refine Wp.loc (lv' := [some (.ref b), some (.int x1)]) rfl ?_
  refine Wp.pk 1 (pc' := 1) (lv' := [some (.ref b), some (.int x1)]) (st' := [.ref b]) rfl ?_
  refine Wp.getR rfl rfl hb.1 rfl ?_
  refine Wp.pk 1 (pc' := 5) (lv' := [some (.ref b), some (.int x1)]) (st' := [.int x1, .ref (b + 3)]) rfl ?_
  refine Wp.iald rfl hb.2.2.2.1 ⟨h.1, ?_⟩
  replace h := h.2
  refine Wp.pk 1 (pc' := 7) (lv' := [some (.ref b), some (.int x1)]) (st' := [.ref b, .int (m (b + 3) (Int32.toNatClampNeg x1))]) rfl ?_
  refine Wp.getR rfl rfl hb.1 rfl ?_
  refine Wp.getR rfl rfl sh1 rfl ?_
  refine Wp.pk 1 (pc' := 14) (lv' := [some (.ref b), some (.int x1)]) (st' := [.ref b, .ref 6, .int (m (b + 3) (Int32.toNatClampNeg x1))]) rfl ?_
  refine Wp.getR rfl rfl hb.1 rfl ?_
  refine Wp.pk 1 (pc' := 18) (lv' := [some (.ref b), some (.int x1)]) (st' := [.int x1, .ref (b + 1), .ref 6, .int (m (b + 3) (Int32.toNatClampNeg x1))]) rfl ?_
  refine Wp.iald rfl hb.2.1 ⟨h.1, ?_⟩
  replace h := h.2
  refine Wp.iald rfl sh6 ⟨h.1, ?_⟩
  replace h := h.2
  refine Wp.pk 1 (pc' := 21) (lv' := [some (.ref b), some (.int x1)]) (st' := [.int ((m (b + 3) (Int32.toNatClampNeg x1)) + (m 6 (Int32.toNatClampNeg (m (b + 1) (Int32.toNatClampNeg x1)))))]) rfl ?_
  exact Wp.iret rfl rfl ⟨rfl, h⟩
theorem eX0_topAt_0 {X : a_X} {m : Nat → Nat → Int32} {Q : Option Value → (Nat → Nat → Int32) → Prop} {b : Nat} (hb : sBills b) {x1 : Int32} (h : vp_in x1 128 ∧ CallI X mJ6_numberOfLeadingZeros_0f7a4 [.int (m (b + 6) (Int32.toNatClampNeg x1))] m (fun v2 m1 => Q (some (.int (31 - v2))) m1)) : Call X mX0_topAt [.ref b, .int x1] m Q := by
  unfold Call
  refine Wp.loc (lv' := [some (.ref b), some (.int x1)]) rfl ?_
  refine Wp.pk 2 (pc' := 3) (lv' := [some (.ref b), some (.int x1)]) (st' := [.ref b, .int 31]) rfl ?_
  refine Wp.getR rfl rfl hb.1 rfl ?_
  refine Wp.pk 1 (pc' := 7) (lv' := [some (.ref b), some (.int x1)]) (st' := [.int x1, .ref (b + 6), .int 31]) rfl ?_
  refine Wp.iald rfl hb.2.2.2.2.2.2.1 ⟨h.1, ?_⟩
  replace h := h.2
  refine Wp.callI rfl rfl rfl (CallI.mono h (fun v2 m1 h => ?_))
  refine Wp.pk 1 (pc' := 12) (lv' := [some (.ref b), some (.int x1)]) (st' := [.int (31 - v2)]) rfl ?_
  exact Wp.iret rfl rfl ⟨rfl, h⟩
theorem eX0_hang_0 {X : a_X} {m : Nat → Nat → Int32} {Q : Option Value → (Nat → Nat → Int32) → Prop} {b : Nat} (hb : sBills b) {x1 x2 x3 : Int32} (h : CallI X mX0_isFull [.ref b] m (fun v2 m1 => (v2 = 0 → ∀ m3, m3 = (a_up m1 b 1 ((m1 b 1) + 1)) → vp_in (m1 b 1) 20 ∧ ∀ m4, m4 = (a_up m3 (b + 1) (Int32.toNatClampNeg (m1 b 1)) x1) → vp_in (m1 b 1) 20 ∧ ∀ m5, m5 = (a_up m4 (b + 2) (Int32.toNatClampNeg (m1 b 1)) x2) → vp_in (m1 b 1) 20 ∧ ∀ m6, m6 = (a_up m5 (b + 3) (Int32.toNatClampNeg (m1 b 1)) x3) → vp_in (m1 b 1) 20 ∧ ∀ m7, m7 = (a_up m6 (b + 4) (Int32.toNatClampNeg (m1 b 1)) (m6 b 2)) → ∀ m8, m8 = (a_up m7 b 9 ((m7 b 9) ||| (1 <<< ((m1 b 1) &&& 31)))) → Wp X mX0_hang 75 [some (.ref b), none, some (.int x2), none, some (.int (m1 b 1)), some (.int x3), none] [] m8 Q) ∧ (¬ v2 = 0 → Q none m1))) : Call X mX0_hang [.ref b, .int x1, .int x2, .int x3] m Q := by
  unfold Call
  refine Wp.loc (lv' := [some (.ref b), some (.int x1), some (.int x2), some (.int x3), none, none, none]) rfl ?_
  refine Wp.pk 1 (pc' := 1) (lv' := [some (.ref b), some (.int x1), some (.int x2), some (.int x3), none, none, none]) (st' := [.ref b]) rfl ?_
  refine Wp.callI rfl rfl (a_callV_at rfl rfl rfl hb.1 rfl) (CallI.mono h (fun v2 m1 h => ?_))
  refine Wp.if_eq rfl rfl ⟨fun hc => ?_, fun hc => ?_⟩
  · replace h := h.1 hc
    refine Wp.pk 1 (pc' := 9) (lv' := [some (.ref b), some (.int x1), some (.int x2), some (.int x3), none, none, none]) (st' := [.ref b]) rfl ?_
    refine Wp.getI rfl rfl hb.1 rfl ?_
    refine Wp.pk 3 (pc' := 16) (lv' := [some (.ref b), some (.int x1), some (.int x2), some (.int x3), some (.int (m1 b 1)), none, none]) (st' := [.ref b, .ref b]) rfl ?_
    refine Wp.getI rfl rfl hb.1 rfl ?_
    refine Wp.pk 2 (pc' := 21) (lv' := [some (.ref b), some (.int x1), some (.int x2), some (.int x3), some (.int (m1 b 1)), none, none]) (st' := [.int ((m1 b 1) + 1), .ref b]) rfl ?_
    refine Wp.putN rfl rfl hb.1 rfl rfl (fun m3 hm => ?_)
    replace h := h _ hm
    refine Wp.pk 1 (pc' := 25) (lv' := [some (.ref b), some (.int x1), some (.int x2), some (.int x3), some (.int (m1 b 1)), none, none]) (st' := [.ref b]) rfl ?_
    refine Wp.getR rfl rfl hb.1 rfl ?_
    refine Wp.pk 2 (pc' := 31) (lv' := [some (.ref b), some (.int x1), some (.int x2), some (.int x3), some (.int (m1 b 1)), none, none]) (st' := [.int x1, .int (m1 b 1), .ref (b + 1)]) rfl ?_
    refine Wp.iastN rfl hb.2.1 h.1 (fun m4 hm => ?_)
    replace h := h.2 _ hm
    refine Wp.pk 1 (pc' := 33) (lv' := [some (.ref b), some (.int x1), some (.int x2), some (.int x3), some (.int (m1 b 1)), none, none]) (st' := [.ref b]) rfl ?_
    refine Wp.getR rfl rfl hb.1 rfl ?_
    refine Wp.pk 2 (pc' := 39) (lv' := [some (.ref b), some (.int x1), some (.int x2), some (.int x3), some (.int (m1 b 1)), none, none]) (st' := [.int x2, .int (m1 b 1), .ref (b + 2)]) rfl ?_
    refine Wp.iastN rfl hb.2.2.1 h.1 (fun m5 hm => ?_)
    replace h := h.2 _ hm
    refine Wp.pk 1 (pc' := 41) (lv' := [some (.ref b), some (.int x1), some (.int x2), some (.int x3), some (.int (m1 b 1)), none, none]) (st' := [.ref b]) rfl ?_
    refine Wp.getR rfl rfl hb.1 rfl ?_
    refine Wp.pk 2 (pc' := 47) (lv' := [some (.ref b), some (.int x1), some (.int x2), some (.int x3), some (.int (m1 b 1)), none, none]) (st' := [.int x3, .int (m1 b 1), .ref (b + 3)]) rfl ?_
    refine Wp.iastN rfl hb.2.2.2.1 h.1 (fun m6 hm => ?_)
    replace h := h.2 _ hm
    refine Wp.pk 1 (pc' := 49) (lv' := [some (.ref b), some (.int x1), some (.int x2), some (.int x3), some (.int (m1 b 1)), none, none]) (st' := [.ref b]) rfl ?_
    refine Wp.getR rfl rfl hb.1 rfl ?_
    refine Wp.pk 2 (pc' := 55) (lv' := [some (.ref b), some (.int x1), some (.int x2), some (.int x3), some (.int (m1 b 1)), none, none]) (st' := [.ref b, .int (m1 b 1), .ref (b + 4)]) rfl ?_
    refine Wp.getI rfl rfl hb.1 rfl ?_
    refine Wp.iastN rfl hb.2.2.2.2.1 h.1 (fun m7 hm => ?_)
    replace h := h.2 _ hm
    refine Wp.pk 2 (pc' := 61) (lv' := [some (.ref b), some (.int x1), some (.int x2), some (.int x3), some (.int (m1 b 1)), none, none]) (st' := [.ref b, .ref b]) rfl ?_
    refine Wp.getI rfl rfl hb.1 rfl ?_
    refine Wp.pk 4 (pc' := 69) (lv' := [some (.ref b), some (.int x1), some (.int x2), some (.int x3), some (.int (m1 b 1)), none, none]) (st' := [.int ((m7 b 9) ||| (1 <<< ((m1 b 1) &&& 31))), .ref b]) rfl ?_
    refine Wp.putN rfl rfl hb.1 rfl rfl (fun m8 hm => ?_)
    replace h := h _ hm
    refine Wp.pk 2 (pc' := 75) (lv' := [some (.ref b), some (.int x1), some (.int x2), some (.int x3), some (.int (m1 b 1)), some (.int x3), none]) (st' := []) rfl ?_
    exact Wp.fgt (lv := [some (.ref b), none, some (.int x2), none, some (.int (m1 b 1)), some (.int x3), none]) (a_lle.of (a_lleb_e (a_lleb_i (a_lleb_e (a_lleb_i (a_lleb_e (a_lleb_e (a_lleb_e trivial)))))))) h
  · replace h := h.2 hc
    exact Wp.vret rfl rfl h
theorem eX0_hang_75 {X : a_X} {m : Nat → Nat → Int32} {Q : Option Value → (Nat → Nat → Int32) → Prop} {b : Nat} (hb : sBills b) {x2 x4 x5 : Int32} (h : CallI X mX0_bottom [.ref b, .int x4] m (fun v2 m1 => (v2 ≤ x5 → Q none m1) ∧ (¬ v2 ≤ x5 → Wp X mX0_hang 89 [some (.ref b), none, some (.int x2), none, some (.int x4), some (.int x5), some (.int x2)] [] m1 Q))) : Wp X mX0_hang 75 [some (.ref b), none, some (.int x2), none, some (.int x4), some (.int x5), none] [] m Q := by
  refine Wp.pk 3 (pc' := 80) (lv' := [some (.ref b), none, some (.int x2), none, some (.int x4), some (.int x5), none]) (st' := [.int x4, .ref b, .int x5]) rfl ?_
  refine Wp.callI rfl rfl (a_callV_at rfl rfl rfl hb.1 rfl) (CallI.mono h (fun v2 m1 h => ?_))
  refine Wp.icmp_ge rfl rfl ⟨fun hc => ?_, fun hc => ?_⟩
  · replace h := h.1 hc
    exact Wp.vret rfl rfl h
  · replace h := h.2 hc
    refine Wp.pk 2 (pc' := 89) (lv' := [some (.ref b), none, some (.int x2), none, some (.int x4), some (.int x5), some (.int x2)]) (st' := []) rfl ?_
    exact h
theorem eX0_hang_89 {X : a_X} {m : Nat → Nat → Int32} {Q : Option Value → (Nat → Nat → Int32) → Prop} {b : Nat} (hb : sBills b) {x2 x4 x5 x6 : Int32} (h : CallI X mX0_right [.ref b, .int x4] m (fun v2 m1 => (v2 ≤ x6 → Wp X mX0_hang 75 [some (.ref b), none, some (.int x2), none, some (.int x4), some (.int (x5 + 1)), none] [] m1 Q) ∧ (¬ v2 ≤ x6 → CallI X mX8_cellAt [.int x6, .int x5] m1 (fun v4 m3 => vp_in v4 128 ∧ vp_in v4 128 ∧ ∀ m5, m5 = (a_up m3 (b + 6) (Int32.toNatClampNeg v4) ((m3 (b + 6) (Int32.toNatClampNeg v4)) ||| (1 <<< (x4 &&& 31)))) → Wp X mX0_hang 89 [some (.ref b), none, some (.int x2), none, some (.int x4), some (.int x5), some (.int (x6 + 1))] [] m5 Q)))) : Wp X mX0_hang 89 [some (.ref b), none, some (.int x2), none, some (.int x4), some (.int x5), some (.int x6)] [] m Q := by
  refine Wp.pk 3 (pc' := 94) (lv' := [some (.ref b), none, some (.int x2), none, some (.int x4), some (.int x5), some (.int x6)]) (st' := [.int x4, .ref b, .int x6]) rfl ?_
  refine Wp.callI rfl rfl (a_callV_at rfl rfl rfl hb.1 rfl) (CallI.mono h (fun v2 m1 h => ?_))
  refine Wp.icmp_ge rfl rfl ⟨fun hc => ?_, fun hc => ?_⟩
  · replace h := h.1 hc
    refine Wp.pk 2 (pc' := 75) (lv' := [some (.ref b), none, some (.int x2), none, some (.int x4), some (.int (x5 + 1)), some (.int x6)]) (st' := []) rfl ?_
    exact Wp.fgt (lv := [some (.ref b), none, some (.int x2), none, some (.int x4), some (.int (x5 + 1)), none]) (a_lle.of (a_lleb_e (a_lleb_e (a_lleb_e (a_lleb_e (a_lleb_e (a_lleb_e (a_lleb_i trivial)))))))) h
  · replace h := h.2 hc
    refine Wp.pk 1 (pc' := 101) (lv' := [some (.ref b), none, some (.int x2), none, some (.int x4), some (.int x5), some (.int x6)]) (st' := [.ref b]) rfl ?_
    refine Wp.getR rfl rfl hb.1 rfl ?_
    refine Wp.pk 2 (pc' := 108) (lv' := [some (.ref b), none, some (.int x2), none, some (.int x4), some (.int x5), some (.int x6)]) (st' := [.int x5, .int x6, .ref (b + 6)]) rfl ?_
    refine Wp.callI rfl rfl rfl (CallI.mono h (fun v4 m3 h => ?_))
    refine Wp.pk 1 (pc' := 112) (lv' := [some (.ref b), none, some (.int x2), none, some (.int x4), some (.int x5), some (.int x6)]) (st' := [.int v4, .ref (b + 6), .int v4, .ref (b + 6)]) rfl ?_
    refine Wp.iald rfl hb.2.2.2.2.2.2.1 ⟨h.1, ?_⟩
    replace h := h.2
    refine Wp.pk 4 (pc' := 118) (lv' := [some (.ref b), none, some (.int x2), none, some (.int x4), some (.int x5), some (.int x6)]) (st' := [.int ((m3 (b + 6) (Int32.toNatClampNeg v4)) ||| (1 <<< (x4 &&& 31))), .int v4, .ref (b + 6)]) rfl ?_
    refine Wp.iastN rfl hb.2.2.2.2.2.2.1 h.1 (fun m5 hm => ?_)
    replace h := h.2 _ hm
    refine Wp.pk 2 (pc' := 89) (lv' := [some (.ref b), none, some (.int x2), none, some (.int x4), some (.int x5), some (.int (x6 + 1))]) (st' := []) rfl ?_
    exact h
theorem eX0_takeOff_0 {X : a_X} {m : Nat → Nat → Int32} {Q : Option Value → (Nat → Nat → Int32) → Prop} {b : Nat} (hb : sBills b) {x1 : Int32} (h : vp_in x1 20 ∧ Wp X mX0_takeOff 9 [some (.ref b), some (.int x1), some (.int 0), some (.int (m (b + 3) (Int32.toNatClampNeg x1))), none, none, none] [] m Q) : Call X mX0_takeOff [.ref b, .int x1] m Q := by
  unfold Call
  refine Wp.loc (lv' := [some (.ref b), some (.int x1), none, none, none, none, none]) rfl ?_
  refine Wp.pk 3 (pc' := 3) (lv' := [some (.ref b), some (.int x1), some (.int 0), none, none, none, none]) (st' := [.ref b]) rfl ?_
  refine Wp.getR rfl rfl hb.1 rfl ?_
  refine Wp.pk 1 (pc' := 7) (lv' := [some (.ref b), some (.int x1), some (.int 0), none, none, none, none]) (st' := [.int x1, .ref (b + 3)]) rfl ?_
  refine Wp.iald rfl hb.2.2.2.1 ⟨h.1, ?_⟩
  replace h := h.2
  refine Wp.pk 1 (pc' := 9) (lv' := [some (.ref b), some (.int x1), some (.int 0), some (.int (m (b + 3) (Int32.toNatClampNeg x1))), none, none, none]) (st' := []) rfl ?_
  exact h
theorem eX0_takeOff_9 {X : a_X} {m : Nat → Nat → Int32} {Q : Option Value → (Nat → Nat → Int32) → Prop} {b : Nat} (hb : sBills b) {x1 x2 x3 : Int32} (h : CallI X mX0_bottom [.ref b, .int x1] m (fun v2 m1 => (v2 ≤ x3 → ∀ m3, m3 = (a_up m1 b 9 ((m1 b 9) &&& ((1 <<< (x1 &&& 31)) ^^^ (-1)))) → Q (some (.int x2)) m3) ∧ (¬ v2 ≤ x3 → vp_in x1 20 ∧ Wp X mX0_takeOff 26 [some (.ref b), some (.int x1), some (.int x2), some (.int x3), some (.int (m1 (b + 2) (Int32.toNatClampNeg x1))), none, none] [] m1 Q))) : Wp X mX0_takeOff 9 [some (.ref b), some (.int x1), some (.int x2), some (.int x3), none, none, none] [] m Q := by
  refine Wp.pk 3 (pc' := 12) (lv' := [some (.ref b), some (.int x1), some (.int x2), some (.int x3), none, none, none]) (st' := [.int x1, .ref b, .int x3]) rfl ?_
  refine Wp.callI rfl rfl (a_callV_at rfl rfl rfl hb.1 rfl) (CallI.mono h (fun v2 m1 h => ?_))
  refine Wp.icmp_ge rfl rfl ⟨fun hc => ?_, fun hc => ?_⟩
  · replace h := h.1 hc
    refine Wp.pk 2 (pc' := 123) (lv' := [some (.ref b), some (.int x1), some (.int x2), some (.int x3), none, none, none]) (st' := [.ref b, .ref b]) rfl ?_
    refine Wp.getI rfl rfl hb.1 rfl ?_
    refine Wp.pk 6 (pc' := 132) (lv' := [some (.ref b), some (.int x1), some (.int x2), some (.int x3), none, none, none]) (st' := [.int ((m1 b 9) &&& ((1 <<< (x1 &&& 31)) ^^^ (-1))), .ref b]) rfl ?_
    refine Wp.putN rfl rfl hb.1 rfl rfl (fun m3 hm => ?_)
    replace h := h _ hm
    refine Wp.pk 1 (pc' := 136) (lv' := [some (.ref b), some (.int x1), some (.int x2), some (.int x3), none, none, none]) (st' := [.int x2]) rfl ?_
    exact Wp.iret rfl rfl ⟨rfl, h⟩
  · replace h := h.2 hc
    refine Wp.pk 1 (pc' := 19) (lv' := [some (.ref b), some (.int x1), some (.int x2), some (.int x3), none, none, none]) (st' := [.ref b]) rfl ?_
    refine Wp.getR rfl rfl hb.1 rfl ?_
    refine Wp.pk 1 (pc' := 23) (lv' := [some (.ref b), some (.int x1), some (.int x2), some (.int x3), none, none, none]) (st' := [.int x1, .ref (b + 2)]) rfl ?_
    refine Wp.iald rfl hb.2.2.1 ⟨h.1, ?_⟩
    replace h := h.2
    refine Wp.pk 1 (pc' := 26) (lv' := [some (.ref b), some (.int x1), some (.int x2), some (.int x3), some (.int (m1 (b + 2) (Int32.toNatClampNeg x1))), none, none]) (st' := []) rfl ?_
    exact h
theorem eX0_takeOff_26 {X : a_X} {m : Nat → Nat → Int32} {Q : Option Value → (Nat → Nat → Int32) → Prop} {b : Nat} (hb : sBills b) {x1 x2 x3 x4 : Int32} (h : CallI X mX0_right [.ref b, .int x1] m (fun v2 m1 => (v2 ≤ x4 → Wp X mX0_takeOff 9 [some (.ref b), some (.int x1), some (.int x2), some (.int (x3 + 1)), none, none, none] [] m1 Q) ∧ (¬ v2 ≤ x4 → CallI X mX8_cellAt [.int x4, .int x3] m1 (fun v4 m3 => CallI X mX0_topAt [.ref b, .int v4] m3 (fun v6 m5 => (¬ v6 = x1 → vp_in v4 128 ∧ vp_in v4 128 ∧ ∀ m7, m7 = (a_up m5 (b + 6) (Int32.toNatClampNeg v4) ((m5 (b + 6) (Int32.toNatClampNeg v4)) &&& ((1 <<< (x1 &&& 31)) ^^^ (-1)))) → vp_in v4 128 ∧ vp_in v4 128 ∧ ∀ m8, m8 = (a_up m7 (b + 7) (Int32.toNatClampNeg v4) ((m7 (b + 7) (Int32.toNatClampNeg v4)) &&& ((1 <<< (x1 &&& 31)) ^^^ (-1)))) → Wp X mX0_takeOff 26 [some (.ref b), some (.int x1), some (.int x2), some (.int x3), some (.int (x4 + 1)), none, none] [] m8 Q) ∧ (v6 = x1 → vp_in v4 128 ∧ vp_in v4 128 ∧ ∀ m9, m9 = (a_up m5 (b + 6) (Int32.toNatClampNeg v4) ((m5 (b + 6) (Int32.toNatClampNeg v4)) &&& ((1 <<< (x1 &&& 31)) ^^^ (-1)))) → vp_in v4 128 ∧ vp_in v4 128 ∧ ∀ m10, m10 = (a_up m9 (b + 7) (Int32.toNatClampNeg v4) ((m9 (b + 7) (Int32.toNatClampNeg v4)) &&& ((1 <<< (x1 &&& 31)) ^^^ (-1)))) → CallI X mX0_topAt [.ref b, .int v4] m10 (fun v12 m11 => (v12 = (-1) → Wp X mX0_takeOff 26 [some (.ref b), some (.int x1), some (.int x2), some (.int x3), some (.int (x4 + 1)), none, none] [] m11 Q) ∧ (¬ v12 = (-1) → Wp X mX0_takeOff 26 [some (.ref b), some (.int x1), some (.int (x2 + 1)), some (.int x3), some (.int (x4 + 1)), none, none] [] m11 Q)))))))) : Wp X mX0_takeOff 26 [some (.ref b), some (.int x1), some (.int x2), some (.int x3), some (.int x4), none, none] [] m Q := by
  refine Wp.pk 3 (pc' := 30) (lv' := [some (.ref b), some (.int x1), some (.int x2), some (.int x3), some (.int x4), none, none]) (st' := [.int x1, .ref b, .int x4]) rfl ?_
  refine Wp.callI rfl rfl (a_callV_at rfl rfl rfl hb.1 rfl) (CallI.mono h (fun v2 m1 h => ?_))
  refine Wp.icmp_ge rfl rfl ⟨fun hc => ?_, fun hc => ?_⟩
  · replace h := h.1 hc
    refine Wp.pk 2 (pc' := 9) (lv' := [some (.ref b), some (.int x1), some (.int x2), some (.int (x3 + 1)), some (.int x4), none, none]) (st' := []) rfl ?_
    exact Wp.fgt (lv := [some (.ref b), some (.int x1), some (.int x2), some (.int (x3 + 1)), none, none, none]) (a_lle.of (a_lleb_e (a_lleb_e (a_lleb_e (a_lleb_e (a_lleb_i (a_lleb_e (a_lleb_e trivial)))))))) h
  · replace h := h.2 hc
    refine Wp.pk 2 (pc' := 39) (lv' := [some (.ref b), some (.int x1), some (.int x2), some (.int x3), some (.int x4), none, none]) (st' := [.int x3, .int x4]) rfl ?_
    refine Wp.callI rfl rfl rfl (CallI.mono h (fun v4 m3 h => ?_))
    refine Wp.pk 3 (pc' := 47) (lv' := [some (.ref b), some (.int x1), some (.int x2), some (.int x3), some (.int x4), some (.int v4), none]) (st' := [.int v4, .ref b]) rfl ?_
    refine Wp.callI rfl rfl (a_callV_at rfl rfl rfl hb.1 rfl) (CallI.mono h (fun v6 m5 h => ?_))
    refine Wp.pk 1 (pc' := 51) (lv' := [some (.ref b), some (.int x1), some (.int x2), some (.int x3), some (.int x4), some (.int v4), none]) (st' := [.int x1, .int v6]) rfl ?_
    refine Wp.icmp_ne rfl rfl ⟨fun hc => ?_, fun hc => ?_⟩
    · replace h := h.1 hc
      refine Wp.pk 3 (pc' := 62) (lv' := [some (.ref b), some (.int x1), some (.int x2), some (.int x3), some (.int x4), some (.int v4), some (.int 0)]) (st' := [.ref b]) rfl ?_
      refine Wp.getR rfl rfl hb.1 rfl ?_
      refine Wp.pk 2 (pc' := 68) (lv' := [some (.ref b), some (.int x1), some (.int x2), some (.int x3), some (.int x4), some (.int v4), some (.int 0)]) (st' := [.int v4, .ref (b + 6), .int v4, .ref (b + 6)]) rfl ?_
      refine Wp.iald rfl hb.2.2.2.2.2.2.1 ⟨h.1, ?_⟩
      replace h := h.2
      refine Wp.pk 6 (pc' := 75) (lv' := [some (.ref b), some (.int x1), some (.int x2), some (.int x3), some (.int x4), some (.int v4), some (.int 0)]) (st' := [.int ((m5 (b + 6) (Int32.toNatClampNeg v4)) &&& ((1 <<< (x1 &&& 31)) ^^^ (-1))), .int v4, .ref (b + 6)]) rfl ?_
      refine Wp.iastN rfl hb.2.2.2.2.2.2.1 h.1 (fun m7 hm => ?_)
      replace h := h.2 _ hm
      refine Wp.pk 1 (pc' := 77) (lv' := [some (.ref b), some (.int x1), some (.int x2), some (.int x3), some (.int x4), some (.int v4), some (.int 0)]) (st' := [.ref b]) rfl ?_
      refine Wp.getR rfl rfl hb.1 rfl ?_
      refine Wp.pk 2 (pc' := 83) (lv' := [some (.ref b), some (.int x1), some (.int x2), some (.int x3), some (.int x4), some (.int v4), some (.int 0)]) (st' := [.int v4, .ref (b + 7), .int v4, .ref (b + 7)]) rfl ?_
      refine Wp.iald rfl hb.2.2.2.2.2.2.2 ⟨h.1, ?_⟩
      replace h := h.2
      refine Wp.pk 6 (pc' := 90) (lv' := [some (.ref b), some (.int x1), some (.int x2), some (.int x3), some (.int x4), some (.int v4), some (.int 0)]) (st' := [.int ((m7 (b + 7) (Int32.toNatClampNeg v4)) &&& ((1 <<< (x1 &&& 31)) ^^^ (-1))), .int v4, .ref (b + 7)]) rfl ?_
      refine Wp.iastN rfl hb.2.2.2.2.2.2.2 h.1 (fun m8 hm => ?_)
      replace h := h.2 _ hm
      refine Wp.pk 4 (pc' := 26) (lv' := [some (.ref b), some (.int x1), some (.int x2), some (.int x3), some (.int (x4 + 1)), some (.int v4), some (.int 0)]) (st' := []) rfl ?_
      exact Wp.fgt (lv := [some (.ref b), some (.int x1), some (.int x2), some (.int x3), some (.int (x4 + 1)), none, none]) (a_lle.of (a_lleb_e (a_lleb_e (a_lleb_e (a_lleb_e (a_lleb_e (a_lleb_i (a_lleb_i trivial)))))))) h
    · replace h := h.2 hc
      refine Wp.pk 4 (pc' := 62) (lv' := [some (.ref b), some (.int x1), some (.int x2), some (.int x3), some (.int x4), some (.int v4), some (.int 1)]) (st' := [.ref b]) rfl ?_
      refine Wp.getR rfl rfl hb.1 rfl ?_
      refine Wp.pk 2 (pc' := 68) (lv' := [some (.ref b), some (.int x1), some (.int x2), some (.int x3), some (.int x4), some (.int v4), some (.int 1)]) (st' := [.int v4, .ref (b + 6), .int v4, .ref (b + 6)]) rfl ?_
      refine Wp.iald rfl hb.2.2.2.2.2.2.1 ⟨h.1, ?_⟩
      replace h := h.2
      refine Wp.pk 6 (pc' := 75) (lv' := [some (.ref b), some (.int x1), some (.int x2), some (.int x3), some (.int x4), some (.int v4), some (.int 1)]) (st' := [.int ((m5 (b + 6) (Int32.toNatClampNeg v4)) &&& ((1 <<< (x1 &&& 31)) ^^^ (-1))), .int v4, .ref (b + 6)]) rfl ?_
      refine Wp.iastN rfl hb.2.2.2.2.2.2.1 h.1 (fun m9 hm => ?_)
      replace h := h.2 _ hm
      refine Wp.pk 1 (pc' := 77) (lv' := [some (.ref b), some (.int x1), some (.int x2), some (.int x3), some (.int x4), some (.int v4), some (.int 1)]) (st' := [.ref b]) rfl ?_
      refine Wp.getR rfl rfl hb.1 rfl ?_
      refine Wp.pk 2 (pc' := 83) (lv' := [some (.ref b), some (.int x1), some (.int x2), some (.int x3), some (.int x4), some (.int v4), some (.int 1)]) (st' := [.int v4, .ref (b + 7), .int v4, .ref (b + 7)]) rfl ?_
      refine Wp.iald rfl hb.2.2.2.2.2.2.2 ⟨h.1, ?_⟩
      replace h := h.2
      refine Wp.pk 6 (pc' := 90) (lv' := [some (.ref b), some (.int x1), some (.int x2), some (.int x3), some (.int x4), some (.int v4), some (.int 1)]) (st' := [.int ((m9 (b + 7) (Int32.toNatClampNeg v4)) &&& ((1 <<< (x1 &&& 31)) ^^^ (-1))), .int v4, .ref (b + 7)]) rfl ?_
      refine Wp.iastN rfl hb.2.2.2.2.2.2.2 h.1 (fun m10 hm => ?_)
      replace h := h.2 _ hm
      refine Wp.pk 4 (pc' := 99) (lv' := [some (.ref b), some (.int x1), some (.int x2), some (.int x3), some (.int x4), some (.int v4), some (.int 1)]) (st' := [.int v4, .ref b]) rfl ?_
      refine Wp.callI rfl rfl (a_callV_at rfl rfl rfl hb.1 rfl) (CallI.mono h (fun v12 m11 h => ?_))
      refine Wp.pk 1 (pc' := 103) (lv' := [some (.ref b), some (.int x1), some (.int x2), some (.int x3), some (.int x4), some (.int v4), some (.int 1)]) (st' := [.int (-1), .int v12]) rfl ?_
      refine Wp.icmp_eq rfl rfl ⟨fun hc => ?_, fun hc => ?_⟩
      · replace h := h.1 hc
        refine Wp.pk 2 (pc' := 26) (lv' := [some (.ref b), some (.int x1), some (.int x2), some (.int x3), some (.int (x4 + 1)), some (.int v4), some (.int 1)]) (st' := []) rfl ?_
        exact Wp.fgt (lv := [some (.ref b), some (.int x1), some (.int x2), some (.int x3), some (.int (x4 + 1)), none, none]) (a_lle.of (a_lleb_e (a_lleb_e (a_lleb_e (a_lleb_e (a_lleb_e (a_lleb_i (a_lleb_i trivial)))))))) h
      · replace h := h.2 hc
        refine Wp.pk 3 (pc' := 26) (lv' := [some (.ref b), some (.int x1), some (.int (x2 + 1)), some (.int x3), some (.int (x4 + 1)), some (.int v4), some (.int 1)]) (st' := []) rfl ?_
        exact Wp.fgt (lv := [some (.ref b), some (.int x1), some (.int (x2 + 1)), some (.int x3), some (.int (x4 + 1)), none, none]) (a_lle.of (a_lleb_e (a_lleb_e (a_lleb_e (a_lleb_e (a_lleb_e (a_lleb_i (a_lleb_i trivial)))))))) h
theorem eX0_undoHang_0 {X : a_X} {m : Nat → Nat → Int32} {Q : Option Value → (Nat → Nat → Int32) → Prop} {b : Nat} (hb : sBills b) (h : ((m b 1) ≤ 0 → Q none m) ∧ (¬ (m b 1) ≤ 0 → CallI X mX0_takeOff [.ref b, .int ((m b 1) - 1)] m (fun v2 m1 => ∀ m3, m3 = (a_up m1 b 1 ((m1 b 1) - 1)) → Q none m3))) : Call X mX0_undoHang [.ref b] m Q := by
  unfold Call
  refine Wp.loc (lv' := [some (.ref b)]) rfl ?_
  refine Wp.pk 1 (pc' := 1) (lv' := [some (.ref b)]) (st' := [.ref b]) rfl ?_
  refine Wp.getI rfl rfl hb.1 rfl ?_
  refine Wp.if_le rfl rfl ⟨fun hc => ?_, fun hc => ?_⟩
  · replace h := h.1 hc
    exact Wp.vret rfl rfl h
  · replace h := h.2 hc
    refine Wp.pk 2 (pc' := 9) (lv' := [some (.ref b)]) (st' := [.ref b, .ref b]) rfl ?_
    refine Wp.getI rfl rfl hb.1 rfl ?_
    refine Wp.pk 2 (pc' := 14) (lv' := [some (.ref b)]) (st' := [.int ((m b 1) - 1), .ref b]) rfl ?_
    refine Wp.callI rfl rfl (a_callV_at rfl rfl rfl hb.1 rfl) (CallI.mono h (fun v2 m1 h => ?_))
    refine Wp.pk 3 (pc' := 20) (lv' := [some (.ref b)]) (st' := [.ref b, .ref b]) rfl ?_
    refine Wp.getI rfl rfl hb.1 rfl ?_
    refine Wp.pk 2 (pc' := 25) (lv' := [some (.ref b)]) (st' := [.int ((m1 b 1) - 1), .ref b]) rfl ?_
    refine Wp.putN rfl rfl hb.1 rfl rfl (fun m3 hm => ?_)
    replace h := h _ hm
    exact Wp.vret rfl rfl h
theorem eX0_tearTop_0 {X : a_X} {m : Nat → Nat → Int32} {Q : Option Value → (Nat → Nat → Int32) → Prop} {b : Nat} (hb : sBills b) {x1 : Int32} (h : CallI X mX0_topAt [.ref b, .int x1] m (fun v2 m1 => (v2 = (-1) → Q (some (.int v2)) m1) ∧ (¬ v2 = (-1) → vp_in x1 128 ∧ vp_in x1 128 ∧ ∀ m3, m3 = (a_up m1 (b + 6) (Int32.toNatClampNeg x1) ((m1 (b + 6) (Int32.toNatClampNeg x1)) &&& ((1 <<< (v2 &&& 31)) ^^^ (-1)))) → vp_in x1 128 ∧ vp_in x1 128 ∧ ∀ m4, m4 = (a_up m3 (b + 7) (Int32.toNatClampNeg x1) ((m3 (b + 7) (Int32.toNatClampNeg x1)) ||| (1 <<< (v2 &&& 31)))) → Q (some (.int v2)) m4))) : Call X mX0_tearTop [.ref b, .int x1] m Q := by
  unfold Call
  refine Wp.loc (lv' := [some (.ref b), some (.int x1), none]) rfl ?_
  refine Wp.pk 2 (pc' := 2) (lv' := [some (.ref b), some (.int x1), none]) (st' := [.int x1, .ref b]) rfl ?_
  refine Wp.callI rfl rfl (a_callV_at rfl rfl rfl hb.1 rfl) (CallI.mono h (fun v2 m1 h => ?_))
  refine Wp.pk 3 (pc' := 8) (lv' := [some (.ref b), some (.int x1), some (.int v2)]) (st' := [.int (-1), .int v2]) rfl ?_
  refine Wp.icmp_eq rfl rfl ⟨fun hc => ?_, fun hc => ?_⟩
  · replace h := h.1 hc
    refine Wp.pk 1 (pc' := 38) (lv' := [some (.ref b), some (.int x1), some (.int v2)]) (st' := [.int v2]) rfl ?_
    exact Wp.iret rfl rfl ⟨rfl, h⟩
  · replace h := h.2 hc
    refine Wp.pk 1 (pc' := 12) (lv' := [some (.ref b), some (.int x1), some (.int v2)]) (st' := [.ref b]) rfl ?_
    refine Wp.getR rfl rfl hb.1 rfl ?_
    refine Wp.pk 2 (pc' := 17) (lv' := [some (.ref b), some (.int x1), some (.int v2)]) (st' := [.int x1, .ref (b + 6), .int x1, .ref (b + 6)]) rfl ?_
    refine Wp.iald rfl hb.2.2.2.2.2.2.1 ⟨h.1, ?_⟩
    replace h := h.2
    refine Wp.pk 6 (pc' := 24) (lv' := [some (.ref b), some (.int x1), some (.int v2)]) (st' := [.int ((m1 (b + 6) (Int32.toNatClampNeg x1)) &&& ((1 <<< (v2 &&& 31)) ^^^ (-1))), .int x1, .ref (b + 6)]) rfl ?_
    refine Wp.iastN rfl hb.2.2.2.2.2.2.1 h.1 (fun m3 hm => ?_)
    replace h := h.2 _ hm
    refine Wp.pk 1 (pc' := 26) (lv' := [some (.ref b), some (.int x1), some (.int v2)]) (st' := [.ref b]) rfl ?_
    refine Wp.getR rfl rfl hb.1 rfl ?_
    refine Wp.pk 2 (pc' := 31) (lv' := [some (.ref b), some (.int x1), some (.int v2)]) (st' := [.int x1, .ref (b + 7), .int x1, .ref (b + 7)]) rfl ?_
    refine Wp.iald rfl hb.2.2.2.2.2.2.2 ⟨h.1, ?_⟩
    replace h := h.2
    refine Wp.pk 4 (pc' := 36) (lv' := [some (.ref b), some (.int x1), some (.int v2)]) (st' := [.int ((m3 (b + 7) (Int32.toNatClampNeg x1)) ||| (1 <<< (v2 &&& 31))), .int x1, .ref (b + 7)]) rfl ?_
    refine Wp.iastN rfl hb.2.2.2.2.2.2.2 h.1 (fun m4 hm => ?_)
    replace h := h.2 _ hm
    refine Wp.pk 1 (pc' := 38) (lv' := [some (.ref b), some (.int x1), some (.int v2)]) (st' := [.int v2]) rfl ?_
    exact Wp.iret rfl rfl ⟨rfl, h⟩
theorem eX0_loosen_0 {X : a_X} {m : Nat → Nat → Int32} {Q : Option Value → (Nat → Nat → Int32) → Prop} {b : Nat} (hb : sBills b) {x1 : Int32} (h : Wp X mX0_loosen 4 [some (.ref b), some (.int x1), some (.int 0), some (.int 0), none, none] [] m Q) : Call X mX0_loosen [.ref b, .int x1] m Q := by
  unfold Call
  refine Wp.loc (lv' := [some (.ref b), some (.int x1), none, none, none, none]) rfl ?_
  refine Wp.pk 4 (pc' := 4) (lv' := [some (.ref b), some (.int x1), some (.int 0), some (.int 0), none, none]) (st' := []) rfl ?_
  exact h
theorem eX0_loosen_4 {X : a_X} {m : Nat → Nat → Int32} {Q : Option Value → (Nat → Nat → Int32) → Prop} {b : Nat} (hb : sBills b) {x1 x2 x3 : Int32} (h : ((m 1 1) ≤ x3 → Q (some (.int x2)) m) ∧ (¬ (m 1 1) ≤ x3 → Wp X mX0_loosen 18 [some (.ref b), some (.int x1), some (.int x2), some (.int x3), some (.int 0), none] [] m Q)) : Wp X mX0_loosen 4 [some (.ref b), some (.int x1), some (.int x2), some (.int x3), none, none] [] m Q := by
  refine Wp.pk 2 (pc' := 6) (lv' := [some (.ref b), some (.int x1), some (.int x2), some (.int x3), none, none]) (st' := [.ref b, .int x3]) rfl ?_
  refine Wp.getR rfl rfl hb.1 rfl ?_
  refine Wp.getI rfl rfl sh1 rfl ?_
  refine Wp.icmp_ge rfl rfl ⟨fun hc => ?_, fun hc => ?_⟩
  · replace h := h.1 hc
    refine Wp.pk 1 (pc' := 79) (lv' := [some (.ref b), some (.int x1), some (.int x2), some (.int x3), none, none]) (st' := [.int x2]) rfl ?_
    exact Wp.iret rfl rfl ⟨rfl, h⟩
  · replace h := h.2 hc
    refine Wp.pk 2 (pc' := 18) (lv' := [some (.ref b), some (.int x1), some (.int x2), some (.int x3), some (.int 0), none]) (st' := []) rfl ?_
    exact h
theorem eX0_loosen_18 {X : a_X} {m : Nat → Nat → Int32} {Q : Option Value → (Nat → Nat → Int32) → Prop} {b : Nat} (hb : sBills b) {x1 x2 x3 x4 : Int32} (h : ((m 1 0) ≤ x4 → Wp X mX0_loosen 4 [some (.ref b), some (.int x1), some (.int x2), some (.int (x3 + 1)), none, none] [] m Q) ∧ (¬ (m 1 0) ≤ x4 → CallI X mX8_cellAt [.int x4, .int x3] m (fun v2 m1 => CallI X mX0_topAt [.ref b, .int v2] m1 (fun v4 m3 => (v4 = (-1) → Wp X mX0_loosen 18 [some (.ref b), some (.int x1), some (.int x2), some (.int x3), some (.int (x4 + 1)), none] [] m3 Q) ∧ (¬ v4 = (-1) → CallI X mX0_drawOfHundred [.ref b] m3 (fun v6 m5 => (x1 ≤ v6 → Wp X mX0_loosen 18 [some (.ref b), some (.int x1), some (.int x2), some (.int x3), some (.int (x4 + 1)), none] [] m5 Q) ∧ (¬ x1 ≤ v6 → CallI X mX0_tearTop [.ref b, .int v2] m5 (fun v8 m7 => Wp X mX0_loosen 18 [some (.ref b), some (.int x1), some (.int (x2 + 1)), some (.int x3), some (.int (x4 + 1)), none] [] m7 Q)))))))) : Wp X mX0_loosen 18 [some (.ref b), some (.int x1), some (.int x2), some (.int x3), some (.int x4), none] [] m Q := by
  refine Wp.pk 2 (pc' := 21) (lv' := [some (.ref b), some (.int x1), some (.int x2), some (.int x3), some (.int x4), none]) (st' := [.ref b, .int x4]) rfl ?_
  refine Wp.getR rfl rfl hb.1 rfl ?_
  refine Wp.getI rfl rfl sh1 rfl ?_
  refine Wp.icmp_ge rfl rfl ⟨fun hc => ?_, fun hc => ?_⟩
  · replace h := h.1 hc
    refine Wp.pk 2 (pc' := 4) (lv' := [some (.ref b), some (.int x1), some (.int x2), some (.int (x3 + 1)), some (.int x4), none]) (st' := []) rfl ?_
    exact Wp.fgt (lv := [some (.ref b), some (.int x1), some (.int x2), some (.int (x3 + 1)), none, none]) (a_lle.of (a_lleb_e (a_lleb_e (a_lleb_e (a_lleb_e (a_lleb_i (a_lleb_e trivial))))))) h
  · replace h := h.2 hc
    refine Wp.pk 2 (pc' := 33) (lv' := [some (.ref b), some (.int x1), some (.int x2), some (.int x3), some (.int x4), none]) (st' := [.int x3, .int x4]) rfl ?_
    refine Wp.callI rfl rfl rfl (CallI.mono h (fun v2 m1 h => ?_))
    refine Wp.pk 3 (pc' := 41) (lv' := [some (.ref b), some (.int x1), some (.int x2), some (.int x3), some (.int x4), some (.int v2)]) (st' := [.int v2, .ref b]) rfl ?_
    refine Wp.callI rfl rfl (a_callV_at rfl rfl rfl hb.1 rfl) (CallI.mono h (fun v4 m3 h => ?_))
    refine Wp.pk 1 (pc' := 45) (lv' := [some (.ref b), some (.int x1), some (.int x2), some (.int x3), some (.int x4), some (.int v2)]) (st' := [.int (-1), .int v4]) rfl ?_
    refine Wp.icmp_eq rfl rfl ⟨fun hc => ?_, fun hc => ?_⟩
    · replace h := h.1 hc
      refine Wp.pk 2 (pc' := 18) (lv' := [some (.ref b), some (.int x1), some (.int x2), some (.int x3), some (.int (x4 + 1)), some (.int v2)]) (st' := []) rfl ?_
      exact Wp.fgt (lv := [some (.ref b), some (.int x1), some (.int x2), some (.int x3), some (.int (x4 + 1)), none]) (a_lle.of (a_lleb_e (a_lleb_e (a_lleb_e (a_lleb_e (a_lleb_e (a_lleb_i trivial))))))) h
    · replace h := h.2 hc
      refine Wp.pk 1 (pc' := 49) (lv' := [some (.ref b), some (.int x1), some (.int x2), some (.int x3), some (.int x4), some (.int v2)]) (st' := [.ref b]) rfl ?_
      refine Wp.callI rfl rfl (a_callV_at rfl rfl rfl hb.1 rfl) (CallI.mono h (fun v6 m5 h => ?_))
      refine Wp.pk 1 (pc' := 53) (lv' := [some (.ref b), some (.int x1), some (.int x2), some (.int x3), some (.int x4), some (.int v2)]) (st' := [.int x1, .int v6]) rfl ?_
      refine Wp.icmp_ge rfl rfl ⟨fun hc => ?_, fun hc => ?_⟩
      · replace h := h.1 hc
        refine Wp.pk 2 (pc' := 18) (lv' := [some (.ref b), some (.int x1), some (.int x2), some (.int x3), some (.int (x4 + 1)), some (.int v2)]) (st' := []) rfl ?_
        exact Wp.fgt (lv := [some (.ref b), some (.int x1), some (.int x2), some (.int x3), some (.int (x4 + 1)), none]) (a_lle.of (a_lleb_e (a_lleb_e (a_lleb_e (a_lleb_e (a_lleb_e (a_lleb_i trivial))))))) h
      · replace h := h.2 hc
        refine Wp.pk 2 (pc' := 59) (lv' := [some (.ref b), some (.int x1), some (.int x2), some (.int x3), some (.int x4), some (.int v2)]) (st' := [.int v2, .ref b]) rfl ?_
        refine Wp.callI rfl rfl (a_callV_at rfl rfl rfl hb.1 rfl) (CallI.mono h (fun v8 m7 h => ?_))
        refine Wp.pk 4 (pc' := 18) (lv' := [some (.ref b), some (.int x1), some (.int (x2 + 1)), some (.int x3), some (.int (x4 + 1)), some (.int v2)]) (st' := []) rfl ?_
        exact Wp.fgt (lv := [some (.ref b), some (.int x1), some (.int (x2 + 1)), some (.int x3), some (.int (x4 + 1)), none]) (a_lle.of (a_lleb_e (a_lleb_e (a_lleb_e (a_lleb_e (a_lleb_e (a_lleb_i trivial))))))) h
theorem eX0_drawOfHundred_0 {X : a_X} {m : Nat → Nat → Int32} {Q : Option Value → (Nat → Nat → Int32) → Prop} {b : Nat} (hb : sBills b) (h : ∀ m1, m1 = (a_up m b 3 (Int64.toInt32 (a_remL (((Int32.toInt64 (m b 3)) * 1103515245) + 12345) 2147483648))) → Q (some (.int (a_rem ((m1 b 3) / 65536) 100))) m1) : Call X mX0_drawOfHundred [.ref b] m Q := by
  unfold Call
  refine Wp.loc (lv' := [some (.ref b)]) rfl ?_
  refine Wp.pk 2 (pc' := 2) (lv' := [some (.ref b)]) (st' := [.ref b, .ref b]) rfl ?_
  refine Wp.getI rfl rfl hb.1 rfl ?_
  refine Wp.pk 1 (pc' := 6) (lv' := [some (.ref b)]) (st' := [.long (Int32.toInt64 (m b 3)), .ref b]) rfl ?_
  refine Wp.ldc2 rfl rfl ?_
  refine Wp.pk 1 (pc' := 10) (lv' := [some (.ref b)]) (st' := [.long ((Int32.toInt64 (m b 3)) * 1103515245), .ref b]) rfl ?_
  refine Wp.ldc2 rfl rfl ?_
  refine Wp.pk 1 (pc' := 14) (lv' := [some (.ref b)]) (st' := [.long (((Int32.toInt64 (m b 3)) * 1103515245) + 12345), .ref b]) rfl ?_
  refine Wp.ldc2 rfl rfl ?_
  refine Wp.pk 2 (pc' := 19) (lv' := [some (.ref b)]) (st' := [.int (Int64.toInt32 (a_remL (((Int32.toInt64 (m b 3)) * 1103515245) + 12345) 2147483648)), .ref b]) rfl ?_
  refine Wp.putN rfl rfl hb.1 rfl rfl (fun m1 hm => ?_)
  replace h := h _ hm
  refine Wp.pk 1 (pc' := 23) (lv' := [some (.ref b)]) (st' := [.ref b]) rfl ?_
  refine Wp.getI rfl rfl hb.1 rfl ?_
  refine Wp.ldc rfl rfl ?_
  refine Wp.pk 3 (pc' := 32) (lv' := [some (.ref b)]) (st' := [.int (a_rem ((m1 b 3) / 65536) 100)]) rfl ?_
  exact Wp.iret rfl rfl ⟨rfl, h⟩
theorem eX0_tornCells_0 {X : a_X} {m : Nat → Nat → Int32} {Q : Option Value → (Nat → Nat → Int32) → Prop} {b : Nat} (hb : sBills b) {x1 : Int32} (h : vp_in x1 20 ∧ Wp X mX0_tornCells 9 [some (.ref b), some (.int x1), some (.int 0), some (.int (m (b + 3) (Int32.toNatClampNeg x1))), none] [] m Q) : Call X mX0_tornCells [.ref b, .int x1] m Q := by
  unfold Call
  refine Wp.loc (lv' := [some (.ref b), some (.int x1), none, none, none]) rfl ?_
  refine Wp.pk 3 (pc' := 3) (lv' := [some (.ref b), some (.int x1), some (.int 0), none, none]) (st' := [.ref b]) rfl ?_
  refine Wp.getR rfl rfl hb.1 rfl ?_
  refine Wp.pk 1 (pc' := 7) (lv' := [some (.ref b), some (.int x1), some (.int 0), none, none]) (st' := [.int x1, .ref (b + 3)]) rfl ?_
  refine Wp.iald rfl hb.2.2.2.1 ⟨h.1, ?_⟩
  replace h := h.2
  refine Wp.pk 1 (pc' := 9) (lv' := [some (.ref b), some (.int x1), some (.int 0), some (.int (m (b + 3) (Int32.toNatClampNeg x1))), none]) (st' := []) rfl ?_
  exact h
theorem eX0_tornCells_9 {X : a_X} {m : Nat → Nat → Int32} {Q : Option Value → (Nat → Nat → Int32) → Prop} {b : Nat} (hb : sBills b) {x1 x2 x3 : Int32} (h : CallI X mX0_bottom [.ref b, .int x1] m (fun v2 m1 => (v2 ≤ x3 → Q (some (.int x2)) m1) ∧ (¬ v2 ≤ x3 → vp_in x1 20 ∧ Wp X mX0_tornCells 26 [some (.ref b), some (.int x1), some (.int x2), some (.int x3), some (.int (m1 (b + 2) (Int32.toNatClampNeg x1)))] [] m1 Q))) : Wp X mX0_tornCells 9 [some (.ref b), some (.int x1), some (.int x2), some (.int x3), none] [] m Q := by
  refine Wp.pk 3 (pc' := 12) (lv' := [some (.ref b), some (.int x1), some (.int x2), some (.int x3), none]) (st' := [.int x1, .ref b, .int x3]) rfl ?_
  refine Wp.callI rfl rfl (a_callV_at rfl rfl rfl hb.1 rfl) (CallI.mono h (fun v2 m1 h => ?_))
  refine Wp.icmp_ge rfl rfl ⟨fun hc => ?_, fun hc => ?_⟩
  · replace h := h.1 hc
    refine Wp.pk 1 (pc' := 70) (lv' := [some (.ref b), some (.int x1), some (.int x2), some (.int x3), none]) (st' := [.int x2]) rfl ?_
    exact Wp.iret rfl rfl ⟨rfl, h⟩
  · replace h := h.2 hc
    refine Wp.pk 1 (pc' := 19) (lv' := [some (.ref b), some (.int x1), some (.int x2), some (.int x3), none]) (st' := [.ref b]) rfl ?_
    refine Wp.getR rfl rfl hb.1 rfl ?_
    refine Wp.pk 1 (pc' := 23) (lv' := [some (.ref b), some (.int x1), some (.int x2), some (.int x3), none]) (st' := [.int x1, .ref (b + 2)]) rfl ?_
    refine Wp.iald rfl hb.2.2.1 ⟨h.1, ?_⟩
    replace h := h.2
    refine Wp.pk 1 (pc' := 26) (lv' := [some (.ref b), some (.int x1), some (.int x2), some (.int x3), some (.int (m1 (b + 2) (Int32.toNatClampNeg x1)))]) (st' := []) rfl ?_
    exact h
theorem eX0_tornCells_26 {X : a_X} {m : Nat → Nat → Int32} {Q : Option Value → (Nat → Nat → Int32) → Prop} {b : Nat} (hb : sBills b) {x1 x2 x3 x4 : Int32} (h : CallI X mX0_right [.ref b, .int x1] m (fun v2 m1 => (v2 ≤ x4 → Wp X mX0_tornCells 9 [some (.ref b), some (.int x1), some (.int x2), some (.int (x3 + 1)), none] [] m1 Q) ∧ (¬ v2 ≤ x4 → CallI X mX8_cellAt [.int x4, .int x3] m1 (fun v4 m3 => vp_in v4 128 ∧ CallI X mX8_isIn [.int (m3 (b + 7) (Int32.toNatClampNeg v4)), .int x1] m3 (fun v6 m5 => (v6 = 0 → Wp X mX0_tornCells 26 [some (.ref b), some (.int x1), some (.int x2), some (.int x3), some (.int (x4 + 1))] [] m5 Q) ∧ (¬ v6 = 0 → Wp X mX0_tornCells 26 [some (.ref b), some (.int x1), some (.int (x2 + 1)), some (.int x3), some (.int (x4 + 1))] [] m5 Q)))))) : Wp X mX0_tornCells 26 [some (.ref b), some (.int x1), some (.int x2), some (.int x3), some (.int x4)] [] m Q := by
  refine Wp.pk 3 (pc' := 30) (lv' := [some (.ref b), some (.int x1), some (.int x2), some (.int x3), some (.int x4)]) (st' := [.int x1, .ref b, .int x4]) rfl ?_
  refine Wp.callI rfl rfl (a_callV_at rfl rfl rfl hb.1 rfl) (CallI.mono h (fun v2 m1 h => ?_))
  refine Wp.icmp_ge rfl rfl ⟨fun hc => ?_, fun hc => ?_⟩
  · replace h := h.1 hc
    refine Wp.pk 2 (pc' := 9) (lv' := [some (.ref b), some (.int x1), some (.int x2), some (.int (x3 + 1)), some (.int x4)]) (st' := []) rfl ?_
    exact Wp.fgt (lv := [some (.ref b), some (.int x1), some (.int x2), some (.int (x3 + 1)), none]) (a_lle.of (a_lleb_e (a_lleb_e (a_lleb_e (a_lleb_e (a_lleb_i trivial)))))) h
  · replace h := h.2 hc
    refine Wp.pk 1 (pc' := 37) (lv' := [some (.ref b), some (.int x1), some (.int x2), some (.int x3), some (.int x4)]) (st' := [.ref b]) rfl ?_
    refine Wp.getR rfl rfl hb.1 rfl ?_
    refine Wp.pk 2 (pc' := 43) (lv' := [some (.ref b), some (.int x1), some (.int x2), some (.int x3), some (.int x4)]) (st' := [.int x3, .int x4, .ref (b + 7)]) rfl ?_
    refine Wp.callI rfl rfl rfl (CallI.mono h (fun v4 m3 h => ?_))
    refine Wp.iald rfl hb.2.2.2.2.2.2.2 ⟨h.1, ?_⟩
    replace h := h.2
    refine Wp.pk 1 (pc' := 48) (lv' := [some (.ref b), some (.int x1), some (.int x2), some (.int x3), some (.int x4)]) (st' := [.int x1, .int (m3 (b + 7) (Int32.toNatClampNeg v4))]) rfl ?_
    refine Wp.callI rfl rfl rfl (CallI.mono h (fun v6 m5 h => ?_))
    refine Wp.if_eq rfl rfl ⟨fun hc => ?_, fun hc => ?_⟩
    · replace h := h.1 hc
      refine Wp.pk 2 (pc' := 26) (lv' := [some (.ref b), some (.int x1), some (.int x2), some (.int x3), some (.int (x4 + 1))]) (st' := []) rfl ?_
      exact h
    · replace h := h.2 hc
      refine Wp.pk 3 (pc' := 26) (lv' := [some (.ref b), some (.int x1), some (.int (x2 + 1)), some (.int x3), some (.int (x4 + 1))]) (st' := []) rfl ?_
      exact h
theorem eX0_hangingOf_0 {X : a_X} {m : Nat → Nat → Int32} {Q : Option Value → (Nat → Nat → Int32) → Prop} {b : Nat} (hb : sBills b) {x1 : Int32} (h : Wp X mX0_hangingOf 4 [some (.ref b), some (.int x1), some (.int 0), some (.int 0)] [] m Q) : Call X mX0_hangingOf [.ref b, .int x1] m Q := by
  unfold Call
  refine Wp.loc (lv' := [some (.ref b), some (.int x1), none, none]) rfl ?_
  refine Wp.pk 4 (pc' := 4) (lv' := [some (.ref b), some (.int x1), some (.int 0), some (.int 0)]) (st' := []) rfl ?_
  exact h
theorem eX0_hangingOf_4 {X : a_X} {m : Nat → Nat → Int32} {Q : Option Value → (Nat → Nat → Int32) → Prop} {b : Nat} (hb : sBills b) {x1 x2 x3 : Int32} (h : ((m b 1) ≤ x3 → Q (some (.int x2)) m) ∧ (¬ (m b 1) ≤ x3 → CallI X mX0_isOn [.ref b, .int x3] m (fun v2 m1 => (v2 = 0 → Wp X mX0_hangingOf 4 [some (.ref b), some (.int x1), some (.int x2), some (.int (x3 + 1))] [] m1 Q) ∧ (¬ v2 = 0 → CallI X mX0_ownerOf [.ref b, .int x3] m1 (fun v4 m3 => (¬ v4 = x1 → Wp X mX0_hangingOf 4 [some (.ref b), some (.int x1), some (.int x2), some (.int (x3 + 1))] [] m3 Q) ∧ (v4 = x1 → Wp X mX0_hangingOf 4 [some (.ref b), some (.int x1), some (.int (x2 + 1)), some (.int (x3 + 1))] [] m3 Q)))))) : Wp X mX0_hangingOf 4 [some (.ref b), some (.int x1), some (.int x2), some (.int x3)] [] m Q := by
  refine Wp.pk 2 (pc' := 6) (lv' := [some (.ref b), some (.int x1), some (.int x2), some (.int x3)]) (st' := [.ref b, .int x3]) rfl ?_
  refine Wp.getI rfl rfl hb.1 rfl ?_
  refine Wp.icmp_ge rfl rfl ⟨fun hc => ?_, fun hc => ?_⟩
  · replace h := h.1 hc
    refine Wp.pk 1 (pc' := 39) (lv' := [some (.ref b), some (.int x1), some (.int x2), some (.int x3)]) (st' := [.int x2]) rfl ?_
    exact Wp.iret rfl rfl ⟨rfl, h⟩
  · replace h := h.2 hc
    refine Wp.pk 2 (pc' := 14) (lv' := [some (.ref b), some (.int x1), some (.int x2), some (.int x3)]) (st' := [.int x3, .ref b]) rfl ?_
    refine Wp.callI rfl rfl (a_callV_at rfl rfl rfl hb.1 rfl) (CallI.mono h (fun v2 m1 h => ?_))
    refine Wp.if_eq rfl rfl ⟨fun hc => ?_, fun hc => ?_⟩
    · replace h := h.1 hc
      refine Wp.pk 2 (pc' := 4) (lv' := [some (.ref b), some (.int x1), some (.int x2), some (.int (x3 + 1))]) (st' := []) rfl ?_
      exact h
    · replace h := h.2 hc
      refine Wp.pk 2 (pc' := 22) (lv' := [some (.ref b), some (.int x1), some (.int x2), some (.int x3)]) (st' := [.int x3, .ref b]) rfl ?_
      refine Wp.callI rfl rfl (a_callV_at rfl rfl rfl hb.1 rfl) (CallI.mono h (fun v4 m3 h => ?_))
      refine Wp.pk 1 (pc' := 26) (lv' := [some (.ref b), some (.int x1), some (.int x2), some (.int x3)]) (st' := [.int x1, .int v4]) rfl ?_
      refine Wp.icmp_ne rfl rfl ⟨fun hc => ?_, fun hc => ?_⟩
      · replace h := h.1 hc
        refine Wp.pk 2 (pc' := 4) (lv' := [some (.ref b), some (.int x1), some (.int x2), some (.int (x3 + 1))]) (st' := []) rfl ?_
        exact h
      · replace h := h.2 hc
        refine Wp.pk 3 (pc' := 4) (lv' := [some (.ref b), some (.int x1), some (.int (x2 + 1)), some (.int (x3 + 1))]) (st' := []) rfl ?_
        exact h
theorem eX0_coversOf_0 {X : a_X} {m : Nat → Nat → Int32} {Q : Option Value → (Nat → Nat → Int32) → Prop} {b : Nat} (hb : sBills b) {x1 : Int32} (h : vp_in x1 20 ∧ Wp X mX0_coversOf 9 [some (.ref b), some (.int x1), some (.int 0), some (.int (m (b + 3) (Int32.toNatClampNeg x1))), none, none] [] m Q) : Call X mX0_coversOf [.ref b, .int x1] m Q := by
  unfold Call
  refine Wp.loc (lv' := [some (.ref b), some (.int x1), none, none, none, none]) rfl ?_
  refine Wp.pk 3 (pc' := 3) (lv' := [some (.ref b), some (.int x1), some (.int 0), none, none, none]) (st' := [.ref b]) rfl ?_
  refine Wp.getR rfl rfl hb.1 rfl ?_
  refine Wp.pk 1 (pc' := 7) (lv' := [some (.ref b), some (.int x1), some (.int 0), none, none, none]) (st' := [.int x1, .ref (b + 3)]) rfl ?_
  refine Wp.iald rfl hb.2.2.2.1 ⟨h.1, ?_⟩
  replace h := h.2
  refine Wp.pk 1 (pc' := 9) (lv' := [some (.ref b), some (.int x1), some (.int 0), some (.int (m (b + 3) (Int32.toNatClampNeg x1))), none, none]) (st' := []) rfl ?_
  exact h
theorem eX0_coversOf_9 {X : a_X} {m : Nat → Nat → Int32} {Q : Option Value → (Nat → Nat → Int32) → Prop} {b : Nat} (hb : sBills b) {x1 x2 x3 : Int32} (h : CallI X mX0_bottom [.ref b, .int x1] m (fun v2 m1 => (v2 ≤ x3 → CallI X mX0_laterThan [.int x2, .int x1] m1 (fun v4 m3 => Q (some (.int v4)) m3)) ∧ (¬ v2 ≤ x3 → vp_in x1 20 ∧ Wp X mX0_coversOf 26 [some (.ref b), some (.int x1), some (.int x2), some (.int x3), some (.int (m1 (b + 2) (Int32.toNatClampNeg x1))), none] [] m1 Q))) : Wp X mX0_coversOf 9 [some (.ref b), some (.int x1), some (.int x2), some (.int x3), none, none] [] m Q := by
  refine Wp.pk 3 (pc' := 12) (lv' := [some (.ref b), some (.int x1), some (.int x2), some (.int x3), none, none]) (st' := [.int x1, .ref b, .int x3]) rfl ?_
  refine Wp.callI rfl rfl (a_callV_at rfl rfl rfl hb.1 rfl) (CallI.mono h (fun v2 m1 h => ?_))
  refine Wp.icmp_ge rfl rfl ⟨fun hc => ?_, fun hc => ?_⟩
  · replace h := h.1 hc
    refine Wp.pk 2 (pc' := 77) (lv' := [some (.ref b), some (.int x1), some (.int x2), some (.int x3), none, none]) (st' := [.int x1, .int x2]) rfl ?_
    refine Wp.callI rfl rfl rfl (CallI.mono h (fun v4 m3 h => ?_))
    exact Wp.iret rfl rfl ⟨rfl, h⟩
  · replace h := h.2 hc
    refine Wp.pk 1 (pc' := 19) (lv' := [some (.ref b), some (.int x1), some (.int x2), some (.int x3), none, none]) (st' := [.ref b]) rfl ?_
    refine Wp.getR rfl rfl hb.1 rfl ?_
    refine Wp.pk 1 (pc' := 23) (lv' := [some (.ref b), some (.int x1), some (.int x2), some (.int x3), none, none]) (st' := [.int x1, .ref (b + 2)]) rfl ?_
    refine Wp.iald rfl hb.2.2.1 ⟨h.1, ?_⟩
    replace h := h.2
    refine Wp.pk 1 (pc' := 26) (lv' := [some (.ref b), some (.int x1), some (.int x2), some (.int x3), some (.int (m1 (b + 2) (Int32.toNatClampNeg x1))), none]) (st' := []) rfl ?_
    exact h
theorem eX0_coversOf_26 {X : a_X} {m : Nat → Nat → Int32} {Q : Option Value → (Nat → Nat → Int32) → Prop} {b : Nat} (hb : sBills b) {x1 x2 x3 x4 : Int32} (h : CallI X mX0_right [.ref b, .int x1] m (fun v2 m1 => (v2 ≤ x4 → Wp X mX0_coversOf 9 [some (.ref b), some (.int x1), some (.int x2), some (.int (x3 + 1)), none, none] [] m1 Q) ∧ (¬ v2 ≤ x4 → CallI X mX8_cellAt [.int x4, .int x3] m1 (fun v4 m3 => vp_in v4 128 ∧ CallI X mX8_isIn [.int (m3 (b + 6) (Int32.toNatClampNeg v4)), .int x1] m3 (fun v6 m5 => (v6 = 0 → Wp X mX0_coversOf 26 [some (.ref b), some (.int x1), some (.int x2), some (.int x3), some (.int (x4 + 1)), none] [] m5 Q) ∧ (¬ v6 = 0 → Wp X mX0_coversOf 26 [some (.ref b), some (.int x1), some (.int (x2 ||| (m3 (b + 6) (Int32.toNatClampNeg v4)))), some (.int x3), some (.int (x4 + 1)), none] [] m5 Q)))))) : Wp X mX0_coversOf 26 [some (.ref b), some (.int x1), some (.int x2), some (.int x3), some (.int x4), none] [] m Q := by
  refine Wp.pk 3 (pc' := 30) (lv' := [some (.ref b), some (.int x1), some (.int x2), some (.int x3), some (.int x4), none]) (st' := [.int x1, .ref b, .int x4]) rfl ?_
  refine Wp.callI rfl rfl (a_callV_at rfl rfl rfl hb.1 rfl) (CallI.mono h (fun v2 m1 h => ?_))
  refine Wp.icmp_ge rfl rfl ⟨fun hc => ?_, fun hc => ?_⟩
  · replace h := h.1 hc
    refine Wp.pk 2 (pc' := 9) (lv' := [some (.ref b), some (.int x1), some (.int x2), some (.int (x3 + 1)), some (.int x4), none]) (st' := []) rfl ?_
    exact Wp.fgt (lv := [some (.ref b), some (.int x1), some (.int x2), some (.int (x3 + 1)), none, none]) (a_lle.of (a_lleb_e (a_lleb_e (a_lleb_e (a_lleb_e (a_lleb_i (a_lleb_e trivial))))))) h
  · replace h := h.2 hc
    refine Wp.pk 1 (pc' := 37) (lv' := [some (.ref b), some (.int x1), some (.int x2), some (.int x3), some (.int x4), none]) (st' := [.ref b]) rfl ?_
    refine Wp.getR rfl rfl hb.1 rfl ?_
    refine Wp.pk 2 (pc' := 43) (lv' := [some (.ref b), some (.int x1), some (.int x2), some (.int x3), some (.int x4), none]) (st' := [.int x3, .int x4, .ref (b + 6)]) rfl ?_
    refine Wp.callI rfl rfl rfl (CallI.mono h (fun v4 m3 h => ?_))
    refine Wp.iald rfl hb.2.2.2.2.2.2.1 ⟨h.1, ?_⟩
    replace h := h.2
    refine Wp.pk 3 (pc' := 52) (lv' := [some (.ref b), some (.int x1), some (.int x2), some (.int x3), some (.int x4), some (.int (m3 (b + 6) (Int32.toNatClampNeg v4)))]) (st' := [.int x1, .int (m3 (b + 6) (Int32.toNatClampNeg v4))]) rfl ?_
    refine Wp.callI rfl rfl rfl (CallI.mono h (fun v6 m5 h => ?_))
    refine Wp.if_eq rfl rfl ⟨fun hc => ?_, fun hc => ?_⟩
    · replace h := h.1 hc
      refine Wp.pk 2 (pc' := 26) (lv' := [some (.ref b), some (.int x1), some (.int x2), some (.int x3), some (.int (x4 + 1)), some (.int (m3 (b + 6) (Int32.toNatClampNeg v4)))]) (st' := []) rfl ?_
      exact Wp.fgt (lv := [some (.ref b), some (.int x1), some (.int x2), some (.int x3), some (.int (x4 + 1)), none]) (a_lle.of (a_lleb_e (a_lleb_e (a_lleb_e (a_lleb_e (a_lleb_e (a_lleb_i trivial))))))) h
    · replace h := h.2 hc
      refine Wp.pk 6 (pc' := 26) (lv' := [some (.ref b), some (.int x1), some (.int (x2 ||| (m3 (b + 6) (Int32.toNatClampNeg v4)))), some (.int x3), some (.int (x4 + 1)), some (.int (m3 (b + 6) (Int32.toNatClampNeg v4)))]) (st' := []) rfl ?_
      exact Wp.fgt (lv := [some (.ref b), some (.int x1), some (.int (x2 ||| (m3 (b + 6) (Int32.toNatClampNeg v4)))), some (.int x3), some (.int (x4 + 1)), none]) (a_lle.of (a_lleb_e (a_lleb_e (a_lleb_e (a_lleb_e (a_lleb_e (a_lleb_i trivial))))))) h
theorem eX0_toFree_0 {X : a_X} {m : Nat → Nat → Int32} {Q : Option Value → (Nat → Nat → Int32) → Prop} {b : Nat} (hb : sBills b) {x1 : Int32} (h : CallI X mX0_coversOf [.ref b, .int x1] m (fun v2 m1 => Wp X mX0_toFree 10 [some (.ref b), none, some (.int v2), some (.int (x1 + 1))] [] m1 Q)) : Call X mX0_toFree [.ref b, .int x1] m Q := by
  unfold Call
  refine Wp.loc (lv' := [some (.ref b), some (.int x1), none, none]) rfl ?_
  refine Wp.pk 2 (pc' := 2) (lv' := [some (.ref b), some (.int x1), none, none]) (st' := [.int x1, .ref b]) rfl ?_
  refine Wp.callI rfl rfl (a_callV_at rfl rfl rfl hb.1 rfl) (CallI.mono h (fun v2 m1 h => ?_))
  refine Wp.pk 5 (pc' := 10) (lv' := [some (.ref b), some (.int x1), some (.int v2), some (.int (x1 + 1))]) (st' := []) rfl ?_
  exact Wp.fgt (lv := [some (.ref b), none, some (.int v2), some (.int (x1 + 1))]) (a_lle.of (a_lleb_e (a_lleb_i (a_lleb_e (a_lleb_e trivial))))) h
theorem eX0_toFree_10 {X : a_X} {m : Nat → Nat → Int32} {Q : Option Value → (Nat → Nat → Int32) → Prop} {b : Nat} (hb : sBills b) {x2 x3 : Int32} (h : ((m b 1) ≤ x3 → Q (some (.int x2)) m) ∧ (¬ (m b 1) ≤ x3 → CallI X mX8_isIn [.int x2, .int x3] m (fun v2 m1 => (v2 = 0 → Wp X mX0_toFree 10 [some (.ref b), none, some (.int x2), some (.int (x3 + 1))] [] m1 Q) ∧ (¬ v2 = 0 → CallI X mX0_coversOf [.ref b, .int x3] m1 (fun v4 m3 => Wp X mX0_toFree 10 [some (.ref b), none, some (.int (x2 ||| v4)), some (.int (x3 + 1))] [] m3 Q))))) : Wp X mX0_toFree 10 [some (.ref b), none, some (.int x2), some (.int x3)] [] m Q := by
  refine Wp.pk 2 (pc' := 12) (lv' := [some (.ref b), none, some (.int x2), some (.int x3)]) (st' := [.ref b, .int x3]) rfl ?_
  refine Wp.getI rfl rfl hb.1 rfl ?_
  refine Wp.icmp_ge rfl rfl ⟨fun hc => ?_, fun hc => ?_⟩
  · replace h := h.1 hc
    refine Wp.pk 1 (pc' := 41) (lv' := [some (.ref b), none, some (.int x2), some (.int x3)]) (st' := [.int x2]) rfl ?_
    exact Wp.iret rfl rfl ⟨rfl, h⟩
  · replace h := h.2 hc
    refine Wp.pk 2 (pc' := 20) (lv' := [some (.ref b), none, some (.int x2), some (.int x3)]) (st' := [.int x3, .int x2]) rfl ?_
    refine Wp.callI rfl rfl rfl (CallI.mono h (fun v2 m1 h => ?_))
    refine Wp.if_eq rfl rfl ⟨fun hc => ?_, fun hc => ?_⟩
    · replace h := h.1 hc
      refine Wp.pk 2 (pc' := 10) (lv' := [some (.ref b), none, some (.int x2), some (.int (x3 + 1))]) (st' := []) rfl ?_
      exact h
    · replace h := h.2 hc
      refine Wp.pk 3 (pc' := 29) (lv' := [some (.ref b), none, some (.int x2), some (.int x3)]) (st' := [.int x3, .ref b, .int x2]) rfl ?_
      refine Wp.callI rfl rfl (a_callV_at rfl rfl rfl hb.1 rfl) (CallI.mono h (fun v4 m3 h => ?_))
      refine Wp.pk 4 (pc' := 10) (lv' := [some (.ref b), none, some (.int (x2 ||| v4)), some (.int (x3 + 1))]) (st' := []) rfl ?_
      exact h
theorem eX0_laterThan_0 {X : a_X} {m : Nat → Nat → Int32} {Q : Option Value → (Nat → Nat → Int32) → Prop} {x0 x1 : Int32} (h : Q (some (.int ((x0 >>> ((x1 + 1) &&& 31)) <<< ((x1 + 1) &&& 31)))) m) : Call X mX0_laterThan [.int x0, .int x1] m Q := by
  unfold Call
  refine Wp.loc (lv' := [some (.int x0), some (.int x1)]) rfl ?_
  refine Wp.pk 9 (pc' := 9) (lv' := [some (.int x0), some (.int x1)]) (st' := [.int ((x0 >>> ((x1 + 1) &&& 31)) <<< ((x1 + 1) &&& 31))]) rfl ?_
  exact Wp.iret rfl rfl ⟨rfl, h⟩
