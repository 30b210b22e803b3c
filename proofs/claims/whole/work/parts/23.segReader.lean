theorem eX6_append_0 {X : a_X} {m : Nat → Nat → Int32} {Q : Option Value → (Nat → Nat → Int32) → Prop} {x1 : Int32} {x2 : Int64} (h : (((m 13 1) + x1) ≤ 300 → Wp X mX6_append 19 [some (.ref 13), none, some (.long x2), none, some (.int (x1 - 1))] [] m Q) ∧ (¬ ((m 13 1) + x1) ≤ 300 → Q (some (.int 0)) m)) : Call X mX6_append [.ref 13, .int x1, .long x2] m Q := by
  unfold Call
  refine Wp.loc (lv' := [some (.ref 13), some (.int x1), some (.long x2), none, none]) rfl ?_
  refine Wp.pk 1 (pc' := 1) (lv' := [some (.ref 13), some (.int x1), some (.long x2), none, none]) (st' := [.ref 13]) rfl ?_
  refine Wp.getI rfl rfl sh13 rfl ?_
  refine Wp.pk 3 (pc' := 9) (lv' := [some (.ref 13), some (.int x1), some (.long x2), none, none]) (st' := [.int 300, .int ((m 13 1) + x1)]) rfl ?_
  refine Wp.icmp_le rfl rfl ⟨fun hc => ?_, fun hc => ?_⟩
  · replace h := h.1 hc
    refine Wp.pk 4 (pc' := 19) (lv' := [some (.ref 13), some (.int x1), some (.long x2), none, some (.int (x1 - 1))]) (st' := []) rfl ?_
    exact Wp.fgt (lv := [some (.ref 13), none, some (.long x2), none, some (.int (x1 - 1))]) (a_lle.of (a_lleb_e (a_lleb_i (a_lleb_e (a_lleb_e (a_lleb_e trivial)))))) h
  · replace h := h.2 hc
    refine Wp.pk 1 (pc' := 13) (lv' := [some (.ref 13), some (.int x1), some (.long x2), none, none]) (st' := [.int 0]) rfl ?_
    exact Wp.iret rfl rfl ⟨rfl, h⟩
theorem eX6_append_19 {X : a_X} {m : Nat → Nat → Int32} {Q : Option Value → (Nat → Nat → Int32) → Prop} {x4 : Int32} {x2 : Int64} (h : (x4 < 0 → Q (some (.int 1)) m) ∧ (¬ x4 < 0 → vp_in (m 13 1) 300 ∧ ∀ m1, m1 = (a_up m 14 (Int32.toNatClampNeg (m 13 1)) (vp_nar .char ((Int32.toUInt32 (Int64.toInt32 ((a_ushL x2 (8 * x4)) &&& 255)) % 65536).toInt32))) → ∀ m2, m2 = (a_up m1 13 1 ((m1 13 1) + 1)) → Wp X mX6_append 19 [some (.ref 13), none, some (.long x2), none, some (.int (x4 + (-1)))] [] m2 Q)) : Wp X mX6_append 19 [some (.ref 13), none, some (.long x2), none, some (.int x4)] [] m Q := by
  refine Wp.pk 1 (pc' := 21) (lv' := [some (.ref 13), none, some (.long x2), none, some (.int x4)]) (st' := [.int x4]) rfl ?_
  refine Wp.if_lt rfl rfl ⟨fun hc => ?_, fun hc => ?_⟩
  · replace h := h.1 hc
    refine Wp.pk 1 (pc' := 63) (lv' := [some (.ref 13), none, some (.long x2), none, some (.int x4)]) (st' := [.int 1]) rfl ?_
    exact Wp.iret rfl rfl ⟨rfl, h⟩
  · replace h := h.2 hc
    refine Wp.pk 1 (pc' := 25) (lv' := [some (.ref 13), none, some (.long x2), none, some (.int x4)]) (st' := [.ref 13]) rfl ?_
    refine Wp.getR rfl rfl sh13 rfl ?_
    refine Wp.pk 1 (pc' := 29) (lv' := [some (.ref 13), none, some (.long x2), none, some (.int x4)]) (st' := [.ref 13, .ref 14]) rfl ?_
    refine Wp.getI rfl rfl sh13 rfl ?_
    refine Wp.pk 5 (pc' := 39) (lv' := [some (.ref 13), none, some (.long x2), none, some (.int x4)]) (st' := [.long (a_ushL x2 (8 * x4)), .int (m 13 1), .ref 14]) rfl ?_
    refine Wp.ldc2 rfl rfl ?_
    refine Wp.pk 3 (pc' := 45) (lv' := [some (.ref 13), none, some (.long x2), none, some (.int x4)]) (st' := [.int ((Int32.toUInt32 (Int64.toInt32 ((a_ushL x2 (8 * x4)) &&& 255)) % 65536).toInt32), .int (m 13 1), .ref 14]) rfl ?_
    refine Wp.castN rfl sh14 h.1 (fun m1 hm => ?_)
    replace h := h.2 _ hm
    refine Wp.pk 2 (pc' := 48) (lv' := [some (.ref 13), none, some (.long x2), none, some (.int x4)]) (st' := [.ref 13, .ref 13]) rfl ?_
    refine Wp.getI rfl rfl sh13 rfl ?_
    refine Wp.pk 2 (pc' := 53) (lv' := [some (.ref 13), none, some (.long x2), none, some (.int x4)]) (st' := [.int ((m1 13 1) + 1), .ref 13]) rfl ?_
    refine Wp.putN rfl rfl sh13 rfl rfl (fun m2 hm => ?_)
    replace h := h _ hm
    refine Wp.pk 2 (pc' := 19) (lv' := [some (.ref 13), none, some (.long x2), none, some (.int (x4 + (-1)))]) (st' := []) rfl ?_
    exact h
theorem eX6_readInto_0 {X : a_X} {m : Nat → Nat → Int32} {Q : Option Value → (Nat → Nat → Int32) → Prop} (h : ∀ m1, m1 = (a_up m 13 2 0) → ∀ m2, m2 = (a_up m1 13 4 0) → ∀ m3, m3 = (a_up m2 13 5 (-1)) → ∀ m4, m4 = (a_up m3 13 6 0) → ∀ m5, m5 = (a_up m4 13 7 0) → CallV X mX5_untell [.ref 7] m5 (fun m6 => CallV X mX6_skipBlanks [.ref 13] m6 (fun m7 => Wp X mX6_readInto 35 [some (.ref 13), some (.ref 7), some (.int 0)] [] m7 Q))) : Call X mX6_readInto [.ref 13, .ref 7] m Q := by
  unfold Call
  refine Wp.loc (lv' := [some (.ref 13), some (.ref 7), none]) rfl ?_
  refine Wp.pk 2 (pc' := 2) (lv' := [some (.ref 13), some (.ref 7), none]) (st' := [.int 0, .ref 13]) rfl ?_
  refine Wp.putN rfl rfl sh13 rfl rfl (fun m1 hm => ?_)
  replace h := h _ hm
  refine Wp.pk 2 (pc' := 7) (lv' := [some (.ref 13), some (.ref 7), none]) (st' := [.int 0, .ref 13]) rfl ?_
  refine Wp.putN rfl rfl sh13 rfl rfl (fun m2 hm => ?_)
  replace h := h _ hm
  refine Wp.pk 2 (pc' := 12) (lv' := [some (.ref 13), some (.ref 7), none]) (st' := [.int (-1), .ref 13]) rfl ?_
  refine Wp.putN rfl rfl sh13 rfl rfl (fun m3 hm => ?_)
  replace h := h _ hm
  refine Wp.pk 2 (pc' := 17) (lv' := [some (.ref 13), some (.ref 7), none]) (st' := [.int 0, .ref 13]) rfl ?_
  refine Wp.putN rfl rfl sh13 rfl rfl (fun m4 hm => ?_)
  replace h := h _ hm
  refine Wp.pk 2 (pc' := 22) (lv' := [some (.ref 13), some (.ref 7), none]) (st' := [.int 0, .ref 13]) rfl ?_
  refine Wp.putN rfl rfl sh13 rfl rfl (fun m5 hm => ?_)
  replace h := h _ hm
  refine Wp.pk 1 (pc' := 26) (lv' := [some (.ref 13), some (.ref 7), none]) (st' := [.ref 7]) rfl ?_
  refine Wp.callV rfl rfl rfl (CallV.mono h (fun m6 h => ?_))
  refine Wp.pk 1 (pc' := 30) (lv' := [some (.ref 13), some (.ref 7), none]) (st' := [.ref 13]) rfl ?_
  refine Wp.callV rfl rfl rfl (CallV.mono h (fun m7 h => ?_))
  refine Wp.pk 2 (pc' := 35) (lv' := [some (.ref 13), some (.ref 7), some (.int 0)]) (st' := []) rfl ?_
  exact h
theorem eX6_readInto_35 {X : a_X} {m : Nat → Nat → Int32} {Q : Option Value → (Nat → Nat → Int32) → Prop} {x2 : Int32} (h : (300 ≤ x2 → CallI X mX6_isFaultless [.ref 13] m (fun v2 m1 => a_fit .boolean v2 = true ∧ Q (some (.int v2)) m1)) ∧ (¬ 300 ≤ x2 → ((m 13 1) ≤ (m 13 2) → CallI X mX6_isFaultless [.ref 13] m (fun v4 m3 => a_fit .boolean v4 = true ∧ Q (some (.int v4)) m3)) ∧ (¬ (m 13 1) ≤ (m 13 2) → CallI X mX6_isFaultless [.ref 13] m (fun v6 m5 => (v6 = 0 → CallI X mX6_isFaultless [.ref 13] m5 (fun v8 m7 => a_fit .boolean v8 = true ∧ Q (some (.int v8)) m7)) ∧ (¬ v6 = 0 → CallV X mX6_readClause [.ref 13, .ref 7] m5 (fun m9 => CallV X mX6_skipBlanks [.ref 13] m9 (fun m10 => Wp X mX6_readInto 35 [some (.ref 13), some (.ref 7), some (.int (x2 + 1))] [] m10 Q))))))) : Wp X mX6_readInto 35 [some (.ref 13), some (.ref 7), some (.int x2)] [] m Q := by
  refine Wp.pk 2 (pc' := 39) (lv' := [some (.ref 13), some (.ref 7), some (.int x2)]) (st' := [.int 300, .int x2]) rfl ?_
  refine Wp.icmp_ge rfl rfl ⟨fun hc => ?_, fun hc => ?_⟩
  · replace h := h.1 hc
    refine Wp.pk 1 (pc' := 76) (lv' := [some (.ref 13), some (.ref 7), some (.int x2)]) (st' := [.ref 13]) rfl ?_
    refine Wp.callI rfl rfl rfl (CallI.mono h (fun v2 m1 h => ?_))
    exact Wp.iret rfl rfl h
  · replace h := h.2 hc
    refine Wp.pk 1 (pc' := 43) (lv' := [some (.ref 13), some (.ref 7), some (.int x2)]) (st' := [.ref 13]) rfl ?_
    refine Wp.getI rfl rfl sh13 rfl ?_
    refine Wp.pk 1 (pc' := 47) (lv' := [some (.ref 13), some (.ref 7), some (.int x2)]) (st' := [.ref 13, .int (m 13 2)]) rfl ?_
    refine Wp.getI rfl rfl sh13 rfl ?_
    refine Wp.icmp_ge rfl rfl ⟨fun hc => ?_, fun hc => ?_⟩
    · replace h := h.1 hc
      refine Wp.pk 1 (pc' := 76) (lv' := [some (.ref 13), some (.ref 7), some (.int x2)]) (st' := [.ref 13]) rfl ?_
      refine Wp.callI rfl rfl rfl (CallI.mono h (fun v4 m3 h => ?_))
      exact Wp.iret rfl rfl h
    · replace h := h.2 hc
      refine Wp.pk 1 (pc' := 54) (lv' := [some (.ref 13), some (.ref 7), some (.int x2)]) (st' := [.ref 13]) rfl ?_
      refine Wp.callI rfl rfl rfl (CallI.mono h (fun v6 m5 h => ?_))
      refine Wp.if_eq rfl rfl ⟨fun hc => ?_, fun hc => ?_⟩
      · replace h := h.1 hc
        refine Wp.pk 1 (pc' := 76) (lv' := [some (.ref 13), some (.ref 7), some (.int x2)]) (st' := [.ref 13]) rfl ?_
        refine Wp.callI rfl rfl rfl (CallI.mono h (fun v8 m7 h => ?_))
        exact Wp.iret rfl rfl h
      · replace h := h.2 hc
        refine Wp.pk 2 (pc' := 62) (lv' := [some (.ref 13), some (.ref 7), some (.int x2)]) (st' := [.ref 7, .ref 13]) rfl ?_
        refine Wp.callV rfl rfl rfl (CallV.mono h (fun m9 h => ?_))
        refine Wp.pk 1 (pc' := 66) (lv' := [some (.ref 13), some (.ref 7), some (.int x2)]) (st' := [.ref 13]) rfl ?_
        refine Wp.callV rfl rfl rfl (CallV.mono h (fun m10 h => ?_))
        refine Wp.pk 2 (pc' := 35) (lv' := [some (.ref 13), some (.ref 7), some (.int (x2 + 1))]) (st' := []) rfl ?_
        exact h
theorem eX6_isFaultless_0 {X : a_X} {m : Nat → Nat → Int32} {Q : Option Value → (Nat → Nat → Int32) → Prop} (h : (¬ (m 13 4) = 0 → Q (some (.int 0)) m) ∧ ((m 13 4) = 0 → Q (some (.int 1)) m)) : Call X mX6_isFaultless [.ref 13] m Q := by
  unfold Call
  refine Wp.loc (lv' := [some (.ref 13)]) rfl ?_
  refine Wp.pk 1 (pc' := 1) (lv' := [some (.ref 13)]) (st' := [.ref 13]) rfl ?_
  refine Wp.getI rfl rfl sh13 rfl ?_
  refine Wp.if_ne rfl rfl ⟨fun hc => ?_, fun hc => ?_⟩
  · replace h := h.1 hc
    refine Wp.pk 1 (pc' := 12) (lv' := [some (.ref 13)]) (st' := [.int 0]) rfl ?_
    exact Wp.iret rfl rfl ⟨rfl, h⟩
  · replace h := h.2 hc
    refine Wp.pk 2 (pc' := 12) (lv' := [some (.ref 13)]) (st' := [.int 1]) rfl ?_
    exact Wp.iret rfl rfl ⟨rfl, h⟩
theorem eX6_fail_0 {X : a_X} {m : Nat → Nat → Int32} {Q : Option Value → (Nat → Nat → Int32) → Prop} {x1 x2 : Int32} (h : (¬ (m 13 4) = 0 → Q none m) ∧ ((m 13 4) = 0 → ∀ m1, m1 = (a_up m 13 4 x1) → ∀ m2, m2 = (a_up m1 13 5 x2) → Q none m2)) : Call X mX6_fail [.ref 13, .int x1, .int x2] m Q := by
  unfold Call
  refine Wp.loc (lv' := [some (.ref 13), some (.int x1), some (.int x2)]) rfl ?_
  refine Wp.pk 1 (pc' := 1) (lv' := [some (.ref 13), some (.int x1), some (.int x2)]) (st' := [.ref 13]) rfl ?_
  refine Wp.getI rfl rfl sh13 rfl ?_
  refine Wp.if_ne rfl rfl ⟨fun hc => ?_, fun hc => ?_⟩
  · replace h := h.1 hc
    exact Wp.vret rfl rfl h
  · replace h := h.2 hc
    refine Wp.pk 2 (pc' := 9) (lv' := [some (.ref 13), some (.int x1), some (.int x2)]) (st' := [.int x1, .ref 13]) rfl ?_
    refine Wp.putN rfl rfl sh13 rfl rfl (fun m1 hm => ?_)
    replace h := h _ hm
    refine Wp.pk 2 (pc' := 14) (lv' := [some (.ref 13), some (.int x1), some (.int x2)]) (st' := [.int x2, .ref 13]) rfl ?_
    refine Wp.putN rfl rfl sh13 rfl rfl (fun m2 hm => ?_)
    replace h := h _ hm
    exact Wp.vret rfl rfl h
theorem eX6_readClause_0 {X : a_X} {m : Nat → Nat → Int32} {Q : Option Value → (Nat → Nat → Int32) → Prop} (h : CallI X mX6_readWord [.ref 13] m (fun v2 m1 => (v2 = (-1) → CallV X mX6_fail [.ref 13, .int 1, .int (m 13 2)] m1 (fun m3 => Q none m3)) ∧ (¬ v2 = (-1) → (¬ v2 = 0 → CallI X mX6_isTold [.ref 13, .ref 7, .int v2] m1 (fun v5 m4 => (v5 = 0 → ∀ m6, m6 = (a_up m4 13 6 ((m4 13 6) ||| (1 <<< (v2 &&& 31)))) → CallV X mX6_readNumbers [.ref 13, .ref 7, .int v2] m6 (fun m7 => CallV X mX6_readEnd [.ref 13] m7 (fun m8 => Q none m8))) ∧ (¬ v5 = 0 → CallV X mX6_fail [.ref 13, .int 3, .int (m 13 2)] m4 (fun m9 => Q none m9)))) ∧ (v2 = 0 → CallI X mX6_isSizeTooLate [.ref 13] m1 (fun v11 m10 => (v11 = 0 → CallI X mX6_isTold [.ref 13, .ref 7, .int v2] m10 (fun v13 m12 => (v13 = 0 → ∀ m14, m14 = (a_up m12 13 6 ((m12 13 6) ||| (1 <<< (v2 &&& 31)))) → CallV X mX6_readNumbers [.ref 13, .ref 7, .int v2] m14 (fun m15 => CallV X mX6_readEnd [.ref 13] m15 (fun m16 => Q none m16))) ∧ (¬ v13 = 0 → CallV X mX6_fail [.ref 13, .int 3, .int (m 13 2)] m12 (fun m17 => Q none m17)))) ∧ (¬ v11 = 0 → CallV X mX6_fail [.ref 13, .int 1, .int (m 13 2)] m10 (fun m18 => Q none m18))))))) : Call X mX6_readClause [.ref 13, .ref 7] m Q := by
  unfold Call
  refine Wp.loc (lv' := [some (.ref 13), some (.ref 7), none, none]) rfl ?_
  refine Wp.pk 1 (pc' := 1) (lv' := [some (.ref 13), some (.ref 7), none, none]) (st' := [.ref 13]) rfl ?_
  refine Wp.getI rfl rfl sh13 rfl ?_
  refine Wp.pk 2 (pc' := 6) (lv' := [some (.ref 13), some (.ref 7), some (.int (m 13 2)), none]) (st' := [.ref 13]) rfl ?_
  refine Wp.callI rfl rfl rfl (CallI.mono h (fun v2 m1 h => ?_))
  refine Wp.pk 3 (pc' := 12) (lv' := [some (.ref 13), some (.ref 7), some (.int (m 13 2)), some (.int v2)]) (st' := [.int (-1), .int v2]) rfl ?_
  refine Wp.icmp_eq rfl rfl ⟨fun hc => ?_, fun hc => ?_⟩
  · replace h := h.1 hc
    refine Wp.pk 3 (pc' := 29) (lv' := [some (.ref 13), some (.ref 7), some (.int (m 13 2)), some (.int v2)]) (st' := [.int (m 13 2), .int 1, .ref 13]) rfl ?_
    refine Wp.callV rfl rfl rfl (CallV.mono h (fun m3 h => ?_))
    exact Wp.vret rfl rfl h
  · replace h := h.2 hc
    refine Wp.pk 1 (pc' := 16) (lv' := [some (.ref 13), some (.ref 7), some (.int (m 13 2)), some (.int v2)]) (st' := [.int v2]) rfl ?_
    refine Wp.if_ne rfl rfl ⟨fun hc => ?_, fun hc => ?_⟩
    · replace h := h.1 hc
      refine Wp.pk 3 (pc' := 36) (lv' := [some (.ref 13), some (.ref 7), some (.int (m 13 2)), some (.int v2)]) (st' := [.int v2, .ref 7, .ref 13]) rfl ?_
      refine Wp.callI rfl rfl rfl (CallI.mono h (fun v5 m4 h => ?_))
      refine Wp.if_eq rfl rfl ⟨fun hc => ?_, fun hc => ?_⟩
      · replace h := h.1 hc
        refine Wp.pk 2 (pc' := 51) (lv' := [some (.ref 13), some (.ref 7), some (.int (m 13 2)), some (.int v2)]) (st' := [.ref 13, .ref 13]) rfl ?_
        refine Wp.getI rfl rfl sh13 rfl ?_
        refine Wp.pk 4 (pc' := 58) (lv' := [some (.ref 13), some (.ref 7), some (.int (m 13 2)), some (.int v2)]) (st' := [.int ((m4 13 6) ||| (1 <<< (v2 &&& 31))), .ref 13]) rfl ?_
        refine Wp.putN rfl rfl sh13 rfl rfl (fun m6 hm => ?_)
        replace h := h _ hm
        refine Wp.pk 3 (pc' := 64) (lv' := [some (.ref 13), some (.ref 7), some (.int (m 13 2)), some (.int v2)]) (st' := [.int v2, .ref 7, .ref 13]) rfl ?_
        refine Wp.callV rfl rfl rfl (CallV.mono h (fun m7 h => ?_))
        refine Wp.pk 1 (pc' := 68) (lv' := [some (.ref 13), some (.ref 7), some (.int (m 13 2)), some (.int v2)]) (st' := [.ref 13]) rfl ?_
        refine Wp.callV rfl rfl rfl (CallV.mono h (fun m8 h => ?_))
        exact Wp.vret rfl rfl h
      · replace h := h.2 hc
        refine Wp.pk 3 (pc' := 45) (lv' := [some (.ref 13), some (.ref 7), some (.int (m 13 2)), some (.int v2)]) (st' := [.int (m 13 2), .int 3, .ref 13]) rfl ?_
        refine Wp.callV rfl rfl rfl (CallV.mono h (fun m9 h => ?_))
        exact Wp.vret rfl rfl h
    · replace h := h.2 hc
      refine Wp.pk 1 (pc' := 20) (lv' := [some (.ref 13), some (.ref 7), some (.int (m 13 2)), some (.int v2)]) (st' := [.ref 13]) rfl ?_
      refine Wp.callI rfl rfl rfl (CallI.mono h (fun v11 m10 h => ?_))
      refine Wp.if_eq rfl rfl ⟨fun hc => ?_, fun hc => ?_⟩
      · replace h := h.1 hc
        refine Wp.pk 3 (pc' := 36) (lv' := [some (.ref 13), some (.ref 7), some (.int (m 13 2)), some (.int v2)]) (st' := [.int v2, .ref 7, .ref 13]) rfl ?_
        refine Wp.callI rfl rfl rfl (CallI.mono h (fun v13 m12 h => ?_))
        refine Wp.if_eq rfl rfl ⟨fun hc => ?_, fun hc => ?_⟩
        · replace h := h.1 hc
          refine Wp.pk 2 (pc' := 51) (lv' := [some (.ref 13), some (.ref 7), some (.int (m 13 2)), some (.int v2)]) (st' := [.ref 13, .ref 13]) rfl ?_
          refine Wp.getI rfl rfl sh13 rfl ?_
          refine Wp.pk 4 (pc' := 58) (lv' := [some (.ref 13), some (.ref 7), some (.int (m 13 2)), some (.int v2)]) (st' := [.int ((m12 13 6) ||| (1 <<< (v2 &&& 31))), .ref 13]) rfl ?_
          refine Wp.putN rfl rfl sh13 rfl rfl (fun m14 hm => ?_)
          replace h := h _ hm
          refine Wp.pk 3 (pc' := 64) (lv' := [some (.ref 13), some (.ref 7), some (.int (m 13 2)), some (.int v2)]) (st' := [.int v2, .ref 7, .ref 13]) rfl ?_
          refine Wp.callV rfl rfl rfl (CallV.mono h (fun m15 h => ?_))
          refine Wp.pk 1 (pc' := 68) (lv' := [some (.ref 13), some (.ref 7), some (.int (m 13 2)), some (.int v2)]) (st' := [.ref 13]) rfl ?_
          refine Wp.callV rfl rfl rfl (CallV.mono h (fun m16 h => ?_))
          exact Wp.vret rfl rfl h
        · replace h := h.2 hc
          refine Wp.pk 3 (pc' := 45) (lv' := [some (.ref 13), some (.ref 7), some (.int (m 13 2)), some (.int v2)]) (st' := [.int (m 13 2), .int 3, .ref 13]) rfl ?_
          refine Wp.callV rfl rfl rfl (CallV.mono h (fun m17 h => ?_))
          exact Wp.vret rfl rfl h
      · replace h := h.2 hc
        refine Wp.pk 3 (pc' := 29) (lv' := [some (.ref 13), some (.ref 7), some (.int (m 13 2)), some (.int v2)]) (st' := [.int (m 13 2), .int 1, .ref 13]) rfl ?_
        refine Wp.callV rfl rfl rfl (CallV.mono h (fun m18 h => ?_))
        exact Wp.vret rfl rfl h
theorem eX6_isSizeTooLate_0 {X : a_X} {m : Nat → Nat → Int32} {Q : Option Value → (Nat → Nat → Int32) → Prop} (h : CallI X mX8_isIn [.int (m 13 6), .int 4] m (fun v2 m1 => (¬ v2 = 0 → Q (some (.int 1)) m1) ∧ (v2 = 0 → CallI X mX8_isIn [.int (m1 13 6), .int 5] m1 (fun v4 m3 => (¬ v4 = 0 → Q (some (.int 1)) m3) ∧ (v4 = 0 → CallI X mX8_isIn [.int (m3 13 6), .int 6] m3 (fun v6 m5 => (v6 = 0 → Q (some (.int 0)) m5) ∧ (¬ v6 = 0 → Q (some (.int 1)) m5))))))) : Call X mX6_isSizeTooLate [.ref 13] m Q := by
  unfold Call
  refine Wp.loc (lv' := [some (.ref 13)]) rfl ?_
  refine Wp.pk 1 (pc' := 1) (lv' := [some (.ref 13)]) (st' := [.ref 13]) rfl ?_
  refine Wp.getI rfl rfl sh13 rfl ?_
  refine Wp.pk 1 (pc' := 5) (lv' := [some (.ref 13)]) (st' := [.int 4, .int (m 13 6)]) rfl ?_
  refine Wp.callI rfl rfl rfl (CallI.mono h (fun v2 m1 h => ?_))
  refine Wp.if_ne rfl rfl ⟨fun hc => ?_, fun hc => ?_⟩
  · replace h := h.1 hc
    refine Wp.pk 2 (pc' := 39) (lv' := [some (.ref 13)]) (st' := [.int 1]) rfl ?_
    exact Wp.iret rfl rfl ⟨rfl, h⟩
  · replace h := h.2 hc
    refine Wp.pk 1 (pc' := 12) (lv' := [some (.ref 13)]) (st' := [.ref 13]) rfl ?_
    refine Wp.getI rfl rfl sh13 rfl ?_
    refine Wp.pk 1 (pc' := 16) (lv' := [some (.ref 13)]) (st' := [.int 5, .int (m1 13 6)]) rfl ?_
    refine Wp.callI rfl rfl rfl (CallI.mono h (fun v4 m3 h => ?_))
    refine Wp.if_ne rfl rfl ⟨fun hc => ?_, fun hc => ?_⟩
    · replace h := h.1 hc
      refine Wp.pk 2 (pc' := 39) (lv' := [some (.ref 13)]) (st' := [.int 1]) rfl ?_
      exact Wp.iret rfl rfl ⟨rfl, h⟩
    · replace h := h.2 hc
      refine Wp.pk 1 (pc' := 23) (lv' := [some (.ref 13)]) (st' := [.ref 13]) rfl ?_
      refine Wp.getI rfl rfl sh13 rfl ?_
      refine Wp.pk 1 (pc' := 28) (lv' := [some (.ref 13)]) (st' := [.int 6, .int (m3 13 6)]) rfl ?_
      refine Wp.callI rfl rfl rfl (CallI.mono h (fun v6 m5 h => ?_))
      refine Wp.if_eq rfl rfl ⟨fun hc => ?_, fun hc => ?_⟩
      · replace h := h.1 hc
        refine Wp.pk 1 (pc' := 39) (lv' := [some (.ref 13)]) (st' := [.int 0]) rfl ?_
        exact Wp.iret rfl rfl ⟨rfl, h⟩
      · replace h := h.2 hc
        refine Wp.pk 2 (pc' := 39) (lv' := [some (.ref 13)]) (st' := [.int 1]) rfl ?_
        exact Wp.iret rfl rfl ⟨rfl, h⟩
theorem eX6_isTold_0 {X : a_X} {m : Nat → Nat → Int32} {Q : Option Value → (Nat → Nat → Int32) → Prop} {x2 : Int32} (h : (x2 = 4 → ((m 7 5) < 8 → Q (some (.int 0)) m) ∧ (¬ (m 7 5) < 8 → Q (some (.int 1)) m)) ∧ (x2 = 5 → Q (some (.int 0)) m) ∧ (x2 = 6 → ((m 7 6) < 12 → Q (some (.int 0)) m) ∧ (¬ (m 7 6) < 12 → Q (some (.int 1)) m)) ∧ (Int32.toInt x2 < 4 ∨ 6 < Int32.toInt x2 → CallI X mX8_isIn [.int (m 13 6), .int x2] m (fun v2 m1 => a_fit .boolean v2 = true ∧ Q (some (.int v2)) m1))) : Call X mX6_isTold [.ref 13, .ref 7, .int x2] m Q := by
  unfold Call
  refine Wp.loc (lv' := [some (.ref 13), some (.ref 7), some (.int x2)]) rfl ?_
  refine Wp.pk 1 (pc' := 1) (lv' := [some (.ref 13), some (.ref 7), some (.int x2)]) (st' := [.int x2]) rfl ?_
  refine Wp.tsw (lo := 4) (hi := 6) rfl (fun hc => ?_) (fun j hj1 hj2 hc => ?_)
  · replace h := h.2.2.2 hc
    refine ⟨60, rfl, ?_⟩
    refine Wp.pk 1 (pc' := 61) (lv' := [some (.ref 13), some (.ref 7), some (.int x2)]) (st' := [.ref 13]) rfl ?_
    refine Wp.getI rfl rfl sh13 rfl ?_
    refine Wp.pk 1 (pc' := 65) (lv' := [some (.ref 13), some (.ref 7), some (.int x2)]) (st' := [.int x2, .int (m 13 6)]) rfl ?_
    refine Wp.callI rfl rfl rfl (CallI.mono h (fun v2 m1 h => ?_))
    exact Wp.iret rfl rfl h
  · rcases (show j = 4 ∨ j = 5 ∨ j = 6 by omega) with rfl | rfl | rfl
    · replace h := (h.1 (Int32.toInt_inj.mp (hc.trans (by decide))))
      refine ⟨_, 28, rfl, rfl, ?_⟩
      refine Wp.pk 1 (pc' := 29) (lv' := [some (.ref 13), some (.ref 7), some (.int x2)]) (st' := [.ref 7]) rfl ?_
      refine Wp.getI rfl rfl sh7 rfl ?_
      refine Wp.pk 1 (pc' := 34) (lv' := [some (.ref 13), some (.ref 7), some (.int x2)]) (st' := [.int 8, .int (m 7 5)]) rfl ?_
      refine Wp.icmp_lt rfl rfl ⟨fun hc => ?_, fun hc => ?_⟩
      · replace h := h.1 hc
        refine Wp.pk 1 (pc' := 42) (lv' := [some (.ref 13), some (.ref 7), some (.int x2)]) (st' := [.int 0]) rfl ?_
        exact Wp.iret rfl rfl ⟨rfl, h⟩
      · replace h := h.2 hc
        refine Wp.pk 2 (pc' := 42) (lv' := [some (.ref 13), some (.ref 7), some (.int x2)]) (st' := [.int 1]) rfl ?_
        exact Wp.iret rfl rfl ⟨rfl, h⟩
    · replace h := (h.2.1 (Int32.toInt_inj.mp (hc.trans (by decide))))
      refine ⟨_, 58, rfl, rfl, ?_⟩
      refine Wp.pk 1 (pc' := 59) (lv' := [some (.ref 13), some (.ref 7), some (.int x2)]) (st' := [.int 0]) rfl ?_
      exact Wp.iret rfl rfl ⟨rfl, h⟩
    · replace h := (h.2.2.1 (Int32.toInt_inj.mp (hc.trans (by decide))))
      refine ⟨_, 43, rfl, rfl, ?_⟩
      refine Wp.pk 1 (pc' := 44) (lv' := [some (.ref 13), some (.ref 7), some (.int x2)]) (st' := [.ref 7]) rfl ?_
      refine Wp.getI rfl rfl sh7 rfl ?_
      refine Wp.pk 1 (pc' := 49) (lv' := [some (.ref 13), some (.ref 7), some (.int x2)]) (st' := [.int 12, .int (m 7 6)]) rfl ?_
      refine Wp.icmp_lt rfl rfl ⟨fun hc => ?_, fun hc => ?_⟩
      · replace h := h.1 hc
        refine Wp.pk 1 (pc' := 57) (lv' := [some (.ref 13), some (.ref 7), some (.int x2)]) (st' := [.int 0]) rfl ?_
        exact Wp.iret rfl rfl ⟨rfl, h⟩
      · replace h := h.2 hc
        refine Wp.pk 2 (pc' := 57) (lv' := [some (.ref 13), some (.ref 7), some (.int x2)]) (st' := [.int 1]) rfl ?_
        exact Wp.iret rfl rfl ⟨rfl, h⟩
theorem eX6_readNumbers_0 {X : a_X} {m : Nat → Nat → Int32} {Q : Option Value → (Nat → Nat → Int32) → Prop} {x2 : Int32} (h : (x2 = 0 → CallI X mX6_readNumber [.ref 13, .int 1, .int 16] m (fun v2 m1 => ∀ m3, m3 = (a_up m1 7 0 v2) → CallI X mX6_readNumber [.ref 13, .int 1, .int 8] m3 (fun v5 m4 => ∀ m6, m6 = (a_up m4 7 1 v5) → Q none m6))) ∧ (x2 = 1 → CallI X mX6_readNumber [.ref 13, .int 0, .int 99] m (fun v8 m7 => ∀ m9, m9 = (a_up m7 7 2 v8) → Q none m9)) ∧ (x2 = 2 → CallI X mX6_readNumber [.ref 13, .int 0, .int 999] m (fun v11 m10 => ∀ m12, m12 = (a_up m10 7 3 v11) → Q none m12)) ∧ (x2 = 3 → CallI X mX6_readNumber [.ref 13, .int 1, .int 100] m (fun v14 m13 => ∀ m15, m15 = (a_up m13 7 4 v14) → Q none m15)) ∧ (x2 = 4 → CallV X mX6_readStrip [.ref 13, .ref 7] m (fun m16 => Q none m16)) ∧ (x2 = 5 → CallV X mX6_readPassers [.ref 13, .ref 7] m (fun m17 => Q none m17)) ∧ (Int32.toInt x2 < 0 ∨ 5 < Int32.toInt x2 → CallV X mX6_readKind [.ref 13, .ref 7] m (fun m18 => Q none m18))) : Call X mX6_readNumbers [.ref 13, .ref 7, .int x2] m Q := by
  unfold Call
  refine Wp.loc (lv' := [some (.ref 13), some (.ref 7), some (.int x2)]) rfl ?_
  refine Wp.pk 1 (pc' := 1) (lv' := [some (.ref 13), some (.ref 7), some (.int x2)]) (st' := [.int x2]) rfl ?_
  refine Wp.tsw (lo := 0) (hi := 5) rfl (fun hc => ?_) (fun j hj1 hj2 hc => ?_)
  · replace h := h.2.2.2.2.2.2 hc
    refine ⟨124, rfl, ?_⟩
    refine Wp.pk 2 (pc' := 126) (lv' := [some (.ref 13), some (.ref 7), some (.int x2)]) (st' := [.ref 7, .ref 13]) rfl ?_
    refine Wp.callV rfl rfl rfl (CallV.mono h (fun m18 h => ?_))
    exact Wp.vret rfl rfl h
  · rcases (show j = 0 ∨ j = 1 ∨ j = 2 ∨ j = 3 ∨ j = 4 ∨ j = 5 by omega) with rfl | rfl | rfl | rfl | rfl | rfl
    · replace h := (h.1 (Int32.toInt_inj.mp (hc.trans (by decide))))
      refine ⟨_, 40, rfl, rfl, ?_⟩
      refine Wp.pk 4 (pc' := 45) (lv' := [some (.ref 13), some (.ref 7), some (.int x2)]) (st' := [.int 16, .int 1, .ref 13, .ref 7]) rfl ?_
      refine Wp.callI rfl rfl rfl (CallI.mono h (fun v2 m1 h => ?_))
      refine Wp.putN rfl rfl sh7 rfl rfl (fun m3 hm => ?_)
      replace h := h _ hm
      refine Wp.pk 4 (pc' := 56) (lv' := [some (.ref 13), some (.ref 7), some (.int x2)]) (st' := [.int 8, .int 1, .ref 13, .ref 7]) rfl ?_
      refine Wp.callI rfl rfl rfl (CallI.mono h (fun v5 m4 h => ?_))
      refine Wp.putN rfl rfl sh7 rfl rfl (fun m6 hm => ?_)
      replace h := h _ hm
      refine Wp.pk 1 (pc' := 129) (lv' := [some (.ref 13), some (.ref 7), some (.int x2)]) (st' := []) rfl ?_
      exact Wp.vret rfl rfl h
    · replace h := (h.2.1 (Int32.toInt_inj.mp (hc.trans (by decide))))
      refine ⟨_, 65, rfl, rfl, ?_⟩
      refine Wp.pk 4 (pc' := 70) (lv' := [some (.ref 13), some (.ref 7), some (.int x2)]) (st' := [.int 99, .int 0, .ref 13, .ref 7]) rfl ?_
      refine Wp.callI rfl rfl rfl (CallI.mono h (fun v8 m7 h => ?_))
      refine Wp.putN rfl rfl sh7 rfl rfl (fun m9 hm => ?_)
      replace h := h _ hm
      refine Wp.pk 1 (pc' := 129) (lv' := [some (.ref 13), some (.ref 7), some (.int x2)]) (st' := []) rfl ?_
      exact Wp.vret rfl rfl h
    · replace h := (h.2.2.1 (Int32.toInt_inj.mp (hc.trans (by decide))))
      refine ⟨_, 79, rfl, rfl, ?_⟩
      refine Wp.pk 4 (pc' := 85) (lv' := [some (.ref 13), some (.ref 7), some (.int x2)]) (st' := [.int 999, .int 0, .ref 13, .ref 7]) rfl ?_
      refine Wp.callI rfl rfl rfl (CallI.mono h (fun v11 m10 h => ?_))
      refine Wp.putN rfl rfl sh7 rfl rfl (fun m12 hm => ?_)
      replace h := h _ hm
      refine Wp.pk 1 (pc' := 129) (lv' := [some (.ref 13), some (.ref 7), some (.int x2)]) (st' := []) rfl ?_
      exact Wp.vret rfl rfl h
    · replace h := (h.2.2.2.1 (Int32.toInt_inj.mp (hc.trans (by decide))))
      refine ⟨_, 94, rfl, rfl, ?_⟩
      refine Wp.pk 4 (pc' := 99) (lv' := [some (.ref 13), some (.ref 7), some (.int x2)]) (st' := [.int 100, .int 1, .ref 13, .ref 7]) rfl ?_
      refine Wp.callI rfl rfl rfl (CallI.mono h (fun v14 m13 h => ?_))
      refine Wp.putN rfl rfl sh7 rfl rfl (fun m15 hm => ?_)
      replace h := h _ hm
      refine Wp.pk 1 (pc' := 129) (lv' := [some (.ref 13), some (.ref 7), some (.int x2)]) (st' := []) rfl ?_
      exact Wp.vret rfl rfl h
    · replace h := (h.2.2.2.2.1 (Int32.toInt_inj.mp (hc.trans (by decide))))
      refine ⟨_, 108, rfl, rfl, ?_⟩
      refine Wp.pk 2 (pc' := 110) (lv' := [some (.ref 13), some (.ref 7), some (.int x2)]) (st' := [.ref 7, .ref 13]) rfl ?_
      refine Wp.callV rfl rfl rfl (CallV.mono h (fun m16 h => ?_))
      refine Wp.pk 1 (pc' := 129) (lv' := [some (.ref 13), some (.ref 7), some (.int x2)]) (st' := []) rfl ?_
      exact Wp.vret rfl rfl h
    · replace h := (h.2.2.2.2.2.1 (Int32.toInt_inj.mp (hc.trans (by decide))))
      refine ⟨_, 116, rfl, rfl, ?_⟩
      refine Wp.pk 2 (pc' := 118) (lv' := [some (.ref 13), some (.ref 7), some (.int x2)]) (st' := [.ref 7, .ref 13]) rfl ?_
      refine Wp.callV rfl rfl rfl (CallV.mono h (fun m17 h => ?_))
      refine Wp.pk 1 (pc' := 129) (lv' := [some (.ref 13), some (.ref 7), some (.int x2)]) (st' := []) rfl ?_
      exact Wp.vret rfl rfl h
theorem eX6_readStrip_0 {X : a_X} {m : Nat → Nat → Int32} {Q : Option Value → (Nat → Nat → Int32) → Prop} (h : CallI X mX6_readNumber [.ref 13, .int 0, .int ((m 7 0) - 1)] m (fun v2 m1 => CallI X mX6_readNumber [.ref 13, .int 0, .int ((m1 7 1) - 1)] m1 (fun v4 m3 => CallI X mX6_readNumber [.ref 13, .int 1, .int ((m3 7 0) - v2)] m3 (fun v6 m5 => CallI X mX6_readNumber [.ref 13, .int 1, .int ((m5 7 1) - v4)] m5 (fun v8 m7 => CallI X mX6_isFaultless [.ref 13] m7 (fun v10 m9 => (v10 = 0 → Q none m9) ∧ (¬ v10 = 0 → CallV X mX5_addStrip [.ref 7, .int v2, .int v4, .int v6, .int v8] m9 (fun m11 => Q none m11)))))))) : Call X mX6_readStrip [.ref 13, .ref 7] m Q := by
  unfold Call
  refine Wp.loc (lv' := [some (.ref 13), some (.ref 7), none, none, none, none]) rfl ?_
  refine Wp.pk 3 (pc' := 3) (lv' := [some (.ref 13), some (.ref 7), none, none, none, none]) (st' := [.ref 7, .int 0, .ref 13]) rfl ?_
  refine Wp.getI rfl rfl sh7 rfl ?_
  refine Wp.pk 2 (pc' := 8) (lv' := [some (.ref 13), some (.ref 7), none, none, none, none]) (st' := [.int ((m 7 0) - 1), .int 0, .ref 13]) rfl ?_
  refine Wp.callI rfl rfl rfl (CallI.mono h (fun v2 m1 h => ?_))
  refine Wp.pk 4 (pc' := 15) (lv' := [some (.ref 13), some (.ref 7), some (.int v2), none, none, none]) (st' := [.ref 7, .int 0, .ref 13]) rfl ?_
  refine Wp.getI rfl rfl sh7 rfl ?_
  refine Wp.pk 2 (pc' := 20) (lv' := [some (.ref 13), some (.ref 7), some (.int v2), none, none, none]) (st' := [.int ((m1 7 1) - 1), .int 0, .ref 13]) rfl ?_
  refine Wp.callI rfl rfl rfl (CallI.mono h (fun v4 m3 h => ?_))
  refine Wp.pk 4 (pc' := 27) (lv' := [some (.ref 13), some (.ref 7), some (.int v2), some (.int v4), none, none]) (st' := [.ref 7, .int 1, .ref 13]) rfl ?_
  refine Wp.getI rfl rfl sh7 rfl ?_
  refine Wp.pk 2 (pc' := 32) (lv' := [some (.ref 13), some (.ref 7), some (.int v2), some (.int v4), none, none]) (st' := [.int ((m3 7 0) - v2), .int 1, .ref 13]) rfl ?_
  refine Wp.callI rfl rfl rfl (CallI.mono h (fun v6 m5 h => ?_))
  refine Wp.pk 4 (pc' := 40) (lv' := [some (.ref 13), some (.ref 7), some (.int v2), some (.int v4), some (.int v6), none]) (st' := [.ref 7, .int 1, .ref 13]) rfl ?_
  refine Wp.getI rfl rfl sh7 rfl ?_
  refine Wp.pk 2 (pc' := 45) (lv' := [some (.ref 13), some (.ref 7), some (.int v2), some (.int v4), some (.int v6), none]) (st' := [.int ((m5 7 1) - v4), .int 1, .ref 13]) rfl ?_
  refine Wp.callI rfl rfl rfl (CallI.mono h (fun v8 m7 h => ?_))
  refine Wp.pk 2 (pc' := 51) (lv' := [some (.ref 13), some (.ref 7), some (.int v2), some (.int v4), some (.int v6), some (.int v8)]) (st' := [.ref 13]) rfl ?_
  refine Wp.callI rfl rfl rfl (CallI.mono h (fun v10 m9 h => ?_))
  refine Wp.if_eq rfl rfl ⟨fun hc => ?_, fun hc => ?_⟩
  · replace h := h.1 hc
    exact Wp.vret rfl rfl h
  · replace h := h.2 hc
    refine Wp.pk 5 (pc' := 64) (lv' := [some (.ref 13), some (.ref 7), some (.int v2), some (.int v4), some (.int v6), some (.int v8)]) (st' := [.int v8, .int v6, .int v4, .int v2, .ref 7]) rfl ?_
    refine Wp.callV rfl rfl rfl (CallV.mono h (fun m11 h => ?_))
    exact Wp.vret rfl rfl h
theorem eX6_readPassers_0 {X : a_X} {m : Nat → Nat → Int32} {Q : Option Value → (Nat → Nat → Int32) → Prop} (h : CallI X mX6_readNumber [.ref 13, .int 0, .int ((m 7 0) - 1)] m (fun v2 m1 => CallI X mX8_isIn [.int (m1 13 7), .int v2] m1 (fun v4 m3 => (v4 = 0 → CallI X mX6_readNumber [.ref 13, .int 0, .int 99] m3 (fun v6 m5 => CallI X mX6_isFaultless [.ref 13] m5 (fun v8 m7 => (v8 = 0 → Q none m7) ∧ (¬ v8 = 0 → vp_in v2 16 ∧ ∀ m9, m9 = (a_up m7 8 (Int32.toNatClampNeg v2) v6) → ∀ m10, m10 = (a_up m9 13 7 ((m9 13 7) ||| (1 <<< (v2 &&& 31)))) → Q none m10)))) ∧ (¬ v4 = 0 → CallV X mX6_fail [.ref 13, .int 4, .int (m3 13 3)] m3 (fun m11 => CallI X mX6_readNumber [.ref 13, .int 0, .int 99] m11 (fun v13 m12 => CallI X mX6_isFaultless [.ref 13] m12 (fun v15 m14 => (v15 = 0 → Q none m14) ∧ (¬ v15 = 0 → vp_in v2 16 ∧ ∀ m16, m16 = (a_up m14 8 (Int32.toNatClampNeg v2) v13) → ∀ m17, m17 = (a_up m16 13 7 ((m16 13 7) ||| (1 <<< (v2 &&& 31)))) → Q none m17)))))))) : Call X mX6_readPassers [.ref 13, .ref 7] m Q := by
  unfold Call
  refine Wp.loc (lv' := [some (.ref 13), some (.ref 7), none, none]) rfl ?_
  refine Wp.pk 3 (pc' := 3) (lv' := [some (.ref 13), some (.ref 7), none, none]) (st' := [.ref 7, .int 0, .ref 13]) rfl ?_
  refine Wp.getI rfl rfl sh7 rfl ?_
  refine Wp.pk 2 (pc' := 8) (lv' := [some (.ref 13), some (.ref 7), none, none]) (st' := [.int ((m 7 0) - 1), .int 0, .ref 13]) rfl ?_
  refine Wp.callI rfl rfl rfl (CallI.mono h (fun v2 m1 h => ?_))
  refine Wp.pk 2 (pc' := 13) (lv' := [some (.ref 13), some (.ref 7), some (.int v2), none]) (st' := [.ref 13]) rfl ?_
  refine Wp.getI rfl rfl sh13 rfl ?_
  refine Wp.pk 1 (pc' := 17) (lv' := [some (.ref 13), some (.ref 7), some (.int v2), none]) (st' := [.int v2, .int (m1 13 7)]) rfl ?_
  refine Wp.callI rfl rfl rfl (CallI.mono h (fun v4 m3 h => ?_))
  refine Wp.if_eq rfl rfl ⟨fun hc => ?_, fun hc => ?_⟩
  · replace h := h.1 hc
    refine Wp.pk 3 (pc' := 36) (lv' := [some (.ref 13), some (.ref 7), some (.int v2), none]) (st' := [.int 99, .int 0, .ref 13]) rfl ?_
    refine Wp.callI rfl rfl rfl (CallI.mono h (fun v6 m5 h => ?_))
    refine Wp.pk 2 (pc' := 41) (lv' := [some (.ref 13), some (.ref 7), some (.int v2), some (.int v6)]) (st' := [.ref 13]) rfl ?_
    refine Wp.callI rfl rfl rfl (CallI.mono h (fun v8 m7 h => ?_))
    refine Wp.if_eq rfl rfl ⟨fun hc => ?_, fun hc => ?_⟩
    · replace h := h.1 hc
      exact Wp.vret rfl rfl h
    · replace h := h.2 hc
      refine Wp.pk 1 (pc' := 48) (lv' := [some (.ref 13), some (.ref 7), some (.int v2), some (.int v6)]) (st' := [.ref 7]) rfl ?_
      refine Wp.getR rfl rfl sh7 rfl ?_
      refine Wp.pk 2 (pc' := 53) (lv' := [some (.ref 13), some (.ref 7), some (.int v2), some (.int v6)]) (st' := [.int v6, .int v2, .ref 8]) rfl ?_
      refine Wp.iastN rfl sh8 h.1 (fun m9 hm => ?_)
      replace h := h.2 _ hm
      refine Wp.pk 2 (pc' := 56) (lv' := [some (.ref 13), some (.ref 7), some (.int v2), some (.int v6)]) (st' := [.ref 13, .ref 13]) rfl ?_
      refine Wp.getI rfl rfl sh13 rfl ?_
      refine Wp.pk 4 (pc' := 63) (lv' := [some (.ref 13), some (.ref 7), some (.int v2), some (.int v6)]) (st' := [.int ((m9 13 7) ||| (1 <<< (v2 &&& 31))), .ref 13]) rfl ?_
      refine Wp.putN rfl rfl sh13 rfl rfl (fun m10 hm => ?_)
      replace h := h _ hm
      exact Wp.vret rfl rfl h
  · replace h := h.2 hc
    refine Wp.pk 3 (pc' := 26) (lv' := [some (.ref 13), some (.ref 7), some (.int v2), none]) (st' := [.ref 13, .int 4, .ref 13]) rfl ?_
    refine Wp.getI rfl rfl sh13 rfl ?_
    refine Wp.callV rfl rfl rfl (CallV.mono h (fun m11 h => ?_))
    refine Wp.pk 3 (pc' := 36) (lv' := [some (.ref 13), some (.ref 7), some (.int v2), none]) (st' := [.int 99, .int 0, .ref 13]) rfl ?_
    refine Wp.callI rfl rfl rfl (CallI.mono h (fun v13 m12 h => ?_))
    refine Wp.pk 2 (pc' := 41) (lv' := [some (.ref 13), some (.ref 7), some (.int v2), some (.int v13)]) (st' := [.ref 13]) rfl ?_
    refine Wp.callI rfl rfl rfl (CallI.mono h (fun v15 m14 h => ?_))
    refine Wp.if_eq rfl rfl ⟨fun hc => ?_, fun hc => ?_⟩
    · replace h := h.1 hc
      exact Wp.vret rfl rfl h
    · replace h := h.2 hc
      refine Wp.pk 1 (pc' := 48) (lv' := [some (.ref 13), some (.ref 7), some (.int v2), some (.int v13)]) (st' := [.ref 7]) rfl ?_
      refine Wp.getR rfl rfl sh7 rfl ?_
      refine Wp.pk 2 (pc' := 53) (lv' := [some (.ref 13), some (.ref 7), some (.int v2), some (.int v13)]) (st' := [.int v13, .int v2, .ref 8]) rfl ?_
      refine Wp.iastN rfl sh8 h.1 (fun m16 hm => ?_)
      replace h := h.2 _ hm
      refine Wp.pk 2 (pc' := 56) (lv' := [some (.ref 13), some (.ref 7), some (.int v2), some (.int v13)]) (st' := [.ref 13, .ref 13]) rfl ?_
      refine Wp.getI rfl rfl sh13 rfl ?_
      refine Wp.pk 4 (pc' := 63) (lv' := [some (.ref 13), some (.ref 7), some (.int v2), some (.int v13)]) (st' := [.int ((m16 13 7) ||| (1 <<< (v2 &&& 31))), .ref 13]) rfl ?_
      refine Wp.putN rfl rfl sh13 rfl rfl (fun m17 hm => ?_)
      replace h := h _ hm
      exact Wp.vret rfl rfl h
theorem eX6_readKind_0 {X : a_X} {m : Nat → Nat → Int32} {Q : Option Value → (Nat → Nat → Int32) → Prop} (h : CallI X mX6_readNumber [.ref 13, .int 0, .int 5] m (fun v2 m1 => CallI X mX6_readNumber [.ref 13, .int 1, .int (m1 7 0)] m1 (fun v4 m3 => CallI X mX6_readNumber [.ref 13, .int 1, .int (m3 7 1)] m3 (fun v6 m5 => CallI X mX6_isFaultless [.ref 13] m5 (fun v8 m7 => (v8 = 0 → Q none m7) ∧ (¬ v8 = 0 → CallV X mX5_addKind [.ref 7, .int v2, .int v4, .int v6] m7 (fun m9 => Q none m9))))))) : Call X mX6_readKind [.ref 13, .ref 7] m Q := by
  unfold Call
  refine Wp.loc (lv' := [some (.ref 13), some (.ref 7), none, none, none]) rfl ?_
  refine Wp.pk 3 (pc' := 3) (lv' := [some (.ref 13), some (.ref 7), none, none, none]) (st' := [.int 5, .int 0, .ref 13]) rfl ?_
  refine Wp.callI rfl rfl rfl (CallI.mono h (fun v2 m1 h => ?_))
  refine Wp.pk 4 (pc' := 10) (lv' := [some (.ref 13), some (.ref 7), some (.int v2), none, none]) (st' := [.ref 7, .int 1, .ref 13]) rfl ?_
  refine Wp.getI rfl rfl sh7 rfl ?_
  refine Wp.callI rfl rfl rfl (CallI.mono h (fun v4 m3 h => ?_))
  refine Wp.pk 4 (pc' := 20) (lv' := [some (.ref 13), some (.ref 7), some (.int v2), some (.int v4), none]) (st' := [.ref 7, .int 1, .ref 13]) rfl ?_
  refine Wp.getI rfl rfl sh7 rfl ?_
  refine Wp.callI rfl rfl rfl (CallI.mono h (fun v6 m5 h => ?_))
  refine Wp.pk 2 (pc' := 29) (lv' := [some (.ref 13), some (.ref 7), some (.int v2), some (.int v4), some (.int v6)]) (st' := [.ref 13]) rfl ?_
  refine Wp.callI rfl rfl rfl (CallI.mono h (fun v8 m7 h => ?_))
  refine Wp.if_eq rfl rfl ⟨fun hc => ?_, fun hc => ?_⟩
  · replace h := h.1 hc
    exact Wp.vret rfl rfl h
  · replace h := h.2 hc
    refine Wp.pk 4 (pc' := 40) (lv' := [some (.ref 13), some (.ref 7), some (.int v2), some (.int v4), some (.int v6)]) (st' := [.int v6, .int v4, .int v2, .ref 7]) rfl ?_
    refine Wp.callV rfl rfl rfl (CallV.mono h (fun m9 h => ?_))
    exact Wp.vret rfl rfl h
theorem eX6_readNumber_0 {X : a_X} {m : Nat → Nat → Int32} {Q : Option Value → (Nat → Nat → Int32) → Prop} {x1 x2 : Int32} (h : CallV X mX6_skipBlanks [.ref 13] m (fun m1 => ∀ m2, m2 = (a_up m1 13 3 (m1 13 2)) → Wp X mX6_readNumber 17 [some (.ref 13), some (.int x1), some (.int x2), some (.int 0), some (.int 0)] [] m2 Q)) : Call X mX6_readNumber [.ref 13, .int x1, .int x2] m Q := by
  unfold Call
  refine Wp.loc (lv' := [some (.ref 13), some (.int x1), some (.int x2), none, none]) rfl ?_
  refine Wp.pk 1 (pc' := 1) (lv' := [some (.ref 13), some (.int x1), some (.int x2), none, none]) (st' := [.ref 13]) rfl ?_
  refine Wp.callV rfl rfl rfl (CallV.mono h (fun m1 h => ?_))
  refine Wp.pk 2 (pc' := 6) (lv' := [some (.ref 13), some (.int x1), some (.int x2), none, none]) (st' := [.ref 13, .ref 13]) rfl ?_
  refine Wp.getI rfl rfl sh13 rfl ?_
  refine Wp.putN rfl rfl sh13 rfl rfl (fun m2 hm => ?_)
  replace h := h _ hm
  refine Wp.pk 4 (pc' := 17) (lv' := [some (.ref 13), some (.int x1), some (.int x2), some (.int 0), some (.int 0)]) (st' := []) rfl ?_
  exact h
theorem eX6_readNumber_17 {X : a_X} {m : Nat → Nat → Int32} {Q : Option Value → (Nat → Nat → Int32) → Prop} {x1 x2 x3 x4 : Int32} (h : ((m 13 1) ≤ (m 13 2) → (¬ x4 = 0 → (3 < x4 → CallV X mX6_fail [.ref 13, .int 2, .int (m 13 3)] m (fun m1 => CallI X mX6_isFaultless [.ref 13] m1 (fun v3 m2 => (v3 = 0 → Q (some (.int x1)) m2) ∧ (¬ v3 = 0 → Q (some (.int x3)) m2)))) ∧ (¬ 3 < x4 → (x3 < x1 → CallV X mX6_fail [.ref 13, .int 2, .int (m 13 3)] m (fun m4 => CallI X mX6_isFaultless [.ref 13] m4 (fun v6 m5 => (v6 = 0 → Q (some (.int x1)) m5) ∧ (¬ v6 = 0 → Q (some (.int x3)) m5)))) ∧ (¬ x3 < x1 → (x3 ≤ x2 → CallI X mX6_isFaultless [.ref 13] m (fun v8 m7 => (v8 = 0 → Q (some (.int x1)) m7) ∧ (¬ v8 = 0 → Q (some (.int x3)) m7))) ∧ (¬ x3 ≤ x2 → CallV X mX6_fail [.ref 13, .int 2, .int (m 13 3)] m (fun m9 => CallI X mX6_isFaultless [.ref 13] m9 (fun v11 m10 => (v11 = 0 → Q (some (.int x1)) m10) ∧ (¬ v11 = 0 → Q (some (.int x3)) m10))))))) ∧ (x4 = 0 → CallV X mX6_fail [.ref 13, .int 1, .int (m 13 3)] m (fun m12 => CallI X mX6_isFaultless [.ref 13] m12 (fun v14 m13 => (v14 = 0 → Q (some (.int x1)) m13) ∧ (¬ v14 = 0 → Q (some (.int x3)) m13))))) ∧ (¬ (m 13 1) ≤ (m 13 2) → vp_in (m 13 2) 300 ∧ CallI X mX6_isFigure [.int (m 14 (Int32.toNatClampNeg (m 13 2)))] m (fun v16 m15 => (v16 = 0 → (¬ x4 = 0 → (3 < x4 → CallV X mX6_fail [.ref 13, .int 2, .int (m15 13 3)] m15 (fun m17 => CallI X mX6_isFaultless [.ref 13] m17 (fun v19 m18 => (v19 = 0 → Q (some (.int x1)) m18) ∧ (¬ v19 = 0 → Q (some (.int x3)) m18)))) ∧ (¬ 3 < x4 → (x3 < x1 → CallV X mX6_fail [.ref 13, .int 2, .int (m15 13 3)] m15 (fun m20 => CallI X mX6_isFaultless [.ref 13] m20 (fun v22 m21 => (v22 = 0 → Q (some (.int x1)) m21) ∧ (¬ v22 = 0 → Q (some (.int x3)) m21)))) ∧ (¬ x3 < x1 → (x3 ≤ x2 → CallI X mX6_isFaultless [.ref 13] m15 (fun v24 m23 => (v24 = 0 → Q (some (.int x1)) m23) ∧ (¬ v24 = 0 → Q (some (.int x3)) m23))) ∧ (¬ x3 ≤ x2 → CallV X mX6_fail [.ref 13, .int 2, .int (m15 13 3)] m15 (fun m25 => CallI X mX6_isFaultless [.ref 13] m25 (fun v27 m26 => (v27 = 0 → Q (some (.int x1)) m26) ∧ (¬ v27 = 0 → Q (some (.int x3)) m26))))))) ∧ (x4 = 0 → CallV X mX6_fail [.ref 13, .int 1, .int (m15 13 3)] m15 (fun m28 => CallI X mX6_isFaultless [.ref 13] m28 (fun v30 m29 => (v30 = 0 → Q (some (.int x1)) m29) ∧ (¬ v30 = 0 → Q (some (.int x3)) m29))))) ∧ (¬ v16 = 0 → (3 < (x4 + 1) → ∀ m31, m31 = (a_up m15 13 2 ((m15 13 2) + 1)) → Wp X mX6_readNumber 17 [some (.ref 13), some (.int x1), some (.int x2), some (.int x3), some (.int (x4 + 1))] [] m31 Q) ∧ (¬ 3 < (x4 + 1) → vp_in (m15 13 2) 300 ∧ ∀ m32, m32 = (a_up m15 13 2 ((m15 13 2) + 1)) → Wp X mX6_readNumber 17 [some (.ref 13), some (.int x1), some (.int x2), some (.int ((x3 * 10) + ((m15 14 (Int32.toNatClampNeg (m15 13 2))) - 48))), some (.int (x4 + 1))] [] m32 Q))))) : Wp X mX6_readNumber 17 [some (.ref 13), some (.int x1), some (.int x2), some (.int x3), some (.int x4)] [] m Q := by
  refine Wp.pk 1 (pc' := 18) (lv' := [some (.ref 13), some (.int x1), some (.int x2), some (.int x3), some (.int x4)]) (st' := [.ref 13]) rfl ?_
  refine Wp.getI rfl rfl sh13 rfl ?_
  refine Wp.pk 1 (pc' := 22) (lv' := [some (.ref 13), some (.int x1), some (.int x2), some (.int x3), some (.int x4)]) (st' := [.ref 13, .int (m 13 2)]) rfl ?_
  refine Wp.getI rfl rfl sh13 rfl ?_
  refine Wp.icmp_ge rfl rfl ⟨fun hc => ?_, fun hc => ?_⟩
  · replace h := h.1 hc
    refine Wp.pk 1 (pc' := 85) (lv' := [some (.ref 13), some (.int x1), some (.int x2), some (.int x3), some (.int x4)]) (st' := [.int x4]) rfl ?_
    refine Wp.if_ne rfl rfl ⟨fun hc => ?_, fun hc => ?_⟩
    · replace h := h.1 hc
      refine Wp.pk 2 (pc' := 103) (lv' := [some (.ref 13), some (.int x1), some (.int x2), some (.int x3), some (.int x4)]) (st' := [.int 3, .int x4]) rfl ?_
      refine Wp.icmp_gt rfl rfl ⟨fun hc => ?_, fun hc => ?_⟩
      · replace h := h.1 hc
        refine Wp.pk 3 (pc' := 119) (lv' := [some (.ref 13), some (.int x1), some (.int x2), some (.int x3), some (.int x4)]) (st' := [.ref 13, .int 2, .ref 13]) rfl ?_
        refine Wp.getI rfl rfl sh13 rfl ?_
        refine Wp.callV rfl rfl rfl (CallV.mono h (fun m1 h => ?_))
        refine Wp.pk 1 (pc' := 126) (lv' := [some (.ref 13), some (.int x1), some (.int x2), some (.int x3), some (.int x4)]) (st' := [.ref 13]) rfl ?_
        refine Wp.callI rfl rfl rfl (CallI.mono h (fun v3 m2 h => ?_))
        refine Wp.if_eq rfl rfl ⟨fun hc => ?_, fun hc => ?_⟩
        · replace h := h.1 hc
          refine Wp.pk 1 (pc' := 137) (lv' := [some (.ref 13), some (.int x1), some (.int x2), some (.int x3), some (.int x4)]) (st' := [.int x1]) rfl ?_
          exact Wp.iret rfl rfl ⟨rfl, h⟩
        · replace h := h.2 hc
          refine Wp.pk 2 (pc' := 137) (lv' := [some (.ref 13), some (.int x1), some (.int x2), some (.int x3), some (.int x4)]) (st' := [.int x3]) rfl ?_
          exact Wp.iret rfl rfl ⟨rfl, h⟩
      · replace h := h.2 hc
        refine Wp.pk 2 (pc' := 108) (lv' := [some (.ref 13), some (.int x1), some (.int x2), some (.int x3), some (.int x4)]) (st' := [.int x1, .int x3]) rfl ?_
        refine Wp.icmp_lt rfl rfl ⟨fun hc => ?_, fun hc => ?_⟩
        · replace h := h.1 hc
          refine Wp.pk 3 (pc' := 119) (lv' := [some (.ref 13), some (.int x1), some (.int x2), some (.int x3), some (.int x4)]) (st' := [.ref 13, .int 2, .ref 13]) rfl ?_
          refine Wp.getI rfl rfl sh13 rfl ?_
          refine Wp.callV rfl rfl rfl (CallV.mono h (fun m4 h => ?_))
          refine Wp.pk 1 (pc' := 126) (lv' := [some (.ref 13), some (.int x1), some (.int x2), some (.int x3), some (.int x4)]) (st' := [.ref 13]) rfl ?_
          refine Wp.callI rfl rfl rfl (CallI.mono h (fun v6 m5 h => ?_))
          refine Wp.if_eq rfl rfl ⟨fun hc => ?_, fun hc => ?_⟩
          · replace h := h.1 hc
            refine Wp.pk 1 (pc' := 137) (lv' := [some (.ref 13), some (.int x1), some (.int x2), some (.int x3), some (.int x4)]) (st' := [.int x1]) rfl ?_
            exact Wp.iret rfl rfl ⟨rfl, h⟩
          · replace h := h.2 hc
            refine Wp.pk 2 (pc' := 137) (lv' := [some (.ref 13), some (.int x1), some (.int x2), some (.int x3), some (.int x4)]) (st' := [.int x3]) rfl ?_
            exact Wp.iret rfl rfl ⟨rfl, h⟩
        · replace h := h.2 hc
          refine Wp.pk 2 (pc' := 113) (lv' := [some (.ref 13), some (.int x1), some (.int x2), some (.int x3), some (.int x4)]) (st' := [.int x2, .int x3]) rfl ?_
          refine Wp.icmp_le rfl rfl ⟨fun hc => ?_, fun hc => ?_⟩
          · replace h := h.1 hc
            refine Wp.pk 1 (pc' := 126) (lv' := [some (.ref 13), some (.int x1), some (.int x2), some (.int x3), some (.int x4)]) (st' := [.ref 13]) rfl ?_
            refine Wp.callI rfl rfl rfl (CallI.mono h (fun v8 m7 h => ?_))
            refine Wp.if_eq rfl rfl ⟨fun hc => ?_, fun hc => ?_⟩
            · replace h := h.1 hc
              refine Wp.pk 1 (pc' := 137) (lv' := [some (.ref 13), some (.int x1), some (.int x2), some (.int x3), some (.int x4)]) (st' := [.int x1]) rfl ?_
              exact Wp.iret rfl rfl ⟨rfl, h⟩
            · replace h := h.2 hc
              refine Wp.pk 2 (pc' := 137) (lv' := [some (.ref 13), some (.int x1), some (.int x2), some (.int x3), some (.int x4)]) (st' := [.int x3]) rfl ?_
              exact Wp.iret rfl rfl ⟨rfl, h⟩
          · replace h := h.2 hc
            refine Wp.pk 3 (pc' := 119) (lv' := [some (.ref 13), some (.int x1), some (.int x2), some (.int x3), some (.int x4)]) (st' := [.ref 13, .int 2, .ref 13]) rfl ?_
            refine Wp.getI rfl rfl sh13 rfl ?_
            refine Wp.callV rfl rfl rfl (CallV.mono h (fun m9 h => ?_))
            refine Wp.pk 1 (pc' := 126) (lv' := [some (.ref 13), some (.int x1), some (.int x2), some (.int x3), some (.int x4)]) (st' := [.ref 13]) rfl ?_
            refine Wp.callI rfl rfl rfl (CallI.mono h (fun v11 m10 h => ?_))
            refine Wp.if_eq rfl rfl ⟨fun hc => ?_, fun hc => ?_⟩
            · replace h := h.1 hc
              refine Wp.pk 1 (pc' := 137) (lv' := [some (.ref 13), some (.int x1), some (.int x2), some (.int x3), some (.int x4)]) (st' := [.int x1]) rfl ?_
              exact Wp.iret rfl rfl ⟨rfl, h⟩
            · replace h := h.2 hc
              refine Wp.pk 2 (pc' := 137) (lv' := [some (.ref 13), some (.int x1), some (.int x2), some (.int x3), some (.int x4)]) (st' := [.int x3]) rfl ?_
              exact Wp.iret rfl rfl ⟨rfl, h⟩
    · replace h := h.2 hc
      refine Wp.pk 3 (pc' := 91) (lv' := [some (.ref 13), some (.int x1), some (.int x2), some (.int x3), some (.int x4)]) (st' := [.ref 13, .int 1, .ref 13]) rfl ?_
      refine Wp.getI rfl rfl sh13 rfl ?_
      refine Wp.callV rfl rfl rfl (CallV.mono h (fun m12 h => ?_))
      refine Wp.pk 2 (pc' := 126) (lv' := [some (.ref 13), some (.int x1), some (.int x2), some (.int x3), some (.int x4)]) (st' := [.ref 13]) rfl ?_
      refine Wp.callI rfl rfl rfl (CallI.mono h (fun v14 m13 h => ?_))
      refine Wp.if_eq rfl rfl ⟨fun hc => ?_, fun hc => ?_⟩
      · replace h := h.1 hc
        refine Wp.pk 1 (pc' := 137) (lv' := [some (.ref 13), some (.int x1), some (.int x2), some (.int x3), some (.int x4)]) (st' := [.int x1]) rfl ?_
        exact Wp.iret rfl rfl ⟨rfl, h⟩
      · replace h := h.2 hc
        refine Wp.pk 2 (pc' := 137) (lv' := [some (.ref 13), some (.int x1), some (.int x2), some (.int x3), some (.int x4)]) (st' := [.int x3]) rfl ?_
        exact Wp.iret rfl rfl ⟨rfl, h⟩
  · replace h := h.2 hc
    refine Wp.pk 1 (pc' := 29) (lv' := [some (.ref 13), some (.int x1), some (.int x2), some (.int x3), some (.int x4)]) (st' := [.ref 13]) rfl ?_
    refine Wp.getR rfl rfl sh13 rfl ?_
    refine Wp.pk 1 (pc' := 33) (lv' := [some (.ref 13), some (.int x1), some (.int x2), some (.int x3), some (.int x4)]) (st' := [.ref 13, .ref 14]) rfl ?_
    refine Wp.getI rfl rfl sh13 rfl ?_
    refine Wp.cald rfl sh14 ⟨h.1, ?_⟩
    replace h := h.2
    refine Wp.callI rfl rfl rfl (CallI.mono h (fun v16 m15 h => ?_))
    refine Wp.if_eq rfl rfl ⟨fun hc => ?_, fun hc => ?_⟩
    · replace h := h.1 hc
      refine Wp.pk 1 (pc' := 85) (lv' := [some (.ref 13), some (.int x1), some (.int x2), some (.int x3), some (.int x4)]) (st' := [.int x4]) rfl ?_
      refine Wp.if_ne rfl rfl ⟨fun hc => ?_, fun hc => ?_⟩
      · replace h := h.1 hc
        refine Wp.pk 2 (pc' := 103) (lv' := [some (.ref 13), some (.int x1), some (.int x2), some (.int x3), some (.int x4)]) (st' := [.int 3, .int x4]) rfl ?_
        refine Wp.icmp_gt rfl rfl ⟨fun hc => ?_, fun hc => ?_⟩
        · replace h := h.1 hc
          refine Wp.pk 3 (pc' := 119) (lv' := [some (.ref 13), some (.int x1), some (.int x2), some (.int x3), some (.int x4)]) (st' := [.ref 13, .int 2, .ref 13]) rfl ?_
          refine Wp.getI rfl rfl sh13 rfl ?_
          refine Wp.callV rfl rfl rfl (CallV.mono h (fun m17 h => ?_))
          refine Wp.pk 1 (pc' := 126) (lv' := [some (.ref 13), some (.int x1), some (.int x2), some (.int x3), some (.int x4)]) (st' := [.ref 13]) rfl ?_
          refine Wp.callI rfl rfl rfl (CallI.mono h (fun v19 m18 h => ?_))
          refine Wp.if_eq rfl rfl ⟨fun hc => ?_, fun hc => ?_⟩
          · replace h := h.1 hc
            refine Wp.pk 1 (pc' := 137) (lv' := [some (.ref 13), some (.int x1), some (.int x2), some (.int x3), some (.int x4)]) (st' := [.int x1]) rfl ?_
            exact Wp.iret rfl rfl ⟨rfl, h⟩
          · replace h := h.2 hc
            refine Wp.pk 2 (pc' := 137) (lv' := [some (.ref 13), some (.int x1), some (.int x2), some (.int x3), some (.int x4)]) (st' := [.int x3]) rfl ?_
            exact Wp.iret rfl rfl ⟨rfl, h⟩
        · replace h := h.2 hc
          refine Wp.pk 2 (pc' := 108) (lv' := [some (.ref 13), some (.int x1), some (.int x2), some (.int x3), some (.int x4)]) (st' := [.int x1, .int x3]) rfl ?_
          refine Wp.icmp_lt rfl rfl ⟨fun hc => ?_, fun hc => ?_⟩
          · replace h := h.1 hc
            refine Wp.pk 3 (pc' := 119) (lv' := [some (.ref 13), some (.int x1), some (.int x2), some (.int x3), some (.int x4)]) (st' := [.ref 13, .int 2, .ref 13]) rfl ?_
            refine Wp.getI rfl rfl sh13 rfl ?_
            refine Wp.callV rfl rfl rfl (CallV.mono h (fun m20 h => ?_))
            refine Wp.pk 1 (pc' := 126) (lv' := [some (.ref 13), some (.int x1), some (.int x2), some (.int x3), some (.int x4)]) (st' := [.ref 13]) rfl ?_
            refine Wp.callI rfl rfl rfl (CallI.mono h (fun v22 m21 h => ?_))
            refine Wp.if_eq rfl rfl ⟨fun hc => ?_, fun hc => ?_⟩
            · replace h := h.1 hc
              refine Wp.pk 1 (pc' := 137) (lv' := [some (.ref 13), some (.int x1), some (.int x2), some (.int x3), some (.int x4)]) (st' := [.int x1]) rfl ?_
              exact Wp.iret rfl rfl ⟨rfl, h⟩
            · replace h := h.2 hc
              refine Wp.pk 2 (pc' := 137) (lv' := [some (.ref 13), some (.int x1), some (.int x2), some (.int x3), some (.int x4)]) (st' := [.int x3]) rfl ?_
              exact Wp.iret rfl rfl ⟨rfl, h⟩
          · replace h := h.2 hc
            refine Wp.pk 2 (pc' := 113) (lv' := [some (.ref 13), some (.int x1), some (.int x2), some (.int x3), some (.int x4)]) (st' := [.int x2, .int x3]) rfl ?_
            refine Wp.icmp_le rfl rfl ⟨fun hc => ?_, fun hc => ?_⟩
            · replace h := h.1 hc
              refine Wp.pk 1 (pc' := 126) (lv' := [some (.ref 13), some (.int x1), some (.int x2), some (.int x3), some (.int x4)]) (st' := [.ref 13]) rfl ?_
              refine Wp.callI rfl rfl rfl (CallI.mono h (fun v24 m23 h => ?_))
              refine Wp.if_eq rfl rfl ⟨fun hc => ?_, fun hc => ?_⟩
              · replace h := h.1 hc
                refine Wp.pk 1 (pc' := 137) (lv' := [some (.ref 13), some (.int x1), some (.int x2), some (.int x3), some (.int x4)]) (st' := [.int x1]) rfl ?_
                exact Wp.iret rfl rfl ⟨rfl, h⟩
              · replace h := h.2 hc
                refine Wp.pk 2 (pc' := 137) (lv' := [some (.ref 13), some (.int x1), some (.int x2), some (.int x3), some (.int x4)]) (st' := [.int x3]) rfl ?_
                exact Wp.iret rfl rfl ⟨rfl, h⟩
            · replace h := h.2 hc
              refine Wp.pk 3 (pc' := 119) (lv' := [some (.ref 13), some (.int x1), some (.int x2), some (.int x3), some (.int x4)]) (st' := [.ref 13, .int 2, .ref 13]) rfl ?_
              refine Wp.getI rfl rfl sh13 rfl ?_
              refine Wp.callV rfl rfl rfl (CallV.mono h (fun m25 h => ?_))
              refine Wp.pk 1 (pc' := 126) (lv' := [some (.ref 13), some (.int x1), some (.int x2), some (.int x3), some (.int x4)]) (st' := [.ref 13]) rfl ?_
              refine Wp.callI rfl rfl rfl (CallI.mono h (fun v27 m26 h => ?_))
              refine Wp.if_eq rfl rfl ⟨fun hc => ?_, fun hc => ?_⟩
              · replace h := h.1 hc
                refine Wp.pk 1 (pc' := 137) (lv' := [some (.ref 13), some (.int x1), some (.int x2), some (.int x3), some (.int x4)]) (st' := [.int x1]) rfl ?_
                exact Wp.iret rfl rfl ⟨rfl, h⟩
              · replace h := h.2 hc
                refine Wp.pk 2 (pc' := 137) (lv' := [some (.ref 13), some (.int x1), some (.int x2), some (.int x3), some (.int x4)]) (st' := [.int x3]) rfl ?_
                exact Wp.iret rfl rfl ⟨rfl, h⟩
      · replace h := h.2 hc
        refine Wp.pk 3 (pc' := 91) (lv' := [some (.ref 13), some (.int x1), some (.int x2), some (.int x3), some (.int x4)]) (st' := [.ref 13, .int 1, .ref 13]) rfl ?_
        refine Wp.getI rfl rfl sh13 rfl ?_
        refine Wp.callV rfl rfl rfl (CallV.mono h (fun m28 h => ?_))
        refine Wp.pk 2 (pc' := 126) (lv' := [some (.ref 13), some (.int x1), some (.int x2), some (.int x3), some (.int x4)]) (st' := [.ref 13]) rfl ?_
        refine Wp.callI rfl rfl rfl (CallI.mono h (fun v30 m29 h => ?_))
        refine Wp.if_eq rfl rfl ⟨fun hc => ?_, fun hc => ?_⟩
        · replace h := h.1 hc
          refine Wp.pk 1 (pc' := 137) (lv' := [some (.ref 13), some (.int x1), some (.int x2), some (.int x3), some (.int x4)]) (st' := [.int x1]) rfl ?_
          exact Wp.iret rfl rfl ⟨rfl, h⟩
        · replace h := h.2 hc
          refine Wp.pk 2 (pc' := 137) (lv' := [some (.ref 13), some (.int x1), some (.int x2), some (.int x3), some (.int x4)]) (st' := [.int x3]) rfl ?_
          exact Wp.iret rfl rfl ⟨rfl, h⟩
    · replace h := h.2 hc
      refine Wp.pk 3 (pc' := 49) (lv' := [some (.ref 13), some (.int x1), some (.int x2), some (.int x3), some (.int (x4 + 1))]) (st' := [.int 3, .int (x4 + 1)]) rfl ?_
      refine Wp.icmp_gt rfl rfl ⟨fun hc => ?_, fun hc => ?_⟩
      · replace h := h.1 hc
        refine Wp.pk 2 (pc' := 72) (lv' := [some (.ref 13), some (.int x1), some (.int x2), some (.int x3), some (.int (x4 + 1))]) (st' := [.ref 13, .ref 13]) rfl ?_
        refine Wp.getI rfl rfl sh13 rfl ?_
        refine Wp.pk 2 (pc' := 77) (lv' := [some (.ref 13), some (.int x1), some (.int x2), some (.int x3), some (.int (x4 + 1))]) (st' := [.int ((m15 13 2) + 1), .ref 13]) rfl ?_
        refine Wp.putN rfl rfl sh13 rfl rfl (fun m31 hm => ?_)
        replace h := h _ hm
        refine Wp.pk 1 (pc' := 17) (lv' := [some (.ref 13), some (.int x1), some (.int x2), some (.int x3), some (.int (x4 + 1))]) (st' := []) rfl ?_
        exact h
      · replace h := h.2 hc
        refine Wp.pk 4 (pc' := 57) (lv' := [some (.ref 13), some (.int x1), some (.int x2), some (.int x3), some (.int (x4 + 1))]) (st' := [.ref 13, .int (x3 * 10)]) rfl ?_
        refine Wp.getR rfl rfl sh13 rfl ?_
        refine Wp.pk 1 (pc' := 61) (lv' := [some (.ref 13), some (.int x1), some (.int x2), some (.int x3), some (.int (x4 + 1))]) (st' := [.ref 13, .ref 14, .int (x3 * 10)]) rfl ?_
        refine Wp.getI rfl rfl sh13 rfl ?_
        refine Wp.cald rfl sh14 ⟨h.1, ?_⟩
        replace h := h.2
        refine Wp.pk 6 (pc' := 72) (lv' := [some (.ref 13), some (.int x1), some (.int x2), some (.int ((x3 * 10) + ((m15 14 (Int32.toNatClampNeg (m15 13 2))) - 48))), some (.int (x4 + 1))]) (st' := [.ref 13, .ref 13]) rfl ?_
        refine Wp.getI rfl rfl sh13 rfl ?_
        refine Wp.pk 2 (pc' := 77) (lv' := [some (.ref 13), some (.int x1), some (.int x2), some (.int ((x3 * 10) + ((m15 14 (Int32.toNatClampNeg (m15 13 2))) - 48))), some (.int (x4 + 1))]) (st' := [.int ((m15 13 2) + 1), .ref 13]) rfl ?_
        refine Wp.putN rfl rfl sh13 rfl rfl (fun m32 hm => ?_)
        replace h := h _ hm
        refine Wp.pk 1 (pc' := 17) (lv' := [some (.ref 13), some (.int x1), some (.int x2), some (.int ((x3 * 10) + ((m15 14 (Int32.toNatClampNeg (m15 13 2))) - 48))), some (.int (x4 + 1))]) (st' := []) rfl ?_
        exact h
theorem eX6_readEnd_0 {X : a_X} {m : Nat → Nat → Int32} {Q : Option Value → (Nat → Nat → Int32) → Prop} (h : CallV X mX6_skipBlanks [.ref 13] m (fun m1 => ((m1 13 1) ≤ (m1 13 2) → CallV X mX6_fail [.ref 13, .int 1, .int (m1 13 2)] m1 (fun m2 => Q none m2)) ∧ (¬ (m1 13 1) ≤ (m1 13 2) → vp_in (m1 13 2) 300 ∧ (¬ (m1 14 (Int32.toNatClampNeg (m1 13 2))) = 59 → CallV X mX6_fail [.ref 13, .int 1, .int (m1 13 2)] m1 (fun m3 => Q none m3)) ∧ ((m1 14 (Int32.toNatClampNeg (m1 13 2))) = 59 → ∀ m4, m4 = (a_up m1 13 2 ((m1 13 2) + 1)) → Q none m4)))) : Call X mX6_readEnd [.ref 13] m Q := by
  unfold Call
  refine Wp.loc (lv' := [some (.ref 13)]) rfl ?_
  refine Wp.pk 1 (pc' := 1) (lv' := [some (.ref 13)]) (st' := [.ref 13]) rfl ?_
  refine Wp.callV rfl rfl rfl (CallV.mono h (fun m1 h => ?_))
  refine Wp.pk 1 (pc' := 5) (lv' := [some (.ref 13)]) (st' := [.ref 13]) rfl ?_
  refine Wp.getI rfl rfl sh13 rfl ?_
  refine Wp.pk 1 (pc' := 9) (lv' := [some (.ref 13)]) (st' := [.ref 13, .int (m1 13 2)]) rfl ?_
  refine Wp.getI rfl rfl sh13 rfl ?_
  refine Wp.icmp_ge rfl rfl ⟨fun hc => ?_, fun hc => ?_⟩
  · replace h := h.1 hc
    refine Wp.pk 3 (pc' := 45) (lv' := [some (.ref 13)]) (st' := [.ref 13, .int 1, .ref 13]) rfl ?_
    refine Wp.getI rfl rfl sh13 rfl ?_
    refine Wp.callV rfl rfl rfl (CallV.mono h (fun m2 h => ?_))
    exact Wp.vret rfl rfl h
  · replace h := h.2 hc
    refine Wp.pk 1 (pc' := 16) (lv' := [some (.ref 13)]) (st' := [.ref 13]) rfl ?_
    refine Wp.getR rfl rfl sh13 rfl ?_
    refine Wp.pk 1 (pc' := 20) (lv' := [some (.ref 13)]) (st' := [.ref 13, .ref 14]) rfl ?_
    refine Wp.getI rfl rfl sh13 rfl ?_
    refine Wp.cald rfl sh14 ⟨h.1, ?_⟩
    replace h := h.2
    refine Wp.pk 1 (pc' := 26) (lv' := [some (.ref 13)]) (st' := [.int 59, .int (m1 14 (Int32.toNatClampNeg (m1 13 2)))]) rfl ?_
    refine Wp.icmp_ne rfl rfl ⟨fun hc => ?_, fun hc => ?_⟩
    · replace h := h.1 hc
      refine Wp.pk 3 (pc' := 45) (lv' := [some (.ref 13)]) (st' := [.ref 13, .int 1, .ref 13]) rfl ?_
      refine Wp.getI rfl rfl sh13 rfl ?_
      refine Wp.callV rfl rfl rfl (CallV.mono h (fun m3 h => ?_))
      exact Wp.vret rfl rfl h
    · replace h := h.2 hc
      refine Wp.pk 2 (pc' := 31) (lv' := [some (.ref 13)]) (st' := [.ref 13, .ref 13]) rfl ?_
      refine Wp.getI rfl rfl sh13 rfl ?_
      refine Wp.pk 2 (pc' := 36) (lv' := [some (.ref 13)]) (st' := [.int ((m1 13 2) + 1), .ref 13]) rfl ?_
      refine Wp.putN rfl rfl sh13 rfl rfl (fun m4 hm => ?_)
      replace h := h _ hm
      refine Wp.pk 1 (pc' := 51) (lv' := [some (.ref 13)]) (st' := []) rfl ?_
      exact Wp.vret rfl rfl h
theorem eX6_skipBlanks_0 {X : a_X} {m : Nat → Nat → Int32} {Q : Option Value → (Nat → Nat → Int32) → Prop} (h : ((m 13 1) ≤ (m 13 2) → Q none m) ∧ (¬ (m 13 1) ≤ (m 13 2) → vp_in (m 13 2) 300 ∧ (¬ (m 14 (Int32.toNatClampNeg (m 13 2))) = 32 → Q none m) ∧ ((m 14 (Int32.toNatClampNeg (m 13 2))) = 32 → ∀ m1, m1 = (a_up m 13 2 ((m 13 2) + 1)) → Wp X mX6_skipBlanks 0 [some (.ref 13)] [] m1 Q))) : Wp X mX6_skipBlanks 0 [some (.ref 13)] [] m Q := by
  refine Wp.pk 1 (pc' := 1) (lv' := [some (.ref 13)]) (st' := [.ref 13]) rfl ?_
  refine Wp.getI rfl rfl sh13 rfl ?_
  refine Wp.pk 1 (pc' := 5) (lv' := [some (.ref 13)]) (st' := [.ref 13, .int (m 13 2)]) rfl ?_
  refine Wp.getI rfl rfl sh13 rfl ?_
  refine Wp.icmp_ge rfl rfl ⟨fun hc => ?_, fun hc => ?_⟩
  · replace h := h.1 hc
    exact Wp.vret rfl rfl h
  · replace h := h.2 hc
    refine Wp.pk 1 (pc' := 12) (lv' := [some (.ref 13)]) (st' := [.ref 13]) rfl ?_
    refine Wp.getR rfl rfl sh13 rfl ?_
    refine Wp.pk 1 (pc' := 16) (lv' := [some (.ref 13)]) (st' := [.ref 13, .ref 14]) rfl ?_
    refine Wp.getI rfl rfl sh13 rfl ?_
    refine Wp.cald rfl sh14 ⟨h.1, ?_⟩
    replace h := h.2
    refine Wp.pk 1 (pc' := 22) (lv' := [some (.ref 13)]) (st' := [.int 32, .int (m 14 (Int32.toNatClampNeg (m 13 2)))]) rfl ?_
    refine Wp.icmp_ne rfl rfl ⟨fun hc => ?_, fun hc => ?_⟩
    · replace h := h.1 hc
      exact Wp.vret rfl rfl h
    · replace h := h.2 hc
      refine Wp.pk 2 (pc' := 27) (lv' := [some (.ref 13)]) (st' := [.ref 13, .ref 13]) rfl ?_
      refine Wp.getI rfl rfl sh13 rfl ?_
      refine Wp.pk 2 (pc' := 32) (lv' := [some (.ref 13)]) (st' := [.int ((m 13 2) + 1), .ref 13]) rfl ?_
      refine Wp.putN rfl rfl sh13 rfl rfl (fun m1 hm => ?_)
      replace h := h _ hm
      refine Wp.pk 1 (pc' := 0) (lv' := [some (.ref 13)]) (st' := []) rfl ?_
      exact h
theorem eX6_readWord_0 {X : a_X} {m : Nat → Nat → Int32} {Q : Option Value → (Nat → Nat → Int32) → Prop} (h : Wp X mX6_readWord 5 [some (.ref 13), some (.int (m 13 2)), none] [] m Q) : Call X mX6_readWord [.ref 13] m Q := by
  unfold Call
  refine Wp.loc (lv' := [some (.ref 13), none, none]) rfl ?_
  refine Wp.pk 1 (pc' := 1) (lv' := [some (.ref 13), none, none]) (st' := [.ref 13]) rfl ?_
  refine Wp.getI rfl rfl sh13 rfl ?_
  refine Wp.pk 1 (pc' := 5) (lv' := [some (.ref 13), some (.int (m 13 2)), none]) (st' := []) rfl ?_
  exact h
theorem eX6_readWord_5 {X : a_X} {m : Nat → Nat → Int32} {Q : Option Value → (Nat → Nat → Int32) → Prop} {x1 : Int32} (h : ((m 13 1) ≤ (m 13 2) → Wp X mX6_readWord 46 [some (.ref 13), some (.int x1), some (.int 0)] [] m Q) ∧ (¬ (m 13 1) ≤ (m 13 2) → vp_in (m 13 2) 300 ∧ CallI X mX6_isLetter [.int (m 14 (Int32.toNatClampNeg (m 13 2)))] m (fun v2 m1 => (v2 = 0 → Wp X mX6_readWord 46 [some (.ref 13), some (.int x1), some (.int 0)] [] m1 Q) ∧ (¬ v2 = 0 → ∀ m3, m3 = (a_up m1 13 2 ((m1 13 2) + 1)) → Wp X mX6_readWord 5 [some (.ref 13), some (.int x1), none] [] m3 Q)))) : Wp X mX6_readWord 5 [some (.ref 13), some (.int x1), none] [] m Q := by
  refine Wp.pk 1 (pc' := 6) (lv' := [some (.ref 13), some (.int x1), none]) (st' := [.ref 13]) rfl ?_
  refine Wp.getI rfl rfl sh13 rfl ?_
  refine Wp.pk 1 (pc' := 10) (lv' := [some (.ref 13), some (.int x1), none]) (st' := [.ref 13, .int (m 13 2)]) rfl ?_
  refine Wp.getI rfl rfl sh13 rfl ?_
  refine Wp.icmp_ge rfl rfl ⟨fun hc => ?_, fun hc => ?_⟩
  · replace h := h.1 hc
    refine Wp.pk 2 (pc' := 46) (lv' := [some (.ref 13), some (.int x1), some (.int 0)]) (st' := []) rfl ?_
    exact h
  · replace h := h.2 hc
    refine Wp.pk 1 (pc' := 17) (lv' := [some (.ref 13), some (.int x1), none]) (st' := [.ref 13]) rfl ?_
    refine Wp.getR rfl rfl sh13 rfl ?_
    refine Wp.pk 1 (pc' := 21) (lv' := [some (.ref 13), some (.int x1), none]) (st' := [.ref 13, .ref 14]) rfl ?_
    refine Wp.getI rfl rfl sh13 rfl ?_
    refine Wp.cald rfl sh14 ⟨h.1, ?_⟩
    replace h := h.2
    refine Wp.callI rfl rfl rfl (CallI.mono h (fun v2 m1 h => ?_))
    refine Wp.if_eq rfl rfl ⟨fun hc => ?_, fun hc => ?_⟩
    · replace h := h.1 hc
      refine Wp.pk 2 (pc' := 46) (lv' := [some (.ref 13), some (.int x1), some (.int 0)]) (st' := []) rfl ?_
      exact h
    · replace h := h.2 hc
      refine Wp.pk 2 (pc' := 33) (lv' := [some (.ref 13), some (.int x1), none]) (st' := [.ref 13, .ref 13]) rfl ?_
      refine Wp.getI rfl rfl sh13 rfl ?_
      refine Wp.pk 2 (pc' := 38) (lv' := [some (.ref 13), some (.int x1), none]) (st' := [.int ((m1 13 2) + 1), .ref 13]) rfl ?_
      refine Wp.putN rfl rfl sh13 rfl rfl (fun m3 hm => ?_)
      replace h := h _ hm
      refine Wp.pk 1 (pc' := 5) (lv' := [some (.ref 13), some (.int x1), none]) (st' := []) rfl ?_
      exact h
theorem eX6_readWord_46 {X : a_X} {m : Nat → Nat → Int32} {Q : Option Value → (Nat → Nat → Int32) → Prop} {x1 x2 : Int32} (h : (7 ≤ x2 → Q (some (.int (-1))) m) ∧ (¬ 7 ≤ x2 → CallR X mX6_nameOf [.int x2] m (fun v2 m1 => CallI X mX6_spells [.ref 13, .int x1, .ref v2] m1 (fun v4 m3 => (v4 = 0 → Wp X mX6_readWord 46 [some (.ref 13), some (.int x1), some (.int (x2 + 1))] [] m3 Q) ∧ (¬ v4 = 0 → Q (some (.int x2)) m3))))) : Wp X mX6_readWord 46 [some (.ref 13), some (.int x1), some (.int x2)] [] m Q := by
  refine Wp.pk 2 (pc' := 49) (lv' := [some (.ref 13), some (.int x1), some (.int x2)]) (st' := [.int 7, .int x2]) rfl ?_
  refine Wp.icmp_ge rfl rfl ⟨fun hc => ?_, fun hc => ?_⟩
  · replace h := h.1 hc
    refine Wp.pk 1 (pc' := 73) (lv' := [some (.ref 13), some (.int x1), some (.int x2)]) (st' := [.int (-1)]) rfl ?_
    exact Wp.iret rfl rfl ⟨rfl, h⟩
  · replace h := h.2 hc
    refine Wp.pk 3 (pc' := 55) (lv' := [some (.ref 13), some (.int x1), some (.int x2)]) (st' := [.int x2, .int x1, .ref 13]) rfl ?_
    refine Wp.callR rfl rfl rfl (CallR.mono h (fun v2 m1 h => ?_))
    refine Wp.callI rfl rfl rfl (CallI.mono h (fun v4 m3 h => ?_))
    refine Wp.if_eq rfl rfl ⟨fun hc => ?_, fun hc => ?_⟩
    · replace h := h.1 hc
      refine Wp.pk 2 (pc' := 46) (lv' := [some (.ref 13), some (.int x1), some (.int (x2 + 1))]) (st' := []) rfl ?_
      exact h
    · replace h := h.2 hc
      refine Wp.pk 1 (pc' := 65) (lv' := [some (.ref 13), some (.int x1), some (.int x2)]) (st' := [.int x2]) rfl ?_
      exact Wp.iret rfl rfl ⟨rfl, h⟩
theorem eX6_spells_0 {X : a_X} {m : Nat → Nat → Int32} {Q : Option Value → (Nat → Nat → Int32) → Prop} {k : Nat} (hk : k < 7) {x1 : Int32} (h : (((m 13 2) - x1) = (nI (a_sl.getD k 0)) → Wp X mX6_spells 17 [some (.ref 13), some (.int x1), some (.ref (1000 + k)), some (.int 0)] [] m Q) ∧ (¬ ((m 13 2) - x1) = (nI (a_sl.getD k 0)) → Q (some (.int 0)) m)) : Call X mX6_spells [.ref 13, .int x1, .ref (1000 + k)] m Q := by
  unfold Call
  refine Wp.loc (lv' := [some (.ref 13), some (.int x1), some (.ref (1000 + k)), none]) rfl ?_
  refine Wp.pk 1 (pc' := 1) (lv' := [some (.ref 13), some (.int x1), some (.ref (1000 + k)), none]) (st' := [.ref 13]) rfl ?_
  refine Wp.getI rfl rfl sh13 rfl ?_
  refine Wp.pk 3 (pc' := 7) (lv' := [some (.ref 13), some (.int x1), some (.ref (1000 + k)), none]) (st' := [.ref (1000 + k), .int ((m 13 2) - x1)]) rfl ?_
  refine Wp.slen7 rfl rfl hk rfl ?_
  refine Wp.icmp_eq rfl rfl ⟨fun hc => ?_, fun hc => ?_⟩
  · replace h := h.1 hc
    refine Wp.pk 2 (pc' := 17) (lv' := [some (.ref 13), some (.int x1), some (.ref (1000 + k)), some (.int 0)]) (st' := []) rfl ?_
    exact h
  · replace h := h.2 hc
    refine Wp.pk 1 (pc' := 14) (lv' := [some (.ref 13), some (.int x1), some (.ref (1000 + k)), none]) (st' := [.int 0]) rfl ?_
    exact Wp.iret rfl rfl ⟨rfl, h⟩
theorem eX6_spells_17 {X : a_X} {m : Nat → Nat → Int32} {Q : Option Value → (Nat → Nat → Int32) → Prop} {k : Nat} (hk : k < 7) {x1 x3 : Int32} (h : ((nI (a_sl.getD k 0)) ≤ x3 → Q (some (.int 1)) m) ∧ (¬ (nI (a_sl.getD k 0)) ≤ x3 → vp_in (x1 + x3) 300 ∧ vp_in x3 (a_sl.getD k 0) ∧ ((m 14 (Int32.toNatClampNeg (x1 + x3))) = ((a_sc.getD k []).getD (Int32.toNatClampNeg x3) 0) → Wp X mX6_spells 17 [some (.ref 13), some (.int x1), some (.ref (1000 + k)), some (.int (x3 + 1))] [] m Q) ∧ (¬ (m 14 (Int32.toNatClampNeg (x1 + x3))) = ((a_sc.getD k []).getD (Int32.toNatClampNeg x3) 0) → Q (some (.int 0)) m))) : Wp X mX6_spells 17 [some (.ref 13), some (.int x1), some (.ref (1000 + k)), some (.int x3)] [] m Q := by
  refine Wp.pk 2 (pc' := 19) (lv' := [some (.ref 13), some (.int x1), some (.ref (1000 + k)), some (.int x3)]) (st' := [.ref (1000 + k), .int x3]) rfl ?_
  refine Wp.slen7 rfl rfl hk rfl ?_
  refine Wp.icmp_ge rfl rfl ⟨fun hc => ?_, fun hc => ?_⟩
  · replace h := h.1 hc
    refine Wp.pk 1 (pc' := 50) (lv' := [some (.ref 13), some (.int x1), some (.ref (1000 + k)), some (.int x3)]) (st' := [.int 1]) rfl ?_
    exact Wp.iret rfl rfl ⟨rfl, h⟩
  · replace h := h.2 hc
    refine Wp.pk 1 (pc' := 26) (lv' := [some (.ref 13), some (.int x1), some (.ref (1000 + k)), some (.int x3)]) (st' := [.ref 13]) rfl ?_
    refine Wp.getR rfl rfl sh13 rfl ?_
    refine Wp.pk 3 (pc' := 32) (lv' := [some (.ref 13), some (.int x1), some (.ref (1000 + k)), some (.int x3)]) (st' := [.int (x1 + x3), .ref 14]) rfl ?_
    refine Wp.cald rfl sh14 ⟨h.1, ?_⟩
    replace h := h.2
    refine Wp.pk 2 (pc' := 35) (lv' := [some (.ref 13), some (.int x1), some (.ref (1000 + k)), some (.int x3)]) (st' := [.int x3, .ref (1000 + k), .int (m 14 (Int32.toNatClampNeg (x1 + x3)))]) rfl ?_
    refine Wp.scha7 rfl rfl hk rfl ⟨h.1, ?_⟩
    replace h := h.2
    refine Wp.icmp_eq rfl rfl ⟨fun hc => ?_, fun hc => ?_⟩
    · replace h := h.1 hc
      refine Wp.pk 2 (pc' := 17) (lv' := [some (.ref 13), some (.int x1), some (.ref (1000 + k)), some (.int (x3 + 1))]) (st' := []) rfl ?_
      exact h
    · replace h := h.2 hc
      refine Wp.pk 1 (pc' := 42) (lv' := [some (.ref 13), some (.int x1), some (.ref (1000 + k)), some (.int x3)]) (st' := [.int 0]) rfl ?_
      exact Wp.iret rfl rfl ⟨rfl, h⟩
theorem eX6_nameOf_0 {X : a_X} {m : Nat → Nat → Int32} {Q : Option Value → (Nat → Nat → Int32) → Prop} {x0 : Int32} (h : (x0 = 0 → Q (some (.ref 1000)) m) ∧ (x0 = 1 → Q (some (.ref 1001)) m) ∧ (x0 = 2 → Q (some (.ref 1002)) m) ∧ (x0 = 3 → Q (some (.ref 1003)) m) ∧ (x0 = 4 → Q (some (.ref 1004)) m) ∧ (x0 = 5 → Q (some (.ref 1005)) m) ∧ (Int32.toInt x0 < 0 ∨ 5 < Int32.toInt x0 → Q (some (.ref 1006)) m)) : Call X mX6_nameOf [.int x0] m Q := by
  unfold Call
  refine Wp.loc (lv' := [some (.int x0)]) rfl ?_
  refine Wp.pk 1 (pc' := 1) (lv' := [some (.int x0)]) (st' := [.int x0]) rfl ?_
  refine Wp.tsw (lo := 0) (hi := 5) rfl (fun hc => ?_) (fun j hj1 hj2 hc => ?_)
  · replace h := h.2.2.2.2.2.2 hc
    refine ⟨58, rfl, ?_⟩
    refine Wp.ldcS rfl rfl ?_
    exact Wp.aret rfl rfl h
  · rcases (show j = 0 ∨ j = 1 ∨ j = 2 ∨ j = 3 ∨ j = 4 ∨ j = 5 by omega) with rfl | rfl | rfl | rfl | rfl | rfl
    · replace h := (h.1 (Int32.toInt_inj.mp (hc.trans (by decide))))
      refine ⟨_, 40, rfl, rfl, ?_⟩
      refine Wp.ldcS rfl rfl ?_
      exact Wp.aret rfl rfl h
    · replace h := (h.2.1 (Int32.toInt_inj.mp (hc.trans (by decide))))
      refine ⟨_, 43, rfl, rfl, ?_⟩
      refine Wp.ldcS rfl rfl ?_
      exact Wp.aret rfl rfl h
    · replace h := (h.2.2.1 (Int32.toInt_inj.mp (hc.trans (by decide))))
      refine ⟨_, 46, rfl, rfl, ?_⟩
      refine Wp.ldcS rfl rfl ?_
      exact Wp.aret rfl rfl h
    · replace h := (h.2.2.2.1 (Int32.toInt_inj.mp (hc.trans (by decide))))
      refine ⟨_, 49, rfl, rfl, ?_⟩
      refine Wp.ldcS rfl rfl ?_
      exact Wp.aret rfl rfl h
    · replace h := (h.2.2.2.2.1 (Int32.toInt_inj.mp (hc.trans (by decide))))
      refine ⟨_, 52, rfl, rfl, ?_⟩
      refine Wp.ldcS rfl rfl ?_
      exact Wp.aret rfl rfl h
    · replace h := (h.2.2.2.2.2.1 (Int32.toInt_inj.mp (hc.trans (by decide))))
      refine ⟨_, 55, rfl, rfl, ?_⟩
      refine Wp.ldcS rfl rfl ?_
      exact Wp.aret rfl rfl h
theorem eX6_isLetter_0 {X : a_X} {m : Nat → Nat → Int32} {Q : Option Value → (Nat → Nat → Int32) → Prop} {x0 : Int32} (h : (x0 < 97 → Q (some (.int 0)) m) ∧ (¬ x0 < 97 → (122 < x0 → Q (some (.int 0)) m) ∧ (¬ 122 < x0 → Q (some (.int 1)) m))) : Call X mX6_isLetter [.int x0] m Q := by
  unfold Call
  refine Wp.loc (lv' := [some (.int x0)]) rfl ?_
  refine Wp.pk 2 (pc' := 3) (lv' := [some (.int x0)]) (st' := [.int 97, .int x0]) rfl ?_
  refine Wp.icmp_lt rfl rfl ⟨fun hc => ?_, fun hc => ?_⟩
  · replace h := h.1 hc
    refine Wp.pk 1 (pc' := 17) (lv' := [some (.int x0)]) (st' := [.int 0]) rfl ?_
    exact Wp.iret rfl rfl ⟨rfl, h⟩
  · replace h := h.2 hc
    refine Wp.pk 2 (pc' := 9) (lv' := [some (.int x0)]) (st' := [.int 122, .int x0]) rfl ?_
    refine Wp.icmp_gt rfl rfl ⟨fun hc => ?_, fun hc => ?_⟩
    · replace h := h.1 hc
      refine Wp.pk 1 (pc' := 17) (lv' := [some (.int x0)]) (st' := [.int 0]) rfl ?_
      exact Wp.iret rfl rfl ⟨rfl, h⟩
    · replace h := h.2 hc
      refine Wp.pk 2 (pc' := 17) (lv' := [some (.int x0)]) (st' := [.int 1]) rfl ?_
      exact Wp.iret rfl rfl ⟨rfl, h⟩
theorem eX6_isFigure_0 {X : a_X} {m : Nat → Nat → Int32} {Q : Option Value → (Nat → Nat → Int32) → Prop} {x0 : Int32} (h : (x0 < 48 → Q (some (.int 0)) m) ∧ (¬ x0 < 48 → (57 < x0 → Q (some (.int 0)) m) ∧ (¬ 57 < x0 → Q (some (.int 1)) m))) : Call X mX6_isFigure [.int x0] m Q := by
  unfold Call
  refine Wp.loc (lv' := [some (.int x0)]) rfl ?_
  refine Wp.pk 2 (pc' := 3) (lv' := [some (.int x0)]) (st' := [.int 48, .int x0]) rfl ?_
  refine Wp.icmp_lt rfl rfl ⟨fun hc => ?_, fun hc => ?_⟩
  · replace h := h.1 hc
    refine Wp.pk 1 (pc' := 17) (lv' := [some (.int x0)]) (st' := [.int 0]) rfl ?_
    exact Wp.iret rfl rfl ⟨rfl, h⟩
  · replace h := h.2 hc
    refine Wp.pk 2 (pc' := 9) (lv' := [some (.int x0)]) (st' := [.int 57, .int x0]) rfl ?_
    refine Wp.icmp_gt rfl rfl ⟨fun hc => ?_, fun hc => ?_⟩
    · replace h := h.1 hc
      refine Wp.pk 1 (pc' := 17) (lv' := [some (.int x0)]) (st' := [.int 0]) rfl ?_
      exact Wp.iret rfl rfl ⟨rfl, h⟩
    · replace h := h.2 hc
      refine Wp.pk 2 (pc' := 17) (lv' := [some (.int x0)]) (st' := [.int 1]) rfl ?_
      exact Wp.iret rfl rfl ⟨rfl, h⟩
