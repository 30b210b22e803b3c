theorem eX8_feed_0 {X : a_X} {m : Nat → Nat → Int32} {Q : Option Value → (Nat → Nat → Int32) → Prop} {x1 : Int32} {x2 : Int64} (h : (x1 < 1 → Q (some (.int (-100000002))) m) ∧ (¬ x1 < 1 → (x1 ≤ 8 → CallI X mX6_append [.ref 13, .int x1, .long x2] m (fun v2 m1 => (v2 = 0 → Q (some (.int (-100000004))) m1) ∧ (¬ v2 = 0 → Q (some (.int (m1 13 1))) m1))) ∧ (¬ x1 ≤ 8 → Q (some (.int (-100000002))) m))) : Call X mX8_feed [.ref 0, .int x1, .long x2] m Q := by
  unfold Call
  refine Wp.loc (lv' := [some (.ref 0), some (.int x1), some (.long x2), none]) rfl ?_
  refine Wp.pk 2 (pc' := 2) (lv' := [some (.ref 0), some (.int x1), some (.long x2), none]) (st' := [.int 1, .int x1]) rfl ?_
  refine Wp.icmp_lt rfl rfl ⟨fun hc => ?_, fun hc => ?_⟩
  · replace h := h.1 hc
    refine Wp.ldc rfl rfl ?_
    exact Wp.iret rfl rfl ⟨rfl, h⟩
  · replace h := h.2 hc
    refine Wp.pk 2 (pc' := 8) (lv' := [some (.ref 0), some (.int x1), some (.long x2), none]) (st' := [.int 8, .int x1]) rfl ?_
    refine Wp.icmp_le rfl rfl ⟨fun hc => ?_, fun hc => ?_⟩
    · replace h := h.1 hc
      refine Wp.pk 1 (pc' := 15) (lv' := [some (.ref 0), some (.int x1), some (.long x2), none]) (st' := [.ref 0]) rfl ?_
      refine Wp.getR rfl rfl sh0 rfl ?_
      refine Wp.pk 2 (pc' := 20) (lv' := [some (.ref 0), some (.int x1), some (.long x2), none]) (st' := [.long x2, .int x1, .ref 13]) rfl ?_
      refine Wp.callI rfl rfl rfl (CallI.mono h (fun v2 m1 h => ?_))
      refine Wp.if_eq rfl rfl ⟨fun hc => ?_, fun hc => ?_⟩
      · replace h := h.1 hc
        refine Wp.ldc rfl rfl ?_
        exact Wp.iret rfl rfl ⟨rfl, h⟩
      · replace h := h.2 hc
        refine Wp.pk 1 (pc' := 27) (lv' := [some (.ref 0), some (.int x1), some (.long x2), none]) (st' := [.ref 0]) rfl ?_
        refine Wp.getR rfl rfl sh0 rfl ?_
        refine Wp.getI rfl rfl sh13 rfl ?_
        refine Wp.pk 1 (pc' := 38) (lv' := [some (.ref 0), some (.int x1), some (.long x2), none]) (st' := [.int (m1 13 1)]) rfl ?_
        exact Wp.iret rfl rfl ⟨rfl, h⟩
    · replace h := h.2 hc
      refine Wp.ldc rfl rfl ?_
      exact Wp.iret rfl rfl ⟨rfl, h⟩
theorem eX8_wall_0 {X : a_X} {m : Nat → Nat → Int32} {Q : Option Value → (Nat → Nat → Int32) → Prop} (h : CallI X mX6_readInto [.ref 13, .ref 7] m (fun v2 m1 => ∀ m3, m3 = (a_up m1 13 1 0) → (¬ v2 = 0 → CallV X mX5_copyFrom [.ref 1, .ref 7] m3 (fun m4 => CallV X mX0_takeAllAway [.ref 15] m4 (fun m5 => CallV X mX3_forget [.ref 71] m5 (fun m6 => ∀ m7, m7 = (a_up m6 23 1 0) → ∀ m8, m8 = (a_up m7 32 1 0) → Q (some (.int (m8 1 6))) m8)))) ∧ (v2 = 0 → Q (some (.int ((-10) - (m3 13 4)))) m3))) : Call X mX8_wall [.ref 0] m Q := by
  unfold Call
  refine Wp.loc (lv' := [some (.ref 0), none]) rfl ?_
  refine Wp.pk 1 (pc' := 1) (lv' := [some (.ref 0), none]) (st' := [.ref 0]) rfl ?_
  refine Wp.getR rfl rfl sh0 rfl ?_
  refine Wp.pk 1 (pc' := 5) (lv' := [some (.ref 0), none]) (st' := [.ref 0, .ref 13]) rfl ?_
  refine Wp.getR rfl rfl sh0 rfl ?_
  refine Wp.callI rfl rfl rfl (CallI.mono h (fun v2 m1 h => ?_))
  refine Wp.pk 2 (pc' := 13) (lv' := [some (.ref 0), some (.int v2)]) (st' := [.ref 0]) rfl ?_
  refine Wp.getR rfl rfl sh0 rfl ?_
  refine Wp.pk 1 (pc' := 17) (lv' := [some (.ref 0), some (.int v2)]) (st' := [.int 0, .ref 13]) rfl ?_
  refine Wp.putN rfl rfl sh13 rfl rfl (fun m3 hm => ?_)
  replace h := h _ hm
  refine Wp.pk 1 (pc' := 21) (lv' := [some (.ref 0), some (.int v2)]) (st' := [.int v2]) rfl ?_
  refine Wp.if_ne rfl rfl ⟨fun hc => ?_, fun hc => ?_⟩
  · replace h := h.1 hc
    refine Wp.pk 1 (pc' := 36) (lv' := [some (.ref 0), some (.int v2)]) (st' := [.ref 0]) rfl ?_
    refine Wp.getR rfl rfl sh0 rfl ?_
    refine Wp.pk 1 (pc' := 40) (lv' := [some (.ref 0), some (.int v2)]) (st' := [.ref 0, .ref 1]) rfl ?_
    refine Wp.getR rfl rfl sh0 rfl ?_
    refine Wp.callV rfl rfl rfl (CallV.mono h (fun m4 h => ?_))
    refine Wp.pk 1 (pc' := 47) (lv' := [some (.ref 0), some (.int v2)]) (st' := [.ref 0]) rfl ?_
    refine Wp.getR rfl rfl sh0 rfl ?_
    refine Wp.callV rfl rfl rfl (CallV.mono h (fun m5 h => ?_))
    refine Wp.pk 1 (pc' := 54) (lv' := [some (.ref 0), some (.int v2)]) (st' := [.ref 0]) rfl ?_
    refine Wp.getR rfl rfl sh0 rfl ?_
    refine Wp.callV rfl rfl rfl (CallV.mono h (fun m6 h => ?_))
    refine Wp.pk 1 (pc' := 61) (lv' := [some (.ref 0), some (.int v2)]) (st' := [.ref 0]) rfl ?_
    refine Wp.getR rfl rfl sh0 rfl ?_
    refine Wp.pk 1 (pc' := 65) (lv' := [some (.ref 0), some (.int v2)]) (st' := [.int 0, .ref 23]) rfl ?_
    refine Wp.putN rfl rfl sh23 rfl rfl (fun m7 hm => ?_)
    replace h := h _ hm
    refine Wp.pk 1 (pc' := 69) (lv' := [some (.ref 0), some (.int v2)]) (st' := [.ref 0]) rfl ?_
    refine Wp.getR rfl rfl sh0 rfl ?_
    refine Wp.pk 1 (pc' := 73) (lv' := [some (.ref 0), some (.int v2)]) (st' := [.int 0, .ref 32]) rfl ?_
    refine Wp.putN rfl rfl sh32 rfl rfl (fun m8 hm => ?_)
    replace h := h _ hm
    refine Wp.pk 1 (pc' := 77) (lv' := [some (.ref 0), some (.int v2)]) (st' := [.ref 0]) rfl ?_
    refine Wp.getR rfl rfl sh0 rfl ?_
    refine Wp.getI rfl rfl sh1 rfl ?_
    exact Wp.iret rfl rfl ⟨rfl, h⟩
  · replace h := h.2 hc
    refine Wp.pk 2 (pc' := 27) (lv' := [some (.ref 0), some (.int v2)]) (st' := [.ref 0, .int (-10)]) rfl ?_
    refine Wp.getR rfl rfl sh0 rfl ?_
    refine Wp.getI rfl rfl sh13 rfl ?_
    refine Wp.pk 1 (pc' := 34) (lv' := [some (.ref 0), some (.int v2)]) (st' := [.int ((-10) - (m3 13 4))]) rfl ?_
    exact Wp.iret rfl rfl ⟨rfl, h⟩
theorem eX8_fault_0 {X : a_X} {m : Nat → Nat → Int32} {Q : Option Value → (Nat → Nat → Int32) → Prop} (h : Q (some (.int (m 13 5))) m) : Call X mX8_fault [.ref 0] m Q := by
  unfold Call
  refine Wp.loc (lv' := [some (.ref 0)]) rfl ?_
  refine Wp.pk 1 (pc' := 1) (lv' := [some (.ref 0)]) (st' := [.ref 0]) rfl ?_
  refine Wp.getR rfl rfl sh0 rfl ?_
  refine Wp.getI rfl rfl sh13 rfl ?_
  exact Wp.iret rfl rfl ⟨rfl, h⟩
theorem eX8_told_0 {X : a_X} {m : Nat → Nat → Int32} {Q : Option Value → (Nat → Nat → Int32) → Prop} {x1 : Int32} (h : (x1 = 0 → Q (some (.int (m 1 0))) m) ∧ (x1 = 1 → Q (some (.int (m 1 1))) m) ∧ (x1 = 2 → Q (some (.int (m 1 2))) m) ∧ (x1 = 3 → Q (some (.int (m 1 3))) m) ∧ (x1 = 4 → Q (some (.int (m 1 4))) m) ∧ (x1 = 5 → Q (some (.int (m 1 5))) m) ∧ (x1 = 6 → Q (some (.int (m 1 6))) m) ∧ (x1 = 7 → Q (some (.int (m 15 1))) m) ∧ (x1 = 8 → Q (some (.int (m 15 2))) m) ∧ (x1 = 9 → Q (some (.int (m 13 1))) m) ∧ (x1 = 10 → Q (some (.int (m 71 1))) m) ∧ (Int32.toInt x1 < 0 ∨ 10 < Int32.toInt x1 → Q (some (.int (-100000002))) m)) : Call X mX8_told [.ref 0, .int x1] m Q := by
  unfold Call
  refine Wp.loc (lv' := [some (.ref 0), some (.int x1)]) rfl ?_
  refine Wp.pk 1 (pc' := 1) (lv' := [some (.ref 0), some (.int x1)]) (st' := [.int x1]) rfl ?_
  refine Wp.tsw (lo := 0) (hi := 10) rfl (fun hc => ?_) (fun j hj1 hj2 hc => ?_)
  · replace h := h.2.2.2.2.2.2.2.2.2.2.2 hc
    refine ⟨148, rfl, ?_⟩
    refine Wp.ldc rfl rfl ?_
    exact Wp.iret rfl rfl ⟨rfl, h⟩
  · rcases (show j = 0 ∨ j = 1 ∨ j = 2 ∨ j = 3 ∨ j = 4 ∨ j = 5 ∨ j = 6 ∨ j = 7 ∨ j = 8 ∨ j = 9 ∨ j = 10 by omega) with rfl | rfl | rfl | rfl | rfl | rfl | rfl | rfl | rfl | rfl | rfl
    · replace h := (h.1 (Int32.toInt_inj.mp (hc.trans (by decide))))
      refine ⟨_, 60, rfl, rfl, ?_⟩
      refine Wp.pk 1 (pc' := 61) (lv' := [some (.ref 0), some (.int x1)]) (st' := [.ref 0]) rfl ?_
      refine Wp.getR rfl rfl sh0 rfl ?_
      refine Wp.getI rfl rfl sh1 rfl ?_
      exact Wp.iret rfl rfl ⟨rfl, h⟩
    · replace h := (h.2.1 (Int32.toInt_inj.mp (hc.trans (by decide))))
      refine ⟨_, 68, rfl, rfl, ?_⟩
      refine Wp.pk 1 (pc' := 69) (lv' := [some (.ref 0), some (.int x1)]) (st' := [.ref 0]) rfl ?_
      refine Wp.getR rfl rfl sh0 rfl ?_
      refine Wp.getI rfl rfl sh1 rfl ?_
      exact Wp.iret rfl rfl ⟨rfl, h⟩
    · replace h := (h.2.2.1 (Int32.toInt_inj.mp (hc.trans (by decide))))
      refine ⟨_, 76, rfl, rfl, ?_⟩
      refine Wp.pk 1 (pc' := 77) (lv' := [some (.ref 0), some (.int x1)]) (st' := [.ref 0]) rfl ?_
      refine Wp.getR rfl rfl sh0 rfl ?_
      refine Wp.getI rfl rfl sh1 rfl ?_
      exact Wp.iret rfl rfl ⟨rfl, h⟩
    · replace h := (h.2.2.2.1 (Int32.toInt_inj.mp (hc.trans (by decide))))
      refine ⟨_, 84, rfl, rfl, ?_⟩
      refine Wp.pk 1 (pc' := 85) (lv' := [some (.ref 0), some (.int x1)]) (st' := [.ref 0]) rfl ?_
      refine Wp.getR rfl rfl sh0 rfl ?_
      refine Wp.getI rfl rfl sh1 rfl ?_
      exact Wp.iret rfl rfl ⟨rfl, h⟩
    · replace h := (h.2.2.2.2.1 (Int32.toInt_inj.mp (hc.trans (by decide))))
      refine ⟨_, 92, rfl, rfl, ?_⟩
      refine Wp.pk 1 (pc' := 93) (lv' := [some (.ref 0), some (.int x1)]) (st' := [.ref 0]) rfl ?_
      refine Wp.getR rfl rfl sh0 rfl ?_
      refine Wp.getI rfl rfl sh1 rfl ?_
      exact Wp.iret rfl rfl ⟨rfl, h⟩
    · replace h := (h.2.2.2.2.2.1 (Int32.toInt_inj.mp (hc.trans (by decide))))
      refine ⟨_, 100, rfl, rfl, ?_⟩
      refine Wp.pk 1 (pc' := 101) (lv' := [some (.ref 0), some (.int x1)]) (st' := [.ref 0]) rfl ?_
      refine Wp.getR rfl rfl sh0 rfl ?_
      refine Wp.getI rfl rfl sh1 rfl ?_
      exact Wp.iret rfl rfl ⟨rfl, h⟩
    · replace h := (h.2.2.2.2.2.2.1 (Int32.toInt_inj.mp (hc.trans (by decide))))
      refine ⟨_, 108, rfl, rfl, ?_⟩
      refine Wp.pk 1 (pc' := 109) (lv' := [some (.ref 0), some (.int x1)]) (st' := [.ref 0]) rfl ?_
      refine Wp.getR rfl rfl sh0 rfl ?_
      refine Wp.getI rfl rfl sh1 rfl ?_
      exact Wp.iret rfl rfl ⟨rfl, h⟩
    · replace h := (h.2.2.2.2.2.2.2.1 (Int32.toInt_inj.mp (hc.trans (by decide))))
      refine ⟨_, 116, rfl, rfl, ?_⟩
      refine Wp.pk 1 (pc' := 117) (lv' := [some (.ref 0), some (.int x1)]) (st' := [.ref 0]) rfl ?_
      refine Wp.getR rfl rfl sh0 rfl ?_
      refine Wp.getI rfl rfl sh15 rfl ?_
      exact Wp.iret rfl rfl ⟨rfl, h⟩
    · replace h := (h.2.2.2.2.2.2.2.2.1 (Int32.toInt_inj.mp (hc.trans (by decide))))
      refine ⟨_, 124, rfl, rfl, ?_⟩
      refine Wp.pk 1 (pc' := 125) (lv' := [some (.ref 0), some (.int x1)]) (st' := [.ref 0]) rfl ?_
      refine Wp.getR rfl rfl sh0 rfl ?_
      refine Wp.getI rfl rfl sh15 rfl ?_
      exact Wp.iret rfl rfl ⟨rfl, h⟩
    · replace h := (h.2.2.2.2.2.2.2.2.2.1 (Int32.toInt_inj.mp (hc.trans (by decide))))
      refine ⟨_, 132, rfl, rfl, ?_⟩
      refine Wp.pk 1 (pc' := 133) (lv' := [some (.ref 0), some (.int x1)]) (st' := [.ref 0]) rfl ?_
      refine Wp.getR rfl rfl sh0 rfl ?_
      refine Wp.getI rfl rfl sh13 rfl ?_
      exact Wp.iret rfl rfl ⟨rfl, h⟩
    · replace h := (h.2.2.2.2.2.2.2.2.2.2.1 (Int32.toInt_inj.mp (hc.trans (by decide))))
      refine ⟨_, 140, rfl, rfl, ?_⟩
      refine Wp.pk 1 (pc' := 141) (lv' := [some (.ref 0), some (.int x1)]) (st' := [.ref 0]) rfl ?_
      refine Wp.getR rfl rfl sh0 rfl ?_
      refine Wp.getI rfl rfl sh71 rfl ?_
      exact Wp.iret rfl rfl ⟨rfl, h⟩
theorem eX8_kind_0 {X : a_X} {m : Nat → Nat → Int32} {Q : Option Value → (Nat → Nat → Int32) → Prop} {x1 x2 : Int32} (h : CallI X mX5_hasKind [.ref 1, .int x1] m (fun v2 m1 => (¬ v2 = 0 → (x2 = 0 → vp_in x1 12 ∧ Q (some (.int (m1 4 (Int32.toNatClampNeg x1)))) m1) ∧ (x2 = 1 → vp_in x1 12 ∧ Q (some (.int (m1 5 (Int32.toNatClampNeg x1)))) m1) ∧ (x2 = 2 → vp_in x1 12 ∧ Q (some (.int (m1 6 (Int32.toNatClampNeg x1)))) m1) ∧ (Int32.toInt x2 < 0 ∨ 2 < Int32.toInt x2 → Q (some (.int (-100000002))) m1)) ∧ (v2 = 0 → Q (some (.int (-100000001))) m1))) : Call X mX8_kind [.ref 0, .int x1, .int x2] m Q := by
  unfold Call
  refine Wp.loc (lv' := [some (.ref 0), some (.int x1), some (.int x2)]) rfl ?_
  refine Wp.pk 1 (pc' := 1) (lv' := [some (.ref 0), some (.int x1), some (.int x2)]) (st' := [.ref 0]) rfl ?_
  refine Wp.getR rfl rfl sh0 rfl ?_
  refine Wp.pk 1 (pc' := 5) (lv' := [some (.ref 0), some (.int x1), some (.int x2)]) (st' := [.int x1, .ref 1]) rfl ?_
  refine Wp.callI rfl rfl rfl (CallI.mono h (fun v2 m1 h => ?_))
  refine Wp.if_ne rfl rfl ⟨fun hc => ?_, fun hc => ?_⟩
  · replace h := h.1 hc
    refine Wp.pk 1 (pc' := 15) (lv' := [some (.ref 0), some (.int x1), some (.int x2)]) (st' := [.int x2]) rfl ?_
    refine Wp.tsw (lo := 0) (hi := 2) rfl (fun hc => ?_) (fun j hj1 hj2 hc => ?_)
    · replace h := h.2.2.2 hc
      refine ⟨70, rfl, ?_⟩
      refine Wp.ldc rfl rfl ?_
      exact Wp.iret rfl rfl ⟨rfl, h⟩
    · rcases (show j = 0 ∨ j = 1 ∨ j = 2 by omega) with rfl | rfl | rfl
      · replace h := (h.1 (Int32.toInt_inj.mp (hc.trans (by decide))))
        refine ⟨_, 40, rfl, rfl, ?_⟩
        refine Wp.pk 1 (pc' := 41) (lv' := [some (.ref 0), some (.int x1), some (.int x2)]) (st' := [.ref 0]) rfl ?_
        refine Wp.getR rfl rfl sh0 rfl ?_
        refine Wp.getR rfl rfl sh1 rfl ?_
        refine Wp.pk 1 (pc' := 48) (lv' := [some (.ref 0), some (.int x1), some (.int x2)]) (st' := [.int x1, .ref 4]) rfl ?_
        refine Wp.iald rfl sh4 ⟨h.1, ?_⟩
        replace h := h.2
        exact Wp.iret rfl rfl ⟨rfl, h⟩
      · replace h := (h.2.1 (Int32.toInt_inj.mp (hc.trans (by decide))))
        refine ⟨_, 50, rfl, rfl, ?_⟩
        refine Wp.pk 1 (pc' := 51) (lv' := [some (.ref 0), some (.int x1), some (.int x2)]) (st' := [.ref 0]) rfl ?_
        refine Wp.getR rfl rfl sh0 rfl ?_
        refine Wp.getR rfl rfl sh1 rfl ?_
        refine Wp.pk 1 (pc' := 58) (lv' := [some (.ref 0), some (.int x1), some (.int x2)]) (st' := [.int x1, .ref 5]) rfl ?_
        refine Wp.iald rfl sh5 ⟨h.1, ?_⟩
        replace h := h.2
        exact Wp.iret rfl rfl ⟨rfl, h⟩
      · replace h := (h.2.2.1 (Int32.toInt_inj.mp (hc.trans (by decide))))
        refine ⟨_, 60, rfl, rfl, ?_⟩
        refine Wp.pk 1 (pc' := 61) (lv' := [some (.ref 0), some (.int x1), some (.int x2)]) (st' := [.ref 0]) rfl ?_
        refine Wp.getR rfl rfl sh0 rfl ?_
        refine Wp.getR rfl rfl sh1 rfl ?_
        refine Wp.pk 1 (pc' := 68) (lv' := [some (.ref 0), some (.int x1), some (.int x2)]) (st' := [.int x1, .ref 6]) rfl ?_
        refine Wp.iald rfl sh6 ⟨h.1, ?_⟩
        replace h := h.2
        exact Wp.iret rfl rfl ⟨rfl, h⟩
  · replace h := h.2 hc
    refine Wp.ldc rfl rfl ?_
    exact Wp.iret rfl rfl ⟨rfl, h⟩
theorem eX8_passes_0 {X : a_X} {m : Nat → Nat → Int32} {Q : Option Value → (Nat → Nat → Int32) → Prop} {x1 : Int32} (h : CallI X mX5_hasCell [.ref 1, .int x1, .int 0] m (fun v2 m1 => (v2 = 0 → Q (some (.int (-100000002))) m1) ∧ (¬ v2 = 0 → vp_in x1 16 ∧ Q (some (.int (m1 2 (Int32.toNatClampNeg x1)))) m1))) : Call X mX8_passes [.ref 0, .int x1] m Q := by
  unfold Call
  refine Wp.loc (lv' := [some (.ref 0), some (.int x1)]) rfl ?_
  refine Wp.pk 1 (pc' := 1) (lv' := [some (.ref 0), some (.int x1)]) (st' := [.ref 0]) rfl ?_
  refine Wp.getR rfl rfl sh0 rfl ?_
  refine Wp.pk 2 (pc' := 6) (lv' := [some (.ref 0), some (.int x1)]) (st' := [.int 0, .int x1, .ref 1]) rfl ?_
  refine Wp.callI rfl rfl rfl (CallI.mono h (fun v2 m1 h => ?_))
  refine Wp.if_eq rfl rfl ⟨fun hc => ?_, fun hc => ?_⟩
  · replace h := h.1 hc
    refine Wp.ldc rfl rfl ?_
    exact Wp.iret rfl rfl ⟨rfl, h⟩
  · replace h := h.2 hc
    refine Wp.pk 1 (pc' := 13) (lv' := [some (.ref 0), some (.int x1)]) (st' := [.ref 0]) rfl ?_
    refine Wp.getR rfl rfl sh0 rfl ?_
    refine Wp.getR rfl rfl sh1 rfl ?_
    refine Wp.pk 1 (pc' := 20) (lv' := [some (.ref 0), some (.int x1)]) (st' := [.int x1, .ref 2]) rfl ?_
    refine Wp.iald rfl sh2 ⟨h.1, ?_⟩
    replace h := h.2
    refine Wp.pk 1 (pc' := 26) (lv' := [some (.ref 0), some (.int x1)]) (st' := [.int (m1 2 (Int32.toNatClampNeg x1))]) rfl ?_
    exact Wp.iret rfl rfl ⟨rfl, h⟩
theorem eX8_bare_0 {X : a_X} {m : Nat → Nat → Int32} {Q : Option Value → (Nat → Nat → Int32) → Prop} {x1 x2 : Int32} (h : CallI X mX5_hasCell [.ref 1, .int x1, .int x2] m (fun v2 m1 => (¬ v2 = 0 → vp_in x2 8 ∧ CallI X mX8_isIn [.int (m1 3 (Int32.toNatClampNeg x2)), .int x1] m1 (fun v4 m3 => (v4 = 0 → Q (some (.int 0)) m3) ∧ (¬ v4 = 0 → Q (some (.int 1)) m3))) ∧ (v2 = 0 → Q (some (.int (-100000002))) m1))) : Call X mX8_bare [.ref 0, .int x1, .int x2] m Q := by
  unfold Call
  refine Wp.loc (lv' := [some (.ref 0), some (.int x1), some (.int x2)]) rfl ?_
  refine Wp.pk 1 (pc' := 1) (lv' := [some (.ref 0), some (.int x1), some (.int x2)]) (st' := [.ref 0]) rfl ?_
  refine Wp.getR rfl rfl sh0 rfl ?_
  refine Wp.pk 2 (pc' := 6) (lv' := [some (.ref 0), some (.int x1), some (.int x2)]) (st' := [.int x2, .int x1, .ref 1]) rfl ?_
  refine Wp.callI rfl rfl rfl (CallI.mono h (fun v2 m1 h => ?_))
  refine Wp.if_ne rfl rfl ⟨fun hc => ?_, fun hc => ?_⟩
  · replace h := h.1 hc
    refine Wp.pk 1 (pc' := 16) (lv' := [some (.ref 0), some (.int x1), some (.int x2)]) (st' := [.ref 0]) rfl ?_
    refine Wp.getR rfl rfl sh0 rfl ?_
    refine Wp.getR rfl rfl sh1 rfl ?_
    refine Wp.pk 1 (pc' := 23) (lv' := [some (.ref 0), some (.int x1), some (.int x2)]) (st' := [.int x2, .ref 3]) rfl ?_
    refine Wp.iald rfl sh3 ⟨h.1, ?_⟩
    replace h := h.2
    refine Wp.pk 1 (pc' := 25) (lv' := [some (.ref 0), some (.int x1), some (.int x2)]) (st' := [.int x1, .int (m1 3 (Int32.toNatClampNeg x2))]) rfl ?_
    refine Wp.callI rfl rfl rfl (CallI.mono h (fun v4 m3 h => ?_))
    refine Wp.if_eq rfl rfl ⟨fun hc => ?_, fun hc => ?_⟩
    · replace h := h.1 hc
      refine Wp.pk 1 (pc' := 36) (lv' := [some (.ref 0), some (.int x1), some (.int x2)]) (st' := [.int 0]) rfl ?_
      exact Wp.iret rfl rfl ⟨rfl, h⟩
    · replace h := h.2 hc
      refine Wp.pk 2 (pc' := 36) (lv' := [some (.ref 0), some (.int x1), some (.int x2)]) (st' := [.int 1]) rfl ?_
      exact Wp.iret rfl rfl ⟨rfl, h⟩
  · replace h := h.2 hc
    refine Wp.ldc rfl rfl ?_
    exact Wp.iret rfl rfl ⟨rfl, h⟩
theorem eX8_paste_0 {X : a_X} {m : Nat → Nat → Int32} {Q : Option Value → (Nat → Nat → Int32) → Prop} {x1 x2 x3 : Int32} (h : CallI X mX5_hasKind [.ref 1, .int x1] m (fun v2 m1 => (¬ v2 = 0 → CallI X mX5_holds [.ref 1, .int x1, .int x2, .int x3] m1 (fun v4 m3 => (¬ v4 = 0 → CallI X mX5_isBarred [.ref 1, .int x1, .int x2, .int x3] m3 (fun v6 m5 => (v6 = 0 → CallI X mX0_isFull [.ref 15] m5 (fun v8 m7 => (v8 = 0 → CallV X mX7_lookAt [.ref 41, .ref 15] m7 (fun m9 => CallV X mX7_weigh [.ref 41, .ref 15, .int x1, .int x2, .int x3] m9 (fun m10 => vp_in x1 12 ∧ vp_in (m10 4 (Int32.toNatClampNeg x1)) 6 ∧ vp_in (m10 4 (Int32.toNatClampNeg x1)) 6 ∧ ∀ m11, m11 = (a_up m10 20 (Int32.toNatClampNeg (m10 4 (Int32.toNatClampNeg x1))) ((m10 20 (Int32.toNatClampNeg (m10 4 (Int32.toNatClampNeg x1)))) + (m10 41 7))) → CallV X mX0_hang [.ref 15, .int x1, .int x2, .int x3] m11 (fun m12 => Q (some (.int ((m12 15 1) - 1))) m12)))) ∧ (¬ v8 = 0 → Q (some (.int (-100000004))) m7))) ∧ (¬ v6 = 0 → Q (some (.int (-100000003))) m5))) ∧ (v4 = 0 → Q (some (.int (-100000002))) m3))) ∧ (v2 = 0 → Q (some (.int (-100000001))) m1))) : Call X mX8_paste [.ref 0, .int x1, .int x2, .int x3] m Q := by
  unfold Call
  refine Wp.loc (lv' := [some (.ref 0), some (.int x1), some (.int x2), some (.int x3)]) rfl ?_
  refine Wp.pk 1 (pc' := 1) (lv' := [some (.ref 0), some (.int x1), some (.int x2), some (.int x3)]) (st' := [.ref 0]) rfl ?_
  refine Wp.getR rfl rfl sh0 rfl ?_
  refine Wp.pk 1 (pc' := 5) (lv' := [some (.ref 0), some (.int x1), some (.int x2), some (.int x3)]) (st' := [.int x1, .ref 1]) rfl ?_
  refine Wp.callI rfl rfl rfl (CallI.mono h (fun v2 m1 h => ?_))
  refine Wp.if_ne rfl rfl ⟨fun hc => ?_, fun hc => ?_⟩
  · replace h := h.1 hc
    refine Wp.pk 1 (pc' := 15) (lv' := [some (.ref 0), some (.int x1), some (.int x2), some (.int x3)]) (st' := [.ref 0]) rfl ?_
    refine Wp.getR rfl rfl sh0 rfl ?_
    refine Wp.pk 3 (pc' := 21) (lv' := [some (.ref 0), some (.int x1), some (.int x2), some (.int x3)]) (st' := [.int x3, .int x2, .int x1, .ref 1]) rfl ?_
    refine Wp.callI rfl rfl rfl (CallI.mono h (fun v4 m3 h => ?_))
    refine Wp.if_ne rfl rfl ⟨fun hc => ?_, fun hc => ?_⟩
    · replace h := h.1 hc
      refine Wp.pk 1 (pc' := 31) (lv' := [some (.ref 0), some (.int x1), some (.int x2), some (.int x3)]) (st' := [.ref 0]) rfl ?_
      refine Wp.getR rfl rfl sh0 rfl ?_
      refine Wp.pk 3 (pc' := 37) (lv' := [some (.ref 0), some (.int x1), some (.int x2), some (.int x3)]) (st' := [.int x3, .int x2, .int x1, .ref 1]) rfl ?_
      refine Wp.callI rfl rfl rfl (CallI.mono h (fun v6 m5 h => ?_))
      refine Wp.if_eq rfl rfl ⟨fun hc => ?_, fun hc => ?_⟩
      · replace h := h.1 hc
        refine Wp.pk 1 (pc' := 47) (lv' := [some (.ref 0), some (.int x1), some (.int x2), some (.int x3)]) (st' := [.ref 0]) rfl ?_
        refine Wp.getR rfl rfl sh0 rfl ?_
        refine Wp.callI rfl rfl rfl (CallI.mono h (fun v8 m7 h => ?_))
        refine Wp.if_eq rfl rfl ⟨fun hc => ?_, fun hc => ?_⟩
        · replace h := h.1 hc
          refine Wp.pk 1 (pc' := 60) (lv' := [some (.ref 0), some (.int x1), some (.int x2), some (.int x3)]) (st' := [.ref 0]) rfl ?_
          refine Wp.getR rfl rfl sh0 rfl ?_
          refine Wp.pk 1 (pc' := 64) (lv' := [some (.ref 0), some (.int x1), some (.int x2), some (.int x3)]) (st' := [.ref 0, .ref 41]) rfl ?_
          refine Wp.getR rfl rfl sh0 rfl ?_
          refine Wp.callV rfl rfl rfl (CallV.mono h (fun m9 h => ?_))
          refine Wp.pk 1 (pc' := 71) (lv' := [some (.ref 0), some (.int x1), some (.int x2), some (.int x3)]) (st' := [.ref 0]) rfl ?_
          refine Wp.getR rfl rfl sh0 rfl ?_
          refine Wp.pk 1 (pc' := 75) (lv' := [some (.ref 0), some (.int x1), some (.int x2), some (.int x3)]) (st' := [.ref 0, .ref 41]) rfl ?_
          refine Wp.getR rfl rfl sh0 rfl ?_
          refine Wp.pk 3 (pc' := 81) (lv' := [some (.ref 0), some (.int x1), some (.int x2), some (.int x3)]) (st' := [.int x3, .int x2, .int x1, .ref 15, .ref 41]) rfl ?_
          refine Wp.callV rfl rfl rfl (CallV.mono h (fun m10 h => ?_))
          refine Wp.pk 1 (pc' := 85) (lv' := [some (.ref 0), some (.int x1), some (.int x2), some (.int x3)]) (st' := [.ref 0]) rfl ?_
          refine Wp.getR rfl rfl sh0 rfl ?_
          refine Wp.getR rfl rfl sh15 rfl ?_
          refine Wp.pk 1 (pc' := 92) (lv' := [some (.ref 0), some (.int x1), some (.int x2), some (.int x3)]) (st' := [.ref 0, .ref 20]) rfl ?_
          refine Wp.getR rfl rfl sh0 rfl ?_
          refine Wp.getR rfl rfl sh1 rfl ?_
          refine Wp.pk 1 (pc' := 99) (lv' := [some (.ref 0), some (.int x1), some (.int x2), some (.int x3)]) (st' := [.int x1, .ref 4, .ref 20]) rfl ?_
          refine Wp.iald rfl sh4 ⟨h.1, ?_⟩
          replace h := h.2
          refine Wp.pk 1 (pc' := 101) (lv' := [some (.ref 0), some (.int x1), some (.int x2), some (.int x3)]) (st' := [.int (m10 4 (Int32.toNatClampNeg x1)), .ref 20, .int (m10 4 (Int32.toNatClampNeg x1)), .ref 20]) rfl ?_
          refine Wp.iald rfl sh20 ⟨h.1, ?_⟩
          replace h := h.2
          refine Wp.pk 1 (pc' := 103) (lv' := [some (.ref 0), some (.int x1), some (.int x2), some (.int x3)]) (st' := [.ref 0, .int (m10 20 (Int32.toNatClampNeg (m10 4 (Int32.toNatClampNeg x1)))), .int (m10 4 (Int32.toNatClampNeg x1)), .ref 20]) rfl ?_
          refine Wp.getR rfl rfl sh0 rfl ?_
          refine Wp.getI rfl rfl sh41 rfl ?_
          refine Wp.pk 1 (pc' := 110) (lv' := [some (.ref 0), some (.int x1), some (.int x2), some (.int x3)]) (st' := [.int ((m10 20 (Int32.toNatClampNeg (m10 4 (Int32.toNatClampNeg x1)))) + (m10 41 7)), .int (m10 4 (Int32.toNatClampNeg x1)), .ref 20]) rfl ?_
          refine Wp.iastN rfl sh20 h.1 (fun m11 hm => ?_)
          replace h := h.2 _ hm
          refine Wp.pk 1 (pc' := 112) (lv' := [some (.ref 0), some (.int x1), some (.int x2), some (.int x3)]) (st' := [.ref 0]) rfl ?_
          refine Wp.getR rfl rfl sh0 rfl ?_
          refine Wp.pk 3 (pc' := 118) (lv' := [some (.ref 0), some (.int x1), some (.int x2), some (.int x3)]) (st' := [.int x3, .int x2, .int x1, .ref 15]) rfl ?_
          refine Wp.callV rfl rfl rfl (CallV.mono h (fun m12 h => ?_))
          refine Wp.pk 1 (pc' := 122) (lv' := [some (.ref 0), some (.int x1), some (.int x2), some (.int x3)]) (st' := [.ref 0]) rfl ?_
          refine Wp.getR rfl rfl sh0 rfl ?_
          refine Wp.getI rfl rfl sh15 rfl ?_
          refine Wp.pk 2 (pc' := 130) (lv' := [some (.ref 0), some (.int x1), some (.int x2), some (.int x3)]) (st' := [.int ((m12 15 1) - 1)]) rfl ?_
          exact Wp.iret rfl rfl ⟨rfl, h⟩
        · replace h := h.2 hc
          refine Wp.ldc rfl rfl ?_
          exact Wp.iret rfl rfl ⟨rfl, h⟩
      · replace h := h.2 hc
        refine Wp.ldc rfl rfl ?_
        exact Wp.iret rfl rfl ⟨rfl, h⟩
    · replace h := h.2 hc
      refine Wp.ldc rfl rfl ?_
      exact Wp.iret rfl rfl ⟨rfl, h⟩
  · replace h := h.2 hc
    refine Wp.ldc rfl rfl ?_
    exact Wp.iret rfl rfl ⟨rfl, h⟩
theorem eX8_days_0 {X : a_X} {m : Nat → Nat → Int32} {Q : Option Value → (Nat → Nat → Int32) → Prop} {x1 : Int32} (h : (x1 < 0 → Q (some (.int (-100000002))) m) ∧ (¬ x1 < 0 → (x1 ≤ 999 → ∀ m1, m1 = (a_up m 15 2 ((m 15 2) + x1)) → Q (some (.int (m1 15 2))) m1) ∧ (¬ x1 ≤ 999 → Q (some (.int (-100000002))) m))) : Call X mX8_days [.ref 0, .int x1] m Q := by
  unfold Call
  refine Wp.loc (lv' := [some (.ref 0), some (.int x1)]) rfl ?_
  refine Wp.pk 1 (pc' := 1) (lv' := [some (.ref 0), some (.int x1)]) (st' := [.int x1]) rfl ?_
  refine Wp.if_lt rfl rfl ⟨fun hc => ?_, fun hc => ?_⟩
  · replace h := h.1 hc
    refine Wp.ldc rfl rfl ?_
    exact Wp.iret rfl rfl ⟨rfl, h⟩
  · replace h := h.2 hc
    refine Wp.pk 2 (pc' := 8) (lv' := [some (.ref 0), some (.int x1)]) (st' := [.int 999, .int x1]) rfl ?_
    refine Wp.icmp_le rfl rfl ⟨fun hc => ?_, fun hc => ?_⟩
    · replace h := h.1 hc
      refine Wp.pk 1 (pc' := 15) (lv' := [some (.ref 0), some (.int x1)]) (st' := [.ref 0]) rfl ?_
      refine Wp.getR rfl rfl sh0 rfl ?_
      refine Wp.pk 1 (pc' := 19) (lv' := [some (.ref 0), some (.int x1)]) (st' := [.ref 15, .ref 15]) rfl ?_
      refine Wp.getI rfl rfl sh15 rfl ?_
      refine Wp.pk 2 (pc' := 24) (lv' := [some (.ref 0), some (.int x1)]) (st' := [.int ((m 15 2) + x1), .ref 15]) rfl ?_
      refine Wp.putN rfl rfl sh15 rfl rfl (fun m1 hm => ?_)
      replace h := h _ hm
      refine Wp.pk 1 (pc' := 28) (lv' := [some (.ref 0), some (.int x1)]) (st' := [.ref 0]) rfl ?_
      refine Wp.getR rfl rfl sh0 rfl ?_
      refine Wp.getI rfl rfl sh15 rfl ?_
      exact Wp.iret rfl rfl ⟨rfl, h⟩
    · replace h := h.2 hc
      refine Wp.ldc rfl rfl ?_
      exact Wp.iret rfl rfl ⟨rfl, h⟩
theorem eX8_above_0 {X : a_X} {m : Nat → Nat → Int32} {Q : Option Value → (Nat → Nat → Int32) → Prop} {x1 x2 : Int32} (h : CallI X mX5_hasCell [.ref 1, .int x1, .int x2] m (fun v2 m1 => (v2 = 0 → Q (some (.int (-100000002))) m1) ∧ (¬ v2 = 0 → CallI X mX8_cellAt [.int x1, .int x2] m1 (fun v4 m3 => CallI X mX0_topAt [.ref 15, .int v4] m3 (fun v6 m5 => Q (some (.int v6)) m5))))) : Call X mX8_above [.ref 0, .int x1, .int x2] m Q := by
  unfold Call
  refine Wp.loc (lv' := [some (.ref 0), some (.int x1), some (.int x2)]) rfl ?_
  refine Wp.pk 1 (pc' := 1) (lv' := [some (.ref 0), some (.int x1), some (.int x2)]) (st' := [.ref 0]) rfl ?_
  refine Wp.getR rfl rfl sh0 rfl ?_
  refine Wp.pk 2 (pc' := 6) (lv' := [some (.ref 0), some (.int x1), some (.int x2)]) (st' := [.int x2, .int x1, .ref 1]) rfl ?_
  refine Wp.callI rfl rfl rfl (CallI.mono h (fun v2 m1 h => ?_))
  refine Wp.if_eq rfl rfl ⟨fun hc => ?_, fun hc => ?_⟩
  · replace h := h.1 hc
    refine Wp.ldc rfl rfl ?_
    exact Wp.iret rfl rfl ⟨rfl, h⟩
  · replace h := h.2 hc
    refine Wp.pk 1 (pc' := 13) (lv' := [some (.ref 0), some (.int x1), some (.int x2)]) (st' := [.ref 0]) rfl ?_
    refine Wp.getR rfl rfl sh0 rfl ?_
    refine Wp.pk 2 (pc' := 18) (lv' := [some (.ref 0), some (.int x1), some (.int x2)]) (st' := [.int x2, .int x1, .ref 15]) rfl ?_
    refine Wp.callI rfl rfl rfl (CallI.mono h (fun v4 m3 h => ?_))
    refine Wp.callI rfl rfl rfl (CallI.mono h (fun v6 m5 h => ?_))
    refine Wp.pk 1 (pc' := 29) (lv' := [some (.ref 0), some (.int x1), some (.int x2)]) (st' := [.int v6]) rfl ?_
    exact Wp.iret rfl rfl ⟨rfl, h⟩
theorem eX8_bill_0 {X : a_X} {m : Nat → Nat → Int32} {Q : Option Value → (Nat → Nat → Int32) → Prop} {x1 x2 : Int32} (h : CallI X mX0_has [.ref 15, .int x1] m (fun v2 m1 => (¬ v2 = 0 → CallV X mX7_lookAt [.ref 41, .ref 15] m1 (fun m3 => (x2 = 0 → vp_in x1 20 ∧ Q (some (.int (m3 16 (Int32.toNatClampNeg x1)))) m3) ∧ (x2 = 1 → vp_in x1 20 ∧ Q (some (.int (m3 17 (Int32.toNatClampNeg x1)))) m3) ∧ (x2 = 2 → vp_in x1 20 ∧ Q (some (.int (m3 18 (Int32.toNatClampNeg x1)))) m3) ∧ (x2 = 3 → vp_in x1 20 ∧ Q (some (.int (m3 19 (Int32.toNatClampNeg x1)))) m3) ∧ (x2 = 4 → vp_in x1 20 ∧ Q (some (.int (m3 43 (Int32.toNatClampNeg x1)))) m3) ∧ (x2 = 5 → CallI X mX0_tornCells [.ref 15, .int x1] m3 (fun v5 m4 => Q (some (.int v5)) m4)) ∧ (x2 = 6 → vp_in x1 20 ∧ CallI X mX0_allCells [.ref 15, .int x1] m3 (fun v7 m6 => CallI X mX5_canRead [.ref 1, .int (m3 43 (Int32.toNatClampNeg x1)), .int v7] m6 (fun v9 m8 => (v9 = 0 → Q (some (.int 0)) m8) ∧ (¬ v9 = 0 → Q (some (.int 1)) m8)))) ∧ (x2 = 7 → CallI X mX7_worthOf [.ref 41, .ref 15, .int x1] m3 (fun v11 m10 => Q (some (.int v11)) m10)) ∧ (x2 = 8 → CallI X mX0_isOn [.ref 15, .int x1] m3 (fun v13 m12 => (v13 = 0 → Q (some (.int 0)) m12) ∧ (¬ v13 = 0 → Q (some (.int 1)) m12))) ∧ (Int32.toInt x2 < 0 ∨ 8 < Int32.toInt x2 → Q (some (.int (-100000002))) m3))) ∧ (v2 = 0 → Q (some (.int (-100000001))) m1))) : Call X mX8_bill [.ref 0, .int x1, .int x2] m Q := by
  unfold Call
  refine Wp.loc (lv' := [some (.ref 0), some (.int x1), some (.int x2)]) rfl ?_
  refine Wp.pk 1 (pc' := 1) (lv' := [some (.ref 0), some (.int x1), some (.int x2)]) (st' := [.ref 0]) rfl ?_
  refine Wp.getR rfl rfl sh0 rfl ?_
  refine Wp.pk 1 (pc' := 5) (lv' := [some (.ref 0), some (.int x1), some (.int x2)]) (st' := [.int x1, .ref 15]) rfl ?_
  refine Wp.callI rfl rfl rfl (CallI.mono h (fun v2 m1 h => ?_))
  refine Wp.if_ne rfl rfl ⟨fun hc => ?_, fun hc => ?_⟩
  · replace h := h.1 hc
    refine Wp.pk 1 (pc' := 15) (lv' := [some (.ref 0), some (.int x1), some (.int x2)]) (st' := [.ref 0]) rfl ?_
    refine Wp.getR rfl rfl sh0 rfl ?_
    refine Wp.pk 1 (pc' := 19) (lv' := [some (.ref 0), some (.int x1), some (.int x2)]) (st' := [.ref 0, .ref 41]) rfl ?_
    refine Wp.getR rfl rfl sh0 rfl ?_
    refine Wp.callV rfl rfl rfl (CallV.mono h (fun m3 h => ?_))
    refine Wp.pk 1 (pc' := 26) (lv' := [some (.ref 0), some (.int x1), some (.int x2)]) (st' := [.int x2]) rfl ?_
    refine Wp.tsw (lo := 0) (hi := 8) rfl (fun hc => ?_) (fun j hj1 hj2 hc => ?_)
    · replace h := h.2.2.2.2.2.2.2.2.2 hc
      refine ⟨198, rfl, ?_⟩
      refine Wp.ldc rfl rfl ?_
      exact Wp.iret rfl rfl ⟨rfl, h⟩
    · rcases (show j = 0 ∨ j = 1 ∨ j = 2 ∨ j = 3 ∨ j = 4 ∨ j = 5 ∨ j = 6 ∨ j = 7 ∨ j = 8 by omega) with rfl | rfl | rfl | rfl | rfl | rfl | rfl | rfl | rfl
      · replace h := (h.1 (Int32.toInt_inj.mp (hc.trans (by decide))))
        refine ⟨_, 76, rfl, rfl, ?_⟩
        refine Wp.pk 1 (pc' := 77) (lv' := [some (.ref 0), some (.int x1), some (.int x2)]) (st' := [.ref 0]) rfl ?_
        refine Wp.getR rfl rfl sh0 rfl ?_
        refine Wp.getR rfl rfl sh15 rfl ?_
        refine Wp.pk 1 (pc' := 84) (lv' := [some (.ref 0), some (.int x1), some (.int x2)]) (st' := [.int x1, .ref 16]) rfl ?_
        refine Wp.iald rfl sh16 ⟨h.1, ?_⟩
        replace h := h.2
        exact Wp.iret rfl rfl ⟨rfl, h⟩
      · replace h := (h.2.1 (Int32.toInt_inj.mp (hc.trans (by decide))))
        refine ⟨_, 86, rfl, rfl, ?_⟩
        refine Wp.pk 1 (pc' := 87) (lv' := [some (.ref 0), some (.int x1), some (.int x2)]) (st' := [.ref 0]) rfl ?_
        refine Wp.getR rfl rfl sh0 rfl ?_
        refine Wp.getR rfl rfl sh15 rfl ?_
        refine Wp.pk 1 (pc' := 94) (lv' := [some (.ref 0), some (.int x1), some (.int x2)]) (st' := [.int x1, .ref 17]) rfl ?_
        refine Wp.iald rfl sh17 ⟨h.1, ?_⟩
        replace h := h.2
        exact Wp.iret rfl rfl ⟨rfl, h⟩
      · replace h := (h.2.2.1 (Int32.toInt_inj.mp (hc.trans (by decide))))
        refine ⟨_, 96, rfl, rfl, ?_⟩
        refine Wp.pk 1 (pc' := 97) (lv' := [some (.ref 0), some (.int x1), some (.int x2)]) (st' := [.ref 0]) rfl ?_
        refine Wp.getR rfl rfl sh0 rfl ?_
        refine Wp.getR rfl rfl sh15 rfl ?_
        refine Wp.pk 1 (pc' := 104) (lv' := [some (.ref 0), some (.int x1), some (.int x2)]) (st' := [.int x1, .ref 18]) rfl ?_
        refine Wp.iald rfl sh18 ⟨h.1, ?_⟩
        replace h := h.2
        exact Wp.iret rfl rfl ⟨rfl, h⟩
      · replace h := (h.2.2.2.1 (Int32.toInt_inj.mp (hc.trans (by decide))))
        refine ⟨_, 106, rfl, rfl, ?_⟩
        refine Wp.pk 1 (pc' := 107) (lv' := [some (.ref 0), some (.int x1), some (.int x2)]) (st' := [.ref 0]) rfl ?_
        refine Wp.getR rfl rfl sh0 rfl ?_
        refine Wp.getR rfl rfl sh15 rfl ?_
        refine Wp.pk 1 (pc' := 114) (lv' := [some (.ref 0), some (.int x1), some (.int x2)]) (st' := [.int x1, .ref 19]) rfl ?_
        refine Wp.iald rfl sh19 ⟨h.1, ?_⟩
        replace h := h.2
        exact Wp.iret rfl rfl ⟨rfl, h⟩
      · replace h := (h.2.2.2.2.1 (Int32.toInt_inj.mp (hc.trans (by decide))))
        refine ⟨_, 116, rfl, rfl, ?_⟩
        refine Wp.pk 1 (pc' := 117) (lv' := [some (.ref 0), some (.int x1), some (.int x2)]) (st' := [.ref 0]) rfl ?_
        refine Wp.getR rfl rfl sh0 rfl ?_
        refine Wp.getR rfl rfl sh41 rfl ?_
        refine Wp.pk 1 (pc' := 124) (lv' := [some (.ref 0), some (.int x1), some (.int x2)]) (st' := [.int x1, .ref 43]) rfl ?_
        refine Wp.iald rfl sh43 ⟨h.1, ?_⟩
        replace h := h.2
        exact Wp.iret rfl rfl ⟨rfl, h⟩
      · replace h := (h.2.2.2.2.2.1 (Int32.toInt_inj.mp (hc.trans (by decide))))
        refine ⟨_, 126, rfl, rfl, ?_⟩
        refine Wp.pk 1 (pc' := 127) (lv' := [some (.ref 0), some (.int x1), some (.int x2)]) (st' := [.ref 0]) rfl ?_
        refine Wp.getR rfl rfl sh0 rfl ?_
        refine Wp.pk 1 (pc' := 131) (lv' := [some (.ref 0), some (.int x1), some (.int x2)]) (st' := [.int x1, .ref 15]) rfl ?_
        refine Wp.callI rfl rfl rfl (CallI.mono h (fun v5 m4 h => ?_))
        exact Wp.iret rfl rfl ⟨rfl, h⟩
      · replace h := (h.2.2.2.2.2.2.1 (Int32.toInt_inj.mp (hc.trans (by decide))))
        refine ⟨_, 135, rfl, rfl, ?_⟩
        refine Wp.pk 1 (pc' := 136) (lv' := [some (.ref 0), some (.int x1), some (.int x2)]) (st' := [.ref 0]) rfl ?_
        refine Wp.getR rfl rfl sh0 rfl ?_
        refine Wp.pk 1 (pc' := 140) (lv' := [some (.ref 0), some (.int x1), some (.int x2)]) (st' := [.ref 0, .ref 1]) rfl ?_
        refine Wp.getR rfl rfl sh0 rfl ?_
        refine Wp.getR rfl rfl sh41 rfl ?_
        refine Wp.pk 1 (pc' := 147) (lv' := [some (.ref 0), some (.int x1), some (.int x2)]) (st' := [.int x1, .ref 43, .ref 1]) rfl ?_
        refine Wp.iald rfl sh43 ⟨h.1, ?_⟩
        replace h := h.2
        refine Wp.pk 1 (pc' := 149) (lv' := [some (.ref 0), some (.int x1), some (.int x2)]) (st' := [.ref 0, .int (m3 43 (Int32.toNatClampNeg x1)), .ref 1]) rfl ?_
        refine Wp.getR rfl rfl sh0 rfl ?_
        refine Wp.pk 1 (pc' := 153) (lv' := [some (.ref 0), some (.int x1), some (.int x2)]) (st' := [.int x1, .ref 15, .int (m3 43 (Int32.toNatClampNeg x1)), .ref 1]) rfl ?_
        refine Wp.callI rfl rfl rfl (CallI.mono h (fun v7 m6 h => ?_))
        refine Wp.callI rfl rfl rfl (CallI.mono h (fun v9 m8 h => ?_))
        refine Wp.if_eq rfl rfl ⟨fun hc => ?_, fun hc => ?_⟩
        · replace h := h.1 hc
          refine Wp.pk 1 (pc' := 167) (lv' := [some (.ref 0), some (.int x1), some (.int x2)]) (st' := [.int 0]) rfl ?_
          exact Wp.iret rfl rfl ⟨rfl, h⟩
        · replace h := h.2 hc
          refine Wp.pk 2 (pc' := 167) (lv' := [some (.ref 0), some (.int x1), some (.int x2)]) (st' := [.int 1]) rfl ?_
          exact Wp.iret rfl rfl ⟨rfl, h⟩
      · replace h := (h.2.2.2.2.2.2.2.1 (Int32.toInt_inj.mp (hc.trans (by decide))))
        refine ⟨_, 168, rfl, rfl, ?_⟩
        refine Wp.pk 1 (pc' := 169) (lv' := [some (.ref 0), some (.int x1), some (.int x2)]) (st' := [.ref 0]) rfl ?_
        refine Wp.getR rfl rfl sh0 rfl ?_
        refine Wp.pk 1 (pc' := 173) (lv' := [some (.ref 0), some (.int x1), some (.int x2)]) (st' := [.ref 0, .ref 41]) rfl ?_
        refine Wp.getR rfl rfl sh0 rfl ?_
        refine Wp.pk 1 (pc' := 177) (lv' := [some (.ref 0), some (.int x1), some (.int x2)]) (st' := [.int x1, .ref 15, .ref 41]) rfl ?_
        refine Wp.callI rfl rfl rfl (CallI.mono h (fun v11 m10 h => ?_))
        exact Wp.iret rfl rfl ⟨rfl, h⟩
      · replace h := (h.2.2.2.2.2.2.2.2.1 (Int32.toInt_inj.mp (hc.trans (by decide))))
        refine ⟨_, 181, rfl, rfl, ?_⟩
        refine Wp.pk 1 (pc' := 182) (lv' := [some (.ref 0), some (.int x1), some (.int x2)]) (st' := [.ref 0]) rfl ?_
        refine Wp.getR rfl rfl sh0 rfl ?_
        refine Wp.pk 1 (pc' := 186) (lv' := [some (.ref 0), some (.int x1), some (.int x2)]) (st' := [.int x1, .ref 15]) rfl ?_
        refine Wp.callI rfl rfl rfl (CallI.mono h (fun v13 m12 h => ?_))
        refine Wp.if_eq rfl rfl ⟨fun hc => ?_, fun hc => ?_⟩
        · replace h := h.1 hc
          refine Wp.pk 1 (pc' := 197) (lv' := [some (.ref 0), some (.int x1), some (.int x2)]) (st' := [.int 0]) rfl ?_
          exact Wp.iret rfl rfl ⟨rfl, h⟩
        · replace h := h.2 hc
          refine Wp.pk 2 (pc' := 197) (lv' := [some (.ref 0), some (.int x1), some (.int x2)]) (st' := [.int 1]) rfl ?_
          exact Wp.iret rfl rfl ⟨rfl, h⟩
  · replace h := h.2 hc
    refine Wp.ldc rfl rfl ?_
    exact Wp.iret rfl rfl ⟨rfl, h⟩
theorem eX8_over_0 {X : a_X} {m : Nat → Nat → Int32} {Q : Option Value → (Nat → Nat → Int32) → Prop} {x1 : Int32} (h : CallI X mX0_has [.ref 15, .int x1] m (fun v2 m1 => (v2 = 0 → Q (some (.int (-100000001))) m1) ∧ (¬ v2 = 0 → CallI X mX0_coversOf [.ref 15, .int x1] m1 (fun v4 m3 => Q (some (.int v4)) m3)))) : Call X mX8_over [.ref 0, .int x1] m Q := by
  unfold Call
  refine Wp.loc (lv' := [some (.ref 0), some (.int x1)]) rfl ?_
  refine Wp.pk 1 (pc' := 1) (lv' := [some (.ref 0), some (.int x1)]) (st' := [.ref 0]) rfl ?_
  refine Wp.getR rfl rfl sh0 rfl ?_
  refine Wp.pk 1 (pc' := 5) (lv' := [some (.ref 0), some (.int x1)]) (st' := [.int x1, .ref 15]) rfl ?_
  refine Wp.callI rfl rfl rfl (CallI.mono h (fun v2 m1 h => ?_))
  refine Wp.if_eq rfl rfl ⟨fun hc => ?_, fun hc => ?_⟩
  · replace h := h.1 hc
    refine Wp.ldc rfl rfl ?_
    exact Wp.iret rfl rfl ⟨rfl, h⟩
  · replace h := h.2 hc
    refine Wp.pk 1 (pc' := 12) (lv' := [some (.ref 0), some (.int x1)]) (st' := [.ref 0]) rfl ?_
    refine Wp.getR rfl rfl sh0 rfl ?_
    refine Wp.pk 1 (pc' := 16) (lv' := [some (.ref 0), some (.int x1)]) (st' := [.int x1, .ref 15]) rfl ?_
    refine Wp.callI rfl rfl rfl (CallI.mono h (fun v4 m3 h => ?_))
    refine Wp.pk 1 (pc' := 24) (lv' := [some (.ref 0), some (.int x1)]) (st' := [.int v4]) rfl ?_
    exact Wp.iret rfl rfl ⟨rfl, h⟩
theorem eX8_free_0 {X : a_X} {m : Nat → Nat → Int32} {Q : Option Value → (Nat → Nat → Int32) → Prop} {x1 : Int32} (h : CallI X mX0_has [.ref 15, .int x1] m (fun v2 m1 => (¬ v2 = 0 → CallI X mX0_isOn [.ref 15, .int x1] m1 (fun v4 m3 => (v4 = 0 → Q (some (.int (-100000003))) m3) ∧ (¬ v4 = 0 → CallI X mX0_toFree [.ref 15, .int x1] m3 (fun v6 m5 => Q (some (.int v6)) m5)))) ∧ (v2 = 0 → Q (some (.int (-100000001))) m1))) : Call X mX8_free [.ref 0, .int x1] m Q := by
  unfold Call
  refine Wp.loc (lv' := [some (.ref 0), some (.int x1)]) rfl ?_
  refine Wp.pk 1 (pc' := 1) (lv' := [some (.ref 0), some (.int x1)]) (st' := [.ref 0]) rfl ?_
  refine Wp.getR rfl rfl sh0 rfl ?_
  refine Wp.pk 1 (pc' := 5) (lv' := [some (.ref 0), some (.int x1)]) (st' := [.int x1, .ref 15]) rfl ?_
  refine Wp.callI rfl rfl rfl (CallI.mono h (fun v2 m1 h => ?_))
  refine Wp.if_ne rfl rfl ⟨fun hc => ?_, fun hc => ?_⟩
  · replace h := h.1 hc
    refine Wp.pk 1 (pc' := 15) (lv' := [some (.ref 0), some (.int x1)]) (st' := [.ref 0]) rfl ?_
    refine Wp.getR rfl rfl sh0 rfl ?_
    refine Wp.pk 1 (pc' := 19) (lv' := [some (.ref 0), some (.int x1)]) (st' := [.int x1, .ref 15]) rfl ?_
    refine Wp.callI rfl rfl rfl (CallI.mono h (fun v4 m3 h => ?_))
    refine Wp.if_eq rfl rfl ⟨fun hc => ?_, fun hc => ?_⟩
    · replace h := h.1 hc
      refine Wp.ldc rfl rfl ?_
      exact Wp.iret rfl rfl ⟨rfl, h⟩
    · replace h := h.2 hc
      refine Wp.pk 1 (pc' := 26) (lv' := [some (.ref 0), some (.int x1)]) (st' := [.ref 0]) rfl ?_
      refine Wp.getR rfl rfl sh0 rfl ?_
      refine Wp.pk 1 (pc' := 30) (lv' := [some (.ref 0), some (.int x1)]) (st' := [.int x1, .ref 15]) rfl ?_
      refine Wp.callI rfl rfl rfl (CallI.mono h (fun v6 m5 h => ?_))
      refine Wp.pk 1 (pc' := 38) (lv' := [some (.ref 0), some (.int x1)]) (st' := [.int v6]) rfl ?_
      exact Wp.iret rfl rfl ⟨rfl, h⟩
  · replace h := h.2 hc
    refine Wp.ldc rfl rfl ?_
    exact Wp.iret rfl rfl ⟨rfl, h⟩
theorem eX8_reveal_0 {X : a_X} {m : Nat → Nat → Int32} {Q : Option Value → (Nat → Nat → Int32) → Prop} {x1 : Int32} (h : CallI X mX0_has [.ref 15, .int x1] m (fun v2 m1 => (¬ v2 = 0 → CallI X mX0_isOn [.ref 15, .int x1] m1 (fun v4 m3 => (v4 = 0 → Q (some (.int (-100000003))) m3) ∧ (¬ v4 = 0 → CallI X mX0_toFree [.ref 15, .int x1] m3 (fun v6 m5 => CallI X mJ6_bitCount_0f7a4 [.int v6] m5 (fun v8 m7 => (v8 ≤ 12 → CallI X mX2_toRead [.ref 47, .ref 15, .int x1] m7 (fun v10 m9 => Q (some (.int v10)) m9)) ∧ (¬ v8 ≤ 12 → Q (some (.int (-100000003))) m7)))))) ∧ (v2 = 0 → Q (some (.int (-100000001))) m1))) : Call X mX8_reveal [.ref 0, .int x1] m Q := by
  unfold Call
  refine Wp.loc (lv' := [some (.ref 0), some (.int x1)]) rfl ?_
  refine Wp.pk 1 (pc' := 1) (lv' := [some (.ref 0), some (.int x1)]) (st' := [.ref 0]) rfl ?_
  refine Wp.getR rfl rfl sh0 rfl ?_
  refine Wp.pk 1 (pc' := 5) (lv' := [some (.ref 0), some (.int x1)]) (st' := [.int x1, .ref 15]) rfl ?_
  refine Wp.callI rfl rfl rfl (CallI.mono h (fun v2 m1 h => ?_))
  refine Wp.if_ne rfl rfl ⟨fun hc => ?_, fun hc => ?_⟩
  · replace h := h.1 hc
    refine Wp.pk 1 (pc' := 15) (lv' := [some (.ref 0), some (.int x1)]) (st' := [.ref 0]) rfl ?_
    refine Wp.getR rfl rfl sh0 rfl ?_
    refine Wp.pk 1 (pc' := 19) (lv' := [some (.ref 0), some (.int x1)]) (st' := [.int x1, .ref 15]) rfl ?_
    refine Wp.callI rfl rfl rfl (CallI.mono h (fun v4 m3 h => ?_))
    refine Wp.if_eq rfl rfl ⟨fun hc => ?_, fun hc => ?_⟩
    · replace h := h.1 hc
      refine Wp.ldc rfl rfl ?_
      exact Wp.iret rfl rfl ⟨rfl, h⟩
    · replace h := h.2 hc
      refine Wp.pk 1 (pc' := 26) (lv' := [some (.ref 0), some (.int x1)]) (st' := [.ref 0]) rfl ?_
      refine Wp.getR rfl rfl sh0 rfl ?_
      refine Wp.pk 1 (pc' := 30) (lv' := [some (.ref 0), some (.int x1)]) (st' := [.int x1, .ref 15]) rfl ?_
      refine Wp.callI rfl rfl rfl (CallI.mono h (fun v6 m5 h => ?_))
      refine Wp.callI rfl rfl rfl (CallI.mono h (fun v8 m7 h => ?_))
      refine Wp.pk 1 (pc' := 38) (lv' := [some (.ref 0), some (.int x1)]) (st' := [.int 12, .int v8]) rfl ?_
      refine Wp.icmp_le rfl rfl ⟨fun hc => ?_, fun hc => ?_⟩
      · replace h := h.1 hc
        refine Wp.pk 1 (pc' := 45) (lv' := [some (.ref 0), some (.int x1)]) (st' := [.ref 0]) rfl ?_
        refine Wp.getR rfl rfl sh0 rfl ?_
        refine Wp.pk 1 (pc' := 49) (lv' := [some (.ref 0), some (.int x1)]) (st' := [.ref 0, .ref 47]) rfl ?_
        refine Wp.getR rfl rfl sh0 rfl ?_
        refine Wp.pk 1 (pc' := 53) (lv' := [some (.ref 0), some (.int x1)]) (st' := [.int x1, .ref 15, .ref 47]) rfl ?_
        refine Wp.callI rfl rfl rfl (CallI.mono h (fun v10 m9 h => ?_))
        exact Wp.iret rfl rfl ⟨rfl, h⟩
      · replace h := h.2 hc
        refine Wp.ldc rfl rfl ?_
        exact Wp.iret rfl rfl ⟨rfl, h⟩
  · replace h := h.2 hc
    refine Wp.ldc rfl rfl ?_
    exact Wp.iret rfl rfl ⟨rfl, h⟩
theorem eX8_peel_0 {X : a_X} {m : Nat → Nat → Int32} {Q : Option Value → (Nat → Nat → Int32) → Prop} {x1 : Int32} (h : CallI X mX0_has [.ref 15, .int x1] m (fun v2 m1 => (¬ v2 = 0 → CallI X mX0_isOn [.ref 15, .int x1] m1 (fun v4 m3 => (v4 = 0 → Q (some (.int (-100000003))) m3) ∧ (¬ v4 = 0 → CallI X mX0_coversOf [.ref 15, .int x1] m3 (fun v6 m5 => (v6 = 0 → CallI X mX0_takeOff [.ref 15, .int x1] m5 (fun v8 m7 => Q (some (.int v8)) m7)) ∧ (¬ v6 = 0 → Q (some (.int (-100000003))) m5))))) ∧ (v2 = 0 → Q (some (.int (-100000001))) m1))) : Call X mX8_peel [.ref 0, .int x1] m Q := by
  unfold Call
  refine Wp.loc (lv' := [some (.ref 0), some (.int x1)]) rfl ?_
  refine Wp.pk 1 (pc' := 1) (lv' := [some (.ref 0), some (.int x1)]) (st' := [.ref 0]) rfl ?_
  refine Wp.getR rfl rfl sh0 rfl ?_
  refine Wp.pk 1 (pc' := 5) (lv' := [some (.ref 0), some (.int x1)]) (st' := [.int x1, .ref 15]) rfl ?_
  refine Wp.callI rfl rfl rfl (CallI.mono h (fun v2 m1 h => ?_))
  refine Wp.if_ne rfl rfl ⟨fun hc => ?_, fun hc => ?_⟩
  · replace h := h.1 hc
    refine Wp.pk 1 (pc' := 15) (lv' := [some (.ref 0), some (.int x1)]) (st' := [.ref 0]) rfl ?_
    refine Wp.getR rfl rfl sh0 rfl ?_
    refine Wp.pk 1 (pc' := 19) (lv' := [some (.ref 0), some (.int x1)]) (st' := [.int x1, .ref 15]) rfl ?_
    refine Wp.callI rfl rfl rfl (CallI.mono h (fun v4 m3 h => ?_))
    refine Wp.if_eq rfl rfl ⟨fun hc => ?_, fun hc => ?_⟩
    · replace h := h.1 hc
      refine Wp.ldc rfl rfl ?_
      exact Wp.iret rfl rfl ⟨rfl, h⟩
    · replace h := h.2 hc
      refine Wp.pk 1 (pc' := 26) (lv' := [some (.ref 0), some (.int x1)]) (st' := [.ref 0]) rfl ?_
      refine Wp.getR rfl rfl sh0 rfl ?_
      refine Wp.pk 1 (pc' := 30) (lv' := [some (.ref 0), some (.int x1)]) (st' := [.int x1, .ref 15]) rfl ?_
      refine Wp.callI rfl rfl rfl (CallI.mono h (fun v6 m5 h => ?_))
      refine Wp.if_eq rfl rfl ⟨fun hc => ?_, fun hc => ?_⟩
      · replace h := h.1 hc
        refine Wp.pk 1 (pc' := 40) (lv' := [some (.ref 0), some (.int x1)]) (st' := [.ref 0]) rfl ?_
        refine Wp.getR rfl rfl sh0 rfl ?_
        refine Wp.pk 1 (pc' := 44) (lv' := [some (.ref 0), some (.int x1)]) (st' := [.int x1, .ref 15]) rfl ?_
        refine Wp.callI rfl rfl rfl (CallI.mono h (fun v8 m7 h => ?_))
        exact Wp.iret rfl rfl ⟨rfl, h⟩
      · replace h := h.2 hc
        refine Wp.ldc rfl rfl ?_
        exact Wp.iret rfl rfl ⟨rfl, h⟩
  · replace h := h.2 hc
    refine Wp.ldc rfl rfl ?_
    exact Wp.iret rfl rfl ⟨rfl, h⟩
theorem eX8_tear_0 {X : a_X} {m : Nat → Nat → Int32} {Q : Option Value → (Nat → Nat → Int32) → Prop} {x1 x2 : Int32} (h : CallI X mX5_hasCell [.ref 1, .int x1, .int x2] m (fun v2 m1 => (v2 = 0 → Q (some (.int (-100000002))) m1) ∧ (¬ v2 = 0 → CallI X mX8_cellAt [.int x1, .int x2] m1 (fun v4 m3 => CallI X mX0_tearTop [.ref 15, .int v4] m3 (fun v6 m5 => Q (some (.int v6)) m5))))) : Call X mX8_tear [.ref 0, .int x1, .int x2] m Q := by
  unfold Call
  refine Wp.loc (lv' := [some (.ref 0), some (.int x1), some (.int x2)]) rfl ?_
  refine Wp.pk 1 (pc' := 1) (lv' := [some (.ref 0), some (.int x1), some (.int x2)]) (st' := [.ref 0]) rfl ?_
  refine Wp.getR rfl rfl sh0 rfl ?_
  refine Wp.pk 2 (pc' := 6) (lv' := [some (.ref 0), some (.int x1), some (.int x2)]) (st' := [.int x2, .int x1, .ref 1]) rfl ?_
  refine Wp.callI rfl rfl rfl (CallI.mono h (fun v2 m1 h => ?_))
  refine Wp.if_eq rfl rfl ⟨fun hc => ?_, fun hc => ?_⟩
  · replace h := h.1 hc
    refine Wp.ldc rfl rfl ?_
    exact Wp.iret rfl rfl ⟨rfl, h⟩
  · replace h := h.2 hc
    refine Wp.pk 1 (pc' := 13) (lv' := [some (.ref 0), some (.int x1), some (.int x2)]) (st' := [.ref 0]) rfl ?_
    refine Wp.getR rfl rfl sh0 rfl ?_
    refine Wp.pk 2 (pc' := 18) (lv' := [some (.ref 0), some (.int x1), some (.int x2)]) (st' := [.int x2, .int x1, .ref 15]) rfl ?_
    refine Wp.callI rfl rfl rfl (CallI.mono h (fun v4 m3 h => ?_))
    refine Wp.callI rfl rfl rfl (CallI.mono h (fun v6 m5 h => ?_))
    refine Wp.pk 1 (pc' := 29) (lv' := [some (.ref 0), some (.int x1), some (.int x2)]) (st' := [.int v6]) rfl ?_
    exact Wp.iret rfl rfl ⟨rfl, h⟩
theorem eX8_rain_0 {X : a_X} {m : Nat → Nat → Int32} {Q : Option Value → (Nat → Nat → Int32) → Prop} {x1 : Int32} (h : (x1 < 0 → Q (some (.int (-100000002))) m) ∧ (¬ x1 < 0 → (x1 ≤ 100 → CallI X mX0_loosen [.ref 15, .int x1] m (fun v2 m1 => Q (some (.int v2)) m1)) ∧ (¬ x1 ≤ 100 → Q (some (.int (-100000002))) m))) : Call X mX8_rain [.ref 0, .int x1] m Q := by
  unfold Call
  refine Wp.loc (lv' := [some (.ref 0), some (.int x1)]) rfl ?_
  refine Wp.pk 1 (pc' := 1) (lv' := [some (.ref 0), some (.int x1)]) (st' := [.int x1]) rfl ?_
  refine Wp.if_lt rfl rfl ⟨fun hc => ?_, fun hc => ?_⟩
  · replace h := h.1 hc
    refine Wp.ldc rfl rfl ?_
    refine Wp.pk 1 (pc' := 23) (lv' := [some (.ref 0), some (.int x1)]) (st' := [.int (-100000002)]) rfl ?_
    exact Wp.iret rfl rfl ⟨rfl, h⟩
  · replace h := h.2 hc
    refine Wp.pk 2 (pc' := 7) (lv' := [some (.ref 0), some (.int x1)]) (st' := [.int 100, .int x1]) rfl ?_
    refine Wp.icmp_le rfl rfl ⟨fun hc => ?_, fun hc => ?_⟩
    · replace h := h.1 hc
      refine Wp.pk 1 (pc' := 16) (lv' := [some (.ref 0), some (.int x1)]) (st' := [.ref 0]) rfl ?_
      refine Wp.getR rfl rfl sh0 rfl ?_
      refine Wp.pk 1 (pc' := 20) (lv' := [some (.ref 0), some (.int x1)]) (st' := [.int x1, .ref 15]) rfl ?_
      refine Wp.callI rfl rfl rfl (CallI.mono h (fun v2 m1 h => ?_))
      exact Wp.iret rfl rfl ⟨rfl, h⟩
    · replace h := h.2 hc
      refine Wp.ldc rfl rfl ?_
      refine Wp.pk 1 (pc' := 23) (lv' := [some (.ref 0), some (.int x1)]) (st' := [.int (-100000002)]) rfl ?_
      exact Wp.iret rfl rfl ⟨rfl, h⟩
theorem eX8_owner_0 {X : a_X} {m : Nat → Nat → Int32} {Q : Option Value → (Nat → Nat → Int32) → Prop} {x1 x2 : Int32} (h : (x1 < 0 → Q (some (.int (-100000001))) m) ∧ (¬ x1 < 0 → (x1 < 6 → (x2 = 0 → CallV X mX7_lookAt [.ref 41, .ref 15] m (fun m1 => CallI X mX7_worthOfOwner [.ref 41, .ref 15, .int x1] m1 (fun v3 m2 => Q (some (.int v3)) m2))) ∧ (x2 = 1 → vp_in x1 6 ∧ Q (some (.int (m 20 (Int32.toNatClampNeg x1)))) m) ∧ (x2 = 2 → CallI X mX0_hangingOf [.ref 15, .int x1] m (fun v5 m4 => Q (some (.int v5)) m4)) ∧ (Int32.toInt x2 < 0 ∨ 2 < Int32.toInt x2 → Q (some (.int (-100000002))) m)) ∧ (¬ x1 < 6 → Q (some (.int (-100000001))) m))) : Call X mX8_owner [.ref 0, .int x1, .int x2] m Q := by
  unfold Call
  refine Wp.loc (lv' := [some (.ref 0), some (.int x1), some (.int x2)]) rfl ?_
  refine Wp.pk 1 (pc' := 1) (lv' := [some (.ref 0), some (.int x1), some (.int x2)]) (st' := [.int x1]) rfl ?_
  refine Wp.if_lt rfl rfl ⟨fun hc => ?_, fun hc => ?_⟩
  · replace h := h.1 hc
    refine Wp.ldc rfl rfl ?_
    exact Wp.iret rfl rfl ⟨rfl, h⟩
  · replace h := h.2 hc
    refine Wp.pk 2 (pc' := 7) (lv' := [some (.ref 0), some (.int x1), some (.int x2)]) (st' := [.int 6, .int x1]) rfl ?_
    refine Wp.icmp_lt rfl rfl ⟨fun hc => ?_, fun hc => ?_⟩
    · replace h := h.1 hc
      refine Wp.pk 1 (pc' := 14) (lv' := [some (.ref 0), some (.int x1), some (.int x2)]) (st' := [.int x2]) rfl ?_
      refine Wp.tsw (lo := 0) (hi := 2) rfl (fun hc => ?_) (fun j hj1 hj2 hc => ?_)
      · replace h := h.2.2.2 hc
        refine ⟨83, rfl, ?_⟩
        refine Wp.ldc rfl rfl ?_
        exact Wp.iret rfl rfl ⟨rfl, h⟩
      · rcases (show j = 0 ∨ j = 1 ∨ j = 2 by omega) with rfl | rfl | rfl
        · replace h := (h.1 (Int32.toInt_inj.mp (hc.trans (by decide))))
          refine ⟨_, 40, rfl, rfl, ?_⟩
          refine Wp.pk 1 (pc' := 41) (lv' := [some (.ref 0), some (.int x1), some (.int x2)]) (st' := [.ref 0]) rfl ?_
          refine Wp.getR rfl rfl sh0 rfl ?_
          refine Wp.pk 1 (pc' := 45) (lv' := [some (.ref 0), some (.int x1), some (.int x2)]) (st' := [.ref 0, .ref 41]) rfl ?_
          refine Wp.getR rfl rfl sh0 rfl ?_
          refine Wp.callV rfl rfl rfl (CallV.mono h (fun m1 h => ?_))
          refine Wp.pk 1 (pc' := 52) (lv' := [some (.ref 0), some (.int x1), some (.int x2)]) (st' := [.ref 0]) rfl ?_
          refine Wp.getR rfl rfl sh0 rfl ?_
          refine Wp.pk 1 (pc' := 56) (lv' := [some (.ref 0), some (.int x1), some (.int x2)]) (st' := [.ref 0, .ref 41]) rfl ?_
          refine Wp.getR rfl rfl sh0 rfl ?_
          refine Wp.pk 1 (pc' := 60) (lv' := [some (.ref 0), some (.int x1), some (.int x2)]) (st' := [.int x1, .ref 15, .ref 41]) rfl ?_
          refine Wp.callI rfl rfl rfl (CallI.mono h (fun v3 m2 h => ?_))
          exact Wp.iret rfl rfl ⟨rfl, h⟩
        · replace h := (h.2.1 (Int32.toInt_inj.mp (hc.trans (by decide))))
          refine ⟨_, 64, rfl, rfl, ?_⟩
          refine Wp.pk 1 (pc' := 65) (lv' := [some (.ref 0), some (.int x1), some (.int x2)]) (st' := [.ref 0]) rfl ?_
          refine Wp.getR rfl rfl sh0 rfl ?_
          refine Wp.getR rfl rfl sh15 rfl ?_
          refine Wp.pk 1 (pc' := 72) (lv' := [some (.ref 0), some (.int x1), some (.int x2)]) (st' := [.int x1, .ref 20]) rfl ?_
          refine Wp.iald rfl sh20 ⟨h.1, ?_⟩
          replace h := h.2
          exact Wp.iret rfl rfl ⟨rfl, h⟩
        · replace h := (h.2.2.1 (Int32.toInt_inj.mp (hc.trans (by decide))))
          refine ⟨_, 74, rfl, rfl, ?_⟩
          refine Wp.pk 1 (pc' := 75) (lv' := [some (.ref 0), some (.int x1), some (.int x2)]) (st' := [.ref 0]) rfl ?_
          refine Wp.getR rfl rfl sh0 rfl ?_
          refine Wp.pk 1 (pc' := 79) (lv' := [some (.ref 0), some (.int x1), some (.int x2)]) (st' := [.int x1, .ref 15]) rfl ?_
          refine Wp.callI rfl rfl rfl (CallI.mono h (fun v5 m4 h => ?_))
          exact Wp.iret rfl rfl ⟨rfl, h⟩
    · replace h := h.2 hc
      refine Wp.ldc rfl rfl ?_
      exact Wp.iret rfl rfl ⟨rfl, h⟩
theorem eX8_show_0 {X : a_X} {m : Nat → Nat → Int32} {Q : Option Value → (Nat → Nat → Int32) → Prop} {x1 x2 x3 : Int32} (h : CallI X mX5_hasKind [.ref 1, .int x1] m (fun v2 m1 => (¬ v2 = 0 → CallI X mX5_holds [.ref 1, .int x1, .int x2, .int x3] m1 (fun v4 m3 => (¬ v4 = 0 → ((m3 71 1) < 10 → CallV X mX3_add [.ref 71, .int x1, .int x2, .int x3] m3 (fun m5 => Q (some (.int ((m5 71 1) - 1))) m5)) ∧ (¬ (m3 71 1) < 10 → Q (some (.int (-100000004))) m3)) ∧ (v4 = 0 → Q (some (.int (-100000002))) m3))) ∧ (v2 = 0 → Q (some (.int (-100000001))) m1))) : Call X mX8_show [.ref 0, .int x1, .int x2, .int x3] m Q := by
  unfold Call
  refine Wp.loc (lv' := [some (.ref 0), some (.int x1), some (.int x2), some (.int x3)]) rfl ?_
  refine Wp.pk 1 (pc' := 1) (lv' := [some (.ref 0), some (.int x1), some (.int x2), some (.int x3)]) (st' := [.ref 0]) rfl ?_
  refine Wp.getR rfl rfl sh0 rfl ?_
  refine Wp.pk 1 (pc' := 5) (lv' := [some (.ref 0), some (.int x1), some (.int x2), some (.int x3)]) (st' := [.int x1, .ref 1]) rfl ?_
  refine Wp.callI rfl rfl rfl (CallI.mono h (fun v2 m1 h => ?_))
  refine Wp.if_ne rfl rfl ⟨fun hc => ?_, fun hc => ?_⟩
  · replace h := h.1 hc
    refine Wp.pk 1 (pc' := 15) (lv' := [some (.ref 0), some (.int x1), some (.int x2), some (.int x3)]) (st' := [.ref 0]) rfl ?_
    refine Wp.getR rfl rfl sh0 rfl ?_
    refine Wp.pk 3 (pc' := 21) (lv' := [some (.ref 0), some (.int x1), some (.int x2), some (.int x3)]) (st' := [.int x3, .int x2, .int x1, .ref 1]) rfl ?_
    refine Wp.callI rfl rfl rfl (CallI.mono h (fun v4 m3 h => ?_))
    refine Wp.if_ne rfl rfl ⟨fun hc => ?_, fun hc => ?_⟩
    · replace h := h.1 hc
      refine Wp.pk 1 (pc' := 31) (lv' := [some (.ref 0), some (.int x1), some (.int x2), some (.int x3)]) (st' := [.ref 0]) rfl ?_
      refine Wp.getR rfl rfl sh0 rfl ?_
      refine Wp.getI rfl rfl sh71 rfl ?_
      refine Wp.pk 1 (pc' := 39) (lv' := [some (.ref 0), some (.int x1), some (.int x2), some (.int x3)]) (st' := [.int 10, .int (m3 71 1)]) rfl ?_
      refine Wp.icmp_lt rfl rfl ⟨fun hc => ?_, fun hc => ?_⟩
      · replace h := h.1 hc
        refine Wp.pk 1 (pc' := 46) (lv' := [some (.ref 0), some (.int x1), some (.int x2), some (.int x3)]) (st' := [.ref 0]) rfl ?_
        refine Wp.getR rfl rfl sh0 rfl ?_
        refine Wp.pk 3 (pc' := 52) (lv' := [some (.ref 0), some (.int x1), some (.int x2), some (.int x3)]) (st' := [.int x3, .int x2, .int x1, .ref 71]) rfl ?_
        refine Wp.callV rfl rfl rfl (CallV.mono h (fun m5 h => ?_))
        refine Wp.pk 1 (pc' := 56) (lv' := [some (.ref 0), some (.int x1), some (.int x2), some (.int x3)]) (st' := [.ref 0]) rfl ?_
        refine Wp.getR rfl rfl sh0 rfl ?_
        refine Wp.getI rfl rfl sh71 rfl ?_
        refine Wp.pk 2 (pc' := 64) (lv' := [some (.ref 0), some (.int x1), some (.int x2), some (.int x3)]) (st' := [.int ((m5 71 1) - 1)]) rfl ?_
        exact Wp.iret rfl rfl ⟨rfl, h⟩
      · replace h := h.2 hc
        refine Wp.ldc rfl rfl ?_
        exact Wp.iret rfl rfl ⟨rfl, h⟩
    · replace h := h.2 hc
      refine Wp.ldc rfl rfl ?_
      exact Wp.iret rfl rfl ⟨rfl, h⟩
  · replace h := h.2 hc
    refine Wp.ldc rfl rfl ?_
    exact Wp.iret rfl rfl ⟨rfl, h⟩
theorem eX8_look_0 {X : a_X} {m : Nat → Nat → Int32} {Q : Option Value → (Nat → Nat → Int32) → Prop} {x1 x2 x3 : Int32} (h : (x3 = (-1) → CallI X mX5_hasCell [.ref 1, .int x1, .int x2] m (fun v2 m1 => (¬ v2 = 0 → CallI X mX8_cellAt [.int x1, .int x2] m1 (fun v4 m3 => vp_in v4 128 ∧ ∀ m5, m5 = (a_up m3 73 (Int32.toNatClampNeg v4) x3) → Q (some (.int 1)) m5)) ∧ (v2 = 0 → Q (some (.int (-100000002))) m1))) ∧ (¬ x3 = (-1) → CallI X mX3_has [.ref 71, .int x3] m (fun v7 m6 => (¬ v7 = 0 → CallI X mX5_hasCell [.ref 1, .int x1, .int x2] m6 (fun v9 m8 => (¬ v9 = 0 → CallI X mX8_cellAt [.int x1, .int x2] m8 (fun v11 m10 => vp_in v11 128 ∧ ∀ m12, m12 = (a_up m10 73 (Int32.toNatClampNeg v11) x3) → Q (some (.int 1)) m12)) ∧ (v9 = 0 → Q (some (.int (-100000002))) m8))) ∧ (v7 = 0 → Q (some (.int (-100000001))) m6)))) : Call X mX8_look [.ref 0, .int x1, .int x2, .int x3] m Q := by
  unfold Call
  refine Wp.loc (lv' := [some (.ref 0), some (.int x1), some (.int x2), some (.int x3)]) rfl ?_
  refine Wp.pk 2 (pc' := 2) (lv' := [some (.ref 0), some (.int x1), some (.int x2), some (.int x3)]) (st' := [.int (-1), .int x3]) rfl ?_
  refine Wp.icmp_eq rfl rfl ⟨fun hc => ?_, fun hc => ?_⟩
  · replace h := h.1 hc
    refine Wp.pk 1 (pc' := 20) (lv' := [some (.ref 0), some (.int x1), some (.int x2), some (.int x3)]) (st' := [.ref 0]) rfl ?_
    refine Wp.getR rfl rfl sh0 rfl ?_
    refine Wp.pk 2 (pc' := 25) (lv' := [some (.ref 0), some (.int x1), some (.int x2), some (.int x3)]) (st' := [.int x2, .int x1, .ref 1]) rfl ?_
    refine Wp.callI rfl rfl rfl (CallI.mono h (fun v2 m1 h => ?_))
    refine Wp.if_ne rfl rfl ⟨fun hc => ?_, fun hc => ?_⟩
    · replace h := h.1 hc
      refine Wp.pk 1 (pc' := 35) (lv' := [some (.ref 0), some (.int x1), some (.int x2), some (.int x3)]) (st' := [.ref 0]) rfl ?_
      refine Wp.getR rfl rfl sh0 rfl ?_
      refine Wp.getR rfl rfl sh71 rfl ?_
      refine Wp.pk 2 (pc' := 43) (lv' := [some (.ref 0), some (.int x1), some (.int x2), some (.int x3)]) (st' := [.int x2, .int x1, .ref 73]) rfl ?_
      refine Wp.callI rfl rfl rfl (CallI.mono h (fun v4 m3 h => ?_))
      refine Wp.pk 1 (pc' := 47) (lv' := [some (.ref 0), some (.int x1), some (.int x2), some (.int x3)]) (st' := [.int x3, .int v4, .ref 73]) rfl ?_
      refine Wp.iastN rfl sh73 h.1 (fun m5 hm => ?_)
      replace h := h.2 _ hm
      refine Wp.pk 1 (pc' := 49) (lv' := [some (.ref 0), some (.int x1), some (.int x2), some (.int x3)]) (st' := [.int 1]) rfl ?_
      exact Wp.iret rfl rfl ⟨rfl, h⟩
    · replace h := h.2 hc
      refine Wp.ldc rfl rfl ?_
      exact Wp.iret rfl rfl ⟨rfl, h⟩
  · replace h := h.2 hc
    refine Wp.pk 1 (pc' := 6) (lv' := [some (.ref 0), some (.int x1), some (.int x2), some (.int x3)]) (st' := [.ref 0]) rfl ?_
    refine Wp.getR rfl rfl sh0 rfl ?_
    refine Wp.pk 1 (pc' := 10) (lv' := [some (.ref 0), some (.int x1), some (.int x2), some (.int x3)]) (st' := [.int x3, .ref 71]) rfl ?_
    refine Wp.callI rfl rfl rfl (CallI.mono h (fun v7 m6 h => ?_))
    refine Wp.if_ne rfl rfl ⟨fun hc => ?_, fun hc => ?_⟩
    · replace h := h.1 hc
      refine Wp.pk 1 (pc' := 20) (lv' := [some (.ref 0), some (.int x1), some (.int x2), some (.int x3)]) (st' := [.ref 0]) rfl ?_
      refine Wp.getR rfl rfl sh0 rfl ?_
      refine Wp.pk 2 (pc' := 25) (lv' := [some (.ref 0), some (.int x1), some (.int x2), some (.int x3)]) (st' := [.int x2, .int x1, .ref 1]) rfl ?_
      refine Wp.callI rfl rfl rfl (CallI.mono h (fun v9 m8 h => ?_))
      refine Wp.if_ne rfl rfl ⟨fun hc => ?_, fun hc => ?_⟩
      · replace h := h.1 hc
        refine Wp.pk 1 (pc' := 35) (lv' := [some (.ref 0), some (.int x1), some (.int x2), some (.int x3)]) (st' := [.ref 0]) rfl ?_
        refine Wp.getR rfl rfl sh0 rfl ?_
        refine Wp.getR rfl rfl sh71 rfl ?_
        refine Wp.pk 2 (pc' := 43) (lv' := [some (.ref 0), some (.int x1), some (.int x2), some (.int x3)]) (st' := [.int x2, .int x1, .ref 73]) rfl ?_
        refine Wp.callI rfl rfl rfl (CallI.mono h (fun v11 m10 h => ?_))
        refine Wp.pk 1 (pc' := 47) (lv' := [some (.ref 0), some (.int x1), some (.int x2), some (.int x3)]) (st' := [.int x3, .int v11, .ref 73]) rfl ?_
        refine Wp.iastN rfl sh73 h.1 (fun m12 hm => ?_)
        replace h := h.2 _ hm
        refine Wp.pk 1 (pc' := 49) (lv' := [some (.ref 0), some (.int x1), some (.int x2), some (.int x3)]) (st' := [.int 1]) rfl ?_
        exact Wp.iret rfl rfl ⟨rfl, h⟩
      · replace h := h.2 hc
        refine Wp.ldc rfl rfl ?_
        exact Wp.iret rfl rfl ⟨rfl, h⟩
    · replace h := h.2 hc
      refine Wp.ldc rfl rfl ?_
      exact Wp.iret rfl rfl ⟨rfl, h⟩
theorem eX8_burn_0 {X : a_X} {m : Nat → Nat → Int32} {Q : Option Value → (Nat → Nat → Int32) → Prop} (h : CallV X mX3_forget [.ref 71] m (fun m1 => Q (some (.int (m 71 1))) m1)) : Call X mX8_burn [.ref 0] m Q := by
  unfold Call
  refine Wp.loc (lv' := [some (.ref 0), none]) rfl ?_
  refine Wp.pk 1 (pc' := 1) (lv' := [some (.ref 0), none]) (st' := [.ref 0]) rfl ?_
  refine Wp.getR rfl rfl sh0 rfl ?_
  refine Wp.getI rfl rfl sh71 rfl ?_
  refine Wp.pk 2 (pc' := 9) (lv' := [some (.ref 0), some (.int (m 71 1))]) (st' := [.ref 0]) rfl ?_
  refine Wp.getR rfl rfl sh0 rfl ?_
  refine Wp.callV rfl rfl rfl (CallV.mono h (fun m1 h => ?_))
  refine Wp.pk 1 (pc' := 16) (lv' := [some (.ref 0), some (.int (m 71 1))]) (st' := [.int (m 71 1)]) rfl ?_
  exact Wp.iret rfl rfl ⟨rfl, h⟩
theorem eX8_orders_0 {X : a_X} {m : Nat → Nat → Int32} {Q : Option Value → (Nat → Nat → Int32) → Prop} (h : CallI X mX3_countOrders [.ref 71] m (fun v2 m1 => Q (some (.int v2)) m1)) : Call X mX8_orders [.ref 0] m Q := by
  unfold Call
  refine Wp.loc (lv' := [some (.ref 0)]) rfl ?_
  refine Wp.pk 1 (pc' := 1) (lv' := [some (.ref 0)]) (st' := [.ref 0]) rfl ?_
  refine Wp.getR rfl rfl sh0 rfl ?_
  refine Wp.callI rfl rfl rfl (CallI.mono h (fun v2 m1 h => ?_))
  exact Wp.iret rfl rfl ⟨rfl, h⟩
theorem eX8_order_0 {X : a_X} {m : Nat → Nat → Int32} {Q : Option Value → (Nat → Nat → Int32) → Prop} {x1 : Int32} (h : (0 ≤ x1 → CallI X mX3_firstOrderAt [.ref 71, .int x1] m (fun v2 m1 => Q (some (.int v2)) m1)) ∧ (¬ 0 ≤ x1 → Q (some (.int (-100000002))) m)) : Call X mX8_order [.ref 0, .int x1] m Q := by
  unfold Call
  refine Wp.loc (lv' := [some (.ref 0), some (.int x1)]) rfl ?_
  refine Wp.pk 1 (pc' := 1) (lv' := [some (.ref 0), some (.int x1)]) (st' := [.int x1]) rfl ?_
  refine Wp.if_ge rfl rfl ⟨fun hc => ?_, fun hc => ?_⟩
  · replace h := h.1 hc
    refine Wp.pk 1 (pc' := 10) (lv' := [some (.ref 0), some (.int x1)]) (st' := [.ref 0]) rfl ?_
    refine Wp.getR rfl rfl sh0 rfl ?_
    refine Wp.pk 1 (pc' := 14) (lv' := [some (.ref 0), some (.int x1)]) (st' := [.int x1, .ref 71]) rfl ?_
    refine Wp.callI rfl rfl rfl (CallI.mono h (fun v2 m1 h => ?_))
    exact Wp.iret rfl rfl ⟨rfl, h⟩
  · replace h := h.2 hc
    refine Wp.ldc rfl rfl ?_
    refine Wp.pk 1 (pc' := 17) (lv' := [some (.ref 0), some (.int x1)]) (st' := [.int (-100000002)]) rfl ?_
    exact Wp.iret rfl rfl ⟨rfl, h⟩
theorem eX8_surely_0 {X : a_X} {m : Nat → Nat → Int32} {Q : Option Value → (Nat → Nat → Int32) → Prop} {x1 x2 : Int32} (h : (x1 = x2 → Q (some (.int (-100000001))) m) ∧ (¬ x1 = x2 → CallI X mX3_has [.ref 71, .int x1] m (fun v2 m1 => (v2 = 0 → Q (some (.int (-100000001))) m1) ∧ (¬ v2 = 0 → CallI X mX3_has [.ref 71, .int x2] m1 (fun v4 m3 => (¬ v4 = 0 → CallI X mX3_liesOver [.ref 71, .int x1, .int x2] m3 (fun v6 m5 => (v6 = 0 → Q (some (.int 0)) m5) ∧ (¬ v6 = 0 → Q (some (.int 1)) m5))) ∧ (v4 = 0 → Q (some (.int (-100000001))) m3)))))) : Call X mX8_surely [.ref 0, .int x1, .int x2] m Q := by
  unfold Call
  refine Wp.loc (lv' := [some (.ref 0), some (.int x1), some (.int x2)]) rfl ?_
  refine Wp.pk 2 (pc' := 2) (lv' := [some (.ref 0), some (.int x1), some (.int x2)]) (st' := [.int x2, .int x1]) rfl ?_
  refine Wp.icmp_eq rfl rfl ⟨fun hc => ?_, fun hc => ?_⟩
  · replace h := h.1 hc
    refine Wp.ldc rfl rfl ?_
    exact Wp.iret rfl rfl ⟨rfl, h⟩
  · replace h := h.2 hc
    refine Wp.pk 1 (pc' := 6) (lv' := [some (.ref 0), some (.int x1), some (.int x2)]) (st' := [.ref 0]) rfl ?_
    refine Wp.getR rfl rfl sh0 rfl ?_
    refine Wp.pk 1 (pc' := 10) (lv' := [some (.ref 0), some (.int x1), some (.int x2)]) (st' := [.int x1, .ref 71]) rfl ?_
    refine Wp.callI rfl rfl rfl (CallI.mono h (fun v2 m1 h => ?_))
    refine Wp.if_eq rfl rfl ⟨fun hc => ?_, fun hc => ?_⟩
    · replace h := h.1 hc
      refine Wp.ldc rfl rfl ?_
      exact Wp.iret rfl rfl ⟨rfl, h⟩
    · replace h := h.2 hc
      refine Wp.pk 1 (pc' := 17) (lv' := [some (.ref 0), some (.int x1), some (.int x2)]) (st' := [.ref 0]) rfl ?_
      refine Wp.getR rfl rfl sh0 rfl ?_
      refine Wp.pk 1 (pc' := 21) (lv' := [some (.ref 0), some (.int x1), some (.int x2)]) (st' := [.int x2, .ref 71]) rfl ?_
      refine Wp.callI rfl rfl rfl (CallI.mono h (fun v4 m3 h => ?_))
      refine Wp.if_ne rfl rfl ⟨fun hc => ?_, fun hc => ?_⟩
      · replace h := h.1 hc
        refine Wp.pk 1 (pc' := 31) (lv' := [some (.ref 0), some (.int x1), some (.int x2)]) (st' := [.ref 0]) rfl ?_
        refine Wp.getR rfl rfl sh0 rfl ?_
        refine Wp.pk 2 (pc' := 36) (lv' := [some (.ref 0), some (.int x1), some (.int x2)]) (st' := [.int x2, .int x1, .ref 71]) rfl ?_
        refine Wp.callI rfl rfl rfl (CallI.mono h (fun v6 m5 h => ?_))
        refine Wp.if_eq rfl rfl ⟨fun hc => ?_, fun hc => ?_⟩
        · replace h := h.1 hc
          refine Wp.pk 1 (pc' := 47) (lv' := [some (.ref 0), some (.int x1), some (.int x2)]) (st' := [.int 0]) rfl ?_
          exact Wp.iret rfl rfl ⟨rfl, h⟩
        · replace h := h.2 hc
          refine Wp.pk 2 (pc' := 47) (lv' := [some (.ref 0), some (.int x1), some (.int x2)]) (st' := [.int 1]) rfl ?_
          exact Wp.iret rfl rfl ⟨rfl, h⟩
      · replace h := h.2 hc
        refine Wp.ldc rfl rfl ?_
        exact Wp.iret rfl rfl ⟨rfl, h⟩
theorem eX8_best_0 {X : a_X} {m : Nat → Nat → Int32} {Q : Option Value → (Nat → Nat → Int32) → Prop} {x1 x2 : Int32} (h : CallI X mX5_hasKind [.ref 1, .int x1] m (fun v2 m1 => (¬ v2 = 0 → (x2 < 0 → Q (some (.int (-100000002))) m1) ∧ (¬ x2 < 0 → (x2 ≤ 2 → CallI X mX0_isFull [.ref 15] m1 (fun v4 m3 => (v4 = 0 → CallV X mX4_findOne [.ref 50, .ref 15, .int x1] m3 (fun m5 => (¬ (m5 50 4) = 0 → (x2 = 0 → Q (some (.int (m5 50 5))) m5) ∧ (¬ x2 = 0 → (x2 = 1 → Q (some (.int (m5 50 6))) m5) ∧ (¬ x2 = 1 → Q (some (.int (m5 50 9))) m5))) ∧ ((m5 50 4) = 0 → Q (some (.int (-100000003))) m5))) ∧ (¬ v4 = 0 → Q (some (.int (-100000003))) m3))) ∧ (¬ x2 ≤ 2 → Q (some (.int (-100000002))) m1))) ∧ (v2 = 0 → Q (some (.int (-100000001))) m1))) : Call X mX8_best [.ref 0, .int x1, .int x2] m Q := by
  unfold Call
  refine Wp.loc (lv' := [some (.ref 0), some (.int x1), some (.int x2)]) rfl ?_
  refine Wp.pk 1 (pc' := 1) (lv' := [some (.ref 0), some (.int x1), some (.int x2)]) (st' := [.ref 0]) rfl ?_
  refine Wp.getR rfl rfl sh0 rfl ?_
  refine Wp.pk 1 (pc' := 5) (lv' := [some (.ref 0), some (.int x1), some (.int x2)]) (st' := [.int x1, .ref 1]) rfl ?_
  refine Wp.callI rfl rfl rfl (CallI.mono h (fun v2 m1 h => ?_))
  refine Wp.if_ne rfl rfl ⟨fun hc => ?_, fun hc => ?_⟩
  · replace h := h.1 hc
    refine Wp.pk 1 (pc' := 15) (lv' := [some (.ref 0), some (.int x1), some (.int x2)]) (st' := [.int x2]) rfl ?_
    refine Wp.if_lt rfl rfl ⟨fun hc => ?_, fun hc => ?_⟩
    · replace h := h.1 hc
      refine Wp.ldc rfl rfl ?_
      exact Wp.iret rfl rfl ⟨rfl, h⟩
    · replace h := h.2 hc
      refine Wp.pk 2 (pc' := 20) (lv' := [some (.ref 0), some (.int x1), some (.int x2)]) (st' := [.int 2, .int x2]) rfl ?_
      refine Wp.icmp_le rfl rfl ⟨fun hc => ?_, fun hc => ?_⟩
      · replace h := h.1 hc
        refine Wp.pk 1 (pc' := 27) (lv' := [some (.ref 0), some (.int x1), some (.int x2)]) (st' := [.ref 0]) rfl ?_
        refine Wp.getR rfl rfl sh0 rfl ?_
        refine Wp.callI rfl rfl rfl (CallI.mono h (fun v4 m3 h => ?_))
        refine Wp.if_eq rfl rfl ⟨fun hc => ?_, fun hc => ?_⟩
        · replace h := h.1 hc
          refine Wp.pk 1 (pc' := 40) (lv' := [some (.ref 0), some (.int x1), some (.int x2)]) (st' := [.ref 0]) rfl ?_
          refine Wp.getR rfl rfl sh0 rfl ?_
          refine Wp.pk 1 (pc' := 44) (lv' := [some (.ref 0), some (.int x1), some (.int x2)]) (st' := [.ref 0, .ref 50]) rfl ?_
          refine Wp.getR rfl rfl sh0 rfl ?_
          refine Wp.pk 1 (pc' := 48) (lv' := [some (.ref 0), some (.int x1), some (.int x2)]) (st' := [.int x1, .ref 15, .ref 50]) rfl ?_
          refine Wp.callV rfl rfl rfl (CallV.mono h (fun m5 h => ?_))
          refine Wp.pk 1 (pc' := 52) (lv' := [some (.ref 0), some (.int x1), some (.int x2)]) (st' := [.ref 0]) rfl ?_
          refine Wp.getR rfl rfl sh0 rfl ?_
          refine Wp.getI rfl rfl sh50 rfl ?_
          refine Wp.if_ne rfl rfl ⟨fun hc => ?_, fun hc => ?_⟩
          · replace h := h.1 hc
            refine Wp.pk 1 (pc' := 65) (lv' := [some (.ref 0), some (.int x1), some (.int x2)]) (st' := [.int x2]) rfl ?_
            refine Wp.lsw2 rfl rfl (t0 := 92) (t1 := 100) (t2 := 108) (k0 := 0) (k1 := 1) (by decide) (by decide) rfl rfl rfl ⟨fun hc => ?_, fun hc => ⟨fun hc2 => ?_, fun hc2 => ?_⟩⟩
            · replace h := h.1 hc
              refine Wp.pk 1 (pc' := 93) (lv' := [some (.ref 0), some (.int x1), some (.int x2)]) (st' := [.ref 0]) rfl ?_
              refine Wp.getR rfl rfl sh0 rfl ?_
              refine Wp.getI rfl rfl sh50 rfl ?_
              exact Wp.iret rfl rfl ⟨rfl, h⟩
            · replace h := (h.2 hc).1 hc2
              refine Wp.pk 1 (pc' := 101) (lv' := [some (.ref 0), some (.int x1), some (.int x2)]) (st' := [.ref 0]) rfl ?_
              refine Wp.getR rfl rfl sh0 rfl ?_
              refine Wp.getI rfl rfl sh50 rfl ?_
              exact Wp.iret rfl rfl ⟨rfl, h⟩
            · replace h := (h.2 hc).2 hc2
              refine Wp.pk 1 (pc' := 109) (lv' := [some (.ref 0), some (.int x1), some (.int x2)]) (st' := [.ref 0]) rfl ?_
              refine Wp.getR rfl rfl sh0 rfl ?_
              refine Wp.getI rfl rfl sh50 rfl ?_
              exact Wp.iret rfl rfl ⟨rfl, h⟩
          · replace h := h.2 hc
            refine Wp.ldc rfl rfl ?_
            exact Wp.iret rfl rfl ⟨rfl, h⟩
        · replace h := h.2 hc
          refine Wp.ldc rfl rfl ?_
          exact Wp.iret rfl rfl ⟨rfl, h⟩
      · replace h := h.2 hc
        refine Wp.ldc rfl rfl ?_
        exact Wp.iret rfl rfl ⟨rfl, h⟩
  · replace h := h.2 hc
    refine Wp.ldc rfl rfl ?_
    exact Wp.iret rfl rfl ⟨rfl, h⟩
theorem eX8_two_0 {X : a_X} {m : Nat → Nat → Int32} {Q : Option Value → (Nat → Nat → Int32) → Prop} {x1 x2 x3 : Int32} (h : CallI X mX5_hasKind [.ref 1, .int x1] m (fun v2 m1 => (v2 = 0 → Q (some (.int (-100000001))) m1) ∧ (¬ v2 = 0 → CallI X mX5_hasKind [.ref 1, .int x2] m1 (fun v4 m3 => (¬ v4 = 0 → (x3 < 0 → Q (some (.int (-100000002))) m3) ∧ (¬ x3 < 0 → (x3 ≤ 4 → vp_in x1 12 ∧ vp_in x2 12 ∧ (¬ (m3 4 (Int32.toNatClampNeg x1)) = (m3 4 (Int32.toNatClampNeg x2)) → Q (some (.int (-100000003))) m3) ∧ ((m3 4 (Int32.toNatClampNeg x1)) = (m3 4 (Int32.toNatClampNeg x2)) → ((m3 15 1) ≤ 18 → CallV X mX4_findTwo [.ref 50, .ref 15, .int x1, .int x2] m3 (fun m5 => (¬ (m5 50 4) = 0 → (x3 = 0 → Q (some (.int (m5 50 5))) m5) ∧ (x3 = 1 → Q (some (.int (m5 50 6))) m5) ∧ (x3 = 2 → Q (some (.int (m5 50 7))) m5) ∧ (x3 = 3 → Q (some (.int (m5 50 8))) m5) ∧ (Int32.toInt x3 < 0 ∨ 3 < Int32.toInt x3 → Q (some (.int (m5 50 9))) m5)) ∧ ((m5 50 4) = 0 → Q (some (.int (-100000003))) m5))) ∧ (¬ (m3 15 1) ≤ 18 → Q (some (.int (-100000003))) m3))) ∧ (¬ x3 ≤ 4 → Q (some (.int (-100000002))) m3))) ∧ (v4 = 0 → Q (some (.int (-100000001))) m3))))) : Call X mX8_two [.ref 0, .int x1, .int x2, .int x3] m Q := by
  unfold Call
  refine Wp.loc (lv' := [some (.ref 0), some (.int x1), some (.int x2), some (.int x3)]) rfl ?_
  refine Wp.pk 1 (pc' := 1) (lv' := [some (.ref 0), some (.int x1), some (.int x2), some (.int x3)]) (st' := [.ref 0]) rfl ?_
  refine Wp.getR rfl rfl sh0 rfl ?_
  refine Wp.pk 1 (pc' := 5) (lv' := [some (.ref 0), some (.int x1), some (.int x2), some (.int x3)]) (st' := [.int x1, .ref 1]) rfl ?_
  refine Wp.callI rfl rfl rfl (CallI.mono h (fun v2 m1 h => ?_))
  refine Wp.if_eq rfl rfl ⟨fun hc => ?_, fun hc => ?_⟩
  · replace h := h.1 hc
    refine Wp.ldc rfl rfl ?_
    exact Wp.iret rfl rfl ⟨rfl, h⟩
  · replace h := h.2 hc
    refine Wp.pk 1 (pc' := 12) (lv' := [some (.ref 0), some (.int x1), some (.int x2), some (.int x3)]) (st' := [.ref 0]) rfl ?_
    refine Wp.getR rfl rfl sh0 rfl ?_
    refine Wp.pk 1 (pc' := 16) (lv' := [some (.ref 0), some (.int x1), some (.int x2), some (.int x3)]) (st' := [.int x2, .ref 1]) rfl ?_
    refine Wp.callI rfl rfl rfl (CallI.mono h (fun v4 m3 h => ?_))
    refine Wp.if_ne rfl rfl ⟨fun hc => ?_, fun hc => ?_⟩
    · replace h := h.1 hc
      refine Wp.pk 1 (pc' := 26) (lv' := [some (.ref 0), some (.int x1), some (.int x2), some (.int x3)]) (st' := [.int x3]) rfl ?_
      refine Wp.if_lt rfl rfl ⟨fun hc => ?_, fun hc => ?_⟩
      · replace h := h.1 hc
        refine Wp.ldc rfl rfl ?_
        exact Wp.iret rfl rfl ⟨rfl, h⟩
      · replace h := h.2 hc
        refine Wp.pk 2 (pc' := 31) (lv' := [some (.ref 0), some (.int x1), some (.int x2), some (.int x3)]) (st' := [.int 4, .int x3]) rfl ?_
        refine Wp.icmp_le rfl rfl ⟨fun hc => ?_, fun hc => ?_⟩
        · replace h := h.1 hc
          refine Wp.pk 1 (pc' := 38) (lv' := [some (.ref 0), some (.int x1), some (.int x2), some (.int x3)]) (st' := [.ref 0]) rfl ?_
          refine Wp.getR rfl rfl sh0 rfl ?_
          refine Wp.getR rfl rfl sh1 rfl ?_
          refine Wp.pk 1 (pc' := 45) (lv' := [some (.ref 0), some (.int x1), some (.int x2), some (.int x3)]) (st' := [.int x1, .ref 4]) rfl ?_
          refine Wp.iald rfl sh4 ⟨h.1, ?_⟩
          replace h := h.2
          refine Wp.pk 1 (pc' := 47) (lv' := [some (.ref 0), some (.int x1), some (.int x2), some (.int x3)]) (st' := [.ref 0, .int (m3 4 (Int32.toNatClampNeg x1))]) rfl ?_
          refine Wp.getR rfl rfl sh0 rfl ?_
          refine Wp.getR rfl rfl sh1 rfl ?_
          refine Wp.pk 1 (pc' := 54) (lv' := [some (.ref 0), some (.int x1), some (.int x2), some (.int x3)]) (st' := [.int x2, .ref 4, .int (m3 4 (Int32.toNatClampNeg x1))]) rfl ?_
          refine Wp.iald rfl sh4 ⟨h.1, ?_⟩
          replace h := h.2
          refine Wp.icmp_ne rfl rfl ⟨fun hc => ?_, fun hc => ?_⟩
          · replace h := h.1 hc
            refine Wp.ldc rfl rfl ?_
            exact Wp.iret rfl rfl ⟨rfl, h⟩
          · replace h := h.2 hc
            refine Wp.pk 1 (pc' := 59) (lv' := [some (.ref 0), some (.int x1), some (.int x2), some (.int x3)]) (st' := [.ref 0]) rfl ?_
            refine Wp.getR rfl rfl sh0 rfl ?_
            refine Wp.getI rfl rfl sh15 rfl ?_
            refine Wp.pk 1 (pc' := 67) (lv' := [some (.ref 0), some (.int x1), some (.int x2), some (.int x3)]) (st' := [.int 18, .int (m3 15 1)]) rfl ?_
            refine Wp.icmp_le rfl rfl ⟨fun hc => ?_, fun hc => ?_⟩
            · replace h := h.1 hc
              refine Wp.pk 1 (pc' := 74) (lv' := [some (.ref 0), some (.int x1), some (.int x2), some (.int x3)]) (st' := [.ref 0]) rfl ?_
              refine Wp.getR rfl rfl sh0 rfl ?_
              refine Wp.pk 1 (pc' := 78) (lv' := [some (.ref 0), some (.int x1), some (.int x2), some (.int x3)]) (st' := [.ref 0, .ref 50]) rfl ?_
              refine Wp.getR rfl rfl sh0 rfl ?_
              refine Wp.pk 2 (pc' := 83) (lv' := [some (.ref 0), some (.int x1), some (.int x2), some (.int x3)]) (st' := [.int x2, .int x1, .ref 15, .ref 50]) rfl ?_
              refine Wp.callV rfl rfl rfl (CallV.mono h (fun m5 h => ?_))
              refine Wp.pk 1 (pc' := 87) (lv' := [some (.ref 0), some (.int x1), some (.int x2), some (.int x3)]) (st' := [.ref 0]) rfl ?_
              refine Wp.getR rfl rfl sh0 rfl ?_
              refine Wp.getI rfl rfl sh50 rfl ?_
              refine Wp.if_ne rfl rfl ⟨fun hc => ?_, fun hc => ?_⟩
              · replace h := h.1 hc
                refine Wp.pk 1 (pc' := 100) (lv' := [some (.ref 0), some (.int x1), some (.int x2), some (.int x3)]) (st' := [.int x3]) rfl ?_
                refine Wp.tsw (lo := 0) (hi := 3) rfl (fun hc => ?_) (fun j hj1 hj2 hc => ?_)
                · replace h := h.2.2.2.2 hc
                  refine ⟨164, rfl, ?_⟩
                  refine Wp.pk 1 (pc' := 165) (lv' := [some (.ref 0), some (.int x1), some (.int x2), some (.int x3)]) (st' := [.ref 0]) rfl ?_
                  refine Wp.getR rfl rfl sh0 rfl ?_
                  refine Wp.getI rfl rfl sh50 rfl ?_
                  exact Wp.iret rfl rfl ⟨rfl, h⟩
                · rcases (show j = 0 ∨ j = 1 ∨ j = 2 ∨ j = 3 by omega) with rfl | rfl | rfl | rfl
                  · replace h := (h.1 (Int32.toInt_inj.mp (hc.trans (by decide))))
                    refine ⟨_, 132, rfl, rfl, ?_⟩
                    refine Wp.pk 1 (pc' := 133) (lv' := [some (.ref 0), some (.int x1), some (.int x2), some (.int x3)]) (st' := [.ref 0]) rfl ?_
                    refine Wp.getR rfl rfl sh0 rfl ?_
                    refine Wp.getI rfl rfl sh50 rfl ?_
                    exact Wp.iret rfl rfl ⟨rfl, h⟩
                  · replace h := (h.2.1 (Int32.toInt_inj.mp (hc.trans (by decide))))
                    refine ⟨_, 140, rfl, rfl, ?_⟩
                    refine Wp.pk 1 (pc' := 141) (lv' := [some (.ref 0), some (.int x1), some (.int x2), some (.int x3)]) (st' := [.ref 0]) rfl ?_
                    refine Wp.getR rfl rfl sh0 rfl ?_
                    refine Wp.getI rfl rfl sh50 rfl ?_
                    exact Wp.iret rfl rfl ⟨rfl, h⟩
                  · replace h := (h.2.2.1 (Int32.toInt_inj.mp (hc.trans (by decide))))
                    refine ⟨_, 148, rfl, rfl, ?_⟩
                    refine Wp.pk 1 (pc' := 149) (lv' := [some (.ref 0), some (.int x1), some (.int x2), some (.int x3)]) (st' := [.ref 0]) rfl ?_
                    refine Wp.getR rfl rfl sh0 rfl ?_
                    refine Wp.getI rfl rfl sh50 rfl ?_
                    exact Wp.iret rfl rfl ⟨rfl, h⟩
                  · replace h := (h.2.2.2.1 (Int32.toInt_inj.mp (hc.trans (by decide))))
                    refine ⟨_, 156, rfl, rfl, ?_⟩
                    refine Wp.pk 1 (pc' := 157) (lv' := [some (.ref 0), some (.int x1), some (.int x2), some (.int x3)]) (st' := [.ref 0]) rfl ?_
                    refine Wp.getR rfl rfl sh0 rfl ?_
                    refine Wp.getI rfl rfl sh50 rfl ?_
                    exact Wp.iret rfl rfl ⟨rfl, h⟩
              · replace h := h.2 hc
                refine Wp.ldc rfl rfl ?_
                exact Wp.iret rfl rfl ⟨rfl, h⟩
            · replace h := h.2 hc
              refine Wp.ldc rfl rfl ?_
              exact Wp.iret rfl rfl ⟨rfl, h⟩
        · replace h := h.2 hc
          refine Wp.ldc rfl rfl ?_
          exact Wp.iret rfl rfl ⟨rfl, h⟩
    · replace h := h.2 hc
      refine Wp.ldc rfl rfl ?_
      exact Wp.iret rfl rfl ⟨rfl, h⟩
theorem eX8_rivals_0 {X : a_X} {m : Nat → Nat → Int32} {Q : Option Value → (Nat → Nat → Int32) → Prop} {x1 x2 x3 x4 : Int32} (h : CallI X mX5_hasKind [.ref 1, .int x1] m (fun v2 m1 => (v2 = 0 → Q (some (.int (-100000001))) m1) ∧ (¬ v2 = 0 → CallI X mX5_hasKind [.ref 1, .int x2] m1 (fun v4 m3 => (¬ v4 = 0 → (x3 < 1 → Q (some (.int (-100000002))) m3) ∧ (¬ x3 < 1 → (12 < x3 → Q (some (.int (-100000002))) m3) ∧ (¬ 12 < x3 → (x4 < 0 → Q (some (.int (-100000002))) m3) ∧ (¬ x4 < 0 → (x4 ≤ 2 → CallV X mX4_compete [.ref 50, .ref 15, .int x1, .int x2, .int x3] m3 (fun m5 => (x4 = 0 → CallI X mX4_worthAtLast [.ref 50, .int x1] m5 (fun v7 m6 => Q (some (.int v7)) m6)) ∧ (¬ x4 = 0 → (x4 = 1 → CallI X mX4_worthAtLast [.ref 50, .int x2] m5 (fun v9 m8 => Q (some (.int v9)) m8)) ∧ (¬ x4 = 1 → Q (some (.int (m5 50 10))) m5)))) ∧ (¬ x4 ≤ 2 → Q (some (.int (-100000002))) m3))))) ∧ (v4 = 0 → Q (some (.int (-100000001))) m3))))) : Call X mX8_rivals [.ref 0, .int x1, .int x2, .int x3, .int x4] m Q := by
  unfold Call
  refine Wp.loc (lv' := [some (.ref 0), some (.int x1), some (.int x2), some (.int x3), some (.int x4)]) rfl ?_
  refine Wp.pk 1 (pc' := 1) (lv' := [some (.ref 0), some (.int x1), some (.int x2), some (.int x3), some (.int x4)]) (st' := [.ref 0]) rfl ?_
  refine Wp.getR rfl rfl sh0 rfl ?_
  refine Wp.pk 1 (pc' := 5) (lv' := [some (.ref 0), some (.int x1), some (.int x2), some (.int x3), some (.int x4)]) (st' := [.int x1, .ref 1]) rfl ?_
  refine Wp.callI rfl rfl rfl (CallI.mono h (fun v2 m1 h => ?_))
  refine Wp.if_eq rfl rfl ⟨fun hc => ?_, fun hc => ?_⟩
  · replace h := h.1 hc
    refine Wp.ldc rfl rfl ?_
    exact Wp.iret rfl rfl ⟨rfl, h⟩
  · replace h := h.2 hc
    refine Wp.pk 1 (pc' := 12) (lv' := [some (.ref 0), some (.int x1), some (.int x2), some (.int x3), some (.int x4)]) (st' := [.ref 0]) rfl ?_
    refine Wp.getR rfl rfl sh0 rfl ?_
    refine Wp.pk 1 (pc' := 16) (lv' := [some (.ref 0), some (.int x1), some (.int x2), some (.int x3), some (.int x4)]) (st' := [.int x2, .ref 1]) rfl ?_
    refine Wp.callI rfl rfl rfl (CallI.mono h (fun v4 m3 h => ?_))
    refine Wp.if_ne rfl rfl ⟨fun hc => ?_, fun hc => ?_⟩
    · replace h := h.1 hc
      refine Wp.pk 2 (pc' := 27) (lv' := [some (.ref 0), some (.int x1), some (.int x2), some (.int x3), some (.int x4)]) (st' := [.int 1, .int x3]) rfl ?_
      refine Wp.icmp_lt rfl rfl ⟨fun hc => ?_, fun hc => ?_⟩
      · replace h := h.1 hc
        refine Wp.ldc rfl rfl ?_
        exact Wp.iret rfl rfl ⟨rfl, h⟩
      · replace h := h.2 hc
        refine Wp.pk 2 (pc' := 33) (lv' := [some (.ref 0), some (.int x1), some (.int x2), some (.int x3), some (.int x4)]) (st' := [.int 12, .int x3]) rfl ?_
        refine Wp.icmp_gt rfl rfl ⟨fun hc => ?_, fun hc => ?_⟩
        · replace h := h.1 hc
          refine Wp.ldc rfl rfl ?_
          exact Wp.iret rfl rfl ⟨rfl, h⟩
        · replace h := h.2 hc
          refine Wp.pk 1 (pc' := 38) (lv' := [some (.ref 0), some (.int x1), some (.int x2), some (.int x3), some (.int x4)]) (st' := [.int x4]) rfl ?_
          refine Wp.if_lt rfl rfl ⟨fun hc => ?_, fun hc => ?_⟩
          · replace h := h.1 hc
            refine Wp.ldc rfl rfl ?_
            exact Wp.iret rfl rfl ⟨rfl, h⟩
          · replace h := h.2 hc
            refine Wp.pk 2 (pc' := 44) (lv' := [some (.ref 0), some (.int x1), some (.int x2), some (.int x3), some (.int x4)]) (st' := [.int 2, .int x4]) rfl ?_
            refine Wp.icmp_le rfl rfl ⟨fun hc => ?_, fun hc => ?_⟩
            · replace h := h.1 hc
              refine Wp.pk 1 (pc' := 51) (lv' := [some (.ref 0), some (.int x1), some (.int x2), some (.int x3), some (.int x4)]) (st' := [.ref 0]) rfl ?_
              refine Wp.getR rfl rfl sh0 rfl ?_
              refine Wp.pk 1 (pc' := 55) (lv' := [some (.ref 0), some (.int x1), some (.int x2), some (.int x3), some (.int x4)]) (st' := [.ref 0, .ref 50]) rfl ?_
              refine Wp.getR rfl rfl sh0 rfl ?_
              refine Wp.pk 3 (pc' := 61) (lv' := [some (.ref 0), some (.int x1), some (.int x2), some (.int x3), some (.int x4)]) (st' := [.int x3, .int x2, .int x1, .ref 15, .ref 50]) rfl ?_
              refine Wp.callV rfl rfl rfl (CallV.mono h (fun m5 h => ?_))
              refine Wp.pk 1 (pc' := 66) (lv' := [some (.ref 0), some (.int x1), some (.int x2), some (.int x3), some (.int x4)]) (st' := [.int x4]) rfl ?_
              refine Wp.lsw2 rfl rfl (t0 := 92) (t1 := 101) (t2 := 110) (k0 := 0) (k1 := 1) (by decide) (by decide) rfl rfl rfl ⟨fun hc => ?_, fun hc => ⟨fun hc2 => ?_, fun hc2 => ?_⟩⟩
              · replace h := h.1 hc
                refine Wp.pk 1 (pc' := 93) (lv' := [some (.ref 0), some (.int x1), some (.int x2), some (.int x3), some (.int x4)]) (st' := [.ref 0]) rfl ?_
                refine Wp.getR rfl rfl sh0 rfl ?_
                refine Wp.pk 1 (pc' := 97) (lv' := [some (.ref 0), some (.int x1), some (.int x2), some (.int x3), some (.int x4)]) (st' := [.int x1, .ref 50]) rfl ?_
                refine Wp.callI rfl rfl rfl (CallI.mono h (fun v7 m6 h => ?_))
                exact Wp.iret rfl rfl ⟨rfl, h⟩
              · replace h := (h.2 hc).1 hc2
                refine Wp.pk 1 (pc' := 102) (lv' := [some (.ref 0), some (.int x1), some (.int x2), some (.int x3), some (.int x4)]) (st' := [.ref 0]) rfl ?_
                refine Wp.getR rfl rfl sh0 rfl ?_
                refine Wp.pk 1 (pc' := 106) (lv' := [some (.ref 0), some (.int x1), some (.int x2), some (.int x3), some (.int x4)]) (st' := [.int x2, .ref 50]) rfl ?_
                refine Wp.callI rfl rfl rfl (CallI.mono h (fun v9 m8 h => ?_))
                exact Wp.iret rfl rfl ⟨rfl, h⟩
              · replace h := (h.2 hc).2 hc2
                refine Wp.pk 1 (pc' := 111) (lv' := [some (.ref 0), some (.int x1), some (.int x2), some (.int x3), some (.int x4)]) (st' := [.ref 0]) rfl ?_
                refine Wp.getR rfl rfl sh0 rfl ?_
                refine Wp.getI rfl rfl sh50 rfl ?_
                exact Wp.iret rfl rfl ⟨rfl, h⟩
            · replace h := h.2 hc
              refine Wp.ldc rfl rfl ?_
              exact Wp.iret rfl rfl ⟨rfl, h⟩
    · replace h := h.2 hc
      refine Wp.ldc rfl rfl ?_
      exact Wp.iret rfl rfl ⟨rfl, h⟩
theorem eX8_seed_0 {X : a_X} {m : Nat → Nat → Int32} {Q : Option Value → (Nat → Nat → Int32) → Prop} {x1 : Int32} (h : (0 ≤ x1 → ∀ m1, m1 = (a_up m 15 3 x1) → Q (some (.int (m 15 3))) m1) ∧ (¬ 0 ≤ x1 → Q (some (.int (-100000002))) m)) : Call X mX8_seed [.ref 0, .int x1] m Q := by
  unfold Call
  refine Wp.loc (lv' := [some (.ref 0), some (.int x1), none]) rfl ?_
  refine Wp.pk 1 (pc' := 1) (lv' := [some (.ref 0), some (.int x1), none]) (st' := [.int x1]) rfl ?_
  refine Wp.if_ge rfl rfl ⟨fun hc => ?_, fun hc => ?_⟩
  · replace h := h.1 hc
    refine Wp.pk 1 (pc' := 8) (lv' := [some (.ref 0), some (.int x1), none]) (st' := [.ref 0]) rfl ?_
    refine Wp.getR rfl rfl sh0 rfl ?_
    refine Wp.getI rfl rfl sh15 rfl ?_
    refine Wp.pk 2 (pc' := 16) (lv' := [some (.ref 0), some (.int x1), some (.int (m 15 3))]) (st' := [.ref 0]) rfl ?_
    refine Wp.getR rfl rfl sh0 rfl ?_
    refine Wp.pk 1 (pc' := 20) (lv' := [some (.ref 0), some (.int x1), some (.int (m 15 3))]) (st' := [.int x1, .ref 15]) rfl ?_
    refine Wp.putN rfl rfl sh15 rfl rfl (fun m1 hm => ?_)
    replace h := h _ hm
    refine Wp.pk 1 (pc' := 24) (lv' := [some (.ref 0), some (.int x1), some (.int (m 15 3))]) (st' := [.int (m 15 3)]) rfl ?_
    exact Wp.iret rfl rfl ⟨rfl, h⟩
  · replace h := h.2 hc
    refine Wp.ldc rfl rfl ?_
    exact Wp.iret rfl rfl ⟨rfl, h⟩
theorem eX8_imageOf_0 {X : a_X} {m : Nat → Nat → Int32} {Q : Option Value → (Nat → Nat → Int32) → Prop} {x1 : Int32} (h : (¬ x1 = 0 → Q (some (.ref 32)) m) ∧ (x1 = 0 → Q (some (.ref 23)) m)) : Call X mX8_imageOf [.ref 0, .int x1] m Q := by
  unfold Call
  refine Wp.loc (lv' := [some (.ref 0), some (.int x1)]) rfl ?_
  refine Wp.pk 1 (pc' := 1) (lv' := [some (.ref 0), some (.int x1)]) (st' := [.int x1]) rfl ?_
  refine Wp.if_ne rfl rfl ⟨fun hc => ?_, fun hc => ?_⟩
  · replace h := h.1 hc
    refine Wp.pk 1 (pc' := 12) (lv' := [some (.ref 0), some (.int x1)]) (st' := [.ref 0]) rfl ?_
    refine Wp.getR rfl rfl sh0 rfl ?_
    exact Wp.aret rfl rfl h
  · replace h := h.2 hc
    refine Wp.pk 1 (pc' := 5) (lv' := [some (.ref 0), some (.int x1)]) (st' := [.ref 0]) rfl ?_
    refine Wp.getR rfl rfl sh0 rfl ?_
    refine Wp.pk 1 (pc' := 15) (lv' := [some (.ref 0), some (.int x1)]) (st' := [.ref 23]) rfl ?_
    exact Wp.aret rfl rfl h
theorem eX8_keep_0 {X : a_X} {m : Nat → Nat → Int32} {Q : Option Value → (Nat → Nat → Int32) → Prop} {x1 : Int32} (h : (x1 < 0 → Q (some (.int (-100000001))) m) ∧ (¬ x1 < 0 → (x1 ≤ 1 → CallR X mX8_imageOf [.ref 0, .int x1] m (fun v2 m1 => Wp X mX8_keep 18 [some (.ref 0), none, some (.ref v2)] [] m1 Q)) ∧ (¬ x1 ≤ 1 → Q (some (.int (-100000001))) m))) : Call X mX8_keep [.ref 0, .int x1] m Q := by
  unfold Call
  refine Wp.loc (lv' := [some (.ref 0), some (.int x1), none]) rfl ?_
  refine Wp.pk 1 (pc' := 1) (lv' := [some (.ref 0), some (.int x1), none]) (st' := [.int x1]) rfl ?_
  refine Wp.if_lt rfl rfl ⟨fun hc => ?_, fun hc => ?_⟩
  · replace h := h.1 hc
    refine Wp.ldc rfl rfl ?_
    exact Wp.iret rfl rfl ⟨rfl, h⟩
  · replace h := h.2 hc
    refine Wp.pk 2 (pc' := 6) (lv' := [some (.ref 0), some (.int x1), none]) (st' := [.int 1, .int x1]) rfl ?_
    refine Wp.icmp_le rfl rfl ⟨fun hc => ?_, fun hc => ?_⟩
    · replace h := h.1 hc
      refine Wp.pk 2 (pc' := 14) (lv' := [some (.ref 0), some (.int x1), none]) (st' := [.int x1, .ref 0]) rfl ?_
      refine Wp.callR rfl rfl rfl (CallR.mono h (fun v2 m1 h => ?_))
      refine Wp.pk 1 (pc' := 18) (lv' := [some (.ref 0), some (.int x1), some (.ref v2)]) (st' := []) rfl ?_
      exact Wp.fgt (lv := [some (.ref 0), none, some (.ref v2)]) (a_lle.of (a_lleb_e (a_lleb_i (a_lleb_e trivial)))) h
    · replace h := h.2 hc
      refine Wp.ldc rfl rfl ?_
      exact Wp.iret rfl rfl ⟨rfl, h⟩
theorem eX8_keep_18a {X : a_X} {m : Nat → Nat → Int32} {Q : Option Value → (Nat → Nat → Int32) → Prop} (h : CallV X mX0_copyFrom [.ref 24, .ref 15] m (fun m1 => ∀ m2, m2 = (a_up m1 23 1 1) → Q (some (.int 1)) m2)) : Wp X mX8_keep 18 [some (.ref 0), none, some (.ref 23)] [] m Q := by
  refine Wp.pk 1 (pc' := 19) (lv' := [some (.ref 0), none, some (.ref 23)]) (st' := [.ref 23]) rfl ?_
  refine Wp.getR rfl rfl sh23 rfl ?_
  refine Wp.pk 1 (pc' := 23) (lv' := [some (.ref 0), none, some (.ref 23)]) (st' := [.ref 0, .ref 24]) rfl ?_
  refine Wp.getR rfl rfl sh0 rfl ?_
  refine Wp.callV rfl rfl rfl (CallV.mono h (fun m1 h => ?_))
  refine Wp.pk 2 (pc' := 31) (lv' := [some (.ref 0), none, some (.ref 23)]) (st' := [.int 1, .ref 23]) rfl ?_
  refine Wp.putN rfl rfl sh23 rfl rfl (fun m2 hm => ?_)
  replace h := h _ hm
  refine Wp.pk 1 (pc' := 35) (lv' := [some (.ref 0), none, some (.ref 23)]) (st' := [.int 1]) rfl ?_
  exact Wp.iret rfl rfl ⟨rfl, h⟩
theorem eX8_keep_18b {X : a_X} {m : Nat → Nat → Int32} {Q : Option Value → (Nat → Nat → Int32) → Prop} (h : CallV X mX0_copyFrom [.ref 33, .ref 15] m (fun m1 => ∀ m2, m2 = (a_up m1 32 1 1) → Q (some (.int 1)) m2)) : Wp X mX8_keep 18 [some (.ref 0), none, some (.ref 32)] [] m Q := by
  refine Wp.pk 1 (pc' := 19) (lv' := [some (.ref 0), none, some (.ref 32)]) (st' := [.ref 32]) rfl ?_
  refine Wp.getR rfl rfl sh32 rfl ?_
  refine Wp.pk 1 (pc' := 23) (lv' := [some (.ref 0), none, some (.ref 32)]) (st' := [.ref 0, .ref 33]) rfl ?_
  refine Wp.getR rfl rfl sh0 rfl ?_
  refine Wp.callV rfl rfl rfl (CallV.mono h (fun m1 h => ?_))
  refine Wp.pk 2 (pc' := 31) (lv' := [some (.ref 0), none, some (.ref 32)]) (st' := [.int 1, .ref 32]) rfl ?_
  refine Wp.putN rfl rfl sh32 rfl rfl (fun m2 hm => ?_)
  replace h := h _ hm
  refine Wp.pk 1 (pc' := 35) (lv' := [some (.ref 0), none, some (.ref 32)]) (st' := [.int 1]) rfl ?_
  exact Wp.iret rfl rfl ⟨rfl, h⟩
theorem eX8_goBack_0 {X : a_X} {m : Nat → Nat → Int32} {Q : Option Value → (Nat → Nat → Int32) → Prop} {x1 : Int32} (h : (x1 < 0 → Q (some (.int (-100000001))) m) ∧ (¬ x1 < 0 → (x1 ≤ 1 → CallR X mX8_imageOf [.ref 0, .int x1] m (fun v2 m1 => Wp X mX8_goBack 18 [some (.ref 0), none, some (.ref v2)] [] m1 Q)) ∧ (¬ x1 ≤ 1 → Q (some (.int (-100000001))) m))) : Call X mX8_goBack [.ref 0, .int x1] m Q := by
  unfold Call
  refine Wp.loc (lv' := [some (.ref 0), some (.int x1), none]) rfl ?_
  refine Wp.pk 1 (pc' := 1) (lv' := [some (.ref 0), some (.int x1), none]) (st' := [.int x1]) rfl ?_
  refine Wp.if_lt rfl rfl ⟨fun hc => ?_, fun hc => ?_⟩
  · replace h := h.1 hc
    refine Wp.ldc rfl rfl ?_
    exact Wp.iret rfl rfl ⟨rfl, h⟩
  · replace h := h.2 hc
    refine Wp.pk 2 (pc' := 6) (lv' := [some (.ref 0), some (.int x1), none]) (st' := [.int 1, .int x1]) rfl ?_
    refine Wp.icmp_le rfl rfl ⟨fun hc => ?_, fun hc => ?_⟩
    · replace h := h.1 hc
      refine Wp.pk 2 (pc' := 14) (lv' := [some (.ref 0), some (.int x1), none]) (st' := [.int x1, .ref 0]) rfl ?_
      refine Wp.callR rfl rfl rfl (CallR.mono h (fun v2 m1 h => ?_))
      refine Wp.pk 1 (pc' := 18) (lv' := [some (.ref 0), some (.int x1), some (.ref v2)]) (st' := []) rfl ?_
      exact Wp.fgt (lv := [some (.ref 0), none, some (.ref v2)]) (a_lle.of (a_lleb_e (a_lleb_i (a_lleb_e trivial)))) h
    · replace h := h.2 hc
      refine Wp.ldc rfl rfl ?_
      exact Wp.iret rfl rfl ⟨rfl, h⟩
theorem eX8_goBack_18a {X : a_X} {m : Nat → Nat → Int32} {Q : Option Value → (Nat → Nat → Int32) → Prop} (h : (¬ (m 23 1) = 0 → CallV X mX0_copyFrom [.ref 15, .ref 24] m (fun m1 => Q (some (.int 1)) m1)) ∧ ((m 23 1) = 0 → Q (some (.int (-100000003))) m)) : Wp X mX8_goBack 18 [some (.ref 0), none, some (.ref 23)] [] m Q := by
  refine Wp.pk 1 (pc' := 19) (lv' := [some (.ref 0), none, some (.ref 23)]) (st' := [.ref 23]) rfl ?_
  refine Wp.getI rfl rfl sh23 rfl ?_
  refine Wp.if_ne rfl rfl ⟨fun hc => ?_, fun hc => ?_⟩
  · replace h := h.1 hc
    refine Wp.pk 1 (pc' := 29) (lv' := [some (.ref 0), none, some (.ref 23)]) (st' := [.ref 0]) rfl ?_
    refine Wp.getR rfl rfl sh0 rfl ?_
    refine Wp.pk 1 (pc' := 33) (lv' := [some (.ref 0), none, some (.ref 23)]) (st' := [.ref 23, .ref 15]) rfl ?_
    refine Wp.getR rfl rfl sh23 rfl ?_
    refine Wp.callV rfl rfl rfl (CallV.mono h (fun m1 h => ?_))
    refine Wp.pk 1 (pc' := 40) (lv' := [some (.ref 0), none, some (.ref 23)]) (st' := [.int 1]) rfl ?_
    exact Wp.iret rfl rfl ⟨rfl, h⟩
  · replace h := h.2 hc
    refine Wp.ldc rfl rfl ?_
    exact Wp.iret rfl rfl ⟨rfl, h⟩
theorem eX8_goBack_18b {X : a_X} {m : Nat → Nat → Int32} {Q : Option Value → (Nat → Nat → Int32) → Prop} (h : (¬ (m 32 1) = 0 → CallV X mX0_copyFrom [.ref 15, .ref 33] m (fun m1 => Q (some (.int 1)) m1)) ∧ ((m 32 1) = 0 → Q (some (.int (-100000003))) m)) : Wp X mX8_goBack 18 [some (.ref 0), none, some (.ref 32)] [] m Q := by
  refine Wp.pk 1 (pc' := 19) (lv' := [some (.ref 0), none, some (.ref 32)]) (st' := [.ref 32]) rfl ?_
  refine Wp.getI rfl rfl sh32 rfl ?_
  refine Wp.if_ne rfl rfl ⟨fun hc => ?_, fun hc => ?_⟩
  · replace h := h.1 hc
    refine Wp.pk 1 (pc' := 29) (lv' := [some (.ref 0), none, some (.ref 32)]) (st' := [.ref 0]) rfl ?_
    refine Wp.getR rfl rfl sh0 rfl ?_
    refine Wp.pk 1 (pc' := 33) (lv' := [some (.ref 0), none, some (.ref 32)]) (st' := [.ref 32, .ref 15]) rfl ?_
    refine Wp.getR rfl rfl sh32 rfl ?_
    refine Wp.callV rfl rfl rfl (CallV.mono h (fun m1 h => ?_))
    refine Wp.pk 1 (pc' := 40) (lv' := [some (.ref 0), none, some (.ref 32)]) (st' := [.int 1]) rfl ?_
    exact Wp.iret rfl rfl ⟨rfl, h⟩
  · replace h := h.2 hc
    refine Wp.ldc rfl rfl ?_
    exact Wp.iret rfl rfl ⟨rfl, h⟩
