theorem eX9_in_0 {X : a_X} {m : Nat → Nat → Int32} {Q : Option Value → (Nat → Nat → Int32) → Prop} {x0 x2 x4 : Int64} (h : ((lg_cmp x0 x2) < 0 → Q (some (.int 0)) m) ∧ (¬ (lg_cmp x0 x2) < 0 → (0 < (lg_cmp x0 x4) → Q (some (.int 0)) m) ∧ (¬ 0 < (lg_cmp x0 x4) → Q (some (.int 1)) m))) : Call X mX9_in [.long x0, .long x2, .long x4] m Q := by
  unfold Call
  refine Wp.loc (lv' := [some (.long x0), none, some (.long x2), none, some (.long x4), none]) rfl ?_
  refine Wp.pk 3 (pc' := 3) (lv' := [some (.long x0), none, some (.long x2), none, some (.long x4), none]) (st' := [.int (lg_cmp x0 x2)]) rfl ?_
  refine Wp.if_lt rfl rfl ⟨fun hc => ?_, fun hc => ?_⟩
  · replace h := h.1 hc
    refine Wp.pk 1 (pc' := 18) (lv' := [some (.long x0), none, some (.long x2), none, some (.long x4), none]) (st' := [.int 0]) rfl ?_
    exact Wp.iret rfl rfl ⟨rfl, h⟩
  · replace h := h.2 hc
    refine Wp.pk 3 (pc' := 10) (lv' := [some (.long x0), none, some (.long x2), none, some (.long x4), none]) (st' := [.int (lg_cmp x0 x4)]) rfl ?_
    refine Wp.if_gt rfl rfl ⟨fun hc => ?_, fun hc => ?_⟩
    · replace h := h.1 hc
      refine Wp.pk 1 (pc' := 18) (lv' := [some (.long x0), none, some (.long x2), none, some (.long x4), none]) (st' := [.int 0]) rfl ?_
      exact Wp.iret rfl rfl ⟨rfl, h⟩
    · replace h := h.2 hc
      refine Wp.pk 2 (pc' := 18) (lv' := [some (.long x0), none, some (.long x2), none, some (.long x4), none]) (st' := [.int 1]) rfl ?_
      exact Wp.iret rfl rfl ⟨rfl, h⟩
theorem eX9_one_0 {X : a_X} {m : Nat → Nat → Int32} {Q : Option Value → (Nat → Nat → Int32) → Prop} {x0 : Int32} (h : (x0 = 0 → Q (some (.int 0)) m) ∧ (¬ x0 = 0 → Q (some (.int 1)) m)) : Call X mX9_one [.int x0] m Q := by
  unfold Call
  refine Wp.loc (lv' := [some (.int x0)]) rfl ?_
  refine Wp.pk 1 (pc' := 1) (lv' := [some (.int x0)]) (st' := [.int x0]) rfl ?_
  refine Wp.if_eq rfl rfl ⟨fun hc => ?_, fun hc => ?_⟩
  · replace h := h.1 hc
    refine Wp.pk 1 (pc' := 9) (lv' := [some (.int x0)]) (st' := [.int 0]) rfl ?_
    exact Wp.iret rfl rfl ⟨rfl, h⟩
  · replace h := h.2 hc
    refine Wp.pk 2 (pc' := 9) (lv' := [some (.int x0)]) (st' := [.int 1]) rfl ?_
    exact Wp.iret rfl rfl ⟨rfl, h⟩
theorem eX9_has_0 {X : a_X} {m : Nat → Nat → Int32} {Q : Option Value → (Nat → Nat → Int32) → Prop} {x0 x1 : Int32} (h : (¬ ((x0 >>> (x1 &&& 31)) &&& 1) = 1 → Q (some (.int 0)) m) ∧ (((x0 >>> (x1 &&& 31)) &&& 1) = 1 → Q (some (.int 1)) m)) : Call X mX9_has [.int x0, .int x1] m Q := by
  unfold Call
  refine Wp.loc (lv' := [some (.int x0), some (.int x1)]) rfl ?_
  refine Wp.pk 6 (pc' := 6) (lv' := [some (.int x0), some (.int x1)]) (st' := [.int 1, .int ((x0 >>> (x1 &&& 31)) &&& 1)]) rfl ?_
  refine Wp.icmp_ne rfl rfl ⟨fun hc => ?_, fun hc => ?_⟩
  · replace h := h.1 hc
    refine Wp.pk 1 (pc' := 14) (lv' := [some (.int x0), some (.int x1)]) (st' := [.int 0]) rfl ?_
    exact Wp.iret rfl rfl ⟨rfl, h⟩
  · replace h := h.2 hc
    refine Wp.pk 2 (pc' := 14) (lv' := [some (.int x0), some (.int x1)]) (st' := [.int 1]) rfl ?_
    exact Wp.iret rfl rfl ⟨rfl, h⟩
theorem eX9_ones_0 {X : a_X} {m : Nat → Nat → Int32} {Q : Option Value → (Nat → Nat → Int32) → Prop} {x0 : Int32} (h : Wp X mX9_ones 4 [some (.int x0), some (.int 0), some (.int 0)] [] m Q) : Call X mX9_ones [.int x0] m Q := by
  unfold Call
  refine Wp.loc (lv' := [some (.int x0), none, none]) rfl ?_
  refine Wp.pk 4 (pc' := 4) (lv' := [some (.int x0), some (.int 0), some (.int 0)]) (st' := []) rfl ?_
  exact h
theorem eX9_ones_4 {X : a_X} {m : Nat → Nat → Int32} {Q : Option Value → (Nat → Nat → Int32) → Prop} {x0 x1 x2 : Int32} (h : (20 ≤ x2 → Q (some (.int x1)) m) ∧ (¬ 20 ≤ x2 → Wp X mX9_ones 4 [some (.int x0), some (.int (x1 + ((x0 >>> (x2 &&& 31)) &&& 1))), some (.int (x2 + 1))] [] m Q)) : Wp X mX9_ones 4 [some (.int x0), some (.int x1), some (.int x2)] [] m Q := by
  refine Wp.pk 2 (pc' := 7) (lv' := [some (.int x0), some (.int x1), some (.int x2)]) (st' := [.int 20, .int x2]) rfl ?_
  refine Wp.icmp_ge rfl rfl ⟨fun hc => ?_, fun hc => ?_⟩
  · replace h := h.1 hc
    refine Wp.pk 1 (pc' := 25) (lv' := [some (.int x0), some (.int x1), some (.int x2)]) (st' := [.int x1]) rfl ?_
    exact Wp.iret rfl rfl ⟨rfl, h⟩
  · replace h := h.2 hc
    refine Wp.pk 10 (pc' := 4) (lv' := [some (.int x0), some (.int (x1 + ((x0 >>> (x2 &&& 31)) &&& 1))), some (.int (x2 + 1))]) (st' := []) rfl ?_
    exact h
theorem eX9_untold_0 {X : a_X} {m : Nat → Nat → Int32} {Q : Option Value → (Nat → Nat → Int32) → Prop} {x0 : Int32} (h : (¬ x0 = 0 → (¬ x0 = 1 → (¬ x0 = 2 → (¬ x0 = 3 → Q (some (.int 60)) m) ∧ (x0 = 3 → Q (some (.int 10)) m)) ∧ (x0 = 2 → Q (some (.int 3)) m)) ∧ (x0 = 1 → Q (some (.int 8)) m)) ∧ (x0 = 0 → Q (some (.int 16)) m)) : Call X mX9_untold [.int x0] m Q := by
  unfold Call
  refine Wp.loc (lv' := [some (.int x0)]) rfl ?_
  refine Wp.pk 1 (pc' := 1) (lv' := [some (.int x0)]) (st' := [.int x0]) rfl ?_
  refine Wp.if_ne rfl rfl ⟨fun hc => ?_, fun hc => ?_⟩
  · replace h := h.1 hc
    refine Wp.pk 2 (pc' := 11) (lv' := [some (.int x0)]) (st' := [.int 1, .int x0]) rfl ?_
    refine Wp.icmp_ne rfl rfl ⟨fun hc => ?_, fun hc => ?_⟩
    · replace h := h.1 hc
      refine Wp.pk 2 (pc' := 21) (lv' := [some (.int x0)]) (st' := [.int 2, .int x0]) rfl ?_
      refine Wp.icmp_ne rfl rfl ⟨fun hc => ?_, fun hc => ?_⟩
      · replace h := h.1 hc
        refine Wp.pk 2 (pc' := 30) (lv' := [some (.int x0)]) (st' := [.int 3, .int x0]) rfl ?_
        refine Wp.icmp_ne rfl rfl ⟨fun hc => ?_, fun hc => ?_⟩
        · replace h := h.1 hc
          refine Wp.pk 1 (pc' := 40) (lv' := [some (.int x0)]) (st' := [.int 60]) rfl ?_
          exact Wp.iret rfl rfl ⟨rfl, h⟩
        · replace h := h.2 hc
          refine Wp.pk 2 (pc' := 40) (lv' := [some (.int x0)]) (st' := [.int 10]) rfl ?_
          exact Wp.iret rfl rfl ⟨rfl, h⟩
      · replace h := h.2 hc
        refine Wp.pk 2 (pc' := 40) (lv' := [some (.int x0)]) (st' := [.int 3]) rfl ?_
        exact Wp.iret rfl rfl ⟨rfl, h⟩
    · replace h := h.2 hc
      refine Wp.pk 2 (pc' := 40) (lv' := [some (.int x0)]) (st' := [.int 8]) rfl ?_
      exact Wp.iret rfl rfl ⟨rfl, h⟩
  · replace h := h.2 hc
    refine Wp.pk 2 (pc' := 40) (lv' := [some (.int x0)]) (st' := [.int 16]) rfl ?_
    exact Wp.iret rfl rfl ⟨rfl, h⟩
theorem eX9_feed_0 {X : a_X} {m : Nat → Nat → Int32} {Q : Option Value → (Nat → Nat → Int32) → Prop} {x1 : Int32} {x2 : Int64} (h : CallI X mX9_in [.long (Int32.toInt64 x1), .long 1, .long 8] m (fun v2 m1 => (¬ v2 = 0 → (((m1 77 13) + x1) ≤ 300 → Wp X mX9_feed 35 [some (.ref 77), none, some (.long x2), none, some (.int (x1 - 1))] [] m1 Q) ∧ (¬ ((m1 77 13) + x1) ≤ 300 → Q (some (.int (-100000004))) m1)) ∧ (v2 = 0 → Q (some (.int (-100000002))) m1))) : Call X mX9_feed [.ref 77, .int x1, .long x2] m Q := by
  unfold Call
  refine Wp.loc (lv' := [some (.ref 77), some (.int x1), some (.long x2), none, none]) rfl ?_
  refine Wp.pk 3 (pc' := 3) (lv' := [some (.ref 77), some (.int x1), some (.long x2), none, none]) (st' := [.long 1, .long (Int32.toInt64 x1)]) rfl ?_
  refine Wp.ldc2 rfl rfl ?_
  refine Wp.callI rfl rfl rfl (CallI.mono h (fun v2 m1 h => ?_))
  refine Wp.if_ne rfl rfl ⟨fun hc => ?_, fun hc => ?_⟩
  · replace h := h.1 hc
    refine Wp.pk 1 (pc' := 16) (lv' := [some (.ref 77), some (.int x1), some (.long x2), none, none]) (st' := [.ref 77]) rfl ?_
    refine Wp.getI rfl rfl sh77 rfl ?_
    refine Wp.pk 3 (pc' := 24) (lv' := [some (.ref 77), some (.int x1), some (.long x2), none, none]) (st' := [.int 300, .int ((m1 77 13) + x1)]) rfl ?_
    refine Wp.icmp_le rfl rfl ⟨fun hc => ?_, fun hc => ?_⟩
    · replace h := h.1 hc
      refine Wp.pk 4 (pc' := 35) (lv' := [some (.ref 77), some (.int x1), some (.long x2), none, some (.int (x1 - 1))]) (st' := []) rfl ?_
      exact Wp.fgt (lv := [some (.ref 77), none, some (.long x2), none, some (.int (x1 - 1))]) (a_lle.of (a_lleb_e (a_lleb_i (a_lleb_e (a_lleb_e (a_lleb_e trivial)))))) h
    · replace h := h.2 hc
      refine Wp.ldc rfl rfl ?_
      exact Wp.iret rfl rfl ⟨rfl, h⟩
  · replace h := h.2 hc
    refine Wp.ldc rfl rfl ?_
    exact Wp.iret rfl rfl ⟨rfl, h⟩
theorem eX9_feed_35 {X : a_X} {m : Nat → Nat → Int32} {Q : Option Value → (Nat → Nat → Int32) → Prop} {x4 : Int32} {x2 : Int64} (h : (x4 < 0 → Q (some (.int (m 77 13))) m) ∧ (¬ x4 < 0 → vp_in (m 77 13) 300 ∧ ∀ m1, m1 = (a_up m 86 (Int32.toNatClampNeg (m 77 13)) (Int64.toInt32 ((x2 >>> (Int32.toInt64 (8 * x4) &&& 63)) &&& 255))) → ∀ m2, m2 = (a_up m1 77 13 ((m1 77 13) + 1)) → Wp X mX9_feed 35 [some (.ref 77), none, some (.long x2), none, some (.int (x4 + (-1)))] [] m2 Q)) : Wp X mX9_feed 35 [some (.ref 77), none, some (.long x2), none, some (.int x4)] [] m Q := by
  refine Wp.pk 1 (pc' := 37) (lv' := [some (.ref 77), none, some (.long x2), none, some (.int x4)]) (st' := [.int x4]) rfl ?_
  refine Wp.if_lt rfl rfl ⟨fun hc => ?_, fun hc => ?_⟩
  · replace h := h.1 hc
    refine Wp.pk 1 (pc' := 78) (lv' := [some (.ref 77), none, some (.long x2), none, some (.int x4)]) (st' := [.ref 77]) rfl ?_
    refine Wp.getI rfl rfl sh77 rfl ?_
    exact Wp.iret rfl rfl ⟨rfl, h⟩
  · replace h := h.2 hc
    refine Wp.pk 1 (pc' := 41) (lv' := [some (.ref 77), none, some (.long x2), none, some (.int x4)]) (st' := [.ref 77]) rfl ?_
    refine Wp.getR rfl rfl sh77 rfl ?_
    refine Wp.pk 1 (pc' := 45) (lv' := [some (.ref 77), none, some (.long x2), none, some (.int x4)]) (st' := [.ref 77, .ref 86]) rfl ?_
    refine Wp.getI rfl rfl sh77 rfl ?_
    refine Wp.pk 5 (pc' := 55) (lv' := [some (.ref 77), none, some (.long x2), none, some (.int x4)]) (st' := [.long (x2 >>> (Int32.toInt64 (8 * x4) &&& 63)), .int (m 77 13), .ref 86]) rfl ?_
    refine Wp.ldc2 rfl rfl ?_
    refine Wp.pk 2 (pc' := 60) (lv' := [some (.ref 77), none, some (.long x2), none, some (.int x4)]) (st' := [.int (Int64.toInt32 ((x2 >>> (Int32.toInt64 (8 * x4) &&& 63)) &&& 255)), .int (m 77 13), .ref 86]) rfl ?_
    refine Wp.iastN rfl sh86 h.1 (fun m1 hm => ?_)
    replace h := h.2 _ hm
    refine Wp.pk 2 (pc' := 63) (lv' := [some (.ref 77), none, some (.long x2), none, some (.int x4)]) (st' := [.ref 77, .ref 77]) rfl ?_
    refine Wp.getI rfl rfl sh77 rfl ?_
    refine Wp.pk 2 (pc' := 68) (lv' := [some (.ref 77), none, some (.long x2), none, some (.int x4)]) (st' := [.int ((m1 77 13) + 1), .ref 77]) rfl ?_
    refine Wp.putN rfl rfl sh77 rfl rfl (fun m2 hm => ?_)
    replace h := h _ hm
    refine Wp.pk 2 (pc' := 35) (lv' := [some (.ref 77), none, some (.long x2), none, some (.int (x4 + (-1)))]) (st' := []) rfl ?_
    exact h
theorem eX9_here_0 {X : a_X} {m : Nat → Nat → Int32} {Q : Option Value → (Nat → Nat → Int32) → Prop} (h : ((m 77 13) ≤ (m 77 14) → ((m 77 13) ≤ (m 77 14) → Q (some (.int (-1))) m) ∧ (¬ (m 77 13) ≤ (m 77 14) → vp_in (m 77 14) 300 ∧ Q (some (.int (m 86 (Int32.toNatClampNeg (m 77 14))))) m)) ∧ (¬ (m 77 13) ≤ (m 77 14) → vp_in (m 77 14) 300 ∧ (¬ (m 86 (Int32.toNatClampNeg (m 77 14))) = 32 → ((m 77 13) ≤ (m 77 14) → Q (some (.int (-1))) m) ∧ (¬ (m 77 13) ≤ (m 77 14) → vp_in (m 77 14) 300 ∧ Q (some (.int (m 86 (Int32.toNatClampNeg (m 77 14))))) m)) ∧ ((m 86 (Int32.toNatClampNeg (m 77 14))) = 32 → ∀ m1, m1 = (a_up m 77 14 ((m 77 14) + 1)) → Wp X mX9_here 0 [some (.ref 77)] [] m1 Q))) : Wp X mX9_here 0 [some (.ref 77)] [] m Q := by
  refine Wp.pk 1 (pc' := 1) (lv' := [some (.ref 77)]) (st' := [.ref 77]) rfl ?_
  refine Wp.getI rfl rfl sh77 rfl ?_
  refine Wp.pk 1 (pc' := 5) (lv' := [some (.ref 77)]) (st' := [.ref 77, .int (m 77 14)]) rfl ?_
  refine Wp.getI rfl rfl sh77 rfl ?_
  refine Wp.icmp_ge rfl rfl ⟨fun hc => ?_, fun hc => ?_⟩
  · replace h := h.1 hc
    refine Wp.pk 1 (pc' := 39) (lv' := [some (.ref 77)]) (st' := [.ref 77]) rfl ?_
    refine Wp.getI rfl rfl sh77 rfl ?_
    refine Wp.pk 1 (pc' := 43) (lv' := [some (.ref 77)]) (st' := [.ref 77, .int (m 77 14)]) rfl ?_
    refine Wp.getI rfl rfl sh77 rfl ?_
    refine Wp.icmp_ge rfl rfl ⟨fun hc => ?_, fun hc => ?_⟩
    · replace h := h.1 hc
      refine Wp.pk 1 (pc' := 62) (lv' := [some (.ref 77)]) (st' := [.int (-1)]) rfl ?_
      exact Wp.iret rfl rfl ⟨rfl, h⟩
    · replace h := h.2 hc
      refine Wp.pk 1 (pc' := 50) (lv' := [some (.ref 77)]) (st' := [.ref 77]) rfl ?_
      refine Wp.getR rfl rfl sh77 rfl ?_
      refine Wp.pk 1 (pc' := 54) (lv' := [some (.ref 77)]) (st' := [.ref 77, .ref 86]) rfl ?_
      refine Wp.getI rfl rfl sh77 rfl ?_
      refine Wp.iald rfl sh86 ⟨h.1, ?_⟩
      replace h := h.2
      refine Wp.pk 1 (pc' := 62) (lv' := [some (.ref 77)]) (st' := [.int (m 86 (Int32.toNatClampNeg (m 77 14)))]) rfl ?_
      exact Wp.iret rfl rfl ⟨rfl, h⟩
  · replace h := h.2 hc
    refine Wp.pk 1 (pc' := 12) (lv' := [some (.ref 77)]) (st' := [.ref 77]) rfl ?_
    refine Wp.getR rfl rfl sh77 rfl ?_
    refine Wp.pk 1 (pc' := 16) (lv' := [some (.ref 77)]) (st' := [.ref 77, .ref 86]) rfl ?_
    refine Wp.getI rfl rfl sh77 rfl ?_
    refine Wp.iald rfl sh86 ⟨h.1, ?_⟩
    replace h := h.2
    refine Wp.pk 1 (pc' := 22) (lv' := [some (.ref 77)]) (st' := [.int 32, .int (m 86 (Int32.toNatClampNeg (m 77 14)))]) rfl ?_
    refine Wp.icmp_ne rfl rfl ⟨fun hc => ?_, fun hc => ?_⟩
    · replace h := h.1 hc
      refine Wp.pk 1 (pc' := 39) (lv' := [some (.ref 77)]) (st' := [.ref 77]) rfl ?_
      refine Wp.getI rfl rfl sh77 rfl ?_
      refine Wp.pk 1 (pc' := 43) (lv' := [some (.ref 77)]) (st' := [.ref 77, .int (m 77 14)]) rfl ?_
      refine Wp.getI rfl rfl sh77 rfl ?_
      refine Wp.icmp_ge rfl rfl ⟨fun hc => ?_, fun hc => ?_⟩
      · replace h := h.1 hc
        refine Wp.pk 1 (pc' := 62) (lv' := [some (.ref 77)]) (st' := [.int (-1)]) rfl ?_
        exact Wp.iret rfl rfl ⟨rfl, h⟩
      · replace h := h.2 hc
        refine Wp.pk 1 (pc' := 50) (lv' := [some (.ref 77)]) (st' := [.ref 77]) rfl ?_
        refine Wp.getR rfl rfl sh77 rfl ?_
        refine Wp.pk 1 (pc' := 54) (lv' := [some (.ref 77)]) (st' := [.ref 77, .ref 86]) rfl ?_
        refine Wp.getI rfl rfl sh77 rfl ?_
        refine Wp.iald rfl sh86 ⟨h.1, ?_⟩
        replace h := h.2
        refine Wp.pk 1 (pc' := 62) (lv' := [some (.ref 77)]) (st' := [.int (m 86 (Int32.toNatClampNeg (m 77 14)))]) rfl ?_
        exact Wp.iret rfl rfl ⟨rfl, h⟩
    · replace h := h.2 hc
      refine Wp.pk 2 (pc' := 27) (lv' := [some (.ref 77)]) (st' := [.ref 77, .ref 77]) rfl ?_
      refine Wp.getI rfl rfl sh77 rfl ?_
      refine Wp.pk 2 (pc' := 32) (lv' := [some (.ref 77)]) (st' := [.int ((m 77 14) + 1), .ref 77]) rfl ?_
      refine Wp.putN rfl rfl sh77 rfl rfl (fun m1 hm => ?_)
      replace h := h _ hm
      refine Wp.pk 1 (pc' := 0) (lv' := [some (.ref 77)]) (st' := []) rfl ?_
      exact h
theorem eX9_want_0 {X : a_X} {m : Nat → Nat → Int32} {Q : Option Value → (Nat → Nat → Int32) → Prop} {x1 x2 x3 : Int32} (h : (¬ x1 = 0 → (¬ (m 77 17) = 0 → Q (some (.int 0)) m) ∧ ((m 77 17) = 0 → Q (some (.int 1)) m)) ∧ (x1 = 0 → (¬ (m 77 17) = 0 → (¬ (m 77 17) = 0 → Q (some (.int 0)) m) ∧ ((m 77 17) = 0 → Q (some (.int 1)) m)) ∧ ((m 77 17) = 0 → ∀ m1, m1 = (a_up m 77 17 x2) → ∀ m2, m2 = (a_up m1 77 18 x3) → (¬ (m2 77 17) = 0 → Q (some (.int 0)) m2) ∧ ((m2 77 17) = 0 → Q (some (.int 1)) m2)))) : Call X mX9_want [.ref 77, .int x1, .int x2, .int x3] m Q := by
  unfold Call
  refine Wp.loc (lv' := [some (.ref 77), some (.int x1), some (.int x2), some (.int x3)]) rfl ?_
  refine Wp.pk 1 (pc' := 1) (lv' := [some (.ref 77), some (.int x1), some (.int x2), some (.int x3)]) (st' := [.int x1]) rfl ?_
  refine Wp.if_ne rfl rfl ⟨fun hc => ?_, fun hc => ?_⟩
  · replace h := h.1 hc
    refine Wp.pk 1 (pc' := 22) (lv' := [some (.ref 77), some (.int x1), some (.int x2), some (.int x3)]) (st' := [.ref 77]) rfl ?_
    refine Wp.getI rfl rfl sh77 rfl ?_
    refine Wp.if_ne rfl rfl ⟨fun hc => ?_, fun hc => ?_⟩
    · replace h := h.1 hc
      refine Wp.pk 1 (pc' := 33) (lv' := [some (.ref 77), some (.int x1), some (.int x2), some (.int x3)]) (st' := [.int 0]) rfl ?_
      exact Wp.iret rfl rfl ⟨rfl, h⟩
    · replace h := h.2 hc
      refine Wp.pk 2 (pc' := 33) (lv' := [some (.ref 77), some (.int x1), some (.int x2), some (.int x3)]) (st' := [.int 1]) rfl ?_
      exact Wp.iret rfl rfl ⟨rfl, h⟩
  · replace h := h.2 hc
    refine Wp.pk 1 (pc' := 5) (lv' := [some (.ref 77), some (.int x1), some (.int x2), some (.int x3)]) (st' := [.ref 77]) rfl ?_
    refine Wp.getI rfl rfl sh77 rfl ?_
    refine Wp.if_ne rfl rfl ⟨fun hc => ?_, fun hc => ?_⟩
    · replace h := h.1 hc
      refine Wp.pk 1 (pc' := 22) (lv' := [some (.ref 77), some (.int x1), some (.int x2), some (.int x3)]) (st' := [.ref 77]) rfl ?_
      refine Wp.getI rfl rfl sh77 rfl ?_
      refine Wp.if_ne rfl rfl ⟨fun hc => ?_, fun hc => ?_⟩
      · replace h := h.1 hc
        refine Wp.pk 1 (pc' := 33) (lv' := [some (.ref 77), some (.int x1), some (.int x2), some (.int x3)]) (st' := [.int 0]) rfl ?_
        exact Wp.iret rfl rfl ⟨rfl, h⟩
      · replace h := h.2 hc
        refine Wp.pk 2 (pc' := 33) (lv' := [some (.ref 77), some (.int x1), some (.int x2), some (.int x3)]) (st' := [.int 1]) rfl ?_
        exact Wp.iret rfl rfl ⟨rfl, h⟩
    · replace h := h.2 hc
      refine Wp.pk 2 (pc' := 13) (lv' := [some (.ref 77), some (.int x1), some (.int x2), some (.int x3)]) (st' := [.int x2, .ref 77]) rfl ?_
      refine Wp.putN rfl rfl sh77 rfl rfl (fun m1 hm => ?_)
      replace h := h _ hm
      refine Wp.pk 2 (pc' := 18) (lv' := [some (.ref 77), some (.int x1), some (.int x2), some (.int x3)]) (st' := [.int x3, .ref 77]) rfl ?_
      refine Wp.putN rfl rfl sh77 rfl rfl (fun m2 hm => ?_)
      replace h := h _ hm
      refine Wp.pk 1 (pc' := 22) (lv' := [some (.ref 77), some (.int x1), some (.int x2), some (.int x3)]) (st' := [.ref 77]) rfl ?_
      refine Wp.getI rfl rfl sh77 rfl ?_
      refine Wp.if_ne rfl rfl ⟨fun hc => ?_, fun hc => ?_⟩
      · replace h := h.1 hc
        refine Wp.pk 1 (pc' := 33) (lv' := [some (.ref 77), some (.int x1), some (.int x2), some (.int x3)]) (st' := [.int 0]) rfl ?_
        exact Wp.iret rfl rfl ⟨rfl, h⟩
      · replace h := h.2 hc
        refine Wp.pk 2 (pc' := 33) (lv' := [some (.ref 77), some (.int x1), some (.int x2), some (.int x3)]) (st' := [.int 1]) rfl ?_
        exact Wp.iret rfl rfl ⟨rfl, h⟩
theorem eX9_takeWord_0 {X : a_X} {m : Nat → Nat → Int32} {Q : Option Value → (Nat → Nat → Int32) → Prop} (h : CallI X mX9_here [.ref 77] m (fun v2 m1 => ∀ m3, m3 = (a_up m1 77 15 (m1 77 14)) → Wp X mX9_takeWord 13 [some (.ref 77), none] [] m3 Q)) : Call X mX9_takeWord [.ref 77] m Q := by
  unfold Call
  refine Wp.loc (lv' := [some (.ref 77), none]) rfl ?_
  refine Wp.pk 1 (pc' := 1) (lv' := [some (.ref 77), none]) (st' := [.ref 77]) rfl ?_
  refine Wp.callI rfl rfl rfl (CallI.mono h (fun v2 m1 h => ?_))
  refine Wp.pk 3 (pc' := 7) (lv' := [some (.ref 77), some (.int v2)]) (st' := [.ref 77, .ref 77]) rfl ?_
  refine Wp.getI rfl rfl sh77 rfl ?_
  refine Wp.putN rfl rfl sh77 rfl rfl (fun m3 hm => ?_)
  replace h := h _ hm
  exact Wp.fgt (lv := [some (.ref 77), none]) (a_lle.of (a_lleb_e (a_lleb_i trivial))) h
theorem eX9_takeWord_13 {X : a_X} {m : Nat → Nat → Int32} {Q : Option Value → (Nat → Nat → Int32) → Prop} (h : ((m 77 13) ≤ (m 77 14) → ∀ m1, m1 = (a_up m 77 16 ((m 77 14) - (m 77 15))) → Q none m1) ∧ (¬ (m 77 13) ≤ (m 77 14) → vp_in (m 77 14) 300 ∧ CallI X mX9_in [.long (Int32.toInt64 (m 86 (Int32.toNatClampNeg (m 77 14)))), .long 97, .long 122] m (fun v3 m2 => (v3 = 0 → ∀ m4, m4 = (a_up m2 77 16 ((m2 77 14) - (m2 77 15))) → Q none m4) ∧ (¬ v3 = 0 → ∀ m5, m5 = (a_up m2 77 14 ((m2 77 14) + 1)) → Wp X mX9_takeWord 13 [some (.ref 77), none] [] m5 Q)))) : Wp X mX9_takeWord 13 [some (.ref 77), none] [] m Q := by
  refine Wp.pk 1 (pc' := 14) (lv' := [some (.ref 77), none]) (st' := [.ref 77]) rfl ?_
  refine Wp.getI rfl rfl sh77 rfl ?_
  refine Wp.pk 1 (pc' := 18) (lv' := [some (.ref 77), none]) (st' := [.ref 77, .int (m 77 14)]) rfl ?_
  refine Wp.getI rfl rfl sh77 rfl ?_
  refine Wp.icmp_ge rfl rfl ⟨fun hc => ?_, fun hc => ?_⟩
  · replace h := h.1 hc
    refine Wp.pk 2 (pc' := 61) (lv' := [some (.ref 77), none]) (st' := [.ref 77, .ref 77]) rfl ?_
    refine Wp.getI rfl rfl sh77 rfl ?_
    refine Wp.pk 1 (pc' := 65) (lv' := [some (.ref 77), none]) (st' := [.ref 77, .int (m 77 14), .ref 77]) rfl ?_
    refine Wp.getI rfl rfl sh77 rfl ?_
    refine Wp.pk 1 (pc' := 69) (lv' := [some (.ref 77), none]) (st' := [.int ((m 77 14) - (m 77 15)), .ref 77]) rfl ?_
    refine Wp.putN rfl rfl sh77 rfl rfl (fun m1 hm => ?_)
    replace h := h _ hm
    exact Wp.vret rfl rfl h
  · replace h := h.2 hc
    refine Wp.pk 1 (pc' := 25) (lv' := [some (.ref 77), none]) (st' := [.ref 77]) rfl ?_
    refine Wp.getR rfl rfl sh77 rfl ?_
    refine Wp.pk 1 (pc' := 29) (lv' := [some (.ref 77), none]) (st' := [.ref 77, .ref 86]) rfl ?_
    refine Wp.getI rfl rfl sh77 rfl ?_
    refine Wp.iald rfl sh86 ⟨h.1, ?_⟩
    replace h := h.2
    refine Wp.pk 1 (pc' := 34) (lv' := [some (.ref 77), none]) (st' := [.long (Int32.toInt64 (m 86 (Int32.toNatClampNeg (m 77 14))))]) rfl ?_
    refine Wp.ldc2 rfl rfl ?_
    refine Wp.ldc2 rfl rfl ?_
    refine Wp.callI rfl rfl rfl (CallI.mono h (fun v3 m2 h => ?_))
    refine Wp.if_eq rfl rfl ⟨fun hc => ?_, fun hc => ?_⟩
    · replace h := h.1 hc
      refine Wp.pk 2 (pc' := 61) (lv' := [some (.ref 77), none]) (st' := [.ref 77, .ref 77]) rfl ?_
      refine Wp.getI rfl rfl sh77 rfl ?_
      refine Wp.pk 1 (pc' := 65) (lv' := [some (.ref 77), none]) (st' := [.ref 77, .int (m2 77 14), .ref 77]) rfl ?_
      refine Wp.getI rfl rfl sh77 rfl ?_
      refine Wp.pk 1 (pc' := 69) (lv' := [some (.ref 77), none]) (st' := [.int ((m2 77 14) - (m2 77 15)), .ref 77]) rfl ?_
      refine Wp.putN rfl rfl sh77 rfl rfl (fun m4 hm => ?_)
      replace h := h _ hm
      exact Wp.vret rfl rfl h
    · replace h := h.2 hc
      refine Wp.pk 2 (pc' := 48) (lv' := [some (.ref 77), none]) (st' := [.ref 77, .ref 77]) rfl ?_
      refine Wp.getI rfl rfl sh77 rfl ?_
      refine Wp.pk 2 (pc' := 53) (lv' := [some (.ref 77), none]) (st' := [.int ((m2 77 14) + 1), .ref 77]) rfl ?_
      refine Wp.putN rfl rfl sh77 rfl rfl (fun m5 hm => ?_)
      replace h := h _ hm
      refine Wp.pk 1 (pc' := 13) (lv' := [some (.ref 77), none]) (st' := []) rfl ?_
      exact h
theorem eX9_isWord_0 {X : a_X} {m : Nat → Nat → Int32} {Q : Option Value → (Nat → Nat → Int32) → Prop} {x1 x2 x3 x4 x5 x6 : Int32} (h : (¬ (m 77 16) = x1 → Wp X mX9_isWord 18 [some (.ref 77), some (.int x1), some (.int x2), some (.int x3), some (.int x4), some (.int x5), some (.int x6), some (.int 0), some (.int 0)] [] m Q) ∧ ((m 77 16) = x1 → Wp X mX9_isWord 18 [some (.ref 77), some (.int x1), some (.int x2), some (.int x3), some (.int x4), some (.int x5), some (.int x6), some (.int 1), some (.int 0)] [] m Q)) : Call X mX9_isWord [.ref 77, .int x1, .int x2, .int x3, .int x4, .int x5, .int x6] m Q := by
  unfold Call
  refine Wp.loc (lv' := [some (.ref 77), some (.int x1), some (.int x2), some (.int x3), some (.int x4), some (.int x5), some (.int x6), none, none]) rfl ?_
  refine Wp.pk 1 (pc' := 1) (lv' := [some (.ref 77), some (.int x1), some (.int x2), some (.int x3), some (.int x4), some (.int x5), some (.int x6), none, none]) (st' := [.ref 77]) rfl ?_
  refine Wp.getI rfl rfl sh77 rfl ?_
  refine Wp.pk 1 (pc' := 5) (lv' := [some (.ref 77), some (.int x1), some (.int x2), some (.int x3), some (.int x4), some (.int x5), some (.int x6), none, none]) (st' := [.int x1, .int (m 77 16)]) rfl ?_
  refine Wp.icmp_ne rfl rfl ⟨fun hc => ?_, fun hc => ?_⟩
  · replace h := h.1 hc
    refine Wp.pk 4 (pc' := 18) (lv' := [some (.ref 77), some (.int x1), some (.int x2), some (.int x3), some (.int x4), some (.int x5), some (.int x6), some (.int 0), some (.int 0)]) (st' := []) rfl ?_
    exact h
  · replace h := h.2 hc
    refine Wp.pk 5 (pc' := 18) (lv' := [some (.ref 77), some (.int x1), some (.int x2), some (.int x3), some (.int x4), some (.int x5), some (.int x6), some (.int 1), some (.int 0)]) (st' := []) rfl ?_
    exact h
theorem eX9_isWord_18 {X : a_X} {m : Nat → Nat → Int32} {Q : Option Value → (Nat → Nat → Int32) → Prop} {x1 x2 x3 x4 x5 x6 x7 x8 : Int32} (h : (x1 ≤ x8 → a_fit .boolean x7 = true ∧ Q (some (.int x7)) m) ∧ (¬ x1 ≤ x8 → (x7 = 0 → a_fit .boolean x7 = true ∧ Q (some (.int x7)) m) ∧ (¬ x7 = 0 → vp_in ((m 77 15) + x8) 300 ∧ (¬ x8 = 0 → (¬ x8 = 1 → (¬ x8 = 2 → (¬ x8 = 3 → (¬ (m 86 (Int32.toNatClampNeg ((m 77 15) + x8))) = x6 → Wp X mX9_isWord 18 [some (.ref 77), some (.int x1), some (.int x2), some (.int x3), some (.int x4), some (.int x5), some (.int x6), some (.int 0), some (.int (x8 + 1))] [] m Q) ∧ ((m 86 (Int32.toNatClampNeg ((m 77 15) + x8))) = x6 → Wp X mX9_isWord 18 [some (.ref 77), some (.int x1), some (.int x2), some (.int x3), some (.int x4), some (.int x5), some (.int x6), some (.int 1), some (.int (x8 + 1))] [] m Q)) ∧ (x8 = 3 → (¬ (m 86 (Int32.toNatClampNeg ((m 77 15) + x8))) = x5 → Wp X mX9_isWord 18 [some (.ref 77), some (.int x1), some (.int x2), some (.int x3), some (.int x4), some (.int x5), some (.int x6), some (.int 0), some (.int (x8 + 1))] [] m Q) ∧ ((m 86 (Int32.toNatClampNeg ((m 77 15) + x8))) = x5 → Wp X mX9_isWord 18 [some (.ref 77), some (.int x1), some (.int x2), some (.int x3), some (.int x4), some (.int x5), some (.int x6), some (.int 1), some (.int (x8 + 1))] [] m Q))) ∧ (x8 = 2 → (¬ (m 86 (Int32.toNatClampNeg ((m 77 15) + x8))) = x4 → Wp X mX9_isWord 18 [some (.ref 77), some (.int x1), some (.int x2), some (.int x3), some (.int x4), some (.int x5), some (.int x6), some (.int 0), some (.int (x8 + 1))] [] m Q) ∧ ((m 86 (Int32.toNatClampNeg ((m 77 15) + x8))) = x4 → Wp X mX9_isWord 18 [some (.ref 77), some (.int x1), some (.int x2), some (.int x3), some (.int x4), some (.int x5), some (.int x6), some (.int 1), some (.int (x8 + 1))] [] m Q))) ∧ (x8 = 1 → (¬ (m 86 (Int32.toNatClampNeg ((m 77 15) + x8))) = x3 → Wp X mX9_isWord 18 [some (.ref 77), some (.int x1), some (.int x2), some (.int x3), some (.int x4), some (.int x5), some (.int x6), some (.int 0), some (.int (x8 + 1))] [] m Q) ∧ ((m 86 (Int32.toNatClampNeg ((m 77 15) + x8))) = x3 → Wp X mX9_isWord 18 [some (.ref 77), some (.int x1), some (.int x2), some (.int x3), some (.int x4), some (.int x5), some (.int x6), some (.int 1), some (.int (x8 + 1))] [] m Q))) ∧ (x8 = 0 → (¬ (m 86 (Int32.toNatClampNeg ((m 77 15) + x8))) = x2 → Wp X mX9_isWord 18 [some (.ref 77), some (.int x1), some (.int x2), some (.int x3), some (.int x4), some (.int x5), some (.int x6), some (.int 0), some (.int (x8 + 1))] [] m Q) ∧ ((m 86 (Int32.toNatClampNeg ((m 77 15) + x8))) = x2 → Wp X mX9_isWord 18 [some (.ref 77), some (.int x1), some (.int x2), some (.int x3), some (.int x4), some (.int x5), some (.int x6), some (.int 1), some (.int (x8 + 1))] [] m Q))))) : Wp X mX9_isWord 18 [some (.ref 77), some (.int x1), some (.int x2), some (.int x3), some (.int x4), some (.int x5), some (.int x6), some (.int x7), some (.int x8)] [] m Q := by
  refine Wp.pk 2 (pc' := 21) (lv' := [some (.ref 77), some (.int x1), some (.int x2), some (.int x3), some (.int x4), some (.int x5), some (.int x6), some (.int x7), some (.int x8)]) (st' := [.int x1, .int x8]) rfl ?_
  refine Wp.icmp_ge rfl rfl ⟨fun hc => ?_, fun hc => ?_⟩
  · replace h := h.1 hc
    refine Wp.pk 1 (pc' := 102) (lv' := [some (.ref 77), some (.int x1), some (.int x2), some (.int x3), some (.int x4), some (.int x5), some (.int x6), some (.int x7), some (.int x8)]) (st' := [.int x7]) rfl ?_
    exact Wp.iret rfl rfl h
  · replace h := h.2 hc
    refine Wp.pk 1 (pc' := 26) (lv' := [some (.ref 77), some (.int x1), some (.int x2), some (.int x3), some (.int x4), some (.int x5), some (.int x6), some (.int x7), some (.int x8)]) (st' := [.int x7]) rfl ?_
    refine Wp.if_eq rfl rfl ⟨fun hc => ?_, fun hc => ?_⟩
    · replace h := h.1 hc
      refine Wp.pk 1 (pc' := 102) (lv' := [some (.ref 77), some (.int x1), some (.int x2), some (.int x3), some (.int x4), some (.int x5), some (.int x6), some (.int x7), some (.int x8)]) (st' := [.int x7]) rfl ?_
      exact Wp.iret rfl rfl h
    · replace h := h.2 hc
      refine Wp.pk 1 (pc' := 30) (lv' := [some (.ref 77), some (.int x1), some (.int x2), some (.int x3), some (.int x4), some (.int x5), some (.int x6), some (.int x7), some (.int x8)]) (st' := [.ref 77]) rfl ?_
      refine Wp.getR rfl rfl sh77 rfl ?_
      refine Wp.pk 1 (pc' := 34) (lv' := [some (.ref 77), some (.int x1), some (.int x2), some (.int x3), some (.int x4), some (.int x5), some (.int x6), some (.int x7), some (.int x8)]) (st' := [.ref 77, .ref 86]) rfl ?_
      refine Wp.getI rfl rfl sh77 rfl ?_
      refine Wp.pk 2 (pc' := 40) (lv' := [some (.ref 77), some (.int x1), some (.int x2), some (.int x3), some (.int x4), some (.int x5), some (.int x6), some (.int x7), some (.int x8)]) (st' := [.int ((m 77 15) + x8), .ref 86]) rfl ?_
      refine Wp.iald rfl sh86 ⟨h.1, ?_⟩
      replace h := h.2
      refine Wp.pk 1 (pc' := 43) (lv' := [some (.ref 77), some (.int x1), some (.int x2), some (.int x3), some (.int x4), some (.int x5), some (.int x6), some (.int x7), some (.int x8)]) (st' := [.int x8, .int (m 86 (Int32.toNatClampNeg ((m 77 15) + x8)))]) rfl ?_
      refine Wp.if_ne rfl rfl ⟨fun hc => ?_, fun hc => ?_⟩
      · replace h := h.1 hc
        refine Wp.pk 2 (pc' := 53) (lv' := [some (.ref 77), some (.int x1), some (.int x2), some (.int x3), some (.int x4), some (.int x5), some (.int x6), some (.int x7), some (.int x8)]) (st' := [.int 1, .int x8, .int (m 86 (Int32.toNatClampNeg ((m 77 15) + x8)))]) rfl ?_
        refine Wp.icmp_ne rfl rfl ⟨fun hc => ?_, fun hc => ?_⟩
        · replace h := h.1 hc
          refine Wp.pk 2 (pc' := 63) (lv' := [some (.ref 77), some (.int x1), some (.int x2), some (.int x3), some (.int x4), some (.int x5), some (.int x6), some (.int x7), some (.int x8)]) (st' := [.int 2, .int x8, .int (m 86 (Int32.toNatClampNeg ((m 77 15) + x8)))]) rfl ?_
          refine Wp.icmp_ne rfl rfl ⟨fun hc => ?_, fun hc => ?_⟩
          · replace h := h.1 hc
            refine Wp.pk 2 (pc' := 74) (lv' := [some (.ref 77), some (.int x1), some (.int x2), some (.int x3), some (.int x4), some (.int x5), some (.int x6), some (.int x7), some (.int x8)]) (st' := [.int 3, .int x8, .int (m 86 (Int32.toNatClampNeg ((m 77 15) + x8)))]) rfl ?_
            refine Wp.icmp_ne rfl rfl ⟨fun hc => ?_, fun hc => ?_⟩
            · replace h := h.1 hc
              refine Wp.pk 1 (pc' := 84) (lv' := [some (.ref 77), some (.int x1), some (.int x2), some (.int x3), some (.int x4), some (.int x5), some (.int x6), some (.int x7), some (.int x8)]) (st' := [.int x6, .int (m 86 (Int32.toNatClampNeg ((m 77 15) + x8)))]) rfl ?_
              refine Wp.icmp_ne rfl rfl ⟨fun hc => ?_, fun hc => ?_⟩
              · replace h := h.1 hc
                refine Wp.pk 4 (pc' := 18) (lv' := [some (.ref 77), some (.int x1), some (.int x2), some (.int x3), some (.int x4), some (.int x5), some (.int x6), some (.int 0), some (.int (x8 + 1))]) (st' := []) rfl ?_
                exact h
              · replace h := h.2 hc
                refine Wp.pk 5 (pc' := 18) (lv' := [some (.ref 77), some (.int x1), some (.int x2), some (.int x3), some (.int x4), some (.int x5), some (.int x6), some (.int 1), some (.int (x8 + 1))]) (st' := []) rfl ?_
                exact h
            · replace h := h.2 hc
              refine Wp.pk 2 (pc' := 84) (lv' := [some (.ref 77), some (.int x1), some (.int x2), some (.int x3), some (.int x4), some (.int x5), some (.int x6), some (.int x7), some (.int x8)]) (st' := [.int x5, .int (m 86 (Int32.toNatClampNeg ((m 77 15) + x8)))]) rfl ?_
              refine Wp.icmp_ne rfl rfl ⟨fun hc => ?_, fun hc => ?_⟩
              · replace h := h.1 hc
                refine Wp.pk 4 (pc' := 18) (lv' := [some (.ref 77), some (.int x1), some (.int x2), some (.int x3), some (.int x4), some (.int x5), some (.int x6), some (.int 0), some (.int (x8 + 1))]) (st' := []) rfl ?_
                exact h
              · replace h := h.2 hc
                refine Wp.pk 5 (pc' := 18) (lv' := [some (.ref 77), some (.int x1), some (.int x2), some (.int x3), some (.int x4), some (.int x5), some (.int x6), some (.int 1), some (.int (x8 + 1))]) (st' := []) rfl ?_
                exact h
          · replace h := h.2 hc
            refine Wp.pk 2 (pc' := 84) (lv' := [some (.ref 77), some (.int x1), some (.int x2), some (.int x3), some (.int x4), some (.int x5), some (.int x6), some (.int x7), some (.int x8)]) (st' := [.int x4, .int (m 86 (Int32.toNatClampNeg ((m 77 15) + x8)))]) rfl ?_
            refine Wp.icmp_ne rfl rfl ⟨fun hc => ?_, fun hc => ?_⟩
            · replace h := h.1 hc
              refine Wp.pk 4 (pc' := 18) (lv' := [some (.ref 77), some (.int x1), some (.int x2), some (.int x3), some (.int x4), some (.int x5), some (.int x6), some (.int 0), some (.int (x8 + 1))]) (st' := []) rfl ?_
              exact h
            · replace h := h.2 hc
              refine Wp.pk 5 (pc' := 18) (lv' := [some (.ref 77), some (.int x1), some (.int x2), some (.int x3), some (.int x4), some (.int x5), some (.int x6), some (.int 1), some (.int (x8 + 1))]) (st' := []) rfl ?_
              exact h
        · replace h := h.2 hc
          refine Wp.pk 2 (pc' := 84) (lv' := [some (.ref 77), some (.int x1), some (.int x2), some (.int x3), some (.int x4), some (.int x5), some (.int x6), some (.int x7), some (.int x8)]) (st' := [.int x3, .int (m 86 (Int32.toNatClampNeg ((m 77 15) + x8)))]) rfl ?_
          refine Wp.icmp_ne rfl rfl ⟨fun hc => ?_, fun hc => ?_⟩
          · replace h := h.1 hc
            refine Wp.pk 4 (pc' := 18) (lv' := [some (.ref 77), some (.int x1), some (.int x2), some (.int x3), some (.int x4), some (.int x5), some (.int x6), some (.int 0), some (.int (x8 + 1))]) (st' := []) rfl ?_
            exact h
          · replace h := h.2 hc
            refine Wp.pk 5 (pc' := 18) (lv' := [some (.ref 77), some (.int x1), some (.int x2), some (.int x3), some (.int x4), some (.int x5), some (.int x6), some (.int 1), some (.int (x8 + 1))]) (st' := []) rfl ?_
            exact h
      · replace h := h.2 hc
        refine Wp.pk 2 (pc' := 84) (lv' := [some (.ref 77), some (.int x1), some (.int x2), some (.int x3), some (.int x4), some (.int x5), some (.int x6), some (.int x7), some (.int x8)]) (st' := [.int x2, .int (m 86 (Int32.toNatClampNeg ((m 77 15) + x8)))]) rfl ?_
        refine Wp.icmp_ne rfl rfl ⟨fun hc => ?_, fun hc => ?_⟩
        · replace h := h.1 hc
          refine Wp.pk 4 (pc' := 18) (lv' := [some (.ref 77), some (.int x1), some (.int x2), some (.int x3), some (.int x4), some (.int x5), some (.int x6), some (.int 0), some (.int (x8 + 1))]) (st' := []) rfl ?_
          exact h
        · replace h := h.2 hc
          refine Wp.pk 5 (pc' := 18) (lv' := [some (.ref 77), some (.int x1), some (.int x2), some (.int x3), some (.int x4), some (.int x5), some (.int x6), some (.int 1), some (.int (x8 + 1))]) (st' := []) rfl ?_
          exact h
theorem eX9_takeNumber_0 {X : a_X} {m : Nat → Nat → Int32} {Q : Option Value → (Nat → Nat → Int32) → Prop} {x1 x2 : Int32} (h : ((m 77 17) ≤ 0 → CallI X mX9_here [.ref 77] m (fun v2 m1 => ∀ m3, m3 = (a_up m1 77 15 (m1 77 14)) → CallI X mX9_in [.long (Int32.toInt64 v2), .long 48, .long 57] m3 (fun v5 m4 => CallI X mX9_want [.ref 77, .int v5, .int 1, .int (m4 77 14)] m4 (fun v7 m6 => (¬ v7 = 0 → Wp X mX9_takeNumber 50 [some (.ref 77), some (.int x1), some (.int x2), none, some (.int 0), none] [] m6 Q) ∧ (v7 = 0 → Q (some (.int 0)) m6))))) ∧ (¬ (m 77 17) ≤ 0 → Q (some (.int 0)) m)) : Call X mX9_takeNumber [.ref 77, .int x1, .int x2] m Q := by
  unfold Call
  refine Wp.loc (lv' := [some (.ref 77), some (.int x1), some (.int x2), none, none, none]) rfl ?_
  refine Wp.pk 1 (pc' := 1) (lv' := [some (.ref 77), some (.int x1), some (.int x2), none, none, none]) (st' := [.ref 77]) rfl ?_
  refine Wp.getI rfl rfl sh77 rfl ?_
  refine Wp.if_le rfl rfl ⟨fun hc => ?_, fun hc => ?_⟩
  · replace h := h.1 hc
    refine Wp.pk 1 (pc' := 10) (lv' := [some (.ref 77), some (.int x1), some (.int x2), none, none, none]) (st' := [.ref 77]) rfl ?_
    refine Wp.callI rfl rfl rfl (CallI.mono h (fun v2 m1 h => ?_))
    refine Wp.pk 3 (pc' := 16) (lv' := [some (.ref 77), some (.int x1), some (.int x2), some (.int v2), none, none]) (st' := [.ref 77, .ref 77]) rfl ?_
    refine Wp.getI rfl rfl sh77 rfl ?_
    refine Wp.putN rfl rfl sh77 rfl rfl (fun m3 hm => ?_)
    replace h := h _ hm
    refine Wp.pk 3 (pc' := 25) (lv' := [some (.ref 77), some (.int x1), some (.int x2), some (.int v2), none, none]) (st' := [.long (Int32.toInt64 v2), .ref 77]) rfl ?_
    refine Wp.ldc2 rfl rfl ?_
    refine Wp.ldc2 rfl rfl ?_
    refine Wp.callI rfl rfl rfl (CallI.mono h (fun v5 m4 h => ?_))
    refine Wp.pk 2 (pc' := 36) (lv' := [some (.ref 77), some (.int x1), some (.int x2), some (.int v2), none, none]) (st' := [.ref 77, .int 1, .int v5, .ref 77]) rfl ?_
    refine Wp.getI rfl rfl sh77 rfl ?_
    refine Wp.callI rfl rfl rfl (CallI.mono h (fun v7 m6 h => ?_))
    refine Wp.if_ne rfl rfl ⟨fun hc => ?_, fun hc => ?_⟩
    · replace h := h.1 hc
      refine Wp.pk 2 (pc' := 50) (lv' := [some (.ref 77), some (.int x1), some (.int x2), some (.int v2), some (.int 0), none]) (st' := []) rfl ?_
      exact Wp.fgt (lv := [some (.ref 77), some (.int x1), some (.int x2), none, some (.int 0), none]) (a_lle.of (a_lleb_e (a_lleb_e (a_lleb_e (a_lleb_i (a_lleb_e (a_lleb_e trivial))))))) h
    · replace h := h.2 hc
      refine Wp.pk 1 (pc' := 46) (lv' := [some (.ref 77), some (.int x1), some (.int x2), some (.int v2), none, none]) (st' := [.int 0]) rfl ?_
      exact Wp.iret rfl rfl ⟨rfl, h⟩
  · replace h := h.2 hc
    refine Wp.pk 1 (pc' := 8) (lv' := [some (.ref 77), some (.int x1), some (.int x2), none, none, none]) (st' := [.int 0]) rfl ?_
    exact Wp.iret rfl rfl ⟨rfl, h⟩
theorem eX9_takeNumber_50 {X : a_X} {m : Nat → Nat → Int32} {Q : Option Value → (Nat → Nat → Int32) → Prop} {x1 x2 x4 : Int32} (h : ((m 77 13) ≤ (m 77 14) → (4 ≤ ((m 77 14) - (m 77 15)) → CallI X mX9_want [.ref 77, .int 0, .int 2, .int (m 77 15)] m (fun v2 m1 => Q (some (.int x4)) m1)) ∧ (¬ 4 ≤ ((m 77 14) - (m 77 15)) → CallI X mX9_in [.long (Int32.toInt64 x4), .long (Int32.toInt64 x1), .long (Int32.toInt64 x2)] m (fun v4 m3 => (v4 = 0 → CallI X mX9_want [.ref 77, .int 0, .int 2, .int (m3 77 15)] m3 (fun v6 m5 => Q (some (.int x4)) m5)) ∧ (¬ v4 = 0 → CallI X mX9_want [.ref 77, .int 1, .int 2, .int (m3 77 15)] m3 (fun v8 m7 => Q (some (.int x4)) m7))))) ∧ (¬ (m 77 13) ≤ (m 77 14) → vp_in (m 77 14) 300 ∧ CallI X mX9_in [.long (Int32.toInt64 (m 86 (Int32.toNatClampNeg (m 77 14)))), .long 48, .long 57] m (fun v10 m9 => (v10 = 0 → (4 ≤ ((m9 77 14) - (m9 77 15)) → CallI X mX9_want [.ref 77, .int 0, .int 2, .int (m9 77 15)] m9 (fun v12 m11 => Q (some (.int x4)) m11)) ∧ (¬ 4 ≤ ((m9 77 14) - (m9 77 15)) → CallI X mX9_in [.long (Int32.toInt64 x4), .long (Int32.toInt64 x1), .long (Int32.toInt64 x2)] m9 (fun v14 m13 => (v14 = 0 → CallI X mX9_want [.ref 77, .int 0, .int 2, .int (m13 77 15)] m13 (fun v16 m15 => Q (some (.int x4)) m15)) ∧ (¬ v14 = 0 → CallI X mX9_want [.ref 77, .int 1, .int 2, .int (m13 77 15)] m13 (fun v18 m17 => Q (some (.int x4)) m17))))) ∧ (¬ v10 = 0 → (x4 ≤ 99999 → vp_in (m9 77 14) 300 ∧ ∀ m19, m19 = (a_up m9 77 14 ((m9 77 14) + 1)) → Wp X mX9_takeNumber 50 [some (.ref 77), some (.int x1), some (.int x2), none, some (.int (((10 * x4) + (m9 86 (Int32.toNatClampNeg (m9 77 14)))) - 48)), none] [] m19 Q) ∧ (¬ x4 ≤ 99999 → ∀ m20, m20 = (a_up m9 77 14 ((m9 77 14) + 1)) → Wp X mX9_takeNumber 50 [some (.ref 77), some (.int x1), some (.int x2), none, some (.int x4), none] [] m20 Q))))) : Wp X mX9_takeNumber 50 [some (.ref 77), some (.int x1), some (.int x2), none, some (.int x4), none] [] m Q := by
  refine Wp.pk 1 (pc' := 51) (lv' := [some (.ref 77), some (.int x1), some (.int x2), none, some (.int x4), none]) (st' := [.ref 77]) rfl ?_
  refine Wp.getI rfl rfl sh77 rfl ?_
  refine Wp.pk 1 (pc' := 55) (lv' := [some (.ref 77), some (.int x1), some (.int x2), none, some (.int x4), none]) (st' := [.ref 77, .int (m 77 14)]) rfl ?_
  refine Wp.getI rfl rfl sh77 rfl ?_
  refine Wp.icmp_ge rfl rfl ⟨fun hc => ?_, fun hc => ?_⟩
  · replace h := h.1 hc
    refine Wp.pk 2 (pc' := 130) (lv' := [some (.ref 77), some (.int x1), some (.int x2), none, some (.int x4), none]) (st' := [.ref 77, .ref 77]) rfl ?_
    refine Wp.getI rfl rfl sh77 rfl ?_
    refine Wp.pk 1 (pc' := 134) (lv' := [some (.ref 77), some (.int x1), some (.int x2), none, some (.int x4), none]) (st' := [.ref 77, .int (m 77 14), .ref 77]) rfl ?_
    refine Wp.getI rfl rfl sh77 rfl ?_
    refine Wp.pk 2 (pc' := 139) (lv' := [some (.ref 77), some (.int x1), some (.int x2), none, some (.int x4), none]) (st' := [.int 4, .int ((m 77 14) - (m 77 15)), .ref 77]) rfl ?_
    refine Wp.icmp_ge rfl rfl ⟨fun hc => ?_, fun hc => ?_⟩
    · replace h := h.1 hc
      refine Wp.pk 3 (pc' := 162) (lv' := [some (.ref 77), some (.int x1), some (.int x2), none, some (.int x4), none]) (st' := [.ref 77, .int 2, .int 0, .ref 77]) rfl ?_
      refine Wp.getI rfl rfl sh77 rfl ?_
      refine Wp.callI rfl rfl rfl (CallI.mono h (fun v2 m1 h => ?_))
      refine Wp.pk 2 (pc' := 172) (lv' := [some (.ref 77), some (.int x1), some (.int x2), none, some (.int x4), some (.int v2)]) (st' := [.int x4]) rfl ?_
      exact Wp.iret rfl rfl ⟨rfl, h⟩
    · replace h := h.2 hc
      refine Wp.pk 6 (pc' := 149) (lv' := [some (.ref 77), some (.int x1), some (.int x2), none, some (.int x4), none]) (st' := [.long (Int32.toInt64 x2), .long (Int32.toInt64 x1), .long (Int32.toInt64 x4), .ref 77]) rfl ?_
      refine Wp.callI rfl rfl rfl (CallI.mono h (fun v4 m3 h => ?_))
      refine Wp.if_eq rfl rfl ⟨fun hc => ?_, fun hc => ?_⟩
      · replace h := h.1 hc
        refine Wp.pk 3 (pc' := 162) (lv' := [some (.ref 77), some (.int x1), some (.int x2), none, some (.int x4), none]) (st' := [.ref 77, .int 2, .int 0, .ref 77]) rfl ?_
        refine Wp.getI rfl rfl sh77 rfl ?_
        refine Wp.callI rfl rfl rfl (CallI.mono h (fun v6 m5 h => ?_))
        refine Wp.pk 2 (pc' := 172) (lv' := [some (.ref 77), some (.int x1), some (.int x2), none, some (.int x4), some (.int v6)]) (st' := [.int x4]) rfl ?_
        exact Wp.iret rfl rfl ⟨rfl, h⟩
      · replace h := h.2 hc
        refine Wp.pk 4 (pc' := 162) (lv' := [some (.ref 77), some (.int x1), some (.int x2), none, some (.int x4), none]) (st' := [.ref 77, .int 2, .int 1, .ref 77]) rfl ?_
        refine Wp.getI rfl rfl sh77 rfl ?_
        refine Wp.callI rfl rfl rfl (CallI.mono h (fun v8 m7 h => ?_))
        refine Wp.pk 2 (pc' := 172) (lv' := [some (.ref 77), some (.int x1), some (.int x2), none, some (.int x4), some (.int v8)]) (st' := [.int x4]) rfl ?_
        exact Wp.iret rfl rfl ⟨rfl, h⟩
  · replace h := h.2 hc
    refine Wp.pk 1 (pc' := 62) (lv' := [some (.ref 77), some (.int x1), some (.int x2), none, some (.int x4), none]) (st' := [.ref 77]) rfl ?_
    refine Wp.getR rfl rfl sh77 rfl ?_
    refine Wp.pk 1 (pc' := 66) (lv' := [some (.ref 77), some (.int x1), some (.int x2), none, some (.int x4), none]) (st' := [.ref 77, .ref 86]) rfl ?_
    refine Wp.getI rfl rfl sh77 rfl ?_
    refine Wp.iald rfl sh86 ⟨h.1, ?_⟩
    replace h := h.2
    refine Wp.pk 1 (pc' := 71) (lv' := [some (.ref 77), some (.int x1), some (.int x2), none, some (.int x4), none]) (st' := [.long (Int32.toInt64 (m 86 (Int32.toNatClampNeg (m 77 14))))]) rfl ?_
    refine Wp.ldc2 rfl rfl ?_
    refine Wp.ldc2 rfl rfl ?_
    refine Wp.callI rfl rfl rfl (CallI.mono h (fun v10 m9 h => ?_))
    refine Wp.if_eq rfl rfl ⟨fun hc => ?_, fun hc => ?_⟩
    · replace h := h.1 hc
      refine Wp.pk 2 (pc' := 130) (lv' := [some (.ref 77), some (.int x1), some (.int x2), none, some (.int x4), none]) (st' := [.ref 77, .ref 77]) rfl ?_
      refine Wp.getI rfl rfl sh77 rfl ?_
      refine Wp.pk 1 (pc' := 134) (lv' := [some (.ref 77), some (.int x1), some (.int x2), none, some (.int x4), none]) (st' := [.ref 77, .int (m9 77 14), .ref 77]) rfl ?_
      refine Wp.getI rfl rfl sh77 rfl ?_
      refine Wp.pk 2 (pc' := 139) (lv' := [some (.ref 77), some (.int x1), some (.int x2), none, some (.int x4), none]) (st' := [.int 4, .int ((m9 77 14) - (m9 77 15)), .ref 77]) rfl ?_
      refine Wp.icmp_ge rfl rfl ⟨fun hc => ?_, fun hc => ?_⟩
      · replace h := h.1 hc
        refine Wp.pk 3 (pc' := 162) (lv' := [some (.ref 77), some (.int x1), some (.int x2), none, some (.int x4), none]) (st' := [.ref 77, .int 2, .int 0, .ref 77]) rfl ?_
        refine Wp.getI rfl rfl sh77 rfl ?_
        refine Wp.callI rfl rfl rfl (CallI.mono h (fun v12 m11 h => ?_))
        refine Wp.pk 2 (pc' := 172) (lv' := [some (.ref 77), some (.int x1), some (.int x2), none, some (.int x4), some (.int v12)]) (st' := [.int x4]) rfl ?_
        exact Wp.iret rfl rfl ⟨rfl, h⟩
      · replace h := h.2 hc
        refine Wp.pk 6 (pc' := 149) (lv' := [some (.ref 77), some (.int x1), some (.int x2), none, some (.int x4), none]) (st' := [.long (Int32.toInt64 x2), .long (Int32.toInt64 x1), .long (Int32.toInt64 x4), .ref 77]) rfl ?_
        refine Wp.callI rfl rfl rfl (CallI.mono h (fun v14 m13 h => ?_))
        refine Wp.if_eq rfl rfl ⟨fun hc => ?_, fun hc => ?_⟩
        · replace h := h.1 hc
          refine Wp.pk 3 (pc' := 162) (lv' := [some (.ref 77), some (.int x1), some (.int x2), none, some (.int x4), none]) (st' := [.ref 77, .int 2, .int 0, .ref 77]) rfl ?_
          refine Wp.getI rfl rfl sh77 rfl ?_
          refine Wp.callI rfl rfl rfl (CallI.mono h (fun v16 m15 h => ?_))
          refine Wp.pk 2 (pc' := 172) (lv' := [some (.ref 77), some (.int x1), some (.int x2), none, some (.int x4), some (.int v16)]) (st' := [.int x4]) rfl ?_
          exact Wp.iret rfl rfl ⟨rfl, h⟩
        · replace h := h.2 hc
          refine Wp.pk 4 (pc' := 162) (lv' := [some (.ref 77), some (.int x1), some (.int x2), none, some (.int x4), none]) (st' := [.ref 77, .int 2, .int 1, .ref 77]) rfl ?_
          refine Wp.getI rfl rfl sh77 rfl ?_
          refine Wp.callI rfl rfl rfl (CallI.mono h (fun v18 m17 h => ?_))
          refine Wp.pk 2 (pc' := 172) (lv' := [some (.ref 77), some (.int x1), some (.int x2), none, some (.int x4), some (.int v18)]) (st' := [.int x4]) rfl ?_
          exact Wp.iret rfl rfl ⟨rfl, h⟩
    · replace h := h.2 hc
      refine Wp.pk 1 (pc' := 85) (lv' := [some (.ref 77), some (.int x1), some (.int x2), none, some (.int x4), none]) (st' := [.int x4]) rfl ?_
      refine Wp.ldc rfl rfl ?_
      refine Wp.icmp_le rfl rfl ⟨fun hc => ?_, fun hc => ?_⟩
      · replace h := h.1 hc
        refine Wp.pk 4 (pc' := 101) (lv' := [some (.ref 77), some (.int x1), some (.int x2), none, some (.int x4), none]) (st' := [.ref 77, .int (10 * x4)]) rfl ?_
        refine Wp.getR rfl rfl sh77 rfl ?_
        refine Wp.pk 1 (pc' := 105) (lv' := [some (.ref 77), some (.int x1), some (.int x2), none, some (.int x4), none]) (st' := [.ref 77, .ref 86, .int (10 * x4)]) rfl ?_
        refine Wp.getI rfl rfl sh77 rfl ?_
        refine Wp.iald rfl sh86 ⟨h.1, ?_⟩
        replace h := h.2
        refine Wp.pk 6 (pc' := 117) (lv' := [some (.ref 77), some (.int x1), some (.int x2), none, some (.int (((10 * x4) + (m9 86 (Int32.toNatClampNeg (m9 77 14)))) - 48)), none]) (st' := [.ref 77, .ref 77]) rfl ?_
        refine Wp.getI rfl rfl sh77 rfl ?_
        refine Wp.pk 2 (pc' := 122) (lv' := [some (.ref 77), some (.int x1), some (.int x2), none, some (.int (((10 * x4) + (m9 86 (Int32.toNatClampNeg (m9 77 14)))) - 48)), none]) (st' := [.int ((m9 77 14) + 1), .ref 77]) rfl ?_
        refine Wp.putN rfl rfl sh77 rfl rfl (fun m19 hm => ?_)
        replace h := h _ hm
        refine Wp.pk 1 (pc' := 50) (lv' := [some (.ref 77), some (.int x1), some (.int x2), none, some (.int (((10 * x4) + (m9 86 (Int32.toNatClampNeg (m9 77 14)))) - 48)), none]) (st' := []) rfl ?_
        exact h
      · replace h := h.2 hc
        refine Wp.pk 5 (pc' := 117) (lv' := [some (.ref 77), some (.int x1), some (.int x2), none, some (.int x4), none]) (st' := [.ref 77, .ref 77]) rfl ?_
        refine Wp.getI rfl rfl sh77 rfl ?_
        refine Wp.pk 2 (pc' := 122) (lv' := [some (.ref 77), some (.int x1), some (.int x2), none, some (.int x4), none]) (st' := [.int ((m9 77 14) + 1), .ref 77]) rfl ?_
        refine Wp.putN rfl rfl sh77 rfl rfl (fun m20 hm => ?_)
        replace h := h _ hm
        refine Wp.pk 1 (pc' := 50) (lv' := [some (.ref 77), some (.int x1), some (.int x2), none, some (.int x4), none]) (st' := []) rfl ?_
        exact h
theorem eX9_once_0 {X : a_X} {m : Nat → Nat → Int32} {Q : Option Value → (Nat → Nat → Int32) → Prop} {x1 x2 : Int32} (h : CallI X mX9_has [.int (m 77 19), .int x1] m (fun v2 m1 => (¬ v2 = 0 → CallI X mX9_want [.ref 77, .int 0, .int 3, .int x2] m1 (fun v4 m3 => ∀ m5, m5 = (a_up m3 77 19 ((m3 77 19) ||| (1 <<< (x1 &&& 31)))) → a_fit .boolean v4 = true ∧ Q (some (.int v4)) m5)) ∧ (v2 = 0 → CallI X mX9_want [.ref 77, .int 1, .int 3, .int x2] m1 (fun v7 m6 => ∀ m8, m8 = (a_up m6 77 19 ((m6 77 19) ||| (1 <<< (x1 &&& 31)))) → a_fit .boolean v7 = true ∧ Q (some (.int v7)) m8)))) : Call X mX9_once [.ref 77, .int x1, .int x2] m Q := by
  unfold Call
  refine Wp.loc (lv' := [some (.ref 77), some (.int x1), some (.int x2), none]) rfl ?_
  refine Wp.pk 2 (pc' := 2) (lv' := [some (.ref 77), some (.int x1), some (.int x2), none]) (st' := [.ref 77, .ref 77]) rfl ?_
  refine Wp.getI rfl rfl sh77 rfl ?_
  refine Wp.pk 1 (pc' := 6) (lv' := [some (.ref 77), some (.int x1), some (.int x2), none]) (st' := [.int x1, .int (m 77 19), .ref 77]) rfl ?_
  refine Wp.callI rfl rfl rfl (CallI.mono h (fun v2 m1 h => ?_))
  refine Wp.if_ne rfl rfl ⟨fun hc => ?_, fun hc => ?_⟩
  · replace h := h.1 hc
    refine Wp.pk 3 (pc' := 19) (lv' := [some (.ref 77), some (.int x1), some (.int x2), none]) (st' := [.int x2, .int 3, .int 0, .ref 77]) rfl ?_
    refine Wp.callI rfl rfl rfl (CallI.mono h (fun v4 m3 h => ?_))
    refine Wp.pk 3 (pc' := 25) (lv' := [some (.ref 77), some (.int x1), some (.int x2), some (.int v4)]) (st' := [.ref 77, .ref 77]) rfl ?_
    refine Wp.getI rfl rfl sh77 rfl ?_
    refine Wp.pk 4 (pc' := 32) (lv' := [some (.ref 77), some (.int x1), some (.int x2), some (.int v4)]) (st' := [.int ((m3 77 19) ||| (1 <<< (x1 &&& 31))), .ref 77]) rfl ?_
    refine Wp.putN rfl rfl sh77 rfl rfl (fun m5 hm => ?_)
    replace h := h _ hm
    refine Wp.pk 1 (pc' := 36) (lv' := [some (.ref 77), some (.int x1), some (.int x2), some (.int v4)]) (st' := [.int v4]) rfl ?_
    exact Wp.iret rfl rfl h
  · replace h := h.2 hc
    refine Wp.pk 4 (pc' := 19) (lv' := [some (.ref 77), some (.int x1), some (.int x2), none]) (st' := [.int x2, .int 3, .int 1, .ref 77]) rfl ?_
    refine Wp.callI rfl rfl rfl (CallI.mono h (fun v7 m6 h => ?_))
    refine Wp.pk 3 (pc' := 25) (lv' := [some (.ref 77), some (.int x1), some (.int x2), some (.int v7)]) (st' := [.ref 77, .ref 77]) rfl ?_
    refine Wp.getI rfl rfl sh77 rfl ?_
    refine Wp.pk 4 (pc' := 32) (lv' := [some (.ref 77), some (.int x1), some (.int x2), some (.int v7)]) (st' := [.int ((m6 77 19) ||| (1 <<< (x1 &&& 31))), .ref 77]) rfl ?_
    refine Wp.putN rfl rfl sh77 rfl rfl (fun m8 hm => ?_)
    replace h := h _ hm
    refine Wp.pk 1 (pc' := 36) (lv' := [some (.ref 77), some (.int x1), some (.int x2), some (.int v7)]) (st' := [.int v7]) rfl ?_
    exact Wp.iret rfl rfl h
theorem eX9_takeSize_0 {X : a_X} {m : Nat → Nat → Int32} {Q : Option Value → (Nat → Nat → Int32) → Prop} {x1 : Int32} (h : (¬ (m 77 21) = 0 → CallI X mX9_want [.ref 77, .int 0, .int 1, .int x1] m (fun v2 m1 => (v2 = 0 → Q none m1) ∧ (¬ v2 = 0 → CallI X mX9_once [.ref 77, .int 0, .int x1] m1 (fun v4 m3 => (v4 = 0 → Q none m3) ∧ (¬ v4 = 0 → CallI X mX9_takeNumber [.ref 77, .int 1, .int 16] m3 (fun v6 m5 => vp_in 5 10 ∧ ∀ m7, m7 = (a_up m5 80 (Int32.toNatClampNeg 5) v6) → CallI X mX9_takeNumber [.ref 77, .int 1, .int 8] m7 (fun v9 m8 => vp_in 6 10 ∧ ∀ m10, m10 = (a_up m8 80 (Int32.toNatClampNeg 6) v9) → Q none m10))))))) ∧ ((m 77 21) = 0 → CallI X mX9_want [.ref 77, .int 1, .int 1, .int x1] m (fun v12 m11 => (v12 = 0 → Q none m11) ∧ (¬ v12 = 0 → CallI X mX9_once [.ref 77, .int 0, .int x1] m11 (fun v14 m13 => (v14 = 0 → Q none m13) ∧ (¬ v14 = 0 → CallI X mX9_takeNumber [.ref 77, .int 1, .int 16] m13 (fun v16 m15 => vp_in 5 10 ∧ ∀ m17, m17 = (a_up m15 80 (Int32.toNatClampNeg 5) v16) → CallI X mX9_takeNumber [.ref 77, .int 1, .int 8] m17 (fun v19 m18 => vp_in 6 10 ∧ ∀ m20, m20 = (a_up m18 80 (Int32.toNatClampNeg 6) v19) → Q none m20)))))))) : Call X mX9_takeSize [.ref 77, .int x1] m Q := by
  unfold Call
  refine Wp.loc (lv' := [some (.ref 77), some (.int x1)]) rfl ?_
  refine Wp.pk 2 (pc' := 2) (lv' := [some (.ref 77), some (.int x1)]) (st' := [.ref 77, .ref 77]) rfl ?_
  refine Wp.getI rfl rfl sh77 rfl ?_
  refine Wp.if_ne rfl rfl ⟨fun hc => ?_, fun hc => ?_⟩
  · replace h := h.1 hc
    refine Wp.pk 3 (pc' := 15) (lv' := [some (.ref 77), some (.int x1)]) (st' := [.int x1, .int 1, .int 0, .ref 77]) rfl ?_
    refine Wp.callI rfl rfl rfl (CallI.mono h (fun v2 m1 h => ?_))
    refine Wp.if_eq rfl rfl ⟨fun hc => ?_, fun hc => ?_⟩
    · replace h := h.1 hc
      exact Wp.vret rfl rfl h
    · replace h := h.2 hc
      refine Wp.pk 3 (pc' := 24) (lv' := [some (.ref 77), some (.int x1)]) (st' := [.int x1, .int 0, .ref 77]) rfl ?_
      refine Wp.callI rfl rfl rfl (CallI.mono h (fun v4 m3 h => ?_))
      refine Wp.if_eq rfl rfl ⟨fun hc => ?_, fun hc => ?_⟩
      · replace h := h.1 hc
        exact Wp.vret rfl rfl h
      · replace h := h.2 hc
        refine Wp.pk 1 (pc' := 31) (lv' := [some (.ref 77), some (.int x1)]) (st' := [.ref 77]) rfl ?_
        refine Wp.getR rfl rfl sh77 rfl ?_
        refine Wp.pk 4 (pc' := 39) (lv' := [some (.ref 77), some (.int x1)]) (st' := [.int 16, .int 1, .ref 77, .int 5, .ref 80]) rfl ?_
        refine Wp.callI rfl rfl rfl (CallI.mono h (fun v6 m5 h => ?_))
        refine Wp.iastN rfl sh80 h.1 (fun m7 hm => ?_)
        replace h := h.2 _ hm
        refine Wp.pk 1 (pc' := 44) (lv' := [some (.ref 77), some (.int x1)]) (st' := [.ref 77]) rfl ?_
        refine Wp.getR rfl rfl sh77 rfl ?_
        refine Wp.pk 4 (pc' := 53) (lv' := [some (.ref 77), some (.int x1)]) (st' := [.int 8, .int 1, .ref 77, .int 6, .ref 80]) rfl ?_
        refine Wp.callI rfl rfl rfl (CallI.mono h (fun v9 m8 h => ?_))
        refine Wp.iastN rfl sh80 h.1 (fun m10 hm => ?_)
        replace h := h.2 _ hm
        exact Wp.vret rfl rfl h
  · replace h := h.2 hc
    refine Wp.pk 4 (pc' := 15) (lv' := [some (.ref 77), some (.int x1)]) (st' := [.int x1, .int 1, .int 1, .ref 77]) rfl ?_
    refine Wp.callI rfl rfl rfl (CallI.mono h (fun v12 m11 h => ?_))
    refine Wp.if_eq rfl rfl ⟨fun hc => ?_, fun hc => ?_⟩
    · replace h := h.1 hc
      exact Wp.vret rfl rfl h
    · replace h := h.2 hc
      refine Wp.pk 3 (pc' := 24) (lv' := [some (.ref 77), some (.int x1)]) (st' := [.int x1, .int 0, .ref 77]) rfl ?_
      refine Wp.callI rfl rfl rfl (CallI.mono h (fun v14 m13 h => ?_))
      refine Wp.if_eq rfl rfl ⟨fun hc => ?_, fun hc => ?_⟩
      · replace h := h.1 hc
        exact Wp.vret rfl rfl h
      · replace h := h.2 hc
        refine Wp.pk 1 (pc' := 31) (lv' := [some (.ref 77), some (.int x1)]) (st' := [.ref 77]) rfl ?_
        refine Wp.getR rfl rfl sh77 rfl ?_
        refine Wp.pk 4 (pc' := 39) (lv' := [some (.ref 77), some (.int x1)]) (st' := [.int 16, .int 1, .ref 77, .int 5, .ref 80]) rfl ?_
        refine Wp.callI rfl rfl rfl (CallI.mono h (fun v16 m15 h => ?_))
        refine Wp.iastN rfl sh80 h.1 (fun m17 hm => ?_)
        replace h := h.2 _ hm
        refine Wp.pk 1 (pc' := 44) (lv' := [some (.ref 77), some (.int x1)]) (st' := [.ref 77]) rfl ?_
        refine Wp.getR rfl rfl sh77 rfl ?_
        refine Wp.pk 4 (pc' := 53) (lv' := [some (.ref 77), some (.int x1)]) (st' := [.int 8, .int 1, .ref 77, .int 6, .ref 80]) rfl ?_
        refine Wp.callI rfl rfl rfl (CallI.mono h (fun v19 m18 h => ?_))
        refine Wp.iastN rfl sh80 h.1 (fun m20 hm => ?_)
        replace h := h.2 _ hm
        exact Wp.vret rfl rfl h
theorem eX9_takeBare_0 {X : a_X} {m : Nat → Nat → Int32} {Q : Option Value → (Nat → Nat → Int32) → Prop} {x1 : Int32} (h : ∀ m1, m1 = (a_up m 77 21 1) → (8 ≤ (m1 77 10) → CallI X mX9_want [.ref 77, .int 0, .int 3, .int x1] m1 (fun v3 m2 => (v3 = 0 → Q none m2) ∧ (¬ v3 = 0 → vp_in 5 10 ∧ CallI X mX9_takeNumber [.ref 77, .int 0, .int ((m2 80 (Int32.toNatClampNeg 5)) - 1)] m2 (fun v5 m4 => vp_in 6 10 ∧ CallI X mX9_takeNumber [.ref 77, .int 0, .int ((m4 80 (Int32.toNatClampNeg 6)) - 1)] m4 (fun v7 m6 => vp_in 5 10 ∧ CallI X mX9_takeNumber [.ref 77, .int 1, .int ((m6 80 (Int32.toNatClampNeg 5)) - v5)] m6 (fun v9 m8 => vp_in 6 10 ∧ CallI X mX9_takeNumber [.ref 77, .int 1, .int ((m8 80 (Int32.toNatClampNeg 6)) - v7)] m8 (fun v11 m10 => Wp X mX9_takeBare 91 [some (.ref 77), none, some (.int v5), some (.int v7), some (.int v9), some (.int v11), some (.int 0), none] [] m10 Q))))))) ∧ (¬ 8 ≤ (m1 77 10) → CallI X mX9_want [.ref 77, .int 1, .int 3, .int x1] m1 (fun v13 m12 => (v13 = 0 → Q none m12) ∧ (¬ v13 = 0 → vp_in 5 10 ∧ CallI X mX9_takeNumber [.ref 77, .int 0, .int ((m12 80 (Int32.toNatClampNeg 5)) - 1)] m12 (fun v15 m14 => vp_in 6 10 ∧ CallI X mX9_takeNumber [.ref 77, .int 0, .int ((m14 80 (Int32.toNatClampNeg 6)) - 1)] m14 (fun v17 m16 => vp_in 5 10 ∧ CallI X mX9_takeNumber [.ref 77, .int 1, .int ((m16 80 (Int32.toNatClampNeg 5)) - v15)] m16 (fun v19 m18 => vp_in 6 10 ∧ CallI X mX9_takeNumber [.ref 77, .int 1, .int ((m18 80 (Int32.toNatClampNeg 6)) - v17)] m18 (fun v21 m20 => Wp X mX9_takeBare 91 [some (.ref 77), none, some (.int v15), some (.int v17), some (.int v19), some (.int v21), some (.int 0), none] [] m20 Q)))))))) : Call X mX9_takeBare [.ref 77, .int x1] m Q := by
  unfold Call
  refine Wp.loc (lv' := [some (.ref 77), some (.int x1), none, none, none, none, none, none]) rfl ?_
  refine Wp.pk 2 (pc' := 2) (lv' := [some (.ref 77), some (.int x1), none, none, none, none, none, none]) (st' := [.int 1, .ref 77]) rfl ?_
  refine Wp.putN rfl rfl sh77 rfl rfl (fun m1 hm => ?_)
  replace h := h _ hm
  refine Wp.pk 2 (pc' := 7) (lv' := [some (.ref 77), some (.int x1), none, none, none, none, none, none]) (st' := [.ref 77, .ref 77]) rfl ?_
  refine Wp.getI rfl rfl sh77 rfl ?_
  refine Wp.pk 1 (pc' := 12) (lv' := [some (.ref 77), some (.int x1), none, none, none, none, none, none]) (st' := [.int 8, .int (m1 77 10), .ref 77]) rfl ?_
  refine Wp.icmp_ge rfl rfl ⟨fun hc => ?_, fun hc => ?_⟩
  · replace h := h.1 hc
    refine Wp.pk 3 (pc' := 22) (lv' := [some (.ref 77), some (.int x1), none, none, none, none, none, none]) (st' := [.int x1, .int 3, .int 0, .ref 77]) rfl ?_
    refine Wp.callI rfl rfl rfl (CallI.mono h (fun v3 m2 h => ?_))
    refine Wp.if_eq rfl rfl ⟨fun hc => ?_, fun hc => ?_⟩
    · replace h := h.1 hc
      exact Wp.vret rfl rfl h
    · replace h := h.2 hc
      refine Wp.pk 3 (pc' := 31) (lv' := [some (.ref 77), some (.int x1), none, none, none, none, none, none]) (st' := [.ref 77, .int 0, .ref 77]) rfl ?_
      refine Wp.getR rfl rfl sh77 rfl ?_
      refine Wp.pk 1 (pc' := 35) (lv' := [some (.ref 77), some (.int x1), none, none, none, none, none, none]) (st' := [.int 5, .ref 80, .int 0, .ref 77]) rfl ?_
      refine Wp.iald rfl sh80 ⟨h.1, ?_⟩
      replace h := h.2
      refine Wp.pk 2 (pc' := 38) (lv' := [some (.ref 77), some (.int x1), none, none, none, none, none, none]) (st' := [.int ((m2 80 (Int32.toNatClampNeg 5)) - 1), .int 0, .ref 77]) rfl ?_
      refine Wp.callI rfl rfl rfl (CallI.mono h (fun v5 m4 h => ?_))
      refine Wp.pk 4 (pc' := 45) (lv' := [some (.ref 77), some (.int x1), some (.int v5), none, none, none, none, none]) (st' := [.ref 77, .int 0, .ref 77]) rfl ?_
      refine Wp.getR rfl rfl sh77 rfl ?_
      refine Wp.pk 1 (pc' := 50) (lv' := [some (.ref 77), some (.int x1), some (.int v5), none, none, none, none, none]) (st' := [.int 6, .ref 80, .int 0, .ref 77]) rfl ?_
      refine Wp.iald rfl sh80 ⟨h.1, ?_⟩
      replace h := h.2
      refine Wp.pk 2 (pc' := 53) (lv' := [some (.ref 77), some (.int x1), some (.int v5), none, none, none, none, none]) (st' := [.int ((m4 80 (Int32.toNatClampNeg 6)) - 1), .int 0, .ref 77]) rfl ?_
      refine Wp.callI rfl rfl rfl (CallI.mono h (fun v7 m6 h => ?_))
      refine Wp.pk 4 (pc' := 60) (lv' := [some (.ref 77), some (.int x1), some (.int v5), some (.int v7), none, none, none, none]) (st' := [.ref 77, .int 1, .ref 77]) rfl ?_
      refine Wp.getR rfl rfl sh77 rfl ?_
      refine Wp.pk 1 (pc' := 64) (lv' := [some (.ref 77), some (.int x1), some (.int v5), some (.int v7), none, none, none, none]) (st' := [.int 5, .ref 80, .int 1, .ref 77]) rfl ?_
      refine Wp.iald rfl sh80 ⟨h.1, ?_⟩
      replace h := h.2
      refine Wp.pk 2 (pc' := 67) (lv' := [some (.ref 77), some (.int x1), some (.int v5), some (.int v7), none, none, none, none]) (st' := [.int ((m6 80 (Int32.toNatClampNeg 5)) - v5), .int 1, .ref 77]) rfl ?_
      refine Wp.callI rfl rfl rfl (CallI.mono h (fun v9 m8 h => ?_))
      refine Wp.pk 4 (pc' := 75) (lv' := [some (.ref 77), some (.int x1), some (.int v5), some (.int v7), some (.int v9), none, none, none]) (st' := [.ref 77, .int 1, .ref 77]) rfl ?_
      refine Wp.getR rfl rfl sh77 rfl ?_
      refine Wp.pk 1 (pc' := 80) (lv' := [some (.ref 77), some (.int x1), some (.int v5), some (.int v7), some (.int v9), none, none, none]) (st' := [.int 6, .ref 80, .int 1, .ref 77]) rfl ?_
      refine Wp.iald rfl sh80 ⟨h.1, ?_⟩
      replace h := h.2
      refine Wp.pk 2 (pc' := 83) (lv' := [some (.ref 77), some (.int x1), some (.int v5), some (.int v7), some (.int v9), none, none, none]) (st' := [.int ((m8 80 (Int32.toNatClampNeg 6)) - v7), .int 1, .ref 77]) rfl ?_
      refine Wp.callI rfl rfl rfl (CallI.mono h (fun v11 m10 h => ?_))
      refine Wp.pk 3 (pc' := 91) (lv' := [some (.ref 77), some (.int x1), some (.int v5), some (.int v7), some (.int v9), some (.int v11), some (.int 0), none]) (st' := []) rfl ?_
      exact Wp.fgt (lv := [some (.ref 77), none, some (.int v5), some (.int v7), some (.int v9), some (.int v11), some (.int 0), none]) (a_lle.of (a_lleb_e (a_lleb_i (a_lleb_e (a_lleb_e (a_lleb_e (a_lleb_e (a_lleb_e (a_lleb_e trivial))))))))) h
  · replace h := h.2 hc
    refine Wp.pk 4 (pc' := 22) (lv' := [some (.ref 77), some (.int x1), none, none, none, none, none, none]) (st' := [.int x1, .int 3, .int 1, .ref 77]) rfl ?_
    refine Wp.callI rfl rfl rfl (CallI.mono h (fun v13 m12 h => ?_))
    refine Wp.if_eq rfl rfl ⟨fun hc => ?_, fun hc => ?_⟩
    · replace h := h.1 hc
      exact Wp.vret rfl rfl h
    · replace h := h.2 hc
      refine Wp.pk 3 (pc' := 31) (lv' := [some (.ref 77), some (.int x1), none, none, none, none, none, none]) (st' := [.ref 77, .int 0, .ref 77]) rfl ?_
      refine Wp.getR rfl rfl sh77 rfl ?_
      refine Wp.pk 1 (pc' := 35) (lv' := [some (.ref 77), some (.int x1), none, none, none, none, none, none]) (st' := [.int 5, .ref 80, .int 0, .ref 77]) rfl ?_
      refine Wp.iald rfl sh80 ⟨h.1, ?_⟩
      replace h := h.2
      refine Wp.pk 2 (pc' := 38) (lv' := [some (.ref 77), some (.int x1), none, none, none, none, none, none]) (st' := [.int ((m12 80 (Int32.toNatClampNeg 5)) - 1), .int 0, .ref 77]) rfl ?_
      refine Wp.callI rfl rfl rfl (CallI.mono h (fun v15 m14 h => ?_))
      refine Wp.pk 4 (pc' := 45) (lv' := [some (.ref 77), some (.int x1), some (.int v15), none, none, none, none, none]) (st' := [.ref 77, .int 0, .ref 77]) rfl ?_
      refine Wp.getR rfl rfl sh77 rfl ?_
      refine Wp.pk 1 (pc' := 50) (lv' := [some (.ref 77), some (.int x1), some (.int v15), none, none, none, none, none]) (st' := [.int 6, .ref 80, .int 0, .ref 77]) rfl ?_
      refine Wp.iald rfl sh80 ⟨h.1, ?_⟩
      replace h := h.2
      refine Wp.pk 2 (pc' := 53) (lv' := [some (.ref 77), some (.int x1), some (.int v15), none, none, none, none, none]) (st' := [.int ((m14 80 (Int32.toNatClampNeg 6)) - 1), .int 0, .ref 77]) rfl ?_
      refine Wp.callI rfl rfl rfl (CallI.mono h (fun v17 m16 h => ?_))
      refine Wp.pk 4 (pc' := 60) (lv' := [some (.ref 77), some (.int x1), some (.int v15), some (.int v17), none, none, none, none]) (st' := [.ref 77, .int 1, .ref 77]) rfl ?_
      refine Wp.getR rfl rfl sh77 rfl ?_
      refine Wp.pk 1 (pc' := 64) (lv' := [some (.ref 77), some (.int x1), some (.int v15), some (.int v17), none, none, none, none]) (st' := [.int 5, .ref 80, .int 1, .ref 77]) rfl ?_
      refine Wp.iald rfl sh80 ⟨h.1, ?_⟩
      replace h := h.2
      refine Wp.pk 2 (pc' := 67) (lv' := [some (.ref 77), some (.int x1), some (.int v15), some (.int v17), none, none, none, none]) (st' := [.int ((m16 80 (Int32.toNatClampNeg 5)) - v15), .int 1, .ref 77]) rfl ?_
      refine Wp.callI rfl rfl rfl (CallI.mono h (fun v19 m18 h => ?_))
      refine Wp.pk 4 (pc' := 75) (lv' := [some (.ref 77), some (.int x1), some (.int v15), some (.int v17), some (.int v19), none, none, none]) (st' := [.ref 77, .int 1, .ref 77]) rfl ?_
      refine Wp.getR rfl rfl sh77 rfl ?_
      refine Wp.pk 1 (pc' := 80) (lv' := [some (.ref 77), some (.int x1), some (.int v15), some (.int v17), some (.int v19), none, none, none]) (st' := [.int 6, .ref 80, .int 1, .ref 77]) rfl ?_
      refine Wp.iald rfl sh80 ⟨h.1, ?_⟩
      replace h := h.2
      refine Wp.pk 2 (pc' := 83) (lv' := [some (.ref 77), some (.int x1), some (.int v15), some (.int v17), some (.int v19), none, none, none]) (st' := [.int ((m18 80 (Int32.toNatClampNeg 6)) - v17), .int 1, .ref 77]) rfl ?_
      refine Wp.callI rfl rfl rfl (CallI.mono h (fun v21 m20 h => ?_))
      refine Wp.pk 3 (pc' := 91) (lv' := [some (.ref 77), some (.int x1), some (.int v15), some (.int v17), some (.int v19), some (.int v21), some (.int 0), none]) (st' := []) rfl ?_
      exact Wp.fgt (lv := [some (.ref 77), none, some (.int v15), some (.int v17), some (.int v19), some (.int v21), some (.int 0), none]) (a_lle.of (a_lleb_e (a_lleb_i (a_lleb_e (a_lleb_e (a_lleb_e (a_lleb_e (a_lleb_e (a_lleb_e trivial))))))))) h
theorem eX9_takeBare_91 {X : a_X} {m : Nat → Nat → Int32} {Q : Option Value → (Nat → Nat → Int32) → Prop} {x2 x3 x4 x5 x6 : Int32} (h : (128 ≤ x6 → ∀ m1, m1 = (a_up m 77 10 ((m 77 10) + 1)) → Q none m1) ∧ (¬ 128 ≤ x6 → (¬ (m 77 17) = 0 → ∀ m2, m2 = (a_up m 77 10 ((m 77 10) + 1)) → Q none m2) ∧ ((m 77 17) = 0 → CallI X mX9_in [.long (Int32.toInt64 (a_rem x6 16)), .long (Int32.toInt64 x2), .long (Int32.toInt64 ((x2 + x4) - 1))] m (fun v4 m3 => (v4 = 0 → vp_in (128 + x6) 256 ∧ (¬ (m3 82 (Int32.toNatClampNeg (128 + x6))) = 0 → vp_in (128 + x6) 256 ∧ ∀ m5, m5 = (a_up m3 82 (Int32.toNatClampNeg (128 + x6)) (vp_nar .boolean 1)) → Wp X mX9_takeBare 91 [some (.ref 77), none, some (.int x2), some (.int x3), some (.int x4), some (.int x5), some (.int (x6 + 1)), none] [] m5 Q) ∧ ((m3 82 (Int32.toNatClampNeg (128 + x6))) = 0 → vp_in (128 + x6) 256 ∧ ∀ m6, m6 = (a_up m3 82 (Int32.toNatClampNeg (128 + x6)) (vp_nar .boolean 0)) → Wp X mX9_takeBare 91 [some (.ref 77), none, some (.int x2), some (.int x3), some (.int x4), some (.int x5), some (.int (x6 + 1)), none] [] m6 Q)) ∧ (¬ v4 = 0 → CallI X mX9_in [.long (Int32.toInt64 (x6 / 16)), .long (Int32.toInt64 x3), .long (Int32.toInt64 ((x3 + x5) - 1))] m3 (fun v8 m7 => (v8 = 0 → vp_in (128 + x6) 256 ∧ (¬ (m7 82 (Int32.toNatClampNeg (128 + x6))) = 0 → vp_in (128 + x6) 256 ∧ ∀ m9, m9 = (a_up m7 82 (Int32.toNatClampNeg (128 + x6)) (vp_nar .boolean 1)) → Wp X mX9_takeBare 91 [some (.ref 77), none, some (.int x2), some (.int x3), some (.int x4), some (.int x5), some (.int (x6 + 1)), none] [] m9 Q) ∧ ((m7 82 (Int32.toNatClampNeg (128 + x6))) = 0 → vp_in (128 + x6) 256 ∧ ∀ m10, m10 = (a_up m7 82 (Int32.toNatClampNeg (128 + x6)) (vp_nar .boolean 0)) → Wp X mX9_takeBare 91 [some (.ref 77), none, some (.int x2), some (.int x3), some (.int x4), some (.int x5), some (.int (x6 + 1)), none] [] m10 Q)) ∧ (¬ v8 = 0 → vp_in (128 + x6) 256 ∧ (¬ (m7 82 (Int32.toNatClampNeg (128 + x6))) = 0 → vp_in (128 + x6) 256 ∧ ∀ m11, m11 = (a_up m7 82 (Int32.toNatClampNeg (128 + x6)) (vp_nar .boolean 1)) → Wp X mX9_takeBare 91 [some (.ref 77), none, some (.int x2), some (.int x3), some (.int x4), some (.int x5), some (.int (x6 + 1)), none] [] m11 Q) ∧ ((m7 82 (Int32.toNatClampNeg (128 + x6))) = 0 → vp_in (128 + x6) 256 ∧ ∀ m12, m12 = (a_up m7 82 (Int32.toNatClampNeg (128 + x6)) (vp_nar .boolean 1)) → Wp X mX9_takeBare 91 [some (.ref 77), none, some (.int x2), some (.int x3), some (.int x4), some (.int x5), some (.int (x6 + 1)), none] [] m12 Q)))))))) : Wp X mX9_takeBare 91 [some (.ref 77), none, some (.int x2), some (.int x3), some (.int x4), some (.int x5), some (.int x6), none] [] m Q := by
  refine Wp.pk 2 (pc' := 96) (lv' := [some (.ref 77), none, some (.int x2), some (.int x3), some (.int x4), some (.int x5), some (.int x6), none]) (st' := [.int 128, .int x6]) rfl ?_
  refine Wp.icmp_ge rfl rfl ⟨fun hc => ?_, fun hc => ?_⟩
  · replace h := h.1 hc
    refine Wp.pk 2 (pc' := 198) (lv' := [some (.ref 77), none, some (.int x2), some (.int x3), some (.int x4), some (.int x5), some (.int x6), none]) (st' := [.ref 77, .ref 77]) rfl ?_
    refine Wp.getI rfl rfl sh77 rfl ?_
    refine Wp.pk 2 (pc' := 203) (lv' := [some (.ref 77), none, some (.int x2), some (.int x3), some (.int x4), some (.int x5), some (.int x6), none]) (st' := [.int ((m 77 10) + 1), .ref 77]) rfl ?_
    refine Wp.putN rfl rfl sh77 rfl rfl (fun m1 hm => ?_)
    replace h := h _ hm
    exact Wp.vret rfl rfl h
  · replace h := h.2 hc
    refine Wp.pk 1 (pc' := 100) (lv' := [some (.ref 77), none, some (.int x2), some (.int x3), some (.int x4), some (.int x5), some (.int x6), none]) (st' := [.ref 77]) rfl ?_
    refine Wp.getI rfl rfl sh77 rfl ?_
    refine Wp.if_ne rfl rfl ⟨fun hc => ?_, fun hc => ?_⟩
    · replace h := h.1 hc
      refine Wp.pk 2 (pc' := 198) (lv' := [some (.ref 77), none, some (.int x2), some (.int x3), some (.int x4), some (.int x5), some (.int x6), none]) (st' := [.ref 77, .ref 77]) rfl ?_
      refine Wp.getI rfl rfl sh77 rfl ?_
      refine Wp.pk 2 (pc' := 203) (lv' := [some (.ref 77), none, some (.int x2), some (.int x3), some (.int x4), some (.int x5), some (.int x6), none]) (st' := [.int ((m 77 10) + 1), .ref 77]) rfl ?_
      refine Wp.putN rfl rfl sh77 rfl rfl (fun m2 hm => ?_)
      replace h := h _ hm
      exact Wp.vret rfl rfl h
    · replace h := h.2 hc
      refine Wp.pk 12 (pc' := 121) (lv' := [some (.ref 77), none, some (.int x2), some (.int x3), some (.int x4), some (.int x5), some (.int x6), none]) (st' := [.long (Int32.toInt64 ((x2 + x4) - 1)), .long (Int32.toInt64 x2), .long (Int32.toInt64 (a_rem x6 16))]) rfl ?_
      refine Wp.callI rfl rfl rfl (CallI.mono h (fun v4 m3 h => ?_))
      refine Wp.if_eq rfl rfl ⟨fun hc => ?_, fun hc => ?_⟩
      · replace h := h.1 hc
        refine Wp.pk 3 (pc' := 156) (lv' := [some (.ref 77), none, some (.int x2), some (.int x3), some (.int x4), some (.int x5), some (.int x6), some (.int 0)]) (st' := [.ref 77]) rfl ?_
        refine Wp.getR rfl rfl sh77 rfl ?_
        refine Wp.pk 4 (pc' := 166) (lv' := [some (.ref 77), none, some (.int x2), some (.int x3), some (.int x4), some (.int x5), some (.int x6), some (.int 0)]) (st' := [.ref 77, .int (128 + x6), .ref 82]) rfl ?_
        refine Wp.getR rfl rfl sh77 rfl ?_
        refine Wp.pk 3 (pc' := 175) (lv' := [some (.ref 77), none, some (.int x2), some (.int x3), some (.int x4), some (.int x5), some (.int x6), some (.int 0)]) (st' := [.int (128 + x6), .ref 82, .int (128 + x6), .ref 82]) rfl ?_
        refine Wp.bald rfl sh82 ⟨h.1, ?_⟩
        replace h := h.2
        refine Wp.if_ne rfl rfl ⟨fun hc => ?_, fun hc => ?_⟩
        · replace h := h.1 hc
          refine Wp.pk 2 (pc' := 189) (lv' := [some (.ref 77), none, some (.int x2), some (.int x3), some (.int x4), some (.int x5), some (.int x6), some (.int 0)]) (st' := [.int 1, .int (128 + x6), .ref 82]) rfl ?_
          refine Wp.bastN rfl sh82 h.1 (fun m5 hm => ?_)
          replace h := h.2 _ hm
          refine Wp.pk 2 (pc' := 91) (lv' := [some (.ref 77), none, some (.int x2), some (.int x3), some (.int x4), some (.int x5), some (.int (x6 + 1)), some (.int 0)]) (st' := []) rfl ?_
          exact Wp.fgt (lv := [some (.ref 77), none, some (.int x2), some (.int x3), some (.int x4), some (.int x5), some (.int (x6 + 1)), none]) (a_lle.of (a_lleb_e (a_lleb_e (a_lleb_e (a_lleb_e (a_lleb_e (a_lleb_e (a_lleb_e (a_lleb_i trivial))))))))) h
        · replace h := h.2 hc
          refine Wp.pk 3 (pc' := 189) (lv' := [some (.ref 77), none, some (.int x2), some (.int x3), some (.int x4), some (.int x5), some (.int x6), some (.int 0)]) (st' := [.int 0, .int (128 + x6), .ref 82]) rfl ?_
          refine Wp.bastN rfl sh82 h.1 (fun m6 hm => ?_)
          replace h := h.2 _ hm
          refine Wp.pk 2 (pc' := 91) (lv' := [some (.ref 77), none, some (.int x2), some (.int x3), some (.int x4), some (.int x5), some (.int (x6 + 1)), some (.int 0)]) (st' := []) rfl ?_
          exact Wp.fgt (lv := [some (.ref 77), none, some (.int x2), some (.int x3), some (.int x4), some (.int x5), some (.int (x6 + 1)), none]) (a_lle.of (a_lleb_e (a_lleb_e (a_lleb_e (a_lleb_e (a_lleb_e (a_lleb_e (a_lleb_e (a_lleb_i trivial))))))))) h
      · replace h := h.2 hc
        refine Wp.pk 12 (pc' := 142) (lv' := [some (.ref 77), none, some (.int x2), some (.int x3), some (.int x4), some (.int x5), some (.int x6), none]) (st' := [.long (Int32.toInt64 ((x3 + x5) - 1)), .long (Int32.toInt64 x3), .long (Int32.toInt64 (x6 / 16))]) rfl ?_
        refine Wp.callI rfl rfl rfl (CallI.mono h (fun v8 m7 h => ?_))
        refine Wp.if_eq rfl rfl ⟨fun hc => ?_, fun hc => ?_⟩
        · replace h := h.1 hc
          refine Wp.pk 3 (pc' := 156) (lv' := [some (.ref 77), none, some (.int x2), some (.int x3), some (.int x4), some (.int x5), some (.int x6), some (.int 0)]) (st' := [.ref 77]) rfl ?_
          refine Wp.getR rfl rfl sh77 rfl ?_
          refine Wp.pk 4 (pc' := 166) (lv' := [some (.ref 77), none, some (.int x2), some (.int x3), some (.int x4), some (.int x5), some (.int x6), some (.int 0)]) (st' := [.ref 77, .int (128 + x6), .ref 82]) rfl ?_
          refine Wp.getR rfl rfl sh77 rfl ?_
          refine Wp.pk 3 (pc' := 175) (lv' := [some (.ref 77), none, some (.int x2), some (.int x3), some (.int x4), some (.int x5), some (.int x6), some (.int 0)]) (st' := [.int (128 + x6), .ref 82, .int (128 + x6), .ref 82]) rfl ?_
          refine Wp.bald rfl sh82 ⟨h.1, ?_⟩
          replace h := h.2
          refine Wp.if_ne rfl rfl ⟨fun hc => ?_, fun hc => ?_⟩
          · replace h := h.1 hc
            refine Wp.pk 2 (pc' := 189) (lv' := [some (.ref 77), none, some (.int x2), some (.int x3), some (.int x4), some (.int x5), some (.int x6), some (.int 0)]) (st' := [.int 1, .int (128 + x6), .ref 82]) rfl ?_
            refine Wp.bastN rfl sh82 h.1 (fun m9 hm => ?_)
            replace h := h.2 _ hm
            refine Wp.pk 2 (pc' := 91) (lv' := [some (.ref 77), none, some (.int x2), some (.int x3), some (.int x4), some (.int x5), some (.int (x6 + 1)), some (.int 0)]) (st' := []) rfl ?_
            exact Wp.fgt (lv := [some (.ref 77), none, some (.int x2), some (.int x3), some (.int x4), some (.int x5), some (.int (x6 + 1)), none]) (a_lle.of (a_lleb_e (a_lleb_e (a_lleb_e (a_lleb_e (a_lleb_e (a_lleb_e (a_lleb_e (a_lleb_i trivial))))))))) h
          · replace h := h.2 hc
            refine Wp.pk 3 (pc' := 189) (lv' := [some (.ref 77), none, some (.int x2), some (.int x3), some (.int x4), some (.int x5), some (.int x6), some (.int 0)]) (st' := [.int 0, .int (128 + x6), .ref 82]) rfl ?_
            refine Wp.bastN rfl sh82 h.1 (fun m10 hm => ?_)
            replace h := h.2 _ hm
            refine Wp.pk 2 (pc' := 91) (lv' := [some (.ref 77), none, some (.int x2), some (.int x3), some (.int x4), some (.int x5), some (.int (x6 + 1)), some (.int 0)]) (st' := []) rfl ?_
            exact Wp.fgt (lv := [some (.ref 77), none, some (.int x2), some (.int x3), some (.int x4), some (.int x5), some (.int (x6 + 1)), none]) (a_lle.of (a_lleb_e (a_lleb_e (a_lleb_e (a_lleb_e (a_lleb_e (a_lleb_e (a_lleb_e (a_lleb_i trivial))))))))) h
        · replace h := h.2 hc
          refine Wp.pk 4 (pc' := 156) (lv' := [some (.ref 77), none, some (.int x2), some (.int x3), some (.int x4), some (.int x5), some (.int x6), some (.int 1)]) (st' := [.ref 77]) rfl ?_
          refine Wp.getR rfl rfl sh77 rfl ?_
          refine Wp.pk 4 (pc' := 166) (lv' := [some (.ref 77), none, some (.int x2), some (.int x3), some (.int x4), some (.int x5), some (.int x6), some (.int 1)]) (st' := [.ref 77, .int (128 + x6), .ref 82]) rfl ?_
          refine Wp.getR rfl rfl sh77 rfl ?_
          refine Wp.pk 3 (pc' := 175) (lv' := [some (.ref 77), none, some (.int x2), some (.int x3), some (.int x4), some (.int x5), some (.int x6), some (.int 1)]) (st' := [.int (128 + x6), .ref 82, .int (128 + x6), .ref 82]) rfl ?_
          refine Wp.bald rfl sh82 ⟨h.1, ?_⟩
          replace h := h.2
          refine Wp.if_ne rfl rfl ⟨fun hc => ?_, fun hc => ?_⟩
          · replace h := h.1 hc
            refine Wp.pk 2 (pc' := 189) (lv' := [some (.ref 77), none, some (.int x2), some (.int x3), some (.int x4), some (.int x5), some (.int x6), some (.int 1)]) (st' := [.int 1, .int (128 + x6), .ref 82]) rfl ?_
            refine Wp.bastN rfl sh82 h.1 (fun m11 hm => ?_)
            replace h := h.2 _ hm
            refine Wp.pk 2 (pc' := 91) (lv' := [some (.ref 77), none, some (.int x2), some (.int x3), some (.int x4), some (.int x5), some (.int (x6 + 1)), some (.int 1)]) (st' := []) rfl ?_
            exact Wp.fgt (lv := [some (.ref 77), none, some (.int x2), some (.int x3), some (.int x4), some (.int x5), some (.int (x6 + 1)), none]) (a_lle.of (a_lleb_e (a_lleb_e (a_lleb_e (a_lleb_e (a_lleb_e (a_lleb_e (a_lleb_e (a_lleb_i trivial))))))))) h
          · replace h := h.2 hc
            refine Wp.pk 4 (pc' := 189) (lv' := [some (.ref 77), none, some (.int x2), some (.int x3), some (.int x4), some (.int x5), some (.int x6), some (.int 1)]) (st' := [.int 1, .int (128 + x6), .ref 82]) rfl ?_
            refine Wp.bastN rfl sh82 h.1 (fun m12 hm => ?_)
            replace h := h.2 _ hm
            refine Wp.pk 2 (pc' := 91) (lv' := [some (.ref 77), none, some (.int x2), some (.int x3), some (.int x4), some (.int x5), some (.int (x6 + 1)), some (.int 1)]) (st' := []) rfl ?_
            exact Wp.fgt (lv := [some (.ref 77), none, some (.int x2), some (.int x3), some (.int x4), some (.int x5), some (.int (x6 + 1)), none]) (a_lle.of (a_lleb_e (a_lleb_e (a_lleb_e (a_lleb_e (a_lleb_e (a_lleb_e (a_lleb_e (a_lleb_i trivial))))))))) h
theorem eX9_takePass_0 {X : a_X} {m : Nat → Nat → Int32} {Q : Option Value → (Nat → Nat → Int32) → Prop} (h : ∀ m1, m1 = (a_up m 77 21 1) → vp_in 5 10 ∧ CallI X mX9_takeNumber [.ref 77, .int 0, .int ((m1 80 (Int32.toNatClampNeg 5)) - 1)] m1 (fun v3 m2 => (¬ (m2 77 17) = 0 → Q none m2) ∧ ((m2 77 17) = 0 → CallI X mX9_has [.int (m2 77 20), .int v3] m2 (fun v5 m4 => (¬ v5 = 0 → CallI X mX9_want [.ref 77, .int 0, .int 4, .int (m4 77 15)] m4 (fun v7 m6 => (v7 = 0 → Q none m6) ∧ (¬ v7 = 0 → ∀ m8, m8 = (a_up m6 77 20 ((m6 77 20) ||| (1 <<< (v3 &&& 31)))) → CallI X mX9_takeNumber [.ref 77, .int 0, .int 99] m8 (fun v10 m9 => vp_in (16 + v3) 32 ∧ ∀ m11, m11 = (a_up m9 81 (Int32.toNatClampNeg (16 + v3)) v10) → Q none m11)))) ∧ (v5 = 0 → CallI X mX9_want [.ref 77, .int 1, .int 4, .int (m4 77 15)] m4 (fun v13 m12 => (v13 = 0 → Q none m12) ∧ (¬ v13 = 0 → ∀ m14, m14 = (a_up m12 77 20 ((m12 77 20) ||| (1 <<< (v3 &&& 31)))) → CallI X mX9_takeNumber [.ref 77, .int 0, .int 99] m14 (fun v16 m15 => vp_in (16 + v3) 32 ∧ ∀ m17, m17 = (a_up m15 81 (Int32.toNatClampNeg (16 + v3)) v16) → Q none m17)))))))) : Call X mX9_takePass [.ref 77] m Q := by
  unfold Call
  refine Wp.loc (lv' := [some (.ref 77), none]) rfl ?_
  refine Wp.pk 2 (pc' := 2) (lv' := [some (.ref 77), none]) (st' := [.int 1, .ref 77]) rfl ?_
  refine Wp.putN rfl rfl sh77 rfl rfl (fun m1 hm => ?_)
  replace h := h _ hm
  refine Wp.pk 3 (pc' := 8) (lv' := [some (.ref 77), none]) (st' := [.ref 77, .int 0, .ref 77]) rfl ?_
  refine Wp.getR rfl rfl sh77 rfl ?_
  refine Wp.pk 1 (pc' := 12) (lv' := [some (.ref 77), none]) (st' := [.int 5, .ref 80, .int 0, .ref 77]) rfl ?_
  refine Wp.iald rfl sh80 ⟨h.1, ?_⟩
  replace h := h.2
  refine Wp.pk 2 (pc' := 15) (lv' := [some (.ref 77), none]) (st' := [.int ((m1 80 (Int32.toNatClampNeg 5)) - 1), .int 0, .ref 77]) rfl ?_
  refine Wp.callI rfl rfl rfl (CallI.mono h (fun v3 m2 h => ?_))
  refine Wp.pk 2 (pc' := 20) (lv' := [some (.ref 77), some (.int v3)]) (st' := [.ref 77]) rfl ?_
  refine Wp.getI rfl rfl sh77 rfl ?_
  refine Wp.if_ne rfl rfl ⟨fun hc => ?_, fun hc => ?_⟩
  · replace h := h.1 hc
    exact Wp.vret rfl rfl h
  · replace h := h.2 hc
    refine Wp.pk 2 (pc' := 28) (lv' := [some (.ref 77), some (.int v3)]) (st' := [.ref 77, .ref 77]) rfl ?_
    refine Wp.getI rfl rfl sh77 rfl ?_
    refine Wp.pk 1 (pc' := 32) (lv' := [some (.ref 77), some (.int v3)]) (st' := [.int v3, .int (m2 77 20), .ref 77]) rfl ?_
    refine Wp.callI rfl rfl rfl (CallI.mono h (fun v5 m4 h => ?_))
    refine Wp.if_ne rfl rfl ⟨fun hc => ?_, fun hc => ?_⟩
    · replace h := h.1 hc
      refine Wp.pk 3 (pc' := 45) (lv' := [some (.ref 77), some (.int v3)]) (st' := [.ref 77, .int 4, .int 0, .ref 77]) rfl ?_
      refine Wp.getI rfl rfl sh77 rfl ?_
      refine Wp.callI rfl rfl rfl (CallI.mono h (fun v7 m6 h => ?_))
      refine Wp.if_eq rfl rfl ⟨fun hc => ?_, fun hc => ?_⟩
      · replace h := h.1 hc
        exact Wp.vret rfl rfl h
      · replace h := h.2 hc
        refine Wp.pk 2 (pc' := 56) (lv' := [some (.ref 77), some (.int v3)]) (st' := [.ref 77, .ref 77]) rfl ?_
        refine Wp.getI rfl rfl sh77 rfl ?_
        refine Wp.pk 4 (pc' := 63) (lv' := [some (.ref 77), some (.int v3)]) (st' := [.int ((m6 77 20) ||| (1 <<< (v3 &&& 31))), .ref 77]) rfl ?_
        refine Wp.putN rfl rfl sh77 rfl rfl (fun m8 hm => ?_)
        replace h := h _ hm
        refine Wp.pk 1 (pc' := 67) (lv' := [some (.ref 77), some (.int v3)]) (st' := [.ref 77]) rfl ?_
        refine Wp.getR rfl rfl sh77 rfl ?_
        refine Wp.pk 6 (pc' := 78) (lv' := [some (.ref 77), some (.int v3)]) (st' := [.int 99, .int 0, .ref 77, .int (16 + v3), .ref 81]) rfl ?_
        refine Wp.callI rfl rfl rfl (CallI.mono h (fun v10 m9 h => ?_))
        refine Wp.iastN rfl sh81 h.1 (fun m11 hm => ?_)
        replace h := h.2 _ hm
        exact Wp.vret rfl rfl h
    · replace h := h.2 hc
      refine Wp.pk 4 (pc' := 45) (lv' := [some (.ref 77), some (.int v3)]) (st' := [.ref 77, .int 4, .int 1, .ref 77]) rfl ?_
      refine Wp.getI rfl rfl sh77 rfl ?_
      refine Wp.callI rfl rfl rfl (CallI.mono h (fun v13 m12 h => ?_))
      refine Wp.if_eq rfl rfl ⟨fun hc => ?_, fun hc => ?_⟩
      · replace h := h.1 hc
        exact Wp.vret rfl rfl h
      · replace h := h.2 hc
        refine Wp.pk 2 (pc' := 56) (lv' := [some (.ref 77), some (.int v3)]) (st' := [.ref 77, .ref 77]) rfl ?_
        refine Wp.getI rfl rfl sh77 rfl ?_
        refine Wp.pk 4 (pc' := 63) (lv' := [some (.ref 77), some (.int v3)]) (st' := [.int ((m12 77 20) ||| (1 <<< (v3 &&& 31))), .ref 77]) rfl ?_
        refine Wp.putN rfl rfl sh77 rfl rfl (fun m14 hm => ?_)
        replace h := h _ hm
        refine Wp.pk 1 (pc' := 67) (lv' := [some (.ref 77), some (.int v3)]) (st' := [.ref 77]) rfl ?_
        refine Wp.getR rfl rfl sh77 rfl ?_
        refine Wp.pk 6 (pc' := 78) (lv' := [some (.ref 77), some (.int v3)]) (st' := [.int 99, .int 0, .ref 77, .int (16 + v3), .ref 81]) rfl ?_
        refine Wp.callI rfl rfl rfl (CallI.mono h (fun v16 m15 h => ?_))
        refine Wp.iastN rfl sh81 h.1 (fun m17 hm => ?_)
        replace h := h.2 _ hm
        exact Wp.vret rfl rfl h
theorem eX9_takeKind_0 {X : a_X} {m : Nat → Nat → Int32} {Q : Option Value → (Nat → Nat → Int32) → Prop} {x1 : Int32} (h : ∀ m1, m1 = (a_up m 77 21 1) → (12 ≤ (m1 77 11) → CallI X mX9_want [.ref 77, .int 0, .int 3, .int x1] m1 (fun v3 m2 => (v3 = 0 → Q none m2) ∧ (¬ v3 = 0 → CallI X mX9_takeNumber [.ref 77, .int 0, .int 5] m2 (fun v5 m4 => vp_in (12 + (m2 77 11)) 24 ∧ ∀ m6, m6 = (a_up m4 83 (Int32.toNatClampNeg (12 + (m2 77 11))) v5) → vp_in 5 10 ∧ CallI X mX9_takeNumber [.ref 77, .int 1, .int (m6 80 (Int32.toNatClampNeg 5))] m6 (fun v8 m7 => vp_in (12 + (m6 77 11)) 24 ∧ ∀ m9, m9 = (a_up m7 84 (Int32.toNatClampNeg (12 + (m6 77 11))) v8) → vp_in 6 10 ∧ CallI X mX9_takeNumber [.ref 77, .int 1, .int (m9 80 (Int32.toNatClampNeg 6))] m9 (fun v11 m10 => vp_in (12 + (m9 77 11)) 24 ∧ ∀ m12, m12 = (a_up m10 85 (Int32.toNatClampNeg (12 + (m9 77 11))) v11) → ∀ m13, m13 = (a_up m12 77 11 ((m12 77 11) + 1)) → Q none m13)))))) ∧ (¬ 12 ≤ (m1 77 11) → CallI X mX9_want [.ref 77, .int 1, .int 3, .int x1] m1 (fun v15 m14 => (v15 = 0 → Q none m14) ∧ (¬ v15 = 0 → CallI X mX9_takeNumber [.ref 77, .int 0, .int 5] m14 (fun v17 m16 => vp_in (12 + (m14 77 11)) 24 ∧ ∀ m18, m18 = (a_up m16 83 (Int32.toNatClampNeg (12 + (m14 77 11))) v17) → vp_in 5 10 ∧ CallI X mX9_takeNumber [.ref 77, .int 1, .int (m18 80 (Int32.toNatClampNeg 5))] m18 (fun v20 m19 => vp_in (12 + (m18 77 11)) 24 ∧ ∀ m21, m21 = (a_up m19 84 (Int32.toNatClampNeg (12 + (m18 77 11))) v20) → vp_in 6 10 ∧ CallI X mX9_takeNumber [.ref 77, .int 1, .int (m21 80 (Int32.toNatClampNeg 6))] m21 (fun v23 m22 => vp_in (12 + (m21 77 11)) 24 ∧ ∀ m24, m24 = (a_up m22 85 (Int32.toNatClampNeg (12 + (m21 77 11))) v23) → ∀ m25, m25 = (a_up m24 77 11 ((m24 77 11) + 1)) → Q none m25))))))) : Call X mX9_takeKind [.ref 77, .int x1] m Q := by
  unfold Call
  refine Wp.loc (lv' := [some (.ref 77), some (.int x1)]) rfl ?_
  refine Wp.pk 2 (pc' := 2) (lv' := [some (.ref 77), some (.int x1)]) (st' := [.int 1, .ref 77]) rfl ?_
  refine Wp.putN rfl rfl sh77 rfl rfl (fun m1 hm => ?_)
  replace h := h _ hm
  refine Wp.pk 2 (pc' := 7) (lv' := [some (.ref 77), some (.int x1)]) (st' := [.ref 77, .ref 77]) rfl ?_
  refine Wp.getI rfl rfl sh77 rfl ?_
  refine Wp.pk 1 (pc' := 12) (lv' := [some (.ref 77), some (.int x1)]) (st' := [.int 12, .int (m1 77 11), .ref 77]) rfl ?_
  refine Wp.icmp_ge rfl rfl ⟨fun hc => ?_, fun hc => ?_⟩
  · replace h := h.1 hc
    refine Wp.pk 3 (pc' := 22) (lv' := [some (.ref 77), some (.int x1)]) (st' := [.int x1, .int 3, .int 0, .ref 77]) rfl ?_
    refine Wp.callI rfl rfl rfl (CallI.mono h (fun v3 m2 h => ?_))
    refine Wp.if_eq rfl rfl ⟨fun hc => ?_, fun hc => ?_⟩
    · replace h := h.1 hc
      exact Wp.vret rfl rfl h
    · replace h := h.2 hc
      refine Wp.pk 1 (pc' := 29) (lv' := [some (.ref 77), some (.int x1)]) (st' := [.ref 77]) rfl ?_
      refine Wp.getR rfl rfl sh77 rfl ?_
      refine Wp.pk 2 (pc' := 35) (lv' := [some (.ref 77), some (.int x1)]) (st' := [.ref 77, .int 12, .ref 83]) rfl ?_
      refine Wp.getI rfl rfl sh77 rfl ?_
      refine Wp.pk 4 (pc' := 42) (lv' := [some (.ref 77), some (.int x1)]) (st' := [.int 5, .int 0, .ref 77, .int (12 + (m2 77 11)), .ref 83]) rfl ?_
      refine Wp.callI rfl rfl rfl (CallI.mono h (fun v5 m4 h => ?_))
      refine Wp.iastN rfl sh83 h.1 (fun m6 hm => ?_)
      replace h := h.2 _ hm
      refine Wp.pk 1 (pc' := 47) (lv' := [some (.ref 77), some (.int x1)]) (st' := [.ref 77]) rfl ?_
      refine Wp.getR rfl rfl sh77 rfl ?_
      refine Wp.pk 2 (pc' := 53) (lv' := [some (.ref 77), some (.int x1)]) (st' := [.ref 77, .int 12, .ref 84]) rfl ?_
      refine Wp.getI rfl rfl sh77 rfl ?_
      refine Wp.pk 4 (pc' := 60) (lv' := [some (.ref 77), some (.int x1)]) (st' := [.ref 77, .int 1, .ref 77, .int (12 + (m6 77 11)), .ref 84]) rfl ?_
      refine Wp.getR rfl rfl sh77 rfl ?_
      refine Wp.pk 1 (pc' := 64) (lv' := [some (.ref 77), some (.int x1)]) (st' := [.int 5, .ref 80, .int 1, .ref 77, .int (12 + (m6 77 11)), .ref 84]) rfl ?_
      refine Wp.iald rfl sh80 ⟨h.1, ?_⟩
      replace h := h.2
      refine Wp.callI rfl rfl rfl (CallI.mono h (fun v8 m7 h => ?_))
      refine Wp.iastN rfl sh84 h.1 (fun m9 hm => ?_)
      replace h := h.2 _ hm
      refine Wp.pk 1 (pc' := 70) (lv' := [some (.ref 77), some (.int x1)]) (st' := [.ref 77]) rfl ?_
      refine Wp.getR rfl rfl sh77 rfl ?_
      refine Wp.pk 2 (pc' := 76) (lv' := [some (.ref 77), some (.int x1)]) (st' := [.ref 77, .int 12, .ref 85]) rfl ?_
      refine Wp.getI rfl rfl sh77 rfl ?_
      refine Wp.pk 4 (pc' := 83) (lv' := [some (.ref 77), some (.int x1)]) (st' := [.ref 77, .int 1, .ref 77, .int (12 + (m9 77 11)), .ref 85]) rfl ?_
      refine Wp.getR rfl rfl sh77 rfl ?_
      refine Wp.pk 1 (pc' := 88) (lv' := [some (.ref 77), some (.int x1)]) (st' := [.int 6, .ref 80, .int 1, .ref 77, .int (12 + (m9 77 11)), .ref 85]) rfl ?_
      refine Wp.iald rfl sh80 ⟨h.1, ?_⟩
      replace h := h.2
      refine Wp.callI rfl rfl rfl (CallI.mono h (fun v11 m10 h => ?_))
      refine Wp.iastN rfl sh85 h.1 (fun m12 hm => ?_)
      replace h := h.2 _ hm
      refine Wp.pk 2 (pc' := 95) (lv' := [some (.ref 77), some (.int x1)]) (st' := [.ref 77, .ref 77]) rfl ?_
      refine Wp.getI rfl rfl sh77 rfl ?_
      refine Wp.pk 2 (pc' := 100) (lv' := [some (.ref 77), some (.int x1)]) (st' := [.int ((m12 77 11) + 1), .ref 77]) rfl ?_
      refine Wp.putN rfl rfl sh77 rfl rfl (fun m13 hm => ?_)
      replace h := h _ hm
      exact Wp.vret rfl rfl h
  · replace h := h.2 hc
    refine Wp.pk 4 (pc' := 22) (lv' := [some (.ref 77), some (.int x1)]) (st' := [.int x1, .int 3, .int 1, .ref 77]) rfl ?_
    refine Wp.callI rfl rfl rfl (CallI.mono h (fun v15 m14 h => ?_))
    refine Wp.if_eq rfl rfl ⟨fun hc => ?_, fun hc => ?_⟩
    · replace h := h.1 hc
      exact Wp.vret rfl rfl h
    · replace h := h.2 hc
      refine Wp.pk 1 (pc' := 29) (lv' := [some (.ref 77), some (.int x1)]) (st' := [.ref 77]) rfl ?_
      refine Wp.getR rfl rfl sh77 rfl ?_
      refine Wp.pk 2 (pc' := 35) (lv' := [some (.ref 77), some (.int x1)]) (st' := [.ref 77, .int 12, .ref 83]) rfl ?_
      refine Wp.getI rfl rfl sh77 rfl ?_
      refine Wp.pk 4 (pc' := 42) (lv' := [some (.ref 77), some (.int x1)]) (st' := [.int 5, .int 0, .ref 77, .int (12 + (m14 77 11)), .ref 83]) rfl ?_
      refine Wp.callI rfl rfl rfl (CallI.mono h (fun v17 m16 h => ?_))
      refine Wp.iastN rfl sh83 h.1 (fun m18 hm => ?_)
      replace h := h.2 _ hm
      refine Wp.pk 1 (pc' := 47) (lv' := [some (.ref 77), some (.int x1)]) (st' := [.ref 77]) rfl ?_
      refine Wp.getR rfl rfl sh77 rfl ?_
      refine Wp.pk 2 (pc' := 53) (lv' := [some (.ref 77), some (.int x1)]) (st' := [.ref 77, .int 12, .ref 84]) rfl ?_
      refine Wp.getI rfl rfl sh77 rfl ?_
      refine Wp.pk 4 (pc' := 60) (lv' := [some (.ref 77), some (.int x1)]) (st' := [.ref 77, .int 1, .ref 77, .int (12 + (m18 77 11)), .ref 84]) rfl ?_
      refine Wp.getR rfl rfl sh77 rfl ?_
      refine Wp.pk 1 (pc' := 64) (lv' := [some (.ref 77), some (.int x1)]) (st' := [.int 5, .ref 80, .int 1, .ref 77, .int (12 + (m18 77 11)), .ref 84]) rfl ?_
      refine Wp.iald rfl sh80 ⟨h.1, ?_⟩
      replace h := h.2
      refine Wp.callI rfl rfl rfl (CallI.mono h (fun v20 m19 h => ?_))
      refine Wp.iastN rfl sh84 h.1 (fun m21 hm => ?_)
      replace h := h.2 _ hm
      refine Wp.pk 1 (pc' := 70) (lv' := [some (.ref 77), some (.int x1)]) (st' := [.ref 77]) rfl ?_
      refine Wp.getR rfl rfl sh77 rfl ?_
      refine Wp.pk 2 (pc' := 76) (lv' := [some (.ref 77), some (.int x1)]) (st' := [.ref 77, .int 12, .ref 85]) rfl ?_
      refine Wp.getI rfl rfl sh77 rfl ?_
      refine Wp.pk 4 (pc' := 83) (lv' := [some (.ref 77), some (.int x1)]) (st' := [.ref 77, .int 1, .ref 77, .int (12 + (m21 77 11)), .ref 85]) rfl ?_
      refine Wp.getR rfl rfl sh77 rfl ?_
      refine Wp.pk 1 (pc' := 88) (lv' := [some (.ref 77), some (.int x1)]) (st' := [.int 6, .ref 80, .int 1, .ref 77, .int (12 + (m21 77 11)), .ref 85]) rfl ?_
      refine Wp.iald rfl sh80 ⟨h.1, ?_⟩
      replace h := h.2
      refine Wp.callI rfl rfl rfl (CallI.mono h (fun v23 m22 h => ?_))
      refine Wp.iastN rfl sh85 h.1 (fun m24 hm => ?_)
      replace h := h.2 _ hm
      refine Wp.pk 2 (pc' := 95) (lv' := [some (.ref 77), some (.int x1)]) (st' := [.ref 77, .ref 77]) rfl ?_
      refine Wp.getI rfl rfl sh77 rfl ?_
      refine Wp.pk 2 (pc' := 100) (lv' := [some (.ref 77), some (.int x1)]) (st' := [.int ((m24 77 11) + 1), .ref 77]) rfl ?_
      refine Wp.putN rfl rfl sh77 rfl rfl (fun m25 hm => ?_)
      replace h := h _ hm
      exact Wp.vret rfl rfl h
theorem eX9_takeClause_0 {X : a_X} {m : Nat → Nat → Int32} {Q : Option Value → (Nat → Nat → Int32) → Prop} (h : CallV X mX9_takeWord [.ref 77] m (fun m1 => CallI X mX9_isWord [.ref 77, .int 4, .int 115, .int 105, .int 122, .int 101, .int 0] m1 (fun v3 m2 => (v3 = 0 → CallI X mX9_isWord [.ref 77, .int 5, .int 103, .int 117, .int 97, .int 114, .int 100] m2 (fun v5 m4 => (v5 = 0 → CallI X mX9_isWord [.ref 77, .int 4, .int 102, .int 105, .int 110, .int 101, .int 0] m4 (fun v7 m6 => (v7 = 0 → CallI X mX9_isWord [.ref 77, .int 4, .int 114, .int 101, .int 97, .int 100, .int 0] m6 (fun v9 m8 => (v9 = 0 → CallI X mX9_isWord [.ref 77, .int 4, .int 98, .int 97, .int 114, .int 101, .int 0] m8 (fun v11 m10 => (v11 = 0 → CallI X mX9_isWord [.ref 77, .int 4, .int 112, .int 97, .int 115, .int 115, .int 0] m10 (fun v13 m12 => (v13 = 0 → CallI X mX9_isWord [.ref 77, .int 4, .int 107, .int 105, .int 110, .int 100, .int 0] m12 (fun v15 m14 => CallI X mX9_want [.ref 77, .int v15, .int 1, .int (m1 77 15)] m14 (fun v17 m16 => (v17 = 0 → (¬ (m16 77 17) = 0 → Q none m16) ∧ ((m16 77 17) = 0 → CallI X mX9_here [.ref 77] m16 (fun v19 m18 => (¬ v19 = 59 → CallI X mX9_want [.ref 77, .int 0, .int 1, .int (m18 77 14)] m18 (fun v21 m20 => (v21 = 0 → Q none m20) ∧ (¬ v21 = 0 → ∀ m22, m22 = (a_up m20 77 14 ((m20 77 14) + 1)) → Q none m22))) ∧ (v19 = 59 → CallI X mX9_want [.ref 77, .int 1, .int 1, .int (m18 77 14)] m18 (fun v24 m23 => (v24 = 0 → Q none m23) ∧ (¬ v24 = 0 → ∀ m25, m25 = (a_up m23 77 14 ((m23 77 14) + 1)) → Q none m25)))))) ∧ (¬ v17 = 0 → CallV X mX9_takeKind [.ref 77, .int (m1 77 15)] m16 (fun m26 => (¬ (m26 77 17) = 0 → Q none m26) ∧ ((m26 77 17) = 0 → CallI X mX9_here [.ref 77] m26 (fun v28 m27 => (¬ v28 = 59 → CallI X mX9_want [.ref 77, .int 0, .int 1, .int (m27 77 14)] m27 (fun v30 m29 => (v30 = 0 → Q none m29) ∧ (¬ v30 = 0 → ∀ m31, m31 = (a_up m29 77 14 ((m29 77 14) + 1)) → Q none m31))) ∧ (v28 = 59 → CallI X mX9_want [.ref 77, .int 1, .int 1, .int (m27 77 14)] m27 (fun v33 m32 => (v33 = 0 → Q none m32) ∧ (¬ v33 = 0 → ∀ m34, m34 = (a_up m32 77 14 ((m32 77 14) + 1)) → Q none m34)))))))))) ∧ (¬ v13 = 0 → CallV X mX9_takePass [.ref 77] m12 (fun m35 => (¬ (m35 77 17) = 0 → Q none m35) ∧ ((m35 77 17) = 0 → CallI X mX9_here [.ref 77] m35 (fun v37 m36 => (¬ v37 = 59 → CallI X mX9_want [.ref 77, .int 0, .int 1, .int (m36 77 14)] m36 (fun v39 m38 => (v39 = 0 → Q none m38) ∧ (¬ v39 = 0 → ∀ m40, m40 = (a_up m38 77 14 ((m38 77 14) + 1)) → Q none m40))) ∧ (v37 = 59 → CallI X mX9_want [.ref 77, .int 1, .int 1, .int (m36 77 14)] m36 (fun v42 m41 => (v42 = 0 → Q none m41) ∧ (¬ v42 = 0 → ∀ m43, m43 = (a_up m41 77 14 ((m41 77 14) + 1)) → Q none m43))))))))) ∧ (¬ v11 = 0 → CallV X mX9_takeBare [.ref 77, .int (m1 77 15)] m10 (fun m44 => (¬ (m44 77 17) = 0 → Q none m44) ∧ ((m44 77 17) = 0 → CallI X mX9_here [.ref 77] m44 (fun v46 m45 => (¬ v46 = 59 → CallI X mX9_want [.ref 77, .int 0, .int 1, .int (m45 77 14)] m45 (fun v48 m47 => (v48 = 0 → Q none m47) ∧ (¬ v48 = 0 → ∀ m49, m49 = (a_up m47 77 14 ((m47 77 14) + 1)) → Q none m49))) ∧ (v46 = 59 → CallI X mX9_want [.ref 77, .int 1, .int 1, .int (m45 77 14)] m45 (fun v51 m50 => (v51 = 0 → Q none m50) ∧ (¬ v51 = 0 → ∀ m52, m52 = (a_up m50 77 14 ((m50 77 14) + 1)) → Q none m52))))))))) ∧ (¬ v9 = 0 → CallI X mX9_once [.ref 77, .int 3, .int (m1 77 15)] m8 (fun v54 m53 => (v54 = 0 → vp_in 9 10 ∧ ∀ m55, m55 = (a_up m53 80 (Int32.toNatClampNeg 9) 0) → (¬ (m55 77 17) = 0 → Q none m55) ∧ ((m55 77 17) = 0 → CallI X mX9_here [.ref 77] m55 (fun v57 m56 => (¬ v57 = 59 → CallI X mX9_want [.ref 77, .int 0, .int 1, .int (m56 77 14)] m56 (fun v59 m58 => (v59 = 0 → Q none m58) ∧ (¬ v59 = 0 → ∀ m60, m60 = (a_up m58 77 14 ((m58 77 14) + 1)) → Q none m60))) ∧ (v57 = 59 → CallI X mX9_want [.ref 77, .int 1, .int 1, .int (m56 77 14)] m56 (fun v62 m61 => (v62 = 0 → Q none m61) ∧ (¬ v62 = 0 → ∀ m63, m63 = (a_up m61 77 14 ((m61 77 14) + 1)) → Q none m63)))))) ∧ (¬ v54 = 0 → CallI X mX9_takeNumber [.ref 77, .int 1, .int 100] m53 (fun v65 m64 => vp_in 9 10 ∧ ∀ m66, m66 = (a_up m64 80 (Int32.toNatClampNeg 9) v65) → (¬ (m66 77 17) = 0 → Q none m66) ∧ ((m66 77 17) = 0 → CallI X mX9_here [.ref 77] m66 (fun v68 m67 => (¬ v68 = 59 → CallI X mX9_want [.ref 77, .int 0, .int 1, .int (m67 77 14)] m67 (fun v70 m69 => (v70 = 0 → Q none m69) ∧ (¬ v70 = 0 → ∀ m71, m71 = (a_up m69 77 14 ((m69 77 14) + 1)) → Q none m71))) ∧ (v68 = 59 → CallI X mX9_want [.ref 77, .int 1, .int 1, .int (m67 77 14)] m67 (fun v73 m72 => (v73 = 0 → Q none m72) ∧ (¬ v73 = 0 → ∀ m74, m74 = (a_up m72 77 14 ((m72 77 14) + 1)) → Q none m74))))))))))) ∧ (¬ v7 = 0 → CallI X mX9_once [.ref 77, .int 2, .int (m1 77 15)] m6 (fun v76 m75 => (v76 = 0 → vp_in 8 10 ∧ ∀ m77, m77 = (a_up m75 80 (Int32.toNatClampNeg 8) 0) → (¬ (m77 77 17) = 0 → Q none m77) ∧ ((m77 77 17) = 0 → CallI X mX9_here [.ref 77] m77 (fun v79 m78 => (¬ v79 = 59 → CallI X mX9_want [.ref 77, .int 0, .int 1, .int (m78 77 14)] m78 (fun v81 m80 => (v81 = 0 → Q none m80) ∧ (¬ v81 = 0 → ∀ m82, m82 = (a_up m80 77 14 ((m80 77 14) + 1)) → Q none m82))) ∧ (v79 = 59 → CallI X mX9_want [.ref 77, .int 1, .int 1, .int (m78 77 14)] m78 (fun v84 m83 => (v84 = 0 → Q none m83) ∧ (¬ v84 = 0 → ∀ m85, m85 = (a_up m83 77 14 ((m83 77 14) + 1)) → Q none m85)))))) ∧ (¬ v76 = 0 → CallI X mX9_takeNumber [.ref 77, .int 0, .int 999] m75 (fun v87 m86 => vp_in 8 10 ∧ ∀ m88, m88 = (a_up m86 80 (Int32.toNatClampNeg 8) v87) → (¬ (m88 77 17) = 0 → Q none m88) ∧ ((m88 77 17) = 0 → CallI X mX9_here [.ref 77] m88 (fun v90 m89 => (¬ v90 = 59 → CallI X mX9_want [.ref 77, .int 0, .int 1, .int (m89 77 14)] m89 (fun v92 m91 => (v92 = 0 → Q none m91) ∧ (¬ v92 = 0 → ∀ m93, m93 = (a_up m91 77 14 ((m91 77 14) + 1)) → Q none m93))) ∧ (v90 = 59 → CallI X mX9_want [.ref 77, .int 1, .int 1, .int (m89 77 14)] m89 (fun v95 m94 => (v95 = 0 → Q none m94) ∧ (¬ v95 = 0 → ∀ m96, m96 = (a_up m94 77 14 ((m94 77 14) + 1)) → Q none m96))))))))))) ∧ (¬ v5 = 0 → CallI X mX9_once [.ref 77, .int 1, .int (m1 77 15)] m4 (fun v98 m97 => (v98 = 0 → vp_in 7 10 ∧ ∀ m99, m99 = (a_up m97 80 (Int32.toNatClampNeg 7) 0) → (¬ (m99 77 17) = 0 → Q none m99) ∧ ((m99 77 17) = 0 → CallI X mX9_here [.ref 77] m99 (fun v101 m100 => (¬ v101 = 59 → CallI X mX9_want [.ref 77, .int 0, .int 1, .int (m100 77 14)] m100 (fun v103 m102 => (v103 = 0 → Q none m102) ∧ (¬ v103 = 0 → ∀ m104, m104 = (a_up m102 77 14 ((m102 77 14) + 1)) → Q none m104))) ∧ (v101 = 59 → CallI X mX9_want [.ref 77, .int 1, .int 1, .int (m100 77 14)] m100 (fun v106 m105 => (v106 = 0 → Q none m105) ∧ (¬ v106 = 0 → ∀ m107, m107 = (a_up m105 77 14 ((m105 77 14) + 1)) → Q none m107)))))) ∧ (¬ v98 = 0 → CallI X mX9_takeNumber [.ref 77, .int 0, .int 99] m97 (fun v109 m108 => vp_in 7 10 ∧ ∀ m110, m110 = (a_up m108 80 (Int32.toNatClampNeg 7) v109) → (¬ (m110 77 17) = 0 → Q none m110) ∧ ((m110 77 17) = 0 → CallI X mX9_here [.ref 77] m110 (fun v112 m111 => (¬ v112 = 59 → CallI X mX9_want [.ref 77, .int 0, .int 1, .int (m111 77 14)] m111 (fun v114 m113 => (v114 = 0 → Q none m113) ∧ (¬ v114 = 0 → ∀ m115, m115 = (a_up m113 77 14 ((m113 77 14) + 1)) → Q none m115))) ∧ (v112 = 59 → CallI X mX9_want [.ref 77, .int 1, .int 1, .int (m111 77 14)] m111 (fun v117 m116 => (v117 = 0 → Q none m116) ∧ (¬ v117 = 0 → ∀ m118, m118 = (a_up m116 77 14 ((m116 77 14) + 1)) → Q none m118))))))))))) ∧ (¬ v3 = 0 → CallV X mX9_takeSize [.ref 77, .int (m1 77 15)] m2 (fun m119 => (¬ (m119 77 17) = 0 → Q none m119) ∧ ((m119 77 17) = 0 → CallI X mX9_here [.ref 77] m119 (fun v121 m120 => (¬ v121 = 59 → CallI X mX9_want [.ref 77, .int 0, .int 1, .int (m120 77 14)] m120 (fun v123 m122 => (v123 = 0 → Q none m122) ∧ (¬ v123 = 0 → ∀ m124, m124 = (a_up m122 77 14 ((m122 77 14) + 1)) → Q none m124))) ∧ (v121 = 59 → CallI X mX9_want [.ref 77, .int 1, .int 1, .int (m120 77 14)] m120 (fun v126 m125 => (v126 = 0 → Q none m125) ∧ (¬ v126 = 0 → ∀ m127, m127 = (a_up m125 77 14 ((m125 77 14) + 1)) → Q none m127)))))))))) : Call X mX9_takeClause [.ref 77] m Q := by
  unfold Call
  refine Wp.loc (lv' := [some (.ref 77), none]) rfl ?_
  refine Wp.pk 1 (pc' := 1) (lv' := [some (.ref 77), none]) (st' := [.ref 77]) rfl ?_
  refine Wp.callV rfl rfl rfl (CallV.mono h (fun m1 h => ?_))
  refine Wp.pk 1 (pc' := 5) (lv' := [some (.ref 77), none]) (st' := [.ref 77]) rfl ?_
  refine Wp.getI rfl rfl sh77 rfl ?_
  refine Wp.pk 8 (pc' := 20) (lv' := [some (.ref 77), some (.int (m1 77 15))]) (st' := [.int 0, .int 101, .int 122, .int 105, .int 115, .int 4, .ref 77]) rfl ?_
  refine Wp.callI rfl rfl rfl (CallI.mono h (fun v3 m2 h => ?_))
  refine Wp.if_eq rfl rfl ⟨fun hc => ?_, fun hc => ?_⟩
  · replace h := h.1 hc
    refine Wp.pk 7 (pc' := 46) (lv' := [some (.ref 77), some (.int (m1 77 15))]) (st' := [.int 100, .int 114, .int 97, .int 117, .int 103, .int 5, .ref 77]) rfl ?_
    refine Wp.callI rfl rfl rfl (CallI.mono h (fun v5 m4 h => ?_))
    refine Wp.if_eq rfl rfl ⟨fun hc => ?_, fun hc => ?_⟩
    · replace h := h.1 hc
      refine Wp.pk 7 (pc' := 93) (lv' := [some (.ref 77), some (.int (m1 77 15))]) (st' := [.int 0, .int 101, .int 110, .int 105, .int 102, .int 4, .ref 77]) rfl ?_
      refine Wp.callI rfl rfl rfl (CallI.mono h (fun v7 m6 h => ?_))
      refine Wp.if_eq rfl rfl ⟨fun hc => ?_, fun hc => ?_⟩
      · replace h := h.1 hc
        refine Wp.pk 7 (pc' := 141) (lv' := [some (.ref 77), some (.int (m1 77 15))]) (st' := [.int 0, .int 100, .int 97, .int 101, .int 114, .int 4, .ref 77]) rfl ?_
        refine Wp.callI rfl rfl rfl (CallI.mono h (fun v9 m8 h => ?_))
        refine Wp.if_eq rfl rfl ⟨fun hc => ?_, fun hc => ?_⟩
        · replace h := h.1 hc
          refine Wp.pk 7 (pc' := 188) (lv' := [some (.ref 77), some (.int (m1 77 15))]) (st' := [.int 0, .int 101, .int 114, .int 97, .int 98, .int 4, .ref 77]) rfl ?_
          refine Wp.callI rfl rfl rfl (CallI.mono h (fun v11 m10 h => ?_))
          refine Wp.if_eq rfl rfl ⟨fun hc => ?_, fun hc => ?_⟩
          · replace h := h.1 hc
            refine Wp.pk 7 (pc' := 213) (lv' := [some (.ref 77), some (.int (m1 77 15))]) (st' := [.int 0, .int 115, .int 115, .int 97, .int 112, .int 4, .ref 77]) rfl ?_
            refine Wp.callI rfl rfl rfl (CallI.mono h (fun v13 m12 h => ?_))
            refine Wp.if_eq rfl rfl ⟨fun hc => ?_, fun hc => ?_⟩
            · replace h := h.1 hc
              refine Wp.pk 8 (pc' := 238) (lv' := [some (.ref 77), some (.int (m1 77 15))]) (st' := [.int 0, .int 100, .int 110, .int 105, .int 107, .int 4, .ref 77, .ref 77]) rfl ?_
              refine Wp.callI rfl rfl rfl (CallI.mono h (fun v15 m14 h => ?_))
              refine Wp.pk 2 (pc' := 243) (lv' := [some (.ref 77), some (.int (m1 77 15))]) (st' := [.int (m1 77 15), .int 1, .int v15, .ref 77]) rfl ?_
              refine Wp.callI rfl rfl rfl (CallI.mono h (fun v17 m16 h => ?_))
              refine Wp.if_eq rfl rfl ⟨fun hc => ?_, fun hc => ?_⟩
              · replace h := h.1 hc
                refine Wp.pk 1 (pc' := 255) (lv' := [some (.ref 77), some (.int (m1 77 15))]) (st' := [.ref 77]) rfl ?_
                refine Wp.getI rfl rfl sh77 rfl ?_
                refine Wp.if_ne rfl rfl ⟨fun hc => ?_, fun hc => ?_⟩
                · replace h := h.1 hc
                  exact Wp.vret rfl rfl h
                · replace h := h.2 hc
                  refine Wp.pk 2 (pc' := 263) (lv' := [some (.ref 77), some (.int (m1 77 15))]) (st' := [.ref 77, .ref 77]) rfl ?_
                  refine Wp.callI rfl rfl rfl (CallI.mono h (fun v19 m18 h => ?_))
                  refine Wp.pk 1 (pc' := 268) (lv' := [some (.ref 77), some (.int (m1 77 15))]) (st' := [.int 59, .int v19, .ref 77]) rfl ?_
                  refine Wp.icmp_ne rfl rfl ⟨fun hc => ?_, fun hc => ?_⟩
                  · replace h := h.1 hc
                    refine Wp.pk 3 (pc' := 278) (lv' := [some (.ref 77), some (.int (m1 77 15))]) (st' := [.ref 77, .int 1, .int 0, .ref 77]) rfl ?_
                    refine Wp.getI rfl rfl sh77 rfl ?_
                    refine Wp.callI rfl rfl rfl (CallI.mono h (fun v21 m20 h => ?_))
                    refine Wp.if_eq rfl rfl ⟨fun hc => ?_, fun hc => ?_⟩
                    · replace h := h.1 hc
                      exact Wp.vret rfl rfl h
                    · replace h := h.2 hc
                      refine Wp.pk 2 (pc' := 289) (lv' := [some (.ref 77), some (.int (m1 77 15))]) (st' := [.ref 77, .ref 77]) rfl ?_
                      refine Wp.getI rfl rfl sh77 rfl ?_
                      refine Wp.pk 2 (pc' := 294) (lv' := [some (.ref 77), some (.int (m1 77 15))]) (st' := [.int ((m20 77 14) + 1), .ref 77]) rfl ?_
                      refine Wp.putN rfl rfl sh77 rfl rfl (fun m22 hm => ?_)
                      replace h := h _ hm
                      exact Wp.vret rfl rfl h
                  · replace h := h.2 hc
                    refine Wp.pk 4 (pc' := 278) (lv' := [some (.ref 77), some (.int (m1 77 15))]) (st' := [.ref 77, .int 1, .int 1, .ref 77]) rfl ?_
                    refine Wp.getI rfl rfl sh77 rfl ?_
                    refine Wp.callI rfl rfl rfl (CallI.mono h (fun v24 m23 h => ?_))
                    refine Wp.if_eq rfl rfl ⟨fun hc => ?_, fun hc => ?_⟩
                    · replace h := h.1 hc
                      exact Wp.vret rfl rfl h
                    · replace h := h.2 hc
                      refine Wp.pk 2 (pc' := 289) (lv' := [some (.ref 77), some (.int (m1 77 15))]) (st' := [.ref 77, .ref 77]) rfl ?_
                      refine Wp.getI rfl rfl sh77 rfl ?_
                      refine Wp.pk 2 (pc' := 294) (lv' := [some (.ref 77), some (.int (m1 77 15))]) (st' := [.int ((m23 77 14) + 1), .ref 77]) rfl ?_
                      refine Wp.putN rfl rfl sh77 rfl rfl (fun m25 hm => ?_)
                      replace h := h _ hm
                      exact Wp.vret rfl rfl h
              · replace h := h.2 hc
                refine Wp.pk 2 (pc' := 251) (lv' := [some (.ref 77), some (.int (m1 77 15))]) (st' := [.int (m1 77 15), .ref 77]) rfl ?_
                refine Wp.callV rfl rfl rfl (CallV.mono h (fun m26 h => ?_))
                refine Wp.pk 1 (pc' := 255) (lv' := [some (.ref 77), some (.int (m1 77 15))]) (st' := [.ref 77]) rfl ?_
                refine Wp.getI rfl rfl sh77 rfl ?_
                refine Wp.if_ne rfl rfl ⟨fun hc => ?_, fun hc => ?_⟩
                · replace h := h.1 hc
                  exact Wp.vret rfl rfl h
                · replace h := h.2 hc
                  refine Wp.pk 2 (pc' := 263) (lv' := [some (.ref 77), some (.int (m1 77 15))]) (st' := [.ref 77, .ref 77]) rfl ?_
                  refine Wp.callI rfl rfl rfl (CallI.mono h (fun v28 m27 h => ?_))
                  refine Wp.pk 1 (pc' := 268) (lv' := [some (.ref 77), some (.int (m1 77 15))]) (st' := [.int 59, .int v28, .ref 77]) rfl ?_
                  refine Wp.icmp_ne rfl rfl ⟨fun hc => ?_, fun hc => ?_⟩
                  · replace h := h.1 hc
                    refine Wp.pk 3 (pc' := 278) (lv' := [some (.ref 77), some (.int (m1 77 15))]) (st' := [.ref 77, .int 1, .int 0, .ref 77]) rfl ?_
                    refine Wp.getI rfl rfl sh77 rfl ?_
                    refine Wp.callI rfl rfl rfl (CallI.mono h (fun v30 m29 h => ?_))
                    refine Wp.if_eq rfl rfl ⟨fun hc => ?_, fun hc => ?_⟩
                    · replace h := h.1 hc
                      exact Wp.vret rfl rfl h
                    · replace h := h.2 hc
                      refine Wp.pk 2 (pc' := 289) (lv' := [some (.ref 77), some (.int (m1 77 15))]) (st' := [.ref 77, .ref 77]) rfl ?_
                      refine Wp.getI rfl rfl sh77 rfl ?_
                      refine Wp.pk 2 (pc' := 294) (lv' := [some (.ref 77), some (.int (m1 77 15))]) (st' := [.int ((m29 77 14) + 1), .ref 77]) rfl ?_
                      refine Wp.putN rfl rfl sh77 rfl rfl (fun m31 hm => ?_)
                      replace h := h _ hm
                      exact Wp.vret rfl rfl h
                  · replace h := h.2 hc
                    refine Wp.pk 4 (pc' := 278) (lv' := [some (.ref 77), some (.int (m1 77 15))]) (st' := [.ref 77, .int 1, .int 1, .ref 77]) rfl ?_
                    refine Wp.getI rfl rfl sh77 rfl ?_
                    refine Wp.callI rfl rfl rfl (CallI.mono h (fun v33 m32 h => ?_))
                    refine Wp.if_eq rfl rfl ⟨fun hc => ?_, fun hc => ?_⟩
                    · replace h := h.1 hc
                      exact Wp.vret rfl rfl h
                    · replace h := h.2 hc
                      refine Wp.pk 2 (pc' := 289) (lv' := [some (.ref 77), some (.int (m1 77 15))]) (st' := [.ref 77, .ref 77]) rfl ?_
                      refine Wp.getI rfl rfl sh77 rfl ?_
                      refine Wp.pk 2 (pc' := 294) (lv' := [some (.ref 77), some (.int (m1 77 15))]) (st' := [.int ((m32 77 14) + 1), .ref 77]) rfl ?_
                      refine Wp.putN rfl rfl sh77 rfl rfl (fun m34 hm => ?_)
                      replace h := h _ hm
                      exact Wp.vret rfl rfl h
            · replace h := h.2 hc
              refine Wp.pk 1 (pc' := 220) (lv' := [some (.ref 77), some (.int (m1 77 15))]) (st' := [.ref 77]) rfl ?_
              refine Wp.callV rfl rfl rfl (CallV.mono h (fun m35 h => ?_))
              refine Wp.pk 2 (pc' := 255) (lv' := [some (.ref 77), some (.int (m1 77 15))]) (st' := [.ref 77]) rfl ?_
              refine Wp.getI rfl rfl sh77 rfl ?_
              refine Wp.if_ne rfl rfl ⟨fun hc => ?_, fun hc => ?_⟩
              · replace h := h.1 hc
                exact Wp.vret rfl rfl h
              · replace h := h.2 hc
                refine Wp.pk 2 (pc' := 263) (lv' := [some (.ref 77), some (.int (m1 77 15))]) (st' := [.ref 77, .ref 77]) rfl ?_
                refine Wp.callI rfl rfl rfl (CallI.mono h (fun v37 m36 h => ?_))
                refine Wp.pk 1 (pc' := 268) (lv' := [some (.ref 77), some (.int (m1 77 15))]) (st' := [.int 59, .int v37, .ref 77]) rfl ?_
                refine Wp.icmp_ne rfl rfl ⟨fun hc => ?_, fun hc => ?_⟩
                · replace h := h.1 hc
                  refine Wp.pk 3 (pc' := 278) (lv' := [some (.ref 77), some (.int (m1 77 15))]) (st' := [.ref 77, .int 1, .int 0, .ref 77]) rfl ?_
                  refine Wp.getI rfl rfl sh77 rfl ?_
                  refine Wp.callI rfl rfl rfl (CallI.mono h (fun v39 m38 h => ?_))
                  refine Wp.if_eq rfl rfl ⟨fun hc => ?_, fun hc => ?_⟩
                  · replace h := h.1 hc
                    exact Wp.vret rfl rfl h
                  · replace h := h.2 hc
                    refine Wp.pk 2 (pc' := 289) (lv' := [some (.ref 77), some (.int (m1 77 15))]) (st' := [.ref 77, .ref 77]) rfl ?_
                    refine Wp.getI rfl rfl sh77 rfl ?_
                    refine Wp.pk 2 (pc' := 294) (lv' := [some (.ref 77), some (.int (m1 77 15))]) (st' := [.int ((m38 77 14) + 1), .ref 77]) rfl ?_
                    refine Wp.putN rfl rfl sh77 rfl rfl (fun m40 hm => ?_)
                    replace h := h _ hm
                    exact Wp.vret rfl rfl h
                · replace h := h.2 hc
                  refine Wp.pk 4 (pc' := 278) (lv' := [some (.ref 77), some (.int (m1 77 15))]) (st' := [.ref 77, .int 1, .int 1, .ref 77]) rfl ?_
                  refine Wp.getI rfl rfl sh77 rfl ?_
                  refine Wp.callI rfl rfl rfl (CallI.mono h (fun v42 m41 h => ?_))
                  refine Wp.if_eq rfl rfl ⟨fun hc => ?_, fun hc => ?_⟩
                  · replace h := h.1 hc
                    exact Wp.vret rfl rfl h
                  · replace h := h.2 hc
                    refine Wp.pk 2 (pc' := 289) (lv' := [some (.ref 77), some (.int (m1 77 15))]) (st' := [.ref 77, .ref 77]) rfl ?_
                    refine Wp.getI rfl rfl sh77 rfl ?_
                    refine Wp.pk 2 (pc' := 294) (lv' := [some (.ref 77), some (.int (m1 77 15))]) (st' := [.int ((m41 77 14) + 1), .ref 77]) rfl ?_
                    refine Wp.putN rfl rfl sh77 rfl rfl (fun m43 hm => ?_)
                    replace h := h _ hm
                    exact Wp.vret rfl rfl h
          · replace h := h.2 hc
            refine Wp.pk 2 (pc' := 196) (lv' := [some (.ref 77), some (.int (m1 77 15))]) (st' := [.int (m1 77 15), .ref 77]) rfl ?_
            refine Wp.callV rfl rfl rfl (CallV.mono h (fun m44 h => ?_))
            refine Wp.pk 2 (pc' := 255) (lv' := [some (.ref 77), some (.int (m1 77 15))]) (st' := [.ref 77]) rfl ?_
            refine Wp.getI rfl rfl sh77 rfl ?_
            refine Wp.if_ne rfl rfl ⟨fun hc => ?_, fun hc => ?_⟩
            · replace h := h.1 hc
              exact Wp.vret rfl rfl h
            · replace h := h.2 hc
              refine Wp.pk 2 (pc' := 263) (lv' := [some (.ref 77), some (.int (m1 77 15))]) (st' := [.ref 77, .ref 77]) rfl ?_
              refine Wp.callI rfl rfl rfl (CallI.mono h (fun v46 m45 h => ?_))
              refine Wp.pk 1 (pc' := 268) (lv' := [some (.ref 77), some (.int (m1 77 15))]) (st' := [.int 59, .int v46, .ref 77]) rfl ?_
              refine Wp.icmp_ne rfl rfl ⟨fun hc => ?_, fun hc => ?_⟩
              · replace h := h.1 hc
                refine Wp.pk 3 (pc' := 278) (lv' := [some (.ref 77), some (.int (m1 77 15))]) (st' := [.ref 77, .int 1, .int 0, .ref 77]) rfl ?_
                refine Wp.getI rfl rfl sh77 rfl ?_
                refine Wp.callI rfl rfl rfl (CallI.mono h (fun v48 m47 h => ?_))
                refine Wp.if_eq rfl rfl ⟨fun hc => ?_, fun hc => ?_⟩
                · replace h := h.1 hc
                  exact Wp.vret rfl rfl h
                · replace h := h.2 hc
                  refine Wp.pk 2 (pc' := 289) (lv' := [some (.ref 77), some (.int (m1 77 15))]) (st' := [.ref 77, .ref 77]) rfl ?_
                  refine Wp.getI rfl rfl sh77 rfl ?_
                  refine Wp.pk 2 (pc' := 294) (lv' := [some (.ref 77), some (.int (m1 77 15))]) (st' := [.int ((m47 77 14) + 1), .ref 77]) rfl ?_
                  refine Wp.putN rfl rfl sh77 rfl rfl (fun m49 hm => ?_)
                  replace h := h _ hm
                  exact Wp.vret rfl rfl h
              · replace h := h.2 hc
                refine Wp.pk 4 (pc' := 278) (lv' := [some (.ref 77), some (.int (m1 77 15))]) (st' := [.ref 77, .int 1, .int 1, .ref 77]) rfl ?_
                refine Wp.getI rfl rfl sh77 rfl ?_
                refine Wp.callI rfl rfl rfl (CallI.mono h (fun v51 m50 h => ?_))
                refine Wp.if_eq rfl rfl ⟨fun hc => ?_, fun hc => ?_⟩
                · replace h := h.1 hc
                  exact Wp.vret rfl rfl h
                · replace h := h.2 hc
                  refine Wp.pk 2 (pc' := 289) (lv' := [some (.ref 77), some (.int (m1 77 15))]) (st' := [.ref 77, .ref 77]) rfl ?_
                  refine Wp.getI rfl rfl sh77 rfl ?_
                  refine Wp.pk 2 (pc' := 294) (lv' := [some (.ref 77), some (.int (m1 77 15))]) (st' := [.int ((m50 77 14) + 1), .ref 77]) rfl ?_
                  refine Wp.putN rfl rfl sh77 rfl rfl (fun m52 hm => ?_)
                  replace h := h _ hm
                  exact Wp.vret rfl rfl h
        · replace h := h.2 hc
          refine Wp.pk 1 (pc' := 148) (lv' := [some (.ref 77), some (.int (m1 77 15))]) (st' := [.ref 77]) rfl ?_
          refine Wp.getR rfl rfl sh77 rfl ?_
          refine Wp.pk 4 (pc' := 156) (lv' := [some (.ref 77), some (.int (m1 77 15))]) (st' := [.int (m1 77 15), .int 3, .ref 77, .int 9, .ref 80]) rfl ?_
          refine Wp.callI rfl rfl rfl (CallI.mono h (fun v54 m53 h => ?_))
          refine Wp.if_eq rfl rfl ⟨fun hc => ?_, fun hc => ?_⟩
          · replace h := h.1 hc
            refine Wp.pk 1 (pc' := 173) (lv' := [some (.ref 77), some (.int (m1 77 15))]) (st' := [.int 0, .int 9, .ref 80]) rfl ?_
            refine Wp.iastN rfl sh80 h.1 (fun m55 hm => ?_)
            replace h := h.2 _ hm
            refine Wp.pk 2 (pc' := 255) (lv' := [some (.ref 77), some (.int (m1 77 15))]) (st' := [.ref 77]) rfl ?_
            refine Wp.getI rfl rfl sh77 rfl ?_
            refine Wp.if_ne rfl rfl ⟨fun hc => ?_, fun hc => ?_⟩
            · replace h := h.1 hc
              exact Wp.vret rfl rfl h
            · replace h := h.2 hc
              refine Wp.pk 2 (pc' := 263) (lv' := [some (.ref 77), some (.int (m1 77 15))]) (st' := [.ref 77, .ref 77]) rfl ?_
              refine Wp.callI rfl rfl rfl (CallI.mono h (fun v57 m56 h => ?_))
              refine Wp.pk 1 (pc' := 268) (lv' := [some (.ref 77), some (.int (m1 77 15))]) (st' := [.int 59, .int v57, .ref 77]) rfl ?_
              refine Wp.icmp_ne rfl rfl ⟨fun hc => ?_, fun hc => ?_⟩
              · replace h := h.1 hc
                refine Wp.pk 3 (pc' := 278) (lv' := [some (.ref 77), some (.int (m1 77 15))]) (st' := [.ref 77, .int 1, .int 0, .ref 77]) rfl ?_
                refine Wp.getI rfl rfl sh77 rfl ?_
                refine Wp.callI rfl rfl rfl (CallI.mono h (fun v59 m58 h => ?_))
                refine Wp.if_eq rfl rfl ⟨fun hc => ?_, fun hc => ?_⟩
                · replace h := h.1 hc
                  exact Wp.vret rfl rfl h
                · replace h := h.2 hc
                  refine Wp.pk 2 (pc' := 289) (lv' := [some (.ref 77), some (.int (m1 77 15))]) (st' := [.ref 77, .ref 77]) rfl ?_
                  refine Wp.getI rfl rfl sh77 rfl ?_
                  refine Wp.pk 2 (pc' := 294) (lv' := [some (.ref 77), some (.int (m1 77 15))]) (st' := [.int ((m58 77 14) + 1), .ref 77]) rfl ?_
                  refine Wp.putN rfl rfl sh77 rfl rfl (fun m60 hm => ?_)
                  replace h := h _ hm
                  exact Wp.vret rfl rfl h
              · replace h := h.2 hc
                refine Wp.pk 4 (pc' := 278) (lv' := [some (.ref 77), some (.int (m1 77 15))]) (st' := [.ref 77, .int 1, .int 1, .ref 77]) rfl ?_
                refine Wp.getI rfl rfl sh77 rfl ?_
                refine Wp.callI rfl rfl rfl (CallI.mono h (fun v62 m61 h => ?_))
                refine Wp.if_eq rfl rfl ⟨fun hc => ?_, fun hc => ?_⟩
                · replace h := h.1 hc
                  exact Wp.vret rfl rfl h
                · replace h := h.2 hc
                  refine Wp.pk 2 (pc' := 289) (lv' := [some (.ref 77), some (.int (m1 77 15))]) (st' := [.ref 77, .ref 77]) rfl ?_
                  refine Wp.getI rfl rfl sh77 rfl ?_
                  refine Wp.pk 2 (pc' := 294) (lv' := [some (.ref 77), some (.int (m1 77 15))]) (st' := [.int ((m61 77 14) + 1), .ref 77]) rfl ?_
                  refine Wp.putN rfl rfl sh77 rfl rfl (fun m63 hm => ?_)
                  replace h := h _ hm
                  exact Wp.vret rfl rfl h
          · replace h := h.2 hc
            refine Wp.pk 3 (pc' := 166) (lv' := [some (.ref 77), some (.int (m1 77 15))]) (st' := [.int 100, .int 1, .ref 77, .int 9, .ref 80]) rfl ?_
            refine Wp.callI rfl rfl rfl (CallI.mono h (fun v65 m64 h => ?_))
            refine Wp.pk 1 (pc' := 173) (lv' := [some (.ref 77), some (.int (m1 77 15))]) (st' := [.int v65, .int 9, .ref 80]) rfl ?_
            refine Wp.iastN rfl sh80 h.1 (fun m66 hm => ?_)
            replace h := h.2 _ hm
            refine Wp.pk 2 (pc' := 255) (lv' := [some (.ref 77), some (.int (m1 77 15))]) (st' := [.ref 77]) rfl ?_
            refine Wp.getI rfl rfl sh77 rfl ?_
            refine Wp.if_ne rfl rfl ⟨fun hc => ?_, fun hc => ?_⟩
            · replace h := h.1 hc
              exact Wp.vret rfl rfl h
            · replace h := h.2 hc
              refine Wp.pk 2 (pc' := 263) (lv' := [some (.ref 77), some (.int (m1 77 15))]) (st' := [.ref 77, .ref 77]) rfl ?_
              refine Wp.callI rfl rfl rfl (CallI.mono h (fun v68 m67 h => ?_))
              refine Wp.pk 1 (pc' := 268) (lv' := [some (.ref 77), some (.int (m1 77 15))]) (st' := [.int 59, .int v68, .ref 77]) rfl ?_
              refine Wp.icmp_ne rfl rfl ⟨fun hc => ?_, fun hc => ?_⟩
              · replace h := h.1 hc
                refine Wp.pk 3 (pc' := 278) (lv' := [some (.ref 77), some (.int (m1 77 15))]) (st' := [.ref 77, .int 1, .int 0, .ref 77]) rfl ?_
                refine Wp.getI rfl rfl sh77 rfl ?_
                refine Wp.callI rfl rfl rfl (CallI.mono h (fun v70 m69 h => ?_))
                refine Wp.if_eq rfl rfl ⟨fun hc => ?_, fun hc => ?_⟩
                · replace h := h.1 hc
                  exact Wp.vret rfl rfl h
                · replace h := h.2 hc
                  refine Wp.pk 2 (pc' := 289) (lv' := [some (.ref 77), some (.int (m1 77 15))]) (st' := [.ref 77, .ref 77]) rfl ?_
                  refine Wp.getI rfl rfl sh77 rfl ?_
                  refine Wp.pk 2 (pc' := 294) (lv' := [some (.ref 77), some (.int (m1 77 15))]) (st' := [.int ((m69 77 14) + 1), .ref 77]) rfl ?_
                  refine Wp.putN rfl rfl sh77 rfl rfl (fun m71 hm => ?_)
                  replace h := h _ hm
                  exact Wp.vret rfl rfl h
              · replace h := h.2 hc
                refine Wp.pk 4 (pc' := 278) (lv' := [some (.ref 77), some (.int (m1 77 15))]) (st' := [.ref 77, .int 1, .int 1, .ref 77]) rfl ?_
                refine Wp.getI rfl rfl sh77 rfl ?_
                refine Wp.callI rfl rfl rfl (CallI.mono h (fun v73 m72 h => ?_))
                refine Wp.if_eq rfl rfl ⟨fun hc => ?_, fun hc => ?_⟩
                · replace h := h.1 hc
                  exact Wp.vret rfl rfl h
                · replace h := h.2 hc
                  refine Wp.pk 2 (pc' := 289) (lv' := [some (.ref 77), some (.int (m1 77 15))]) (st' := [.ref 77, .ref 77]) rfl ?_
                  refine Wp.getI rfl rfl sh77 rfl ?_
                  refine Wp.pk 2 (pc' := 294) (lv' := [some (.ref 77), some (.int (m1 77 15))]) (st' := [.int ((m72 77 14) + 1), .ref 77]) rfl ?_
                  refine Wp.putN rfl rfl sh77 rfl rfl (fun m74 hm => ?_)
                  replace h := h _ hm
                  exact Wp.vret rfl rfl h
      · replace h := h.2 hc
        refine Wp.pk 1 (pc' := 100) (lv' := [some (.ref 77), some (.int (m1 77 15))]) (st' := [.ref 77]) rfl ?_
        refine Wp.getR rfl rfl sh77 rfl ?_
        refine Wp.pk 4 (pc' := 108) (lv' := [some (.ref 77), some (.int (m1 77 15))]) (st' := [.int (m1 77 15), .int 2, .ref 77, .int 8, .ref 80]) rfl ?_
        refine Wp.callI rfl rfl rfl (CallI.mono h (fun v76 m75 h => ?_))
        refine Wp.if_eq rfl rfl ⟨fun hc => ?_, fun hc => ?_⟩
        · replace h := h.1 hc
          refine Wp.pk 1 (pc' := 126) (lv' := [some (.ref 77), some (.int (m1 77 15))]) (st' := [.int 0, .int 8, .ref 80]) rfl ?_
          refine Wp.iastN rfl sh80 h.1 (fun m77 hm => ?_)
          replace h := h.2 _ hm
          refine Wp.pk 2 (pc' := 255) (lv' := [some (.ref 77), some (.int (m1 77 15))]) (st' := [.ref 77]) rfl ?_
          refine Wp.getI rfl rfl sh77 rfl ?_
          refine Wp.if_ne rfl rfl ⟨fun hc => ?_, fun hc => ?_⟩
          · replace h := h.1 hc
            exact Wp.vret rfl rfl h
          · replace h := h.2 hc
            refine Wp.pk 2 (pc' := 263) (lv' := [some (.ref 77), some (.int (m1 77 15))]) (st' := [.ref 77, .ref 77]) rfl ?_
            refine Wp.callI rfl rfl rfl (CallI.mono h (fun v79 m78 h => ?_))
            refine Wp.pk 1 (pc' := 268) (lv' := [some (.ref 77), some (.int (m1 77 15))]) (st' := [.int 59, .int v79, .ref 77]) rfl ?_
            refine Wp.icmp_ne rfl rfl ⟨fun hc => ?_, fun hc => ?_⟩
            · replace h := h.1 hc
              refine Wp.pk 3 (pc' := 278) (lv' := [some (.ref 77), some (.int (m1 77 15))]) (st' := [.ref 77, .int 1, .int 0, .ref 77]) rfl ?_
              refine Wp.getI rfl rfl sh77 rfl ?_
              refine Wp.callI rfl rfl rfl (CallI.mono h (fun v81 m80 h => ?_))
              refine Wp.if_eq rfl rfl ⟨fun hc => ?_, fun hc => ?_⟩
              · replace h := h.1 hc
                exact Wp.vret rfl rfl h
              · replace h := h.2 hc
                refine Wp.pk 2 (pc' := 289) (lv' := [some (.ref 77), some (.int (m1 77 15))]) (st' := [.ref 77, .ref 77]) rfl ?_
                refine Wp.getI rfl rfl sh77 rfl ?_
                refine Wp.pk 2 (pc' := 294) (lv' := [some (.ref 77), some (.int (m1 77 15))]) (st' := [.int ((m80 77 14) + 1), .ref 77]) rfl ?_
                refine Wp.putN rfl rfl sh77 rfl rfl (fun m82 hm => ?_)
                replace h := h _ hm
                exact Wp.vret rfl rfl h
            · replace h := h.2 hc
              refine Wp.pk 4 (pc' := 278) (lv' := [some (.ref 77), some (.int (m1 77 15))]) (st' := [.ref 77, .int 1, .int 1, .ref 77]) rfl ?_
              refine Wp.getI rfl rfl sh77 rfl ?_
              refine Wp.callI rfl rfl rfl (CallI.mono h (fun v84 m83 h => ?_))
              refine Wp.if_eq rfl rfl ⟨fun hc => ?_, fun hc => ?_⟩
              · replace h := h.1 hc
                exact Wp.vret rfl rfl h
              · replace h := h.2 hc
                refine Wp.pk 2 (pc' := 289) (lv' := [some (.ref 77), some (.int (m1 77 15))]) (st' := [.ref 77, .ref 77]) rfl ?_
                refine Wp.getI rfl rfl sh77 rfl ?_
                refine Wp.pk 2 (pc' := 294) (lv' := [some (.ref 77), some (.int (m1 77 15))]) (st' := [.int ((m83 77 14) + 1), .ref 77]) rfl ?_
                refine Wp.putN rfl rfl sh77 rfl rfl (fun m85 hm => ?_)
                replace h := h _ hm
                exact Wp.vret rfl rfl h
        · replace h := h.2 hc
          refine Wp.pk 3 (pc' := 119) (lv' := [some (.ref 77), some (.int (m1 77 15))]) (st' := [.int 999, .int 0, .ref 77, .int 8, .ref 80]) rfl ?_
          refine Wp.callI rfl rfl rfl (CallI.mono h (fun v87 m86 h => ?_))
          refine Wp.pk 1 (pc' := 126) (lv' := [some (.ref 77), some (.int (m1 77 15))]) (st' := [.int v87, .int 8, .ref 80]) rfl ?_
          refine Wp.iastN rfl sh80 h.1 (fun m88 hm => ?_)
          replace h := h.2 _ hm
          refine Wp.pk 2 (pc' := 255) (lv' := [some (.ref 77), some (.int (m1 77 15))]) (st' := [.ref 77]) rfl ?_
          refine Wp.getI rfl rfl sh77 rfl ?_
          refine Wp.if_ne rfl rfl ⟨fun hc => ?_, fun hc => ?_⟩
          · replace h := h.1 hc
            exact Wp.vret rfl rfl h
          · replace h := h.2 hc
            refine Wp.pk 2 (pc' := 263) (lv' := [some (.ref 77), some (.int (m1 77 15))]) (st' := [.ref 77, .ref 77]) rfl ?_
            refine Wp.callI rfl rfl rfl (CallI.mono h (fun v90 m89 h => ?_))
            refine Wp.pk 1 (pc' := 268) (lv' := [some (.ref 77), some (.int (m1 77 15))]) (st' := [.int 59, .int v90, .ref 77]) rfl ?_
            refine Wp.icmp_ne rfl rfl ⟨fun hc => ?_, fun hc => ?_⟩
            · replace h := h.1 hc
              refine Wp.pk 3 (pc' := 278) (lv' := [some (.ref 77), some (.int (m1 77 15))]) (st' := [.ref 77, .int 1, .int 0, .ref 77]) rfl ?_
              refine Wp.getI rfl rfl sh77 rfl ?_
              refine Wp.callI rfl rfl rfl (CallI.mono h (fun v92 m91 h => ?_))
              refine Wp.if_eq rfl rfl ⟨fun hc => ?_, fun hc => ?_⟩
              · replace h := h.1 hc
                exact Wp.vret rfl rfl h
              · replace h := h.2 hc
                refine Wp.pk 2 (pc' := 289) (lv' := [some (.ref 77), some (.int (m1 77 15))]) (st' := [.ref 77, .ref 77]) rfl ?_
                refine Wp.getI rfl rfl sh77 rfl ?_
                refine Wp.pk 2 (pc' := 294) (lv' := [some (.ref 77), some (.int (m1 77 15))]) (st' := [.int ((m91 77 14) + 1), .ref 77]) rfl ?_
                refine Wp.putN rfl rfl sh77 rfl rfl (fun m93 hm => ?_)
                replace h := h _ hm
                exact Wp.vret rfl rfl h
            · replace h := h.2 hc
              refine Wp.pk 4 (pc' := 278) (lv' := [some (.ref 77), some (.int (m1 77 15))]) (st' := [.ref 77, .int 1, .int 1, .ref 77]) rfl ?_
              refine Wp.getI rfl rfl sh77 rfl ?_
              refine Wp.callI rfl rfl rfl (CallI.mono h (fun v95 m94 h => ?_))
              refine Wp.if_eq rfl rfl ⟨fun hc => ?_, fun hc => ?_⟩
              · replace h := h.1 hc
                exact Wp.vret rfl rfl h
              · replace h := h.2 hc
                refine Wp.pk 2 (pc' := 289) (lv' := [some (.ref 77), some (.int (m1 77 15))]) (st' := [.ref 77, .ref 77]) rfl ?_
                refine Wp.getI rfl rfl sh77 rfl ?_
                refine Wp.pk 2 (pc' := 294) (lv' := [some (.ref 77), some (.int (m1 77 15))]) (st' := [.int ((m94 77 14) + 1), .ref 77]) rfl ?_
                refine Wp.putN rfl rfl sh77 rfl rfl (fun m96 hm => ?_)
                replace h := h _ hm
                exact Wp.vret rfl rfl h
    · replace h := h.2 hc
      refine Wp.pk 1 (pc' := 53) (lv' := [some (.ref 77), some (.int (m1 77 15))]) (st' := [.ref 77]) rfl ?_
      refine Wp.getR rfl rfl sh77 rfl ?_
      refine Wp.pk 4 (pc' := 61) (lv' := [some (.ref 77), some (.int (m1 77 15))]) (st' := [.int (m1 77 15), .int 1, .ref 77, .int 7, .ref 80]) rfl ?_
      refine Wp.callI rfl rfl rfl (CallI.mono h (fun v98 m97 h => ?_))
      refine Wp.if_eq rfl rfl ⟨fun hc => ?_, fun hc => ?_⟩
      · replace h := h.1 hc
        refine Wp.pk 1 (pc' := 78) (lv' := [some (.ref 77), some (.int (m1 77 15))]) (st' := [.int 0, .int 7, .ref 80]) rfl ?_
        refine Wp.iastN rfl sh80 h.1 (fun m99 hm => ?_)
        replace h := h.2 _ hm
        refine Wp.pk 2 (pc' := 255) (lv' := [some (.ref 77), some (.int (m1 77 15))]) (st' := [.ref 77]) rfl ?_
        refine Wp.getI rfl rfl sh77 rfl ?_
        refine Wp.if_ne rfl rfl ⟨fun hc => ?_, fun hc => ?_⟩
        · replace h := h.1 hc
          exact Wp.vret rfl rfl h
        · replace h := h.2 hc
          refine Wp.pk 2 (pc' := 263) (lv' := [some (.ref 77), some (.int (m1 77 15))]) (st' := [.ref 77, .ref 77]) rfl ?_
          refine Wp.callI rfl rfl rfl (CallI.mono h (fun v101 m100 h => ?_))
          refine Wp.pk 1 (pc' := 268) (lv' := [some (.ref 77), some (.int (m1 77 15))]) (st' := [.int 59, .int v101, .ref 77]) rfl ?_
          refine Wp.icmp_ne rfl rfl ⟨fun hc => ?_, fun hc => ?_⟩
          · replace h := h.1 hc
            refine Wp.pk 3 (pc' := 278) (lv' := [some (.ref 77), some (.int (m1 77 15))]) (st' := [.ref 77, .int 1, .int 0, .ref 77]) rfl ?_
            refine Wp.getI rfl rfl sh77 rfl ?_
            refine Wp.callI rfl rfl rfl (CallI.mono h (fun v103 m102 h => ?_))
            refine Wp.if_eq rfl rfl ⟨fun hc => ?_, fun hc => ?_⟩
            · replace h := h.1 hc
              exact Wp.vret rfl rfl h
            · replace h := h.2 hc
              refine Wp.pk 2 (pc' := 289) (lv' := [some (.ref 77), some (.int (m1 77 15))]) (st' := [.ref 77, .ref 77]) rfl ?_
              refine Wp.getI rfl rfl sh77 rfl ?_
              refine Wp.pk 2 (pc' := 294) (lv' := [some (.ref 77), some (.int (m1 77 15))]) (st' := [.int ((m102 77 14) + 1), .ref 77]) rfl ?_
              refine Wp.putN rfl rfl sh77 rfl rfl (fun m104 hm => ?_)
              replace h := h _ hm
              exact Wp.vret rfl rfl h
          · replace h := h.2 hc
            refine Wp.pk 4 (pc' := 278) (lv' := [some (.ref 77), some (.int (m1 77 15))]) (st' := [.ref 77, .int 1, .int 1, .ref 77]) rfl ?_
            refine Wp.getI rfl rfl sh77 rfl ?_
            refine Wp.callI rfl rfl rfl (CallI.mono h (fun v106 m105 h => ?_))
            refine Wp.if_eq rfl rfl ⟨fun hc => ?_, fun hc => ?_⟩
            · replace h := h.1 hc
              exact Wp.vret rfl rfl h
            · replace h := h.2 hc
              refine Wp.pk 2 (pc' := 289) (lv' := [some (.ref 77), some (.int (m1 77 15))]) (st' := [.ref 77, .ref 77]) rfl ?_
              refine Wp.getI rfl rfl sh77 rfl ?_
              refine Wp.pk 2 (pc' := 294) (lv' := [some (.ref 77), some (.int (m1 77 15))]) (st' := [.int ((m105 77 14) + 1), .ref 77]) rfl ?_
              refine Wp.putN rfl rfl sh77 rfl rfl (fun m107 hm => ?_)
              replace h := h _ hm
              exact Wp.vret rfl rfl h
      · replace h := h.2 hc
        refine Wp.pk 3 (pc' := 71) (lv' := [some (.ref 77), some (.int (m1 77 15))]) (st' := [.int 99, .int 0, .ref 77, .int 7, .ref 80]) rfl ?_
        refine Wp.callI rfl rfl rfl (CallI.mono h (fun v109 m108 h => ?_))
        refine Wp.pk 1 (pc' := 78) (lv' := [some (.ref 77), some (.int (m1 77 15))]) (st' := [.int v109, .int 7, .ref 80]) rfl ?_
        refine Wp.iastN rfl sh80 h.1 (fun m110 hm => ?_)
        replace h := h.2 _ hm
        refine Wp.pk 2 (pc' := 255) (lv' := [some (.ref 77), some (.int (m1 77 15))]) (st' := [.ref 77]) rfl ?_
        refine Wp.getI rfl rfl sh77 rfl ?_
        refine Wp.if_ne rfl rfl ⟨fun hc => ?_, fun hc => ?_⟩
        · replace h := h.1 hc
          exact Wp.vret rfl rfl h
        · replace h := h.2 hc
          refine Wp.pk 2 (pc' := 263) (lv' := [some (.ref 77), some (.int (m1 77 15))]) (st' := [.ref 77, .ref 77]) rfl ?_
          refine Wp.callI rfl rfl rfl (CallI.mono h (fun v112 m111 h => ?_))
          refine Wp.pk 1 (pc' := 268) (lv' := [some (.ref 77), some (.int (m1 77 15))]) (st' := [.int 59, .int v112, .ref 77]) rfl ?_
          refine Wp.icmp_ne rfl rfl ⟨fun hc => ?_, fun hc => ?_⟩
          · replace h := h.1 hc
            refine Wp.pk 3 (pc' := 278) (lv' := [some (.ref 77), some (.int (m1 77 15))]) (st' := [.ref 77, .int 1, .int 0, .ref 77]) rfl ?_
            refine Wp.getI rfl rfl sh77 rfl ?_
            refine Wp.callI rfl rfl rfl (CallI.mono h (fun v114 m113 h => ?_))
            refine Wp.if_eq rfl rfl ⟨fun hc => ?_, fun hc => ?_⟩
            · replace h := h.1 hc
              exact Wp.vret rfl rfl h
            · replace h := h.2 hc
              refine Wp.pk 2 (pc' := 289) (lv' := [some (.ref 77), some (.int (m1 77 15))]) (st' := [.ref 77, .ref 77]) rfl ?_
              refine Wp.getI rfl rfl sh77 rfl ?_
              refine Wp.pk 2 (pc' := 294) (lv' := [some (.ref 77), some (.int (m1 77 15))]) (st' := [.int ((m113 77 14) + 1), .ref 77]) rfl ?_
              refine Wp.putN rfl rfl sh77 rfl rfl (fun m115 hm => ?_)
              replace h := h _ hm
              exact Wp.vret rfl rfl h
          · replace h := h.2 hc
            refine Wp.pk 4 (pc' := 278) (lv' := [some (.ref 77), some (.int (m1 77 15))]) (st' := [.ref 77, .int 1, .int 1, .ref 77]) rfl ?_
            refine Wp.getI rfl rfl sh77 rfl ?_
            refine Wp.callI rfl rfl rfl (CallI.mono h (fun v117 m116 h => ?_))
            refine Wp.if_eq rfl rfl ⟨fun hc => ?_, fun hc => ?_⟩
            · replace h := h.1 hc
              exact Wp.vret rfl rfl h
            · replace h := h.2 hc
              refine Wp.pk 2 (pc' := 289) (lv' := [some (.ref 77), some (.int (m1 77 15))]) (st' := [.ref 77, .ref 77]) rfl ?_
              refine Wp.getI rfl rfl sh77 rfl ?_
              refine Wp.pk 2 (pc' := 294) (lv' := [some (.ref 77), some (.int (m1 77 15))]) (st' := [.int ((m116 77 14) + 1), .ref 77]) rfl ?_
              refine Wp.putN rfl rfl sh77 rfl rfl (fun m118 hm => ?_)
              replace h := h _ hm
              exact Wp.vret rfl rfl h
  · replace h := h.2 hc
    refine Wp.pk 2 (pc' := 28) (lv' := [some (.ref 77), some (.int (m1 77 15))]) (st' := [.int (m1 77 15), .ref 77]) rfl ?_
    refine Wp.callV rfl rfl rfl (CallV.mono h (fun m119 h => ?_))
    refine Wp.pk 2 (pc' := 255) (lv' := [some (.ref 77), some (.int (m1 77 15))]) (st' := [.ref 77]) rfl ?_
    refine Wp.getI rfl rfl sh77 rfl ?_
    refine Wp.if_ne rfl rfl ⟨fun hc => ?_, fun hc => ?_⟩
    · replace h := h.1 hc
      exact Wp.vret rfl rfl h
    · replace h := h.2 hc
      refine Wp.pk 2 (pc' := 263) (lv' := [some (.ref 77), some (.int (m1 77 15))]) (st' := [.ref 77, .ref 77]) rfl ?_
      refine Wp.callI rfl rfl rfl (CallI.mono h (fun v121 m120 h => ?_))
      refine Wp.pk 1 (pc' := 268) (lv' := [some (.ref 77), some (.int (m1 77 15))]) (st' := [.int 59, .int v121, .ref 77]) rfl ?_
      refine Wp.icmp_ne rfl rfl ⟨fun hc => ?_, fun hc => ?_⟩
      · replace h := h.1 hc
        refine Wp.pk 3 (pc' := 278) (lv' := [some (.ref 77), some (.int (m1 77 15))]) (st' := [.ref 77, .int 1, .int 0, .ref 77]) rfl ?_
        refine Wp.getI rfl rfl sh77 rfl ?_
        refine Wp.callI rfl rfl rfl (CallI.mono h (fun v123 m122 h => ?_))
        refine Wp.if_eq rfl rfl ⟨fun hc => ?_, fun hc => ?_⟩
        · replace h := h.1 hc
          exact Wp.vret rfl rfl h
        · replace h := h.2 hc
          refine Wp.pk 2 (pc' := 289) (lv' := [some (.ref 77), some (.int (m1 77 15))]) (st' := [.ref 77, .ref 77]) rfl ?_
          refine Wp.getI rfl rfl sh77 rfl ?_
          refine Wp.pk 2 (pc' := 294) (lv' := [some (.ref 77), some (.int (m1 77 15))]) (st' := [.int ((m122 77 14) + 1), .ref 77]) rfl ?_
          refine Wp.putN rfl rfl sh77 rfl rfl (fun m124 hm => ?_)
          replace h := h _ hm
          exact Wp.vret rfl rfl h
      · replace h := h.2 hc
        refine Wp.pk 4 (pc' := 278) (lv' := [some (.ref 77), some (.int (m1 77 15))]) (st' := [.ref 77, .int 1, .int 1, .ref 77]) rfl ?_
        refine Wp.getI rfl rfl sh77 rfl ?_
        refine Wp.callI rfl rfl rfl (CallI.mono h (fun v126 m125 h => ?_))
        refine Wp.if_eq rfl rfl ⟨fun hc => ?_, fun hc => ?_⟩
        · replace h := h.1 hc
          exact Wp.vret rfl rfl h
        · replace h := h.2 hc
          refine Wp.pk 2 (pc' := 289) (lv' := [some (.ref 77), some (.int (m1 77 15))]) (st' := [.ref 77, .ref 77]) rfl ?_
          refine Wp.getI rfl rfl sh77 rfl ?_
          refine Wp.pk 2 (pc' := 294) (lv' := [some (.ref 77), some (.int (m1 77 15))]) (st' := [.int ((m125 77 14) + 1), .ref 77]) rfl ?_
          refine Wp.putN rfl rfl sh77 rfl rfl (fun m127 hm => ?_)
          replace h := h _ hm
          exact Wp.vret rfl rfl h
theorem eX9_wall_0 {X : a_X} {m : Nat → Nat → Int32} {Q : Option Value → (Nat → Nat → Int32) → Prop} (h : ∀ m1, m1 = (a_up m 77 14 0) → ∀ m2, m2 = (a_up m1 77 17 0) → ∀ m3, m3 = (a_up m2 77 18 (-1)) → ∀ m4, m4 = (a_up m3 77 19 0) → ∀ m5, m5 = (a_up m4 77 20 0) → ∀ m6, m6 = (a_up m5 77 21 0) → ∀ m7, m7 = (a_up m6 77 10 0) → ∀ m8, m8 = (a_up m7 77 11 0) → Wp X mX9_wall 42 [some (.ref 77), some (.int 0), none] [] m8 Q) : Call X mX9_wall [.ref 77] m Q := by
  unfold Call
  refine Wp.loc (lv' := [some (.ref 77), none, none]) rfl ?_
  refine Wp.pk 2 (pc' := 2) (lv' := [some (.ref 77), none, none]) (st' := [.int 0, .ref 77]) rfl ?_
  refine Wp.putN rfl rfl sh77 rfl rfl (fun m1 hm => ?_)
  replace h := h _ hm
  refine Wp.pk 2 (pc' := 7) (lv' := [some (.ref 77), none, none]) (st' := [.int 0, .ref 77]) rfl ?_
  refine Wp.putN rfl rfl sh77 rfl rfl (fun m2 hm => ?_)
  replace h := h _ hm
  refine Wp.pk 2 (pc' := 12) (lv' := [some (.ref 77), none, none]) (st' := [.int (-1), .ref 77]) rfl ?_
  refine Wp.putN rfl rfl sh77 rfl rfl (fun m3 hm => ?_)
  replace h := h _ hm
  refine Wp.pk 2 (pc' := 17) (lv' := [some (.ref 77), none, none]) (st' := [.int 0, .ref 77]) rfl ?_
  refine Wp.putN rfl rfl sh77 rfl rfl (fun m4 hm => ?_)
  replace h := h _ hm
  refine Wp.pk 2 (pc' := 22) (lv' := [some (.ref 77), none, none]) (st' := [.int 0, .ref 77]) rfl ?_
  refine Wp.putN rfl rfl sh77 rfl rfl (fun m5 hm => ?_)
  replace h := h _ hm
  refine Wp.pk 2 (pc' := 27) (lv' := [some (.ref 77), none, none]) (st' := [.int 0, .ref 77]) rfl ?_
  refine Wp.putN rfl rfl sh77 rfl rfl (fun m6 hm => ?_)
  replace h := h _ hm
  refine Wp.pk 2 (pc' := 32) (lv' := [some (.ref 77), none, none]) (st' := [.int 0, .ref 77]) rfl ?_
  refine Wp.putN rfl rfl sh77 rfl rfl (fun m7 hm => ?_)
  replace h := h _ hm
  refine Wp.pk 2 (pc' := 37) (lv' := [some (.ref 77), none, none]) (st' := [.int 0, .ref 77]) rfl ?_
  refine Wp.putN rfl rfl sh77 rfl rfl (fun m8 hm => ?_)
  replace h := h _ hm
  refine Wp.pk 2 (pc' := 42) (lv' := [some (.ref 77), some (.int 0), none]) (st' := []) rfl ?_
  exact h
theorem eX9_wall_42 {X : a_X} {m : Nat → Nat → Int32} {Q : Option Value → (Nat → Nat → Int32) → Prop} {x1 : Int32} (h : (5 ≤ x1 → Wp X mX9_wall 67 [some (.ref 77), some (.int 0), none] [] m Q) ∧ (¬ 5 ≤ x1 → CallI X mX9_untold [.int x1] m (fun v2 m1 => vp_in (5 + x1) 10 ∧ ∀ m3, m3 = (a_up m1 80 (Int32.toNatClampNeg (5 + x1)) v2) → Wp X mX9_wall 42 [some (.ref 77), some (.int (x1 + 1)), none] [] m3 Q))) : Wp X mX9_wall 42 [some (.ref 77), some (.int x1), none] [] m Q := by
  refine Wp.pk 2 (pc' := 44) (lv' := [some (.ref 77), some (.int x1), none]) (st' := [.int 5, .int x1]) rfl ?_
  refine Wp.icmp_ge rfl rfl ⟨fun hc => ?_, fun hc => ?_⟩
  · replace h := h.1 hc
    refine Wp.pk 2 (pc' := 67) (lv' := [some (.ref 77), some (.int 0), none]) (st' := []) rfl ?_
    exact h
  · replace h := h.2 hc
    refine Wp.pk 1 (pc' := 48) (lv' := [some (.ref 77), some (.int x1), none]) (st' := [.ref 77]) rfl ?_
    refine Wp.getR rfl rfl sh77 rfl ?_
    refine Wp.pk 4 (pc' := 55) (lv' := [some (.ref 77), some (.int x1), none]) (st' := [.int x1, .int (5 + x1), .ref 80]) rfl ?_
    refine Wp.callI rfl rfl rfl (CallI.mono h (fun v2 m1 h => ?_))
    refine Wp.iastN rfl sh80 h.1 (fun m3 hm => ?_)
    replace h := h.2 _ hm
    refine Wp.pk 2 (pc' := 42) (lv' := [some (.ref 77), some (.int (x1 + 1)), none]) (st' := []) rfl ?_
    exact h
theorem eX9_wall_67 {X : a_X} {m : Nat → Nat → Int32} {Q : Option Value → (Nat → Nat → Int32) → Prop} {x1 : Int32} (h : (16 ≤ x1 → Wp X mX9_wall 91 [some (.ref 77), some (.int 0), none] [] m Q) ∧ (¬ 16 ≤ x1 → vp_in (16 + x1) 32 ∧ ∀ m1, m1 = (a_up m 81 (Int32.toNatClampNeg (16 + x1)) 1) → Wp X mX9_wall 67 [some (.ref 77), some (.int (x1 + 1)), none] [] m1 Q)) : Wp X mX9_wall 67 [some (.ref 77), some (.int x1), none] [] m Q := by
  refine Wp.pk 2 (pc' := 70) (lv' := [some (.ref 77), some (.int x1), none]) (st' := [.int 16, .int x1]) rfl ?_
  refine Wp.icmp_ge rfl rfl ⟨fun hc => ?_, fun hc => ?_⟩
  · replace h := h.1 hc
    refine Wp.pk 2 (pc' := 91) (lv' := [some (.ref 77), some (.int 0), none]) (st' := []) rfl ?_
    exact h
  · replace h := h.2 hc
    refine Wp.pk 1 (pc' := 74) (lv' := [some (.ref 77), some (.int x1), none]) (st' := [.ref 77]) rfl ?_
    refine Wp.getR rfl rfl sh77 rfl ?_
    refine Wp.pk 4 (pc' := 82) (lv' := [some (.ref 77), some (.int x1), none]) (st' := [.int 1, .int (16 + x1), .ref 81]) rfl ?_
    refine Wp.iastN rfl sh81 h.1 (fun m1 hm => ?_)
    replace h := h.2 _ hm
    refine Wp.pk 2 (pc' := 67) (lv' := [some (.ref 77), some (.int (x1 + 1)), none]) (st' := []) rfl ?_
    exact h
theorem eX9_wall_91 {X : a_X} {m : Nat → Nat → Int32} {Q : Option Value → (Nat → Nat → Int32) → Prop} {x1 : Int32} (h : (128 ≤ x1 → Wp X mX9_wall 115 [some (.ref 77), none, none] [] m Q) ∧ (¬ 128 ≤ x1 → vp_in (128 + x1) 256 ∧ ∀ m1, m1 = (a_up m 82 (Int32.toNatClampNeg (128 + x1)) (vp_nar .boolean 0)) → Wp X mX9_wall 91 [some (.ref 77), some (.int (x1 + 1)), none] [] m1 Q)) : Wp X mX9_wall 91 [some (.ref 77), some (.int x1), none] [] m Q := by
  refine Wp.pk 2 (pc' := 95) (lv' := [some (.ref 77), some (.int x1), none]) (st' := [.int 128, .int x1]) rfl ?_
  refine Wp.icmp_ge rfl rfl ⟨fun hc => ?_, fun hc => ?_⟩
  · replace h := h.1 hc
    exact Wp.fgt (lv := [some (.ref 77), none, none]) (a_lle.of (a_lleb_e (a_lleb_i (a_lleb_e trivial)))) h
  · replace h := h.2 hc
    refine Wp.pk 1 (pc' := 99) (lv' := [some (.ref 77), some (.int x1), none]) (st' := [.ref 77]) rfl ?_
    refine Wp.getR rfl rfl sh77 rfl ?_
    refine Wp.pk 4 (pc' := 108) (lv' := [some (.ref 77), some (.int x1), none]) (st' := [.int 0, .int (128 + x1), .ref 82]) rfl ?_
    refine Wp.bastN rfl sh82 h.1 (fun m1 hm => ?_)
    replace h := h.2 _ hm
    refine Wp.pk 2 (pc' := 91) (lv' := [some (.ref 77), some (.int (x1 + 1)), none]) (st' := []) rfl ?_
    exact h
theorem eX9_wall_115 {X : a_X} {m : Nat → Nat → Int32} {Q : Option Value → (Nat → Nat → Int32) → Prop} (h : (¬ (m 77 17) = 0 → ∀ m1, m1 = (a_up m 77 13 0) → ((m1 77 17) ≤ 0 → Wp X mX9_wall 158 [some (.ref 77), some (.int 0), none] [] m1 Q) ∧ (¬ (m1 77 17) ≤ 0 → Q (some (.int ((-10) - (m1 77 17)))) m1)) ∧ ((m 77 17) = 0 → CallI X mX9_here [.ref 77] m (fun v3 m2 => (v3 < 0 → ∀ m4, m4 = (a_up m2 77 13 0) → ((m4 77 17) ≤ 0 → Wp X mX9_wall 158 [some (.ref 77), some (.int 0), none] [] m4 Q) ∧ (¬ (m4 77 17) ≤ 0 → Q (some (.int ((-10) - (m4 77 17)))) m4)) ∧ (¬ v3 < 0 → CallV X mX9_takeClause [.ref 77] m2 (fun m5 => Wp X mX9_wall 115 [some (.ref 77), none, none] [] m5 Q))))) : Wp X mX9_wall 115 [some (.ref 77), none, none] [] m Q := by
  refine Wp.pk 1 (pc' := 116) (lv' := [some (.ref 77), none, none]) (st' := [.ref 77]) rfl ?_
  refine Wp.getI rfl rfl sh77 rfl ?_
  refine Wp.if_ne rfl rfl ⟨fun hc => ?_, fun hc => ?_⟩
  · replace h := h.1 hc
    refine Wp.pk 2 (pc' := 138) (lv' := [some (.ref 77), none, none]) (st' := [.int 0, .ref 77]) rfl ?_
    refine Wp.putN rfl rfl sh77 rfl rfl (fun m1 hm => ?_)
    replace h := h _ hm
    refine Wp.pk 1 (pc' := 142) (lv' := [some (.ref 77), none, none]) (st' := [.ref 77]) rfl ?_
    refine Wp.getI rfl rfl sh77 rfl ?_
    refine Wp.if_le rfl rfl ⟨fun hc => ?_, fun hc => ?_⟩
    · replace h := h.1 hc
      refine Wp.pk 2 (pc' := 158) (lv' := [some (.ref 77), some (.int 0), none]) (st' := []) rfl ?_
      exact h
    · replace h := h.2 hc
      refine Wp.pk 2 (pc' := 151) (lv' := [some (.ref 77), none, none]) (st' := [.ref 77, .int (-10)]) rfl ?_
      refine Wp.getI rfl rfl sh77 rfl ?_
      refine Wp.pk 1 (pc' := 155) (lv' := [some (.ref 77), none, none]) (st' := [.int ((-10) - (m1 77 17))]) rfl ?_
      exact Wp.iret rfl rfl ⟨rfl, h⟩
  · replace h := h.2 hc
    refine Wp.pk 1 (pc' := 123) (lv' := [some (.ref 77), none, none]) (st' := [.ref 77]) rfl ?_
    refine Wp.callI rfl rfl rfl (CallI.mono h (fun v3 m2 h => ?_))
    refine Wp.if_lt rfl rfl ⟨fun hc => ?_, fun hc => ?_⟩
    · replace h := h.1 hc
      refine Wp.pk 2 (pc' := 138) (lv' := [some (.ref 77), none, none]) (st' := [.int 0, .ref 77]) rfl ?_
      refine Wp.putN rfl rfl sh77 rfl rfl (fun m4 hm => ?_)
      replace h := h _ hm
      refine Wp.pk 1 (pc' := 142) (lv' := [some (.ref 77), none, none]) (st' := [.ref 77]) rfl ?_
      refine Wp.getI rfl rfl sh77 rfl ?_
      refine Wp.if_le rfl rfl ⟨fun hc => ?_, fun hc => ?_⟩
      · replace h := h.1 hc
        refine Wp.pk 2 (pc' := 158) (lv' := [some (.ref 77), some (.int 0), none]) (st' := []) rfl ?_
        exact h
      · replace h := h.2 hc
        refine Wp.pk 2 (pc' := 151) (lv' := [some (.ref 77), none, none]) (st' := [.ref 77, .int (-10)]) rfl ?_
        refine Wp.getI rfl rfl sh77 rfl ?_
        refine Wp.pk 1 (pc' := 155) (lv' := [some (.ref 77), none, none]) (st' := [.int ((-10) - (m4 77 17))]) rfl ?_
        exact Wp.iret rfl rfl ⟨rfl, h⟩
    · replace h := h.2 hc
      refine Wp.pk 1 (pc' := 130) (lv' := [some (.ref 77), none, none]) (st' := [.ref 77]) rfl ?_
      refine Wp.callV rfl rfl rfl (CallV.mono h (fun m5 h => ?_))
      refine Wp.pk 1 (pc' := 115) (lv' := [some (.ref 77), none, none]) (st' := []) rfl ?_
      exact h
theorem eX9_wall_158 {X : a_X} {m : Nat → Nat → Int32} {Q : Option Value → (Nat → Nat → Int32) → Prop} {x1 : Int32} (h : (5 ≤ x1 → Wp X mX9_wall 185 [some (.ref 77), some (.int 0), none] [] m Q) ∧ (¬ 5 ≤ x1 → vp_in (5 + x1) 10 ∧ vp_in x1 10 ∧ ∀ m1, m1 = (a_up m 80 (Int32.toNatClampNeg x1) (m 80 (Int32.toNatClampNeg (5 + x1)))) → Wp X mX9_wall 158 [some (.ref 77), some (.int (x1 + 1)), none] [] m1 Q)) : Wp X mX9_wall 158 [some (.ref 77), some (.int x1), none] [] m Q := by
  refine Wp.pk 2 (pc' := 160) (lv' := [some (.ref 77), some (.int x1), none]) (st' := [.int 5, .int x1]) rfl ?_
  refine Wp.icmp_ge rfl rfl ⟨fun hc => ?_, fun hc => ?_⟩
  · replace h := h.1 hc
    refine Wp.pk 2 (pc' := 185) (lv' := [some (.ref 77), some (.int 0), none]) (st' := []) rfl ?_
    exact h
  · replace h := h.2 hc
    refine Wp.pk 1 (pc' := 164) (lv' := [some (.ref 77), some (.int x1), none]) (st' := [.ref 77]) rfl ?_
    refine Wp.getR rfl rfl sh77 rfl ?_
    refine Wp.pk 2 (pc' := 169) (lv' := [some (.ref 77), some (.int x1), none]) (st' := [.ref 77, .int x1, .ref 80]) rfl ?_
    refine Wp.getR rfl rfl sh77 rfl ?_
    refine Wp.pk 3 (pc' := 175) (lv' := [some (.ref 77), some (.int x1), none]) (st' := [.int (5 + x1), .ref 80, .int x1, .ref 80]) rfl ?_
    refine Wp.iald rfl sh80 ⟨h.1, ?_⟩
    replace h := h.2
    refine Wp.iastN rfl sh80 h.1 (fun m1 hm => ?_)
    replace h := h.2 _ hm
    refine Wp.pk 2 (pc' := 158) (lv' := [some (.ref 77), some (.int (x1 + 1)), none]) (st' := []) rfl ?_
    exact h
theorem eX9_wall_185 {X : a_X} {m : Nat → Nat → Int32} {Q : Option Value → (Nat → Nat → Int32) → Prop} {x1 : Int32} (h : (16 ≤ x1 → Wp X mX9_wall 214 [some (.ref 77), some (.int 0), none] [] m Q) ∧ (¬ 16 ≤ x1 → vp_in (16 + x1) 32 ∧ vp_in x1 32 ∧ ∀ m1, m1 = (a_up m 81 (Int32.toNatClampNeg x1) (m 81 (Int32.toNatClampNeg (16 + x1)))) → Wp X mX9_wall 185 [some (.ref 77), some (.int (x1 + 1)), none] [] m1 Q)) : Wp X mX9_wall 185 [some (.ref 77), some (.int x1), none] [] m Q := by
  refine Wp.pk 2 (pc' := 188) (lv' := [some (.ref 77), some (.int x1), none]) (st' := [.int 16, .int x1]) rfl ?_
  refine Wp.icmp_ge rfl rfl ⟨fun hc => ?_, fun hc => ?_⟩
  · replace h := h.1 hc
    refine Wp.pk 2 (pc' := 214) (lv' := [some (.ref 77), some (.int 0), none]) (st' := []) rfl ?_
    exact h
  · replace h := h.2 hc
    refine Wp.pk 1 (pc' := 192) (lv' := [some (.ref 77), some (.int x1), none]) (st' := [.ref 77]) rfl ?_
    refine Wp.getR rfl rfl sh77 rfl ?_
    refine Wp.pk 2 (pc' := 197) (lv' := [some (.ref 77), some (.int x1), none]) (st' := [.ref 77, .int x1, .ref 81]) rfl ?_
    refine Wp.getR rfl rfl sh77 rfl ?_
    refine Wp.pk 3 (pc' := 204) (lv' := [some (.ref 77), some (.int x1), none]) (st' := [.int (16 + x1), .ref 81, .int x1, .ref 81]) rfl ?_
    refine Wp.iald rfl sh81 ⟨h.1, ?_⟩
    replace h := h.2
    refine Wp.iastN rfl sh81 h.1 (fun m1 hm => ?_)
    replace h := h.2 _ hm
    refine Wp.pk 2 (pc' := 185) (lv' := [some (.ref 77), some (.int (x1 + 1)), none]) (st' := []) rfl ?_
    exact h
theorem eX9_wall_214 {X : a_X} {m : Nat → Nat → Int32} {Q : Option Value → (Nat → Nat → Int32) → Prop} {x1 : Int32} (h : (128 ≤ x1 → Wp X mX9_wall 245 [some (.ref 77), some (.int 0), none] [] m Q) ∧ (¬ 128 ≤ x1 → vp_in (128 + x1) 256 ∧ vp_in x1 256 ∧ ∀ m1, m1 = (a_up m 82 (Int32.toNatClampNeg x1) (vp_nar .boolean (m 82 (Int32.toNatClampNeg (128 + x1))))) → Wp X mX9_wall 214 [some (.ref 77), some (.int (x1 + 1)), none] [] m1 Q)) : Wp X mX9_wall 214 [some (.ref 77), some (.int x1), none] [] m Q := by
  refine Wp.pk 2 (pc' := 218) (lv' := [some (.ref 77), some (.int x1), none]) (st' := [.int 128, .int x1]) rfl ?_
  refine Wp.icmp_ge rfl rfl ⟨fun hc => ?_, fun hc => ?_⟩
  · replace h := h.1 hc
    refine Wp.pk 2 (pc' := 245) (lv' := [some (.ref 77), some (.int 0), none]) (st' := []) rfl ?_
    exact h
  · replace h := h.2 hc
    refine Wp.pk 1 (pc' := 222) (lv' := [some (.ref 77), some (.int x1), none]) (st' := [.ref 77]) rfl ?_
    refine Wp.getR rfl rfl sh77 rfl ?_
    refine Wp.pk 2 (pc' := 227) (lv' := [some (.ref 77), some (.int x1), none]) (st' := [.ref 77, .int x1, .ref 82]) rfl ?_
    refine Wp.getR rfl rfl sh77 rfl ?_
    refine Wp.pk 3 (pc' := 235) (lv' := [some (.ref 77), some (.int x1), none]) (st' := [.int (128 + x1), .ref 82, .int x1, .ref 82]) rfl ?_
    refine Wp.bald rfl sh82 ⟨h.1, ?_⟩
    replace h := h.2
    refine Wp.bastN rfl sh82 h.1 (fun m1 hm => ?_)
    replace h := h.2 _ hm
    refine Wp.pk 2 (pc' := 214) (lv' := [some (.ref 77), some (.int (x1 + 1)), none]) (st' := []) rfl ?_
    exact h
theorem eX9_wall_245 {X : a_X} {m : Nat → Nat → Int32} {Q : Option Value → (Nat → Nat → Int32) → Prop} {x1 : Int32} (h : (12 ≤ x1 → ∀ m1, m1 = (a_up m 77 5 (m 77 10)) → ∀ m2, m2 = (a_up m1 77 9 (m1 77 11)) → vp_in 190 800 ∧ Wp X mX9_wall 329 [some (.ref 77), some (.int (m2 78 (Int32.toNatClampNeg 190))), some (.int 0)] [] m2 Q) ∧ (¬ 12 ≤ x1 → vp_in (12 + x1) 24 ∧ vp_in x1 24 ∧ ∀ m3, m3 = (a_up m 83 (Int32.toNatClampNeg x1) (m 83 (Int32.toNatClampNeg (12 + x1)))) → vp_in (12 + x1) 24 ∧ vp_in x1 24 ∧ ∀ m4, m4 = (a_up m3 84 (Int32.toNatClampNeg x1) (m3 84 (Int32.toNatClampNeg (12 + x1)))) → vp_in (12 + x1) 24 ∧ vp_in x1 24 ∧ ∀ m5, m5 = (a_up m4 85 (Int32.toNatClampNeg x1) (m4 85 (Int32.toNatClampNeg (12 + x1)))) → Wp X mX9_wall 245 [some (.ref 77), some (.int (x1 + 1)), none] [] m5 Q)) : Wp X mX9_wall 245 [some (.ref 77), some (.int x1), none] [] m Q := by
  refine Wp.pk 2 (pc' := 248) (lv' := [some (.ref 77), some (.int x1), none]) (st' := [.int 12, .int x1]) rfl ?_
  refine Wp.icmp_ge rfl rfl ⟨fun hc => ?_, fun hc => ?_⟩
  · replace h := h.1 hc
    refine Wp.pk 2 (pc' := 304) (lv' := [some (.ref 77), some (.int x1), none]) (st' := [.ref 77, .ref 77]) rfl ?_
    refine Wp.getI rfl rfl sh77 rfl ?_
    refine Wp.putN rfl rfl sh77 rfl rfl (fun m1 hm => ?_)
    replace h := h _ hm
    refine Wp.pk 2 (pc' := 312) (lv' := [some (.ref 77), some (.int x1), none]) (st' := [.ref 77, .ref 77]) rfl ?_
    refine Wp.getI rfl rfl sh77 rfl ?_
    refine Wp.putN rfl rfl sh77 rfl rfl (fun m2 hm => ?_)
    replace h := h _ hm
    refine Wp.pk 1 (pc' := 319) (lv' := [some (.ref 77), some (.int x1), none]) (st' := [.ref 77]) rfl ?_
    refine Wp.getR rfl rfl sh77 rfl ?_
    refine Wp.pk 1 (pc' := 325) (lv' := [some (.ref 77), some (.int x1), none]) (st' := [.int 190, .ref 78]) rfl ?_
    refine Wp.iald rfl sh78 ⟨h.1, ?_⟩
    replace h := h.2
    refine Wp.pk 3 (pc' := 329) (lv' := [some (.ref 77), some (.int (m2 78 (Int32.toNatClampNeg 190))), some (.int 0)]) (st' := []) rfl ?_
    exact h
  · replace h := h.2 hc
    refine Wp.pk 1 (pc' := 252) (lv' := [some (.ref 77), some (.int x1), none]) (st' := [.ref 77]) rfl ?_
    refine Wp.getR rfl rfl sh77 rfl ?_
    refine Wp.pk 2 (pc' := 257) (lv' := [some (.ref 77), some (.int x1), none]) (st' := [.ref 77, .int x1, .ref 83]) rfl ?_
    refine Wp.getR rfl rfl sh77 rfl ?_
    refine Wp.pk 3 (pc' := 264) (lv' := [some (.ref 77), some (.int x1), none]) (st' := [.int (12 + x1), .ref 83, .int x1, .ref 83]) rfl ?_
    refine Wp.iald rfl sh83 ⟨h.1, ?_⟩
    replace h := h.2
    refine Wp.iastN rfl sh83 h.1 (fun m3 hm => ?_)
    replace h := h.2 _ hm
    refine Wp.pk 1 (pc' := 267) (lv' := [some (.ref 77), some (.int x1), none]) (st' := [.ref 77]) rfl ?_
    refine Wp.getR rfl rfl sh77 rfl ?_
    refine Wp.pk 2 (pc' := 272) (lv' := [some (.ref 77), some (.int x1), none]) (st' := [.ref 77, .int x1, .ref 84]) rfl ?_
    refine Wp.getR rfl rfl sh77 rfl ?_
    refine Wp.pk 3 (pc' := 279) (lv' := [some (.ref 77), some (.int x1), none]) (st' := [.int (12 + x1), .ref 84, .int x1, .ref 84]) rfl ?_
    refine Wp.iald rfl sh84 ⟨h.1, ?_⟩
    replace h := h.2
    refine Wp.iastN rfl sh84 h.1 (fun m4 hm => ?_)
    replace h := h.2 _ hm
    refine Wp.pk 1 (pc' := 282) (lv' := [some (.ref 77), some (.int x1), none]) (st' := [.ref 77]) rfl ?_
    refine Wp.getR rfl rfl sh77 rfl ?_
    refine Wp.pk 2 (pc' := 287) (lv' := [some (.ref 77), some (.int x1), none]) (st' := [.ref 77, .int x1, .ref 85]) rfl ?_
    refine Wp.getR rfl rfl sh77 rfl ?_
    refine Wp.pk 3 (pc' := 294) (lv' := [some (.ref 77), some (.int x1), none]) (st' := [.int (12 + x1), .ref 85, .int x1, .ref 85]) rfl ?_
    refine Wp.iald rfl sh85 ⟨h.1, ?_⟩
    replace h := h.2
    refine Wp.iastN rfl sh85 h.1 (fun m5 hm => ?_)
    replace h := h.2 _ hm
    refine Wp.pk 2 (pc' := 245) (lv' := [some (.ref 77), some (.int (x1 + 1)), none]) (st' := []) rfl ?_
    exact h
theorem eX9_wall_329 {X : a_X} {m : Nat → Nat → Int32} {Q : Option Value → (Nat → Nat → Int32) → Prop} {x1 x2 : Int32} (h : (200 ≤ x2 → vp_in 190 800 ∧ ∀ m1, m1 = (a_up m 78 (Int32.toNatClampNeg 190) x1) → vp_in 0 2 ∧ ∀ m2, m2 = (a_up m1 79 (Int32.toNatClampNeg 0) (vp_nar .boolean 0)) → vp_in 1 2 ∧ ∀ m3, m3 = (a_up m2 79 (Int32.toNatClampNeg 1) (vp_nar .boolean 0)) → CallI X mX9_burn [.ref 77] m3 (fun v5 m4 => Q (some (.int (m4 77 9))) m4)) ∧ (¬ 200 ≤ x2 → vp_in x2 800 ∧ ∀ m6, m6 = (a_up m 78 (Int32.toNatClampNeg x2) 0) → Wp X mX9_wall 329 [some (.ref 77), some (.int x1), some (.int (x2 + 1))] [] m6 Q)) : Wp X mX9_wall 329 [some (.ref 77), some (.int x1), some (.int x2)] [] m Q := by
  refine Wp.pk 2 (pc' := 333) (lv' := [some (.ref 77), some (.int x1), some (.int x2)]) (st' := [.int 200, .int x2]) rfl ?_
  refine Wp.icmp_ge rfl rfl ⟨fun hc => ?_, fun hc => ?_⟩
  · replace h := h.1 hc
    refine Wp.pk 1 (pc' := 350) (lv' := [some (.ref 77), some (.int x1), some (.int x2)]) (st' := [.ref 77]) rfl ?_
    refine Wp.getR rfl rfl sh77 rfl ?_
    refine Wp.pk 2 (pc' := 357) (lv' := [some (.ref 77), some (.int x1), some (.int x2)]) (st' := [.int x1, .int 190, .ref 78]) rfl ?_
    refine Wp.iastN rfl sh78 h.1 (fun m1 hm => ?_)
    replace h := h.2 _ hm
    refine Wp.pk 1 (pc' := 359) (lv' := [some (.ref 77), some (.int x1), some (.int x2)]) (st' := [.ref 77]) rfl ?_
    refine Wp.getR rfl rfl sh77 rfl ?_
    refine Wp.pk 2 (pc' := 364) (lv' := [some (.ref 77), some (.int x1), some (.int x2)]) (st' := [.int 0, .int 0, .ref 79]) rfl ?_
    refine Wp.bastN rfl sh79 h.1 (fun m2 hm => ?_)
    replace h := h.2 _ hm
    refine Wp.pk 1 (pc' := 366) (lv' := [some (.ref 77), some (.int x1), some (.int x2)]) (st' := [.ref 77]) rfl ?_
    refine Wp.getR rfl rfl sh77 rfl ?_
    refine Wp.pk 2 (pc' := 371) (lv' := [some (.ref 77), some (.int x1), some (.int x2)]) (st' := [.int 0, .int 1, .ref 79]) rfl ?_
    refine Wp.bastN rfl sh79 h.1 (fun m3 hm => ?_)
    replace h := h.2 _ hm
    refine Wp.pk 1 (pc' := 373) (lv' := [some (.ref 77), some (.int x1), some (.int x2)]) (st' := [.ref 77]) rfl ?_
    refine Wp.callI rfl rfl rfl (CallI.mono h (fun v5 m4 h => ?_))
    refine Wp.pk 2 (pc' := 378) (lv' := [some (.ref 77), some (.int x1), some (.int v5)]) (st' := [.ref 77]) rfl ?_
    refine Wp.getI rfl rfl sh77 rfl ?_
    exact Wp.iret rfl rfl ⟨rfl, h⟩
  · replace h := h.2 hc
    refine Wp.pk 1 (pc' := 337) (lv' := [some (.ref 77), some (.int x1), some (.int x2)]) (st' := [.ref 77]) rfl ?_
    refine Wp.getR rfl rfl sh77 rfl ?_
    refine Wp.pk 2 (pc' := 342) (lv' := [some (.ref 77), some (.int x1), some (.int x2)]) (st' := [.int 0, .int x2, .ref 78]) rfl ?_
    refine Wp.iastN rfl sh78 h.1 (fun m6 hm => ?_)
    replace h := h.2 _ hm
    refine Wp.pk 2 (pc' := 329) (lv' := [some (.ref 77), some (.int x1), some (.int (x2 + 1))]) (st' := []) rfl ?_
    exact h
theorem eX9_fault_0 {X : a_X} {m : Nat → Nat → Int32} {Q : Option Value → (Nat → Nat → Int32) → Prop} (h : Q (some (.int (m 77 18))) m) : Call X mX9_fault [.ref 77] m Q := by
  unfold Call
  refine Wp.loc (lv' := [some (.ref 77)]) rfl ?_
  refine Wp.pk 1 (pc' := 1) (lv' := [some (.ref 77)]) (st' := [.ref 77]) rfl ?_
  refine Wp.getI rfl rfl sh77 rfl ?_
  exact Wp.iret rfl rfl ⟨rfl, h⟩
theorem eX9_told_0 {X : a_X} {m : Nat → Nat → Int32} {Q : Option Value → (Nat → Nat → Int32) → Prop} {x1 : Int32} (h : (x1 = 0 → vp_in x1 10 ∧ Q (some (.int (m 80 (Int32.toNatClampNeg x1)))) m) ∧ (x1 = 1 → vp_in x1 10 ∧ Q (some (.int (m 80 (Int32.toNatClampNeg x1)))) m) ∧ (x1 = 2 → vp_in x1 10 ∧ Q (some (.int (m 80 (Int32.toNatClampNeg x1)))) m) ∧ (x1 = 3 → vp_in x1 10 ∧ Q (some (.int (m 80 (Int32.toNatClampNeg x1)))) m) ∧ (x1 = 4 → vp_in x1 10 ∧ Q (some (.int (m 80 (Int32.toNatClampNeg x1)))) m) ∧ (x1 = 5 → Q (some (.int (m 77 5))) m) ∧ (x1 = 6 → Q (some (.int (m 77 9))) m) ∧ (x1 = 7 → vp_in 180 800 ∧ Q (some (.int (m 78 (Int32.toNatClampNeg 180)))) m) ∧ (x1 = 8 → vp_in 181 800 ∧ Q (some (.int (m 78 (Int32.toNatClampNeg 181)))) m) ∧ (x1 = 9 → Q (some (.int (m 77 13))) m) ∧ (x1 = 10 → Q (some (.int (m 77 26))) m) ∧ (Int32.toInt x1 < 0 ∨ 10 < Int32.toInt x1 → Q (some (.int (-100000002))) m)) : Call X mX9_told [.ref 77, .int x1] m Q := by
  unfold Call
  refine Wp.loc (lv' := [some (.ref 77), some (.int x1)]) rfl ?_
  refine Wp.pk 1 (pc' := 1) (lv' := [some (.ref 77), some (.int x1)]) (st' := [.int x1]) rfl ?_
  refine Wp.tsw (lo := 0) (hi := 10) rfl (fun hc => ?_) (fun j hj1 hj2 hc => ?_)
  · replace h := h.2.2.2.2.2.2.2.2.2.2.2 hc
    refine ⟨105, rfl, ?_⟩
    refine Wp.ldc rfl rfl ?_
    exact Wp.iret rfl rfl ⟨rfl, h⟩
  · rcases (show j = 0 ∨ j = 1 ∨ j = 2 ∨ j = 3 ∨ j = 4 ∨ j = 5 ∨ j = 6 ∨ j = 7 ∨ j = 8 ∨ j = 9 ∨ j = 10 by omega) with rfl | rfl | rfl | rfl | rfl | rfl | rfl | rfl | rfl | rfl | rfl
    · replace h := (h.1 (Int32.toInt_inj.mp (hc.trans (by decide))))
      refine ⟨_, 60, rfl, rfl, ?_⟩
      refine Wp.pk 1 (pc' := 61) (lv' := [some (.ref 77), some (.int x1)]) (st' := [.ref 77]) rfl ?_
      refine Wp.getR rfl rfl sh77 rfl ?_
      refine Wp.pk 1 (pc' := 65) (lv' := [some (.ref 77), some (.int x1)]) (st' := [.int x1, .ref 80]) rfl ?_
      refine Wp.iald rfl sh80 ⟨h.1, ?_⟩
      replace h := h.2
      exact Wp.iret rfl rfl ⟨rfl, h⟩
    · replace h := (h.2.1 (Int32.toInt_inj.mp (hc.trans (by decide))))
      refine ⟨_, 60, rfl, rfl, ?_⟩
      refine Wp.pk 1 (pc' := 61) (lv' := [some (.ref 77), some (.int x1)]) (st' := [.ref 77]) rfl ?_
      refine Wp.getR rfl rfl sh77 rfl ?_
      refine Wp.pk 1 (pc' := 65) (lv' := [some (.ref 77), some (.int x1)]) (st' := [.int x1, .ref 80]) rfl ?_
      refine Wp.iald rfl sh80 ⟨h.1, ?_⟩
      replace h := h.2
      exact Wp.iret rfl rfl ⟨rfl, h⟩
    · replace h := (h.2.2.1 (Int32.toInt_inj.mp (hc.trans (by decide))))
      refine ⟨_, 60, rfl, rfl, ?_⟩
      refine Wp.pk 1 (pc' := 61) (lv' := [some (.ref 77), some (.int x1)]) (st' := [.ref 77]) rfl ?_
      refine Wp.getR rfl rfl sh77 rfl ?_
      refine Wp.pk 1 (pc' := 65) (lv' := [some (.ref 77), some (.int x1)]) (st' := [.int x1, .ref 80]) rfl ?_
      refine Wp.iald rfl sh80 ⟨h.1, ?_⟩
      replace h := h.2
      exact Wp.iret rfl rfl ⟨rfl, h⟩
    · replace h := (h.2.2.2.1 (Int32.toInt_inj.mp (hc.trans (by decide))))
      refine ⟨_, 60, rfl, rfl, ?_⟩
      refine Wp.pk 1 (pc' := 61) (lv' := [some (.ref 77), some (.int x1)]) (st' := [.ref 77]) rfl ?_
      refine Wp.getR rfl rfl sh77 rfl ?_
      refine Wp.pk 1 (pc' := 65) (lv' := [some (.ref 77), some (.int x1)]) (st' := [.int x1, .ref 80]) rfl ?_
      refine Wp.iald rfl sh80 ⟨h.1, ?_⟩
      replace h := h.2
      exact Wp.iret rfl rfl ⟨rfl, h⟩
    · replace h := (h.2.2.2.2.1 (Int32.toInt_inj.mp (hc.trans (by decide))))
      refine ⟨_, 60, rfl, rfl, ?_⟩
      refine Wp.pk 1 (pc' := 61) (lv' := [some (.ref 77), some (.int x1)]) (st' := [.ref 77]) rfl ?_
      refine Wp.getR rfl rfl sh77 rfl ?_
      refine Wp.pk 1 (pc' := 65) (lv' := [some (.ref 77), some (.int x1)]) (st' := [.int x1, .ref 80]) rfl ?_
      refine Wp.iald rfl sh80 ⟨h.1, ?_⟩
      replace h := h.2
      exact Wp.iret rfl rfl ⟨rfl, h⟩
    · replace h := (h.2.2.2.2.2.1 (Int32.toInt_inj.mp (hc.trans (by decide))))
      refine ⟨_, 67, rfl, rfl, ?_⟩
      refine Wp.pk 1 (pc' := 68) (lv' := [some (.ref 77), some (.int x1)]) (st' := [.ref 77]) rfl ?_
      refine Wp.getI rfl rfl sh77 rfl ?_
      exact Wp.iret rfl rfl ⟨rfl, h⟩
    · replace h := (h.2.2.2.2.2.2.1 (Int32.toInt_inj.mp (hc.trans (by decide))))
      refine ⟨_, 72, rfl, rfl, ?_⟩
      refine Wp.pk 1 (pc' := 73) (lv' := [some (.ref 77), some (.int x1)]) (st' := [.ref 77]) rfl ?_
      refine Wp.getI rfl rfl sh77 rfl ?_
      exact Wp.iret rfl rfl ⟨rfl, h⟩
    · replace h := (h.2.2.2.2.2.2.2.1 (Int32.toInt_inj.mp (hc.trans (by decide))))
      refine ⟨_, 77, rfl, rfl, ?_⟩
      refine Wp.pk 1 (pc' := 78) (lv' := [some (.ref 77), some (.int x1)]) (st' := [.ref 77]) rfl ?_
      refine Wp.getR rfl rfl sh77 rfl ?_
      refine Wp.pk 1 (pc' := 84) (lv' := [some (.ref 77), some (.int x1)]) (st' := [.int 180, .ref 78]) rfl ?_
      refine Wp.iald rfl sh78 ⟨h.1, ?_⟩
      replace h := h.2
      exact Wp.iret rfl rfl ⟨rfl, h⟩
    · replace h := (h.2.2.2.2.2.2.2.2.1 (Int32.toInt_inj.mp (hc.trans (by decide))))
      refine ⟨_, 86, rfl, rfl, ?_⟩
      refine Wp.pk 1 (pc' := 87) (lv' := [some (.ref 77), some (.int x1)]) (st' := [.ref 77]) rfl ?_
      refine Wp.getR rfl rfl sh77 rfl ?_
      refine Wp.pk 1 (pc' := 93) (lv' := [some (.ref 77), some (.int x1)]) (st' := [.int 181, .ref 78]) rfl ?_
      refine Wp.iald rfl sh78 ⟨h.1, ?_⟩
      replace h := h.2
      exact Wp.iret rfl rfl ⟨rfl, h⟩
    · replace h := (h.2.2.2.2.2.2.2.2.2.1 (Int32.toInt_inj.mp (hc.trans (by decide))))
      refine ⟨_, 95, rfl, rfl, ?_⟩
      refine Wp.pk 1 (pc' := 96) (lv' := [some (.ref 77), some (.int x1)]) (st' := [.ref 77]) rfl ?_
      refine Wp.getI rfl rfl sh77 rfl ?_
      exact Wp.iret rfl rfl ⟨rfl, h⟩
    · replace h := (h.2.2.2.2.2.2.2.2.2.2.1 (Int32.toInt_inj.mp (hc.trans (by decide))))
      refine ⟨_, 100, rfl, rfl, ?_⟩
      refine Wp.pk 1 (pc' := 101) (lv' := [some (.ref 77), some (.int x1)]) (st' := [.ref 77]) rfl ?_
      refine Wp.getI rfl rfl sh77 rfl ?_
      exact Wp.iret rfl rfl ⟨rfl, h⟩
theorem eX9_isKind_0 {X : a_X} {m : Nat → Nat → Int32} {Q : Option Value → (Nat → Nat → Int32) → Prop} {x1 : Int32} (h : CallI X mX9_in [.long (Int32.toInt64 x1), .long 0, .long (Int32.toInt64 ((m 77 9) - 1))] m (fun v2 m1 => a_fit .boolean v2 = true ∧ Q (some (.int v2)) m1)) : Call X mX9_isKind [.ref 77, .int x1] m Q := by
  unfold Call
  refine Wp.loc (lv' := [some (.ref 77), some (.int x1)]) rfl ?_
  refine Wp.pk 4 (pc' := 4) (lv' := [some (.ref 77), some (.int x1)]) (st' := [.ref 77, .long 0, .long (Int32.toInt64 x1)]) rfl ?_
  refine Wp.getI rfl rfl sh77 rfl ?_
  refine Wp.pk 3 (pc' := 10) (lv' := [some (.ref 77), some (.int x1)]) (st' := [.long (Int32.toInt64 ((m 77 9) - 1)), .long 0, .long (Int32.toInt64 x1)]) rfl ?_
  refine Wp.callI rfl rfl rfl (CallI.mono h (fun v2 m1 h => ?_))
  exact Wp.iret rfl rfl h
theorem eX9_kind_0 {X : a_X} {m : Nat → Nat → Int32} {Q : Option Value → (Nat → Nat → Int32) → Prop} {x1 x2 : Int32} (h : CallI X mX9_isKind [.ref 77, .int x1] m (fun v2 m1 => (¬ v2 = 0 → (¬ x2 = 0 → (¬ x2 = 1 → (¬ x2 = 2 → Q (some (.int (-100000002))) m1) ∧ (x2 = 2 → vp_in x1 24 ∧ Q (some (.int (m1 85 (Int32.toNatClampNeg x1)))) m1)) ∧ (x2 = 1 → vp_in x1 24 ∧ Q (some (.int (m1 84 (Int32.toNatClampNeg x1)))) m1)) ∧ (x2 = 0 → vp_in x1 24 ∧ Q (some (.int (m1 83 (Int32.toNatClampNeg x1)))) m1)) ∧ (v2 = 0 → Q (some (.int (-100000001))) m1))) : Call X mX9_kind [.ref 77, .int x1, .int x2] m Q := by
  unfold Call
  refine Wp.loc (lv' := [some (.ref 77), some (.int x1), some (.int x2)]) rfl ?_
  refine Wp.pk 2 (pc' := 2) (lv' := [some (.ref 77), some (.int x1), some (.int x2)]) (st' := [.int x1, .ref 77]) rfl ?_
  refine Wp.callI rfl rfl rfl (CallI.mono h (fun v2 m1 h => ?_))
  refine Wp.if_ne rfl rfl ⟨fun hc => ?_, fun hc => ?_⟩
  · replace h := h.1 hc
    refine Wp.pk 1 (pc' := 12) (lv' := [some (.ref 77), some (.int x1), some (.int x2)]) (st' := [.int x2]) rfl ?_
    refine Wp.if_ne rfl rfl ⟨fun hc => ?_, fun hc => ?_⟩
    · replace h := h.1 hc
      refine Wp.pk 2 (pc' := 26) (lv' := [some (.ref 77), some (.int x1), some (.int x2)]) (st' := [.int 1, .int x2]) rfl ?_
      refine Wp.icmp_ne rfl rfl ⟨fun hc => ?_, fun hc => ?_⟩
      · replace h := h.1 hc
        refine Wp.pk 2 (pc' := 40) (lv' := [some (.ref 77), some (.int x1), some (.int x2)]) (st' := [.int 2, .int x2]) rfl ?_
        refine Wp.icmp_ne rfl rfl ⟨fun hc => ?_, fun hc => ?_⟩
        · replace h := h.1 hc
          refine Wp.ldc rfl rfl ?_
          exact Wp.iret rfl rfl ⟨rfl, h⟩
        · replace h := h.2 hc
          refine Wp.pk 1 (pc' := 44) (lv' := [some (.ref 77), some (.int x1), some (.int x2)]) (st' := [.ref 77]) rfl ?_
          refine Wp.getR rfl rfl sh77 rfl ?_
          refine Wp.pk 1 (pc' := 48) (lv' := [some (.ref 77), some (.int x1), some (.int x2)]) (st' := [.int x1, .ref 85]) rfl ?_
          refine Wp.iald rfl sh85 ⟨h.1, ?_⟩
          replace h := h.2
          refine Wp.pk 1 (pc' := 54) (lv' := [some (.ref 77), some (.int x1), some (.int x2)]) (st' := [.int (m1 85 (Int32.toNatClampNeg x1))]) rfl ?_
          exact Wp.iret rfl rfl ⟨rfl, h⟩
      · replace h := h.2 hc
        refine Wp.pk 1 (pc' := 30) (lv' := [some (.ref 77), some (.int x1), some (.int x2)]) (st' := [.ref 77]) rfl ?_
        refine Wp.getR rfl rfl sh77 rfl ?_
        refine Wp.pk 1 (pc' := 34) (lv' := [some (.ref 77), some (.int x1), some (.int x2)]) (st' := [.int x1, .ref 84]) rfl ?_
        refine Wp.iald rfl sh84 ⟨h.1, ?_⟩
        replace h := h.2
        refine Wp.pk 1 (pc' := 54) (lv' := [some (.ref 77), some (.int x1), some (.int x2)]) (st' := [.int (m1 84 (Int32.toNatClampNeg x1))]) rfl ?_
        exact Wp.iret rfl rfl ⟨rfl, h⟩
    · replace h := h.2 hc
      refine Wp.pk 1 (pc' := 16) (lv' := [some (.ref 77), some (.int x1), some (.int x2)]) (st' := [.ref 77]) rfl ?_
      refine Wp.getR rfl rfl sh77 rfl ?_
      refine Wp.pk 1 (pc' := 20) (lv' := [some (.ref 77), some (.int x1), some (.int x2)]) (st' := [.int x1, .ref 83]) rfl ?_
      refine Wp.iald rfl sh83 ⟨h.1, ?_⟩
      replace h := h.2
      refine Wp.pk 1 (pc' := 54) (lv' := [some (.ref 77), some (.int x1), some (.int x2)]) (st' := [.int (m1 83 (Int32.toNatClampNeg x1))]) rfl ?_
      exact Wp.iret rfl rfl ⟨rfl, h⟩
  · replace h := h.2 hc
    refine Wp.ldc rfl rfl ?_
    exact Wp.iret rfl rfl ⟨rfl, h⟩
theorem eX9_passes_0 {X : a_X} {m : Nat → Nat → Int32} {Q : Option Value → (Nat → Nat → Int32) → Prop} {x1 : Int32} (h : vp_in 0 10 ∧ CallI X mX9_in [.long (Int32.toInt64 x1), .long 0, .long (Int32.toInt64 ((m 80 (Int32.toNatClampNeg 0)) - 1))] m (fun v2 m1 => (v2 = 0 → Q (some (.int (-100000002))) m1) ∧ (¬ v2 = 0 → vp_in x1 32 ∧ Q (some (.int (m1 81 (Int32.toNatClampNeg x1)))) m1))) : Call X mX9_passes [.ref 77, .int x1] m Q := by
  unfold Call
  refine Wp.loc (lv' := [some (.ref 77), some (.int x1)]) rfl ?_
  refine Wp.pk 4 (pc' := 4) (lv' := [some (.ref 77), some (.int x1)]) (st' := [.ref 77, .long 0, .long (Int32.toInt64 x1)]) rfl ?_
  refine Wp.getR rfl rfl sh77 rfl ?_
  refine Wp.pk 1 (pc' := 8) (lv' := [some (.ref 77), some (.int x1)]) (st' := [.int 0, .ref 80, .long 0, .long (Int32.toInt64 x1)]) rfl ?_
  refine Wp.iald rfl sh80 ⟨h.1, ?_⟩
  replace h := h.2
  refine Wp.pk 3 (pc' := 12) (lv' := [some (.ref 77), some (.int x1)]) (st' := [.long (Int32.toInt64 ((m 80 (Int32.toNatClampNeg 0)) - 1)), .long 0, .long (Int32.toInt64 x1)]) rfl ?_
  refine Wp.callI rfl rfl rfl (CallI.mono h (fun v2 m1 h => ?_))
  refine Wp.if_eq rfl rfl ⟨fun hc => ?_, fun hc => ?_⟩
  · replace h := h.1 hc
    refine Wp.ldc rfl rfl ?_
    exact Wp.iret rfl rfl ⟨rfl, h⟩
  · replace h := h.2 hc
    refine Wp.pk 1 (pc' := 19) (lv' := [some (.ref 77), some (.int x1)]) (st' := [.ref 77]) rfl ?_
    refine Wp.getR rfl rfl sh77 rfl ?_
    refine Wp.pk 1 (pc' := 23) (lv' := [some (.ref 77), some (.int x1)]) (st' := [.int x1, .ref 81]) rfl ?_
    refine Wp.iald rfl sh81 ⟨h.1, ?_⟩
    replace h := h.2
    refine Wp.pk 1 (pc' := 29) (lv' := [some (.ref 77), some (.int x1)]) (st' := [.int (m1 81 (Int32.toNatClampNeg x1))]) rfl ?_
    exact Wp.iret rfl rfl ⟨rfl, h⟩
theorem eX9_isCell_0 {X : a_X} {m : Nat → Nat → Int32} {Q : Option Value → (Nat → Nat → Int32) → Prop} {x1 x2 : Int32} (h : vp_in 0 10 ∧ CallI X mX9_in [.long (Int32.toInt64 x1), .long 0, .long (Int32.toInt64 ((m 80 (Int32.toNatClampNeg 0)) - 1))] m (fun v2 m1 => (v2 = 0 → Q (some (.int 0)) m1) ∧ (¬ v2 = 0 → vp_in 1 10 ∧ CallI X mX9_in [.long (Int32.toInt64 x2), .long 0, .long (Int32.toInt64 ((m1 80 (Int32.toNatClampNeg 1)) - 1))] m1 (fun v4 m3 => (v4 = 0 → Q (some (.int 0)) m3) ∧ (¬ v4 = 0 → Q (some (.int 1)) m3))))) : Call X mX9_isCell [.ref 77, .int x1, .int x2] m Q := by
  unfold Call
  refine Wp.loc (lv' := [some (.ref 77), some (.int x1), some (.int x2)]) rfl ?_
  refine Wp.pk 4 (pc' := 4) (lv' := [some (.ref 77), some (.int x1), some (.int x2)]) (st' := [.ref 77, .long 0, .long (Int32.toInt64 x1)]) rfl ?_
  refine Wp.getR rfl rfl sh77 rfl ?_
  refine Wp.pk 1 (pc' := 8) (lv' := [some (.ref 77), some (.int x1), some (.int x2)]) (st' := [.int 0, .ref 80, .long 0, .long (Int32.toInt64 x1)]) rfl ?_
  refine Wp.iald rfl sh80 ⟨h.1, ?_⟩
  replace h := h.2
  refine Wp.pk 3 (pc' := 12) (lv' := [some (.ref 77), some (.int x1), some (.int x2)]) (st' := [.long (Int32.toInt64 ((m 80 (Int32.toNatClampNeg 0)) - 1)), .long 0, .long (Int32.toInt64 x1)]) rfl ?_
  refine Wp.callI rfl rfl rfl (CallI.mono h (fun v2 m1 h => ?_))
  refine Wp.if_eq rfl rfl ⟨fun hc => ?_, fun hc => ?_⟩
  · replace h := h.1 hc
    refine Wp.pk 1 (pc' := 41) (lv' := [some (.ref 77), some (.int x1), some (.int x2)]) (st' := [.int 0]) rfl ?_
    exact Wp.iret rfl rfl ⟨rfl, h⟩
  · replace h := h.2 hc
    refine Wp.pk 4 (pc' := 22) (lv' := [some (.ref 77), some (.int x1), some (.int x2)]) (st' := [.ref 77, .long 0, .long (Int32.toInt64 x2)]) rfl ?_
    refine Wp.getR rfl rfl sh77 rfl ?_
    refine Wp.pk 1 (pc' := 26) (lv' := [some (.ref 77), some (.int x1), some (.int x2)]) (st' := [.int 1, .ref 80, .long 0, .long (Int32.toInt64 x2)]) rfl ?_
    refine Wp.iald rfl sh80 ⟨h.1, ?_⟩
    replace h := h.2
    refine Wp.pk 3 (pc' := 30) (lv' := [some (.ref 77), some (.int x1), some (.int x2)]) (st' := [.long (Int32.toInt64 ((m1 80 (Int32.toNatClampNeg 1)) - 1)), .long 0, .long (Int32.toInt64 x2)]) rfl ?_
    refine Wp.callI rfl rfl rfl (CallI.mono h (fun v4 m3 h => ?_))
    refine Wp.if_eq rfl rfl ⟨fun hc => ?_, fun hc => ?_⟩
    · replace h := h.1 hc
      refine Wp.pk 1 (pc' := 41) (lv' := [some (.ref 77), some (.int x1), some (.int x2)]) (st' := [.int 0]) rfl ?_
      exact Wp.iret rfl rfl ⟨rfl, h⟩
    · replace h := h.2 hc
      refine Wp.pk 2 (pc' := 41) (lv' := [some (.ref 77), some (.int x1), some (.int x2)]) (st' := [.int 1]) rfl ?_
      exact Wp.iret rfl rfl ⟨rfl, h⟩
theorem eX9_bare_0 {X : a_X} {m : Nat → Nat → Int32} {Q : Option Value → (Nat → Nat → Int32) → Prop} {x1 x2 : Int32} (h : CallI X mX9_isCell [.ref 77, .int x1, .int x2] m (fun v2 m1 => (v2 = 0 → Q (some (.int (-100000002))) m1) ∧ (¬ v2 = 0 → vp_in ((16 * x2) + x1) 256 ∧ CallI X mX9_one [.int (m1 82 (Int32.toNatClampNeg ((16 * x2) + x1)))] m1 (fun v4 m3 => Q (some (.int v4)) m3)))) : Call X mX9_bare [.ref 77, .int x1, .int x2] m Q := by
  unfold Call
  refine Wp.loc (lv' := [some (.ref 77), some (.int x1), some (.int x2)]) rfl ?_
  refine Wp.pk 3 (pc' := 3) (lv' := [some (.ref 77), some (.int x1), some (.int x2)]) (st' := [.int x2, .int x1, .ref 77]) rfl ?_
  refine Wp.callI rfl rfl rfl (CallI.mono h (fun v2 m1 h => ?_))
  refine Wp.if_eq rfl rfl ⟨fun hc => ?_, fun hc => ?_⟩
  · replace h := h.1 hc
    refine Wp.ldc rfl rfl ?_
    exact Wp.iret rfl rfl ⟨rfl, h⟩
  · replace h := h.2 hc
    refine Wp.pk 1 (pc' := 10) (lv' := [some (.ref 77), some (.int x1), some (.int x2)]) (st' := [.ref 77]) rfl ?_
    refine Wp.getR rfl rfl sh77 rfl ?_
    refine Wp.pk 5 (pc' := 19) (lv' := [some (.ref 77), some (.int x1), some (.int x2)]) (st' := [.int ((16 * x2) + x1), .ref 82]) rfl ?_
    refine Wp.bald rfl sh82 ⟨h.1, ?_⟩
    replace h := h.2
    refine Wp.callI rfl rfl rfl (CallI.mono h (fun v4 m3 h => ?_))
    refine Wp.pk 1 (pc' := 28) (lv' := [some (.ref 77), some (.int x1), some (.int x2)]) (st' := [.int v4]) rfl ?_
    exact Wp.iret rfl rfl ⟨rfl, h⟩
