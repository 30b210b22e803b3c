/-! the cells, and more rows -/
theorem sh0 : a_SH[0]? = some (.inl (8, [some (some 1), some (some 7), some (some 13), some (some 15), some (some 23), some (some 32), some (some 41), some (some 47), some (some 50), some (some 71)])) := rfl
theorem sh1 : a_SH[1]? = some (.inl (5, [none, none, none, none, none, none, none, some (some 2), some (some 3), some (some 4), some (some 5), some (some 6)])) := rfl
theorem sh2 : a_SH[2]? = some (.inr (0, 16)) := rfl
theorem sh3 : a_SH[3]? = some (.inr (0, 8)) := rfl
theorem sh4 : a_SH[4]? = some (.inr (0, 12)) := rfl
theorem sh5 : a_SH[5]? = some (.inr (0, 12)) := rfl
theorem sh6 : a_SH[6]? = some (.inr (0, 12)) := rfl
theorem sh7 : a_SH[7]? = some (.inl (5, [none, none, none, none, none, none, none, some (some 8), some (some 9), some (some 10), some (some 11), some (some 12)])) := rfl
theorem sh8 : a_SH[8]? = some (.inr (0, 16)) := rfl
theorem sh9 : a_SH[9]? = some (.inr (0, 8)) := rfl
theorem sh10 : a_SH[10]? = some (.inr (0, 12)) := rfl
theorem sh11 : a_SH[11]? = some (.inr (0, 12)) := rfl
theorem sh12 : a_SH[12]? = some (.inr (0, 12)) := rfl
theorem sh13 : a_SH[13]? = some (.inl (6, [some (some 14), none, none, none, none, none, none, none])) := rfl
theorem sh14 : a_SH[14]? = some (.inr (2, 300)) := rfl
theorem sh15 : a_SH[15]? = some (.inl (0, [some (some 1), none, none, none, some (some 16), some (some 17), some (some 18), some (some 19), some (some 20), none, some (some 21), some (some 22)])) := rfl
theorem sh16 : a_SH[16]? = some (.inr (0, 20)) := rfl
theorem sh17 : a_SH[17]? = some (.inr (0, 20)) := rfl
theorem sh18 : a_SH[18]? = some (.inr (0, 20)) := rfl
theorem sh19 : a_SH[19]? = some (.inr (0, 20)) := rfl
theorem sh20 : a_SH[20]? = some (.inr (0, 6)) := rfl
theorem sh21 : a_SH[21]? = some (.inr (0, 128)) := rfl
theorem sh22 : a_SH[22]? = some (.inr (0, 128)) := rfl
theorem sh23 : a_SH[23]? = some (.inl (1, [some (some 24), none])) := rfl
theorem sh24 : a_SH[24]? = some (.inl (0, [some (some 1), none, none, none, some (some 25), some (some 26), some (some 27), some (some 28), some (some 29), none, some (some 30), some (some 31)])) := rfl
theorem sh25 : a_SH[25]? = some (.inr (0, 20)) := rfl
theorem sh26 : a_SH[26]? = some (.inr (0, 20)) := rfl
theorem sh27 : a_SH[27]? = some (.inr (0, 20)) := rfl
theorem sh28 : a_SH[28]? = some (.inr (0, 20)) := rfl
theorem sh29 : a_SH[29]? = some (.inr (0, 6)) := rfl
theorem sh30 : a_SH[30]? = some (.inr (0, 128)) := rfl
theorem sh31 : a_SH[31]? = some (.inr (0, 128)) := rfl
theorem sh32 : a_SH[32]? = some (.inl (1, [some (some 33), none])) := rfl
theorem sh33 : a_SH[33]? = some (.inl (0, [some (some 1), none, none, none, some (some 34), some (some 35), some (some 36), some (some 37), some (some 38), none, some (some 39), some (some 40)])) := rfl
theorem sh34 : a_SH[34]? = some (.inr (0, 20)) := rfl
theorem sh35 : a_SH[35]? = some (.inr (0, 20)) := rfl
theorem sh36 : a_SH[36]? = some (.inr (0, 20)) := rfl
theorem sh37 : a_SH[37]? = some (.inr (0, 20)) := rfl
theorem sh38 : a_SH[38]? = some (.inr (0, 6)) := rfl
theorem sh39 : a_SH[39]? = some (.inr (0, 128)) := rfl
theorem sh40 : a_SH[40]? = some (.inr (0, 128)) := rfl
theorem sh41 : a_SH[41]? = some (.inl (7, [some (some 1), some (some 42), some (some 43), some (some 44), some (some 45), some (some 46), none, none])) := rfl
theorem sh42 : a_SH[42]? = some (.inr (0, 128)) := rfl
theorem sh43 : a_SH[43]? = some (.inr (0, 20)) := rfl
theorem sh44 : a_SH[44]? = some (.inr (0, 20)) := rfl
theorem sh45 : a_SH[45]? = some (.inr (0, 20)) := rfl
theorem sh46 : a_SH[46]? = some (.inr (0, 20)) := rfl
theorem sh47 : a_SH[47]? = some (.inl (2, [some (some 1), some (some 48), some (some 49), none])) := rfl
theorem sh48 : a_SH[48]? = some (.inr (0, 20)) := rfl
theorem sh49 : a_SH[49]? = some (.inr (0, 128)) := rfl
theorem sh50 : a_SH[50]? = some (.inl (4, [some (some 1), some (some 51), some (some 59), some (some 65), none, none, none, none, none, none, none])) := rfl
theorem sh51 : a_SH[51]? = some (.inl (0, [some (some 1), none, none, none, some (some 52), some (some 53), some (some 54), some (some 55), some (some 56), none, some (some 57), some (some 58)])) := rfl
theorem sh52 : a_SH[52]? = some (.inr (0, 20)) := rfl
theorem sh53 : a_SH[53]? = some (.inr (0, 20)) := rfl
theorem sh54 : a_SH[54]? = some (.inr (0, 20)) := rfl
theorem sh55 : a_SH[55]? = some (.inr (0, 20)) := rfl
theorem sh56 : a_SH[56]? = some (.inr (0, 6)) := rfl
theorem sh57 : a_SH[57]? = some (.inr (0, 128)) := rfl
theorem sh58 : a_SH[58]? = some (.inr (0, 128)) := rfl
theorem sh59 : a_SH[59]? = some (.inl (7, [some (some 1), some (some 60), some (some 61), some (some 62), some (some 63), some (some 64), none, none])) := rfl
theorem sh60 : a_SH[60]? = some (.inr (0, 128)) := rfl
theorem sh61 : a_SH[61]? = some (.inr (0, 20)) := rfl
theorem sh62 : a_SH[62]? = some (.inr (0, 20)) := rfl
theorem sh63 : a_SH[63]? = some (.inr (0, 20)) := rfl
theorem sh64 : a_SH[64]? = some (.inr (0, 20)) := rfl
theorem sh65 : a_SH[65]? = some (.inl (7, [some (some 1), some (some 66), some (some 67), some (some 68), some (some 69), some (some 70), none, none])) := rfl
theorem sh66 : a_SH[66]? = some (.inr (0, 128)) := rfl
theorem sh67 : a_SH[67]? = some (.inr (0, 20)) := rfl
theorem sh68 : a_SH[68]? = some (.inr (0, 20)) := rfl
theorem sh69 : a_SH[69]? = some (.inr (0, 20)) := rfl
theorem sh70 : a_SH[70]? = some (.inr (0, 20)) := rfl
theorem sh71 : a_SH[71]? = some (.inl (3, [some (some 1), none, some (some 72), some (some 73), some (some 74), some (some 75), some (some 76)])) := rfl
theorem sh72 : a_SH[72]? = some (.inr (0, 128)) := rfl
theorem sh73 : a_SH[73]? = some (.inr (0, 128)) := rfl
theorem sh74 : a_SH[74]? = some (.inr (0, 10)) := rfl
theorem sh75 : a_SH[75]? = some (.inr (0, 10)) := rfl
theorem sh76 : a_SH[76]? = some (.inr (0, 1024)) := rfl
theorem sh77 : a_SH[77]? = some (.inl (9, [some (some 78), some (some 79), some (some 80), some (some 81), some (some 82), none, some (some 83), some (some 84), some (some 85), none, none, none, some (some 86), none, none, none, none, none, none, none, none, none, some (some 87), some (some 88), some (some 89), some (some 90), none, some (some 91), some (some 92), some (some 93), some (some 94), some (some 95), some (some 96), none, none, none])) := rfl
theorem sh78 : a_SH[78]? = some (.inr (0, 800)) := rfl
theorem sh79 : a_SH[79]? = some (.inr (1, 2)) := rfl
theorem sh80 : a_SH[80]? = some (.inr (0, 10)) := rfl
theorem sh81 : a_SH[81]? = some (.inr (0, 32)) := rfl
theorem sh82 : a_SH[82]? = some (.inr (1, 256)) := rfl
theorem sh83 : a_SH[83]? = some (.inr (0, 24)) := rfl
theorem sh84 : a_SH[84]? = some (.inr (0, 24)) := rfl
theorem sh85 : a_SH[85]? = some (.inr (0, 24)) := rfl
theorem sh86 : a_SH[86]? = some (.inr (0, 300)) := rfl
theorem sh87 : a_SH[87]? = some (.inr (0, 20)) := rfl
theorem sh88 : a_SH[88]? = some (.inr (0, 20)) := rfl
theorem sh89 : a_SH[89]? = some (.inr (0, 20)) := rfl
theorem sh90 : a_SH[90]? = some (.inr (0, 20)) := rfl
theorem sh91 : a_SH[91]? = some (.inr (0, 10)) := rfl
theorem sh92 : a_SH[92]? = some (.inr (0, 10)) := rfl
theorem sh93 : a_SH[93]? = some (.inr (0, 10)) := rfl
theorem sh94 : a_SH[94]? = some (.inr (0, 128)) := rfl
theorem sh95 : a_SH[95]? = some (.inr (0, 10)) := rfl
theorem sh96 : a_SH[96]? = some (.inr (0, 1024)) := rfl
/-- a Bills object at b, a Sight at s -/
def sBills (b : Nat) : Prop := a_SH[b]? = some (.inl (0, [some (some 1), none, none, none, some (some (b + 1)), some (some (b + 2)), some (some (b + 3)), some (some (b + 4)), some (some (b + 5)), none, some (some (b + 6)), some (some (b + 7))])) ∧ a_SH[b + 1]? = some (.inr (0, 20)) ∧ a_SH[b + 2]? = some (.inr (0, 20)) ∧ a_SH[b + 3]? = some (.inr (0, 20)) ∧ a_SH[b + 4]? = some (.inr (0, 20)) ∧ a_SH[b + 5]? = some (.inr (0, 6)) ∧ a_SH[b + 6]? = some (.inr (0, 128)) ∧ a_SH[b + 7]? = some (.inr (0, 128))
def sSight (s : Nat) : Prop := a_SH[s]? = some (.inl (7, [some (some 1), some (some (s + 1)), some (some (s + 2)), some (some (s + 3)), some (some (s + 4)), some (some (s + 5)), none, none])) ∧ a_SH[s + 1]? = some (.inr (0, 128)) ∧ a_SH[s + 2]? = some (.inr (0, 20)) ∧ a_SH[s + 3]? = some (.inr (0, 20)) ∧ a_SH[s + 4]? = some (.inr (0, 20)) ∧ a_SH[s + 5]? = some (.inr (0, 20))
theorem sB15 : sBills 15 := ⟨rfl, rfl, rfl, rfl, rfl, rfl, rfl, rfl⟩
theorem sB24 : sBills 24 := ⟨rfl, rfl, rfl, rfl, rfl, rfl, rfl, rfl⟩
theorem sB33 : sBills 33 := ⟨rfl, rfl, rfl, rfl, rfl, rfl, rfl, rfl⟩
theorem sB51 : sBills 51 := ⟨rfl, rfl, rfl, rfl, rfl, rfl, rfl, rfl⟩
theorem sS41 : sSight 41 := ⟨rfl, rfl, rfl, rfl, rfl, rfl⟩
theorem sS59 : sSight 59 := ⟨rfl, rfl, rfl, rfl, rfl, rfl⟩
theorem sS65 : sSight 65 := ⟨rfl, rfl, rfl, rfl, rfl, rfl⟩
def a_ush (x y : Int32) : Int32 := (x.toUInt32 >>> (y.toUInt32 &&& Int32.toUInt32 31)).toInt32
def a_rem (x y : Int32) : Int32 := x - x / y * y
def a_remL (x y : Int64) : Int64 := x - x / y * y
def a_ushL (x : Int64) (y : Int32) : Int64 := (x.toUInt64 >>> (y.toInt64.toUInt64 &&& Int64.toUInt64 63)).toInt64
section WP2
variable {X : a_X} {M : a_Mth} {pc : Nat} {lv : a_LV} {st : List Value} {m : Nat → Nat → Int32} {Q Q' : Option Value → (Nat → Nat → Int32) → Prop}
theorem Wp.loc {lv lv' : a_LV} (e : lv = lv') (h : Wp X M pc lv' st m Q) : Wp X M pc lv st m Q := e ▸ h
theorem Wp.if_eq {off : Int} {x : Int32} {r : List Value} {t : Nat} (h0 : a_at M pc = some (.ifCond .eq off, 3)) (ht : a_tgt pc off = some t) (w : (x = 0 → Wp X M t lv r m Q) ∧ (¬ x = 0 → Wp X M (pc + 3) lv r m Q)) : Wp X M pc lv (.int x :: r) m Q := Wp.if1 h0 ht ⟨fun e => w.1 (of_decide_eq_true e), fun e => w.2 (of_decide_eq_false e)⟩
theorem Wp.if_ne {off : Int} {x : Int32} {r : List Value} {t : Nat} (h0 : a_at M pc = some (.ifCond .ne off, 3)) (ht : a_tgt pc off = some t) (w : (¬ x = 0 → Wp X M t lv r m Q) ∧ (x = 0 → Wp X M (pc + 3) lv r m Q)) : Wp X M pc lv (.int x :: r) m Q := Wp.if1 h0 ht ⟨fun e => w.1 (of_decide_eq_true e), fun e => w.2 (Decidable.not_not.mp (of_decide_eq_false e))⟩
theorem Wp.if_lt {off : Int} {x : Int32} {r : List Value} {t : Nat} (h0 : a_at M pc = some (.ifCond .lt off, 3)) (ht : a_tgt pc off = some t) (w : (x < 0 → Wp X M t lv r m Q) ∧ (¬ x < 0 → Wp X M (pc + 3) lv r m Q)) : Wp X M pc lv (.int x :: r) m Q := Wp.if1 h0 ht ⟨fun e => w.1 (of_decide_eq_true e), fun e => w.2 (of_decide_eq_false e)⟩
theorem Wp.if_ge {off : Int} {x : Int32} {r : List Value} {t : Nat} (h0 : a_at M pc = some (.ifCond .ge off, 3)) (ht : a_tgt pc off = some t) (w : (0 ≤ x → Wp X M t lv r m Q) ∧ (¬ 0 ≤ x → Wp X M (pc + 3) lv r m Q)) : Wp X M pc lv (.int x :: r) m Q := Wp.if1 h0 ht ⟨fun e => w.1 (of_decide_eq_true e), fun e => w.2 (of_decide_eq_false e)⟩
theorem Wp.if_gt {off : Int} {x : Int32} {r : List Value} {t : Nat} (h0 : a_at M pc = some (.ifCond .gt off, 3)) (ht : a_tgt pc off = some t) (w : (0 < x → Wp X M t lv r m Q) ∧ (¬ 0 < x → Wp X M (pc + 3) lv r m Q)) : Wp X M pc lv (.int x :: r) m Q := Wp.if1 h0 ht ⟨fun e => w.1 (of_decide_eq_true e), fun e => w.2 (of_decide_eq_false e)⟩
theorem Wp.if_le {off : Int} {x : Int32} {r : List Value} {t : Nat} (h0 : a_at M pc = some (.ifCond .le off, 3)) (ht : a_tgt pc off = some t) (w : (x ≤ 0 → Wp X M t lv r m Q) ∧ (¬ x ≤ 0 → Wp X M (pc + 3) lv r m Q)) : Wp X M pc lv (.int x :: r) m Q := Wp.if1 h0 ht ⟨fun e => w.1 (of_decide_eq_true e), fun e => w.2 (of_decide_eq_false e)⟩
theorem Wp.icmp_eq {off : Int} {x y : Int32} {r : List Value} {t : Nat} (h0 : a_at M pc = some (.if_icmp .eq off, 3)) (ht : a_tgt pc off = some t) (w : (x = y → Wp X M t lv r m Q) ∧ (¬ x = y → Wp X M (pc + 3) lv r m Q)) : Wp X M pc lv (.int y :: .int x :: r) m Q := Wp.if2 h0 ht ⟨fun e => w.1 (of_decide_eq_true e), fun e => w.2 (of_decide_eq_false e)⟩
theorem Wp.icmp_ne {off : Int} {x y : Int32} {r : List Value} {t : Nat} (h0 : a_at M pc = some (.if_icmp .ne off, 3)) (ht : a_tgt pc off = some t) (w : (¬ x = y → Wp X M t lv r m Q) ∧ (x = y → Wp X M (pc + 3) lv r m Q)) : Wp X M pc lv (.int y :: .int x :: r) m Q := Wp.if2 h0 ht ⟨fun e => w.1 (of_decide_eq_true e), fun e => w.2 (Decidable.not_not.mp (of_decide_eq_false e))⟩
theorem Wp.icmp_lt {off : Int} {x y : Int32} {r : List Value} {t : Nat} (h0 : a_at M pc = some (.if_icmp .lt off, 3)) (ht : a_tgt pc off = some t) (w : (x < y → Wp X M t lv r m Q) ∧ (¬ x < y → Wp X M (pc + 3) lv r m Q)) : Wp X M pc lv (.int y :: .int x :: r) m Q := Wp.if2 h0 ht ⟨fun e => w.1 (of_decide_eq_true e), fun e => w.2 (of_decide_eq_false e)⟩
theorem Wp.icmp_ge {off : Int} {x y : Int32} {r : List Value} {t : Nat} (h0 : a_at M pc = some (.if_icmp .ge off, 3)) (ht : a_tgt pc off = some t) (w : (y ≤ x → Wp X M t lv r m Q) ∧ (¬ y ≤ x → Wp X M (pc + 3) lv r m Q)) : Wp X M pc lv (.int y :: .int x :: r) m Q := Wp.if2 h0 ht ⟨fun e => w.1 (of_decide_eq_true e), fun e => w.2 (of_decide_eq_false e)⟩
theorem Wp.icmp_gt {off : Int} {x y : Int32} {r : List Value} {t : Nat} (h0 : a_at M pc = some (.if_icmp .gt off, 3)) (ht : a_tgt pc off = some t) (w : (y < x → Wp X M t lv r m Q) ∧ (¬ y < x → Wp X M (pc + 3) lv r m Q)) : Wp X M pc lv (.int y :: .int x :: r) m Q := Wp.if2 h0 ht ⟨fun e => w.1 (of_decide_eq_true e), fun e => w.2 (of_decide_eq_false e)⟩
theorem Wp.icmp_le {off : Int} {x y : Int32} {r : List Value} {t : Nat} (h0 : a_at M pc = some (.if_icmp .le off, 3)) (ht : a_tgt pc off = some t) (w : (x ≤ y → Wp X M t lv r m Q) ∧ (¬ x ≤ y → Wp X M (pc + 3) lv r m Q)) : Wp X M pc lv (.int y :: .int x :: r) m Q := Wp.if2 h0 ht ⟨fun e => w.1 (of_decide_eq_true e), fun e => w.2 (of_decide_eq_false e)⟩
theorem Wp.tsw {d lo hi : Int} {offs : Array Int} {ln : Nat} {x : Int32} {r : List Value} (h0 : a_at M pc = some (.tableswitch d lo hi offs, ln)) (w1 : (x.toInt < lo ∨ hi < x.toInt) → ∃ t, a_tgt pc d = some t ∧ Wp X M t lv r m Q) (w2 : ∀ j : Int, lo ≤ j → j ≤ hi → x.toInt = j → ∃ off t, offs[(j - lo).toNat]? = some off ∧ a_tgt pc off = some t ∧ Wp X M t lv r m Q) : Wp X M pc lv (.int x :: r) m Q := by
  by_cases hc : x.toInt < lo ∨ hi < x.toInt
  · obtain ⟨t, ht, w⟩ := w1 hc
    have h1 : a_p1 M pc lv (.int x :: r) = some (t, lv, r) := by
      simp only [a_p1, h0, a_len, Nat.beq_refl, a_pure, if_pos hc, ht]
    exact Wp.p1 h1 w
  · obtain ⟨off, t, ho, ht, w⟩ := w2 x.toInt (by omega) (by omega) rfl
    have h1 : a_p1 M pc lv (.int x :: r) = some (t, lv, r) := by
      simp only [a_p1, h0, a_len, Nat.beq_refl, a_pure, if_neg hc, ho, ht]
    exact Wp.p1 h1 w
theorem Wp.alen {c t n : Nat} {v : Int32} {r : List Value} (h0 : a_at M pc = some (.arraylength, 1)) (hS : a_SH[c]? = some (.inr (t, n))) (ht : Nat.blt t 3 = true) (hv : Int32.ofNat n = v) (w : Wp X M (pc + 1) lv (.int v :: r) m Q) : Wp X M pc lv (.ref c :: r) m Q := by
  subst hv
  refine Wp.hp h0 rfl rfl (by cases r <;> rfl) rfl ?_ w
  simp only [a_heap, hS, ht]
theorem Wp.ldc {idx : Nat} {v : Int32} {z : Nat × Nat} {st : List Value} (h0 : a_at M pc = some (.ldc idx, 2)) (hf : a_look (a_ldcT (a_cn M)) idx = some (.inl v, z)) (w : Wp X M (pc + 2) lv (.int v :: st) m Q) : Wp X M pc lv st m Q := by
  refine Wp.hp h0 rfl rfl (a_isH_pure rfl _ _ _) rfl ?_ w
  simp only [a_heap, hf]
theorem Wp.ldc_w {idx : Nat} {v : Int32} {z : Nat × Nat} {st : List Value} (h0 : a_at M pc = some (.ldc_w idx, 3)) (hf : a_look (a_ldcT (a_cn M)) idx = some (.inl v, z)) (w : Wp X M (pc + 3) lv (.int v :: st) m Q) : Wp X M pc lv st m Q := by
  refine Wp.hp h0 rfl rfl (a_isH_pure rfl _ _ _) rfl ?_ w
  simp only [a_heap, hf]
theorem Wp.ldcS {idx k : Nat} {tx : String} {z : Nat × Nat} {st : List Value} (h0 : a_at M pc = some (.ldc idx, 2)) (hf : a_look (a_ldcT (a_cn M)) idx = some (.inr (k, tx), z)) (w : Wp X M (pc + 2) lv (.ref (1000 + k) :: st) m Q) : Wp X M pc lv st m Q := by
  refine Wp.hp h0 rfl rfl (a_isH_pure rfl _ _ _) rfl ?_ w
  simp only [a_heap, hf]
theorem Wp.ldc2 {idx : Nat} {v : Int64} {z : Nat × Nat} {st : List Value} (h0 : a_at M pc = some (.ldc2_w idx, 3)) (hf : a_look (a_ldc2T (a_cn M)) idx = some (v, z)) (w : Wp X M (pc + 3) lv (.long v :: st) m Q) : Wp X M pc lv st m Q := by
  refine Wp.hp h0 rfl rfl (a_isH_pure rfl _ _ _) rfl ?_ w
  simp only [a_heap, hf]
/-- n of a row onto another one's front -/
theorem Wp.acopy {idx c d n0 n1 : Nat} {n : Nat} {z : Nat × Nat × List (Nat × Nat) × String} {r : List Value} {v : Int32} (h0 : a_at M pc = some (.invokestatic idx, 3)) (hk : a_look (a_calT (a_cn M)) idx = some (7, z)) (hc : a_SH[c]? = some (.inr (0, n0))) (hd : a_SH[d]? = some (.inr (0, n1))) (hb : (decide (v = nI n) && decide (n < 2 ^ 31) && Nat.ble n n0 && Nat.ble n n1 && Nat.ble (a_wt r) 8 && Nat.ble 1 (a_fr M) && Nat.ble 26 (a_lo M)) = true) (w : Wp X M (pc + 3) lv r (a_row m d (va_cpy (m c) (m d) 0 0 n)) Q) : Wp X M pc lv (.int v :: .int 0 :: .ref d :: .int 0 :: .ref c :: r) m Q := by
  simp only [Bool.and_eq_true, decide_eq_true_eq, Nat.ble_eq] at hb
  obtain ⟨⟨⟨⟨⟨⟨rfl, g0⟩, g1⟩, g2⟩, g3⟩, g4⟩, g5⟩ := hb
  have hcal : a_call M (.invokestatic idx) (.int (nI n) :: .int 0 :: .ref d :: .int 0 :: .ref c :: r) a_SH = none := by
    obtain ⟨z1, z2, z3⟩ := z
    simp only [a_call, hk]
    rfl
  refine Wp.hp h0 rfl hcal rfl rfl ?_ w
  have e0 : (0 : Int32).toNatClampNeg = 0 := rfl
  simp only [a_heap, hk, a_acopy, hc, hd, nI_clamp g0, e0, Nat.zero_add]
  have e1 : (decide (¬ (0 : Int32) < 0) && decide (¬ (0 : Int32) < 0) && decide (¬ nI n < 0) && Nat.ble n n0 && Nat.ble n n1 && Nat.ble (a_wt r) 8 && Nat.ble 1 (a_fr M) && Nat.ble 26 (a_lo M)) = true := by
    simp only [Bool.and_eq_true, decide_eq_true_eq, Nat.ble_eq]
    exact ⟨⟨⟨⟨⟨⟨⟨by decide, by decide⟩, nI_pos g0⟩, g1⟩, g2⟩, g3⟩, g4⟩, g5⟩
  simp only [e1]
theorem Wp.slen {idx k : Nat} {z : Nat × Nat × List (Nat × Nat) × String} {r : List Value} (h0 : a_at M pc = some (.invokevirtual idx, 3)) (hk : a_look (a_calT (a_cn M)) idx = some (8, z)) (hb : (Nat.ble 1000 (1000 + k) && Nat.blt (1000 + k) 1007 && Nat.ble (a_wt r) 8 && Nat.ble 3 (a_fr M) && Nat.ble 60 (a_lo M)) = true) (w : Wp X M (pc + 3) lv (.int (nI (a_sl.getD k 0)) :: r) m Q) : Wp X M pc lv (.ref (1000 + k) :: r) m Q := by
  have hcal : a_call M (.invokevirtual idx) (.ref (1000 + k) :: r) a_SH = none := by
    obtain ⟨z1, z2, z3⟩ := z
    simp only [a_call, hk]
  refine Wp.hp h0 rfl hcal (a_isH_pure rfl _ _ _) rfl ?_ w
  simp only [a_heap, hk, a_str, hb, Nat.add_sub_cancel_left]
theorem Wp.scha {idx k : Nat} {z : Nat × Nat × List (Nat × Nat) × String} {r : List Value} {i : Int32} (h0 : a_at M pc = some (.invokevirtual idx, 3)) (hk : a_look (a_calT (a_cn M)) idx = some (9, z)) (hb : (Nat.ble 1000 (1000 + k) && Nat.blt (1000 + k) 1007 && Nat.ble (a_wt r) 8 && Nat.ble 5 (a_fr M) && Nat.ble 121 (a_lo M)) = true) (w : vp_in i (a_sl.getD k 0) ∧ Wp X M (pc + 3) lv (.int ((a_sc.getD k []).getD i.toNatClampNeg 0) :: r) m Q) : Wp X M pc lv (.int i :: .ref (1000 + k) :: r) m Q := by
  have hcal : a_call M (.invokevirtual idx) (.int i :: .ref (1000 + k) :: r) a_SH = none := by
    obtain ⟨z1, z2, z3⟩ := z
    simp only [a_call, hk]
  refine Wp.hp h0 rfl hcal (a_isH_pure rfl _ _ _) rfl ?_ w.2
  simp only [Bool.and_eq_true] at hb
  obtain ⟨⟨⟨⟨g1, g2⟩, g3⟩, g4⟩, g5⟩ := hb
  have e1 := a_in_of w.1
  simp only [a_heap, hk, a_str, Nat.add_sub_cancel_left, g1, g2, g3, g4, g5, e1, Bool.and_self]
theorem Wp.putN {idx c ci k : Nat} {v : Int32} {z : Nat × (Nat × Nat) × String} {fs : List (Option (Option Nat))} {r : List Value} (h0 : a_at M pc = some (.putfield idx, 3)) (hf : a_look (a_fldT (a_cn M)) idx = some (ci, k, z)) (hS : a_SH[c]? = some (.inl (ci, fs))) (hk : fs[k]? = some none) (ht : a_fit (a_ty ci k) v = true) (w : ∀ m1, m1 = a_up m c k v → Wp X M (pc + 3) lv r m1 Q) : Wp X M pc lv (.int v :: .ref c :: r) m Q := Wp.putI h0 hf hS hk ht (w _ rfl)
theorem Wp.iastN {c n : Nat} {v x : Int32} {r : List Value} (h0 : a_at M pc = some (.iastore, 1)) (hS : a_SH[c]? = some (.inr (0, n))) (w1 : vp_in x n) (w : ∀ m1, m1 = a_up m c x.toNatClampNeg v → Wp X M (pc + 1) lv r m1 Q) : Wp X M pc lv (.int v :: .int x :: .ref c :: r) m Q := Wp.iast h0 hS ⟨w1, w _ rfl⟩
theorem Wp.bastN {c n : Nat} {v x : Int32} {r : List Value} (h0 : a_at M pc = some (.bastore, 1)) (hS : a_SH[c]? = some (.inr (1, n))) (w1 : vp_in x n) (w : ∀ m1, m1 = a_up m c x.toNatClampNeg (vp_nar .boolean v) → Wp X M (pc + 1) lv r m1 Q) : Wp X M pc lv (.int v :: .int x :: .ref c :: r) m Q := Wp.bast h0 hS ⟨w1, w _ rfl⟩
theorem Wp.castN {c n : Nat} {v x : Int32} {r : List Value} (h0 : a_at M pc = some (.castore, 1)) (hS : a_SH[c]? = some (.inr (2, n))) (w1 : vp_in x n) (w : ∀ m1, m1 = a_up m c x.toNatClampNeg (vp_nar .char v) → Wp X M (pc + 1) lv r m1 Q) : Wp X M pc lv (.int v :: .int x :: .ref c :: r) m Q := Wp.cast h0 hS ⟨w1, w _ rfl⟩
theorem Wp.acopyN {idx c d n0 n1 : Nat} {n : Nat} {z : Nat × Nat × List (Nat × Nat) × String} {r : List Value} {v : Int32} (h0 : a_at M pc = some (.invokestatic idx, 3)) (hk : a_look (a_calT (a_cn M)) idx = some (7, z)) (hc : a_SH[c]? = some (.inr (0, n0))) (hd : a_SH[d]? = some (.inr (0, n1))) (hb : (decide (v = nI n) && decide (n < 2 ^ 31) && Nat.ble n n0 && Nat.ble n n1 && Nat.ble (a_wt r) 8 && Nat.ble 1 (a_fr M) && Nat.ble 26 (a_lo M)) = true) (w : ∀ m1, m1 = a_row m d (va_cpy (m c) (m d) 0 0 n) → Wp X M (pc + 3) lv r m1 Q) : Wp X M pc lv (.int v :: .int 0 :: .ref d :: .int 0 :: .ref c :: r) m Q := Wp.acopy h0 hk hc hd hb (w _ rfl)
theorem Wp.slen7 {idx k : Nat} {z : Nat × Nat × List (Nat × Nat) × String} {r : List Value} (h0 : a_at M pc = some (.invokevirtual idx, 3)) (hk : a_look (a_calT (a_cn M)) idx = some (8, z)) (h7 : k < 7) (hb : (Nat.ble (a_wt r) 8 && Nat.ble 3 (a_fr M) && Nat.ble 60 (a_lo M)) = true) (w : Wp X M (pc + 3) lv (.int (nI (a_sl.getD k 0)) :: r) m Q) : Wp X M pc lv (.ref (1000 + k) :: r) m Q := by
  refine Wp.slen h0 hk ?_ w
  simp only [Bool.and_eq_true, Nat.ble_eq, Nat.blt_eq] at hb ⊢
  exact ⟨⟨⟨⟨by omega, by omega⟩, hb.1.1⟩, hb.1.2⟩, hb.2⟩
theorem Wp.scha7 {idx k : Nat} {z : Nat × Nat × List (Nat × Nat) × String} {r : List Value} {i : Int32} (h0 : a_at M pc = some (.invokevirtual idx, 3)) (hk : a_look (a_calT (a_cn M)) idx = some (9, z)) (h7 : k < 7) (hb : (Nat.ble (a_wt r) 8 && Nat.ble 5 (a_fr M) && Nat.ble 121 (a_lo M)) = true) (w : vp_in i (a_sl.getD k 0) ∧ Wp X M (pc + 3) lv (.int ((a_sc.getD k []).getD i.toNatClampNeg 0) :: r) m Q) : Wp X M pc lv (.int i :: .ref (1000 + k) :: r) m Q := by
  refine Wp.scha h0 hk ?_ w
  simp only [Bool.and_eq_true, Nat.ble_eq, Nat.blt_eq] at hb ⊢
  exact ⟨⟨⟨⟨by omega, by omega⟩, hb.1.1⟩, hb.1.2⟩, hb.2⟩
theorem CallR.mono {as : List Value} {P P' : Nat → (Nat → Nat → Int32) → Prop} (h : CallR X M as m P) (hq : ∀ r m', P r m' → P' r m') : CallR X M as m P' := Wp.mono h (fun _ _ ⟨v, e, q⟩ => ⟨v, e, hq _ _ q⟩)
theorem Wp.sald {L : Nat} {xs : Nat → Int32} {i : Int32} {r : List Value} (h0 : a_at M pc = some (.iaload, 1)) (w : vp_in i L ∧ Wp (some (L, xs)) M (pc + 1) lv (.int (xs i.toNatClampNeg) :: r) m Q) : Wp (some (L, xs)) M pc lv (.int i :: .ref 2000 :: r) m Q := by
  refine Wp.hp h0 rfl rfl rfl rfl ?_ w.2
  have e : a_SH[2000]? = none := rfl
  simp [a_heap, a_ald, e, a_in_of w.1]
theorem Wp.slenX {L : Nat} {xs : Nat → Int32} {r : List Value} (h0 : a_at M pc = some (.arraylength, 1)) (w : Wp (some (L, xs)) M (pc + 1) lv (.int (Int32.ofNat L) :: r) m Q) : Wp (some (L, xs)) M pc lv (.ref 2000 :: r) m Q := by
  refine Wp.hp h0 rfl rfl (a_isH_pure rfl _ _ _) rfl ?_ w
  have e : a_SH[2000]? = none := rfl
  simp [a_heap, e]
theorem Wp.irem {x y : Int32} {r : List Value} (h0 : a_at M pc = some (.irem, 1)) (w : ¬ y = 0 ∧ Wp X M (pc + 1) lv (.int (a_rem x y) :: r) m Q) : Wp X M pc lv (.int y :: .int x :: r) m Q := by
  have h1 : a_p1 M pc lv (.int y :: .int x :: r) = some (pc + 1, lv, .int (a_rem x y) :: r) := by
    simp only [a_p1, h0, a_len, Nat.beq_refl, a_pure, a_bin, if_neg w.1, a_rem]
  exact Wp.p1 h1 w.2
theorem Wp.lsw2 {d : Int} {ps : Array (Int × Int)} {ln : Nat} {x k0 k1 : Int32} {a0 o0 a1 o1 : Int} {r : List Value} {t0 t1 t2 : Nat} (h0 : a_at M pc = some (.lookupswitch d ps, ln)) (hp : ps = #[(a0, o0), (a1, o1)]) (e0 : k0.toInt = a0) (e1 : a0 < a1 ∧ k1.toInt = a1) (g0 : a_tgt pc o0 = some t0) (g1 : a_tgt pc o1 = some t1) (g2 : a_tgt pc d = some t2) (w : (x = k0 → Wp X M t0 lv r m Q) ∧ (¬ x = k0 → (x = k1 → Wp X M t1 lv r m Q) ∧ (¬ x = k1 → Wp X M t2 lv r m Q))) : Wp X M pc lv (.int x :: r) m Q := by
  subst hp
  have hord : ((#[(a0, o0), (a1, o1)] : Array (Int × Int)).toList.zip ((#[(a0, o0), (a1, o1)] : Array (Int × Int)).toList.drop 1)).all (fun (a, next) => a.1 < next.1) = true := by simp [e1.1]
  have go : ∀ {o : Int} {t : Nat}, Op.lookupswitch.offset [(a0, o0), (a1, o1)] d x.toInt = o → a_tgt pc o = some t → Wp X M t lv r m Q → Wp X M pc lv (.int x :: r) m Q := by
    intro o t ho ht w
    have h1 : a_p1 M pc lv (.int x :: r) = some (t, lv, r) := by
      simp only [a_p1, h0, a_len, Nat.beq_refl, a_pure, hord]
      rw [show Op.lookupswitch.offset (#[(a0, o0), (a1, o1)] : Array (Int × Int)).toList d x.toInt = o from ho, ht]
    exact Wp.p1 h1 w
  by_cases c0 : x = k0
  · exact go (by subst c0; rw [e0]; simp [Op.lookupswitch.offset]) g0 (w.1 c0)
  · by_cases c1 : x = k1
    · refine go ?_ g1 ((w.2 c0).1 c1)
      rw [lv_osw c0 e0]
      subst c1
      rw [e1.2]
      simp [Op.lookupswitch.offset]
    · refine go ?_ g2 ((w.2 c0).2 c1)
      rw [lv_osw c0 e0, lv_osw c1 e1.2]
      simp [Op.lookupswitch.offset]
end WP2
