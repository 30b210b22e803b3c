/-! ===== Integer.bitCount ===== -/
def dg (k : Nat) : List Nat → Nat
  | [] => 0
  | d :: r => d + 2 ^ k * dg k r
theorem and_dg {k a b x y : Nat} (ha : a < 2 ^ k) (hx : x < 2 ^ k) : (a + 2 ^ k * b) &&& (x + 2 ^ k * y) = (a &&& x) + 2 ^ k * (b &&& y) := by
  have hax : a &&& x < 2 ^ k := Nat.and_lt_two_pow a hx
  refine Nat.eq_of_testBit_eq fun i => ?_
  rw [Nat.testBit_and, Nat.add_comm a, Nat.add_comm x, Nat.add_comm (a &&& x)]
  rw [Nat.testBit_two_pow_mul_add b ha, Nat.testBit_two_pow_mul_add y hx, Nat.testBit_two_pow_mul_add _ hax]
  split
  · rw [Nat.testBit_and]
  · rw [Nat.testBit_and]
theorem and_4 {a b c d x : Nat} (ha : a < 256) (hb : b < 256) (hc : c < 256) (hd : d < 256) (hx : x < 256) : (a + 256 * (b + 256 * (c + 256 * d))) &&& (x + 256 * (x + 256 * (x + 256 * x))) = (a &&& x) + 256 * ((b &&& x) + 256 * ((c &&& x) + 256 * (d &&& x))) := by
  rw [show (256 : Nat) = 2 ^ 8 from rfl] at *
  rw [and_dg ha hx, and_dg hb hx, and_dg hc hx]
def p1 (b : Nat) : Nat := b - ((b / 2) &&& 85)
def p2' (b : Nat) : Nat := (p1 b &&& 51) + ((p1 b / 4) &&& 51)
def p3 (b : Nat) : Nat := sm (fun i => b / 2 ^ i % 2) 8
theorem p1_le : ∀ b, b < 256 → (b / 2) &&& 85 ≤ b := by decide +kernel
theorem p_a : ∀ b, b < 256 → ∀ r, r < 2 → ((b / 2 + 128 * r) &&& 85) = (b / 2) &&& 85 := by decide +kernel
theorem p_b : ∀ b, b < 256 → ∀ r, r < 4 → ((b / 4 + 64 * r) &&& 51) = (b / 4) &&& 51 := by decide +kernel
theorem p2_lt : ∀ b, b < 256 → p2' b ≤ 68 := by decide +kernel
theorem p_c : ∀ b, b < 256 → ∀ r, r < 5 → (p2' b + (p2' b / 16 + 16 * r)) &&& 15 = p3 b := by decide +kernel
theorem p2_m : ∀ b, b < 256 → p2' b % 16 < 5 := by decide +kernel
theorem p3_le : ∀ b, b < 256 → p3 b ≤ 8 := by decide +kernel
theorem nI_and (a b : Nat) : nI a &&& nI b = nI (a &&& b) := Int32.toBitVec_inj.mp (by
  rw [Int32.toBitVec_and]
  show BitVec.ofNat 32 a &&& BitVec.ofNat 32 b = BitVec.ofNat 32 (a &&& b)
  exact (BitVec.ofNat_and ..).symm)
theorem us_nI {n : Nat} (hn : n < 2 ^ 32) (k : Nat) (s : Int32) (hs : ((s.toUInt32 &&& Int32.toUInt32 31).toBitVec % 32).toNat = k) : a_ush (nI n) s = nI (n / 2 ^ k) := pk_ushrN hn s k hs
theorem bc_nat {b0 b1 b2 b3 : Nat} (h0 : b0 < 256) (h1 : b1 < 256) (h2 : b2 < 256) (h3 : b3 < 256) {x0 x1 x2 x3 x4 x5 : Int32}
    (e0 : x0 = nI (b0 + 256 * (b1 + 256 * (b2 + 256 * b3))))
    (e1 : x1 = x0 - ((a_ush x0 1) &&& 1431655765))
    (e2 : x2 = (x1 &&& 858993459) + ((a_ush x1 2) &&& 858993459))
    (e3 : x3 = (x2 + (a_ush x2 4)) &&& 252645135)
    (e4 : x4 = x3 + (a_ush x3 8))
    (e5 : x5 = x4 + (a_ush x4 16)) : x5 &&& 63 = nI (p3 b0 + p3 b1 + p3 b2 + p3 b3) := by
  have m5 : (1431655765 : Int32) = nI (85 + 256 * (85 + 256 * (85 + 256 * 85))) := by decide +kernel
  have m3 : (858993459 : Int32) = nI (51 + 256 * (51 + 256 * (51 + 256 * 51))) := by decide +kernel
  have mf : (252645135 : Int32) = nI (15 + 256 * (15 + 256 * (15 + 256 * 15))) := by decide +kernel
  have e1' : x1 = nI (p1 b0 + 256 * (p1 b1 + 256 * (p1 b2 + 256 * p1 b3))) := by
    have q0 := p1_le b0 h0
    have q1 := p1_le b1 h1
    have q2 := p1_le b2 h2
    have q3 := p1_le b3 h3
    rw [e1, e0, us_nI (by omega) 1 1 (by decide +kernel), show (b0 + 256 * (b1 + 256 * (b2 + 256 * b3))) / 2 ^ 1 = (b0 / 2 + 128 * (b1 % 2)) + 256 * ((b1 / 2 + 128 * (b2 % 2)) + 256 * ((b2 / 2 + 128 * (b3 % 2)) + 256 * (b3 / 2 + 128 * 0))) by omega, m5, nI_and, and_4 (by omega) (by omega) (by omega) (by omega) (by omega), p_a b0 h0 _ (by omega), p_a b1 h1 _ (by omega), p_a b2 h2 _ (by omega), p_a b3 h3 _ (by omega), pk_sub (by omega)]
    unfold p1
    congr 1
    omega
  have l1 : ∀ b, b < 256 → p1 b < 256 := fun b hb => Nat.lt_of_le_of_lt (Nat.sub_le _ _) hb
  have e2' : x2 = nI (p2' b0 + 256 * (p2' b1 + 256 * (p2' b2 + 256 * p2' b3))) := by
    have q0 := l1 b0 h0
    have q1 := l1 b1 h1
    have q2 := l1 b2 h2
    have q3 := l1 b3 h3
    unfold p2'
    rw [e2, e1']
    generalize p1 b0 = c0 at *
    generalize p1 b1 = c1 at *
    generalize p1 b2 = c2 at *
    generalize p1 b3 = c3 at *
    rw [us_nI (by omega) 2 2 (by decide +kernel), show (c0 + 256 * (c1 + 256 * (c2 + 256 * c3))) / 2 ^ 2 = (c0 / 4 + 64 * (c1 % 4)) + 256 * ((c1 / 4 + 64 * (c2 % 4)) + 256 * ((c2 / 4 + 64 * (c3 % 4)) + 256 * (c3 / 4 + 64 * 0))) by omega, m3, nI_and, nI_and, and_4 (by omega) (by omega) (by omega) (by omega) (by omega), and_4 (by omega) (by omega) (by omega) (by omega) (by omega), p_b c0 q0 _ (by omega), p_b c1 q1 _ (by omega), p_b c2 q2 _ (by omega), p_b c3 q3 _ (by omega), nI_add]
    congr 1
    omega
  have e3' : x3 = nI (p3 b0 + 256 * (p3 b1 + 256 * (p3 b2 + 256 * p3 b3))) := by
    have q0 := p2_lt b0 h0
    have q1 := p2_lt b1 h1
    have q2 := p2_lt b2 h2
    have q3 := p2_lt b3 h3
    have r1 := p2_m b1 h1
    have r2 := p2_m b2 h2
    have r3 := p2_m b3 h3
    have s0 := p_c b0 h0 (p2' b1 % 16) r1
    have s1 := p_c b1 h1 (p2' b2 % 16) r2
    have s2 := p_c b2 h2 (p2' b3 % 16) r3
    have s3 := p_c b3 h3 0 (by omega)
    rw [e3, e2']
    generalize p2' b0 = c0 at *
    generalize p2' b1 = c1 at *
    generalize p2' b2 = c2 at *
    generalize p2' b3 = c3 at *
    rw [us_nI (by omega) 4 4 (by decide +kernel), nI_add, show c0 + 256 * (c1 + 256 * (c2 + 256 * c3)) + (c0 + 256 * (c1 + 256 * (c2 + 256 * c3))) / 2 ^ 4 = (c0 + (c0 / 16 + 16 * (c1 % 16))) + 256 * ((c1 + (c1 / 16 + 16 * (c2 % 16))) + 256 * ((c2 + (c2 / 16 + 16 * (c3 % 16))) + 256 * (c3 + (c3 / 16 + 16 * 0)))) by omega, mf, nI_and, and_4 (by omega) (by omega) (by omega) (by omega) (by omega), s0, s1, s2, s3]
  have q0 := p3_le b0 h0
  have q1 := p3_le b1 h1
  have q2 := p3_le b2 h2
  have q3 := p3_le b3 h3
  generalize p3 b0 = c0 at *
  generalize p3 b1 = c1 at *
  generalize p3 b2 = c2 at *
  generalize p3 b3 = c3 at *
  have e4' : x4 = nI ((c0 + c1) + 256 * ((c1 + c2) + 256 * ((c2 + c3) + 256 * c3))) := by
    rw [e4, e3', us_nI (by omega) 8 8 (by decide +kernel), nI_add]
    congr 1
    omega
  have d : (c0 + c1 + 256 * (c1 + c2 + 256 * (c2 + c3 + 256 * c3))) / 2 ^ 16 = (c2 + c3) + 256 * c3 := by omega
  have d2 : (c0 + c1 + 256 * (c1 + c2 + 256 * (c2 + c3 + 256 * c3)) + ((c2 + c3) + 256 * c3)) % 64 = c0 + c1 + c2 + c3 := by omega
  rw [e5, e4', us_nI (by omega) 16 16 (by decide +kernel), nI_add, pk_andN (by omega) 6 (by decide +kernel), d]
  exact congrArg nI d2
/-- how many below n have it -/
def cnt (p : Nat → Bool) (n : Nat) : Nat := sm (fun i => if p i = true then 1 else 0) n
theorem tb_d (v i : Nat) : (if v.testBit i = true then 1 else 0 : Nat) = v / 2 ^ i % 2 := by
  rw [Nat.testBit_eq_decide_div_mod_eq]
  by_cases h : v / 2 ^ i % 2 = 1
  · rw [h]; rfl
  · have : v / 2 ^ i % 2 = 0 := by omega
    rw [this]; rfl
theorem cnt_32 (v : Nat) : cnt (fun i => v.testBit i) 32 = p3 (v % 256) + p3 (v / 256 % 256) + p3 (v / 65536 % 256) + p3 (v / 16777216 % 256) := by
  have key : ∀ k : Nat, sm (fun i => v / 2 ^ (k + i) % 2) 8 = p3 (v / 2 ^ k % 256) := fun k => sm_cong fun i hi => by
    rw [Nat.pow_add, ← Nat.div_div_eq_div_mul]
    generalize v / 2 ^ k = w
    rcases (by omega : i = 0 ∨ i = 1 ∨ i = 2 ∨ i = 3 ∨ i = 4 ∨ i = 5 ∨ i = 6 ∨ i = 7) with h | h | h | h | h | h | h | h <;> subst h <;> omega
  have a0 := key 0
  have a1 := key 8
  have a2 := key 16
  have a3 := key 24
  unfold cnt
  rw [sm_cong (g := fun i => v / 2 ^ i % 2) (fun i _ => tb_d v i)]
  rw [show (32 : Nat) = 8 + (8 + (8 + 8)) from rfl, sm_split _ 8, sm_split _ 8, sm_split _ 8]
  simp only [Nat.zero_add, Nat.pow_zero, Nat.div_one, ← Nat.add_assoc] at *
  rw [a0, a1, a2, a3]
theorem cnt_cong {p q : Nat → Bool} {n : Nat} (h : ∀ i, i < n → p i = q i) : cnt p n = cnt q n := sm_cong fun i hi => by rw [h i hi]
section POP
variable {X : a_X} {m : Nat → Nat → Int32}
theorem s_bitCount {x : Int32} {p : Nat → Bool} (hx : isS x p) {Q : Int32 → (Nat → Nat → Int32) → Prop} (h : Q (nI (cnt p 32)) m) : CallI X mJ6_bitCount_0f7a4 [.int x] m Q := by
  refine eJ6_bitCount_0f7a4_0 ?_
  obtain ⟨v, hv, e⟩ : ∃ v : Nat, v < 2 ^ 32 ∧ x = nI v := ⟨x.toBitVec.toNat, x.toBitVec.isLt, b_toNat x⟩
  have hc : cnt p 32 = cnt (fun i => v.testBit i) 32 := cnt_cong fun i hi => by rw [← hx i hi, e, b_nI hi]
  rw [hc, cnt_32 v] at h
  have := bc_nat (b0 := v % 256) (b1 := v / 256 % 256) (b2 := v / 65536 % 256) (b3 := v / 16777216 % 256) (by omega) (by omega) (by omega) (by omega) (x0 := x) (by rw [e]; congr 1; omega) rfl rfl rfl rfl rfl
  rw [this]
  exact qI h
end POP
