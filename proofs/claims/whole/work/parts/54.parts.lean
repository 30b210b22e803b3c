/-! ===== the parts of a set, upwards ===== -/
def dep : Nat → Nat → Nat → Nat
  | 0, _, _ => 0
  | n + 1, v, i => if v % 2 = 1 then i % 2 + 2 * dep n (v / 2) (i / 2) else 2 * dep n (v / 2) i
def pcn : Nat → Nat → Nat
  | 0, _ => 0
  | n + 1, v => v % 2 + pcn n (v / 2)
theorem dep_s (n v i : Nat) : dep (n + 1) v i = if v % 2 = 1 then i % 2 + 2 * dep n (v / 2) (i / 2) else 2 * dep n (v / 2) i := rfl
theorem pcn_s (n v : Nat) : pcn (n + 1) v = v % 2 + pcn n (v / 2) := rfl
theorem dep_le : ∀ n v i, dep n v i ≤ v
  | 0, v, i => Nat.zero_le _
  | n + 1, v, i => by
    rw [dep_s]
    split
    · have := dep_le n (v / 2) (i / 2); omega
    · have := dep_le n (v / 2) i; omega
theorem dep_0 : ∀ n v, dep n v 0 = 0
  | 0, v => rfl
  | n + 1, v => by
    rw [dep_s, show 0 / 2 = 0 from rfl, dep_0 n]
    split <;> rfl
theorem and_2 {r s a b : Nat} (hr : r < 2) (hs : s < 2) : (r + 2 * a) &&& (s + 2 * b) = (r &&& s) + 2 * (a &&& b) := and_dg (k := 1) hr hs
theorem dep_sub : ∀ n v i, v < 2 ^ n → (dep n v i + (2 ^ n - 1 - v)) &&& v = dep n v i
  | 0, v, i, h => by
    have : v = 0 := by omega
    subst this; exact Nat.and_zero _
  | n + 1, v, i, h => by
    rw [Nat.pow_succ] at h
    have hp := Nat.two_pow_pos n
    rw [dep_s]
    split
    · next e =>
      have ih := dep_sub n (v / 2) (i / 2) (by omega)
      have l := dep_le n (v / 2) (i / 2)
      generalize dep n (v / 2) (i / 2) = D at *
      rw [show i % 2 + 2 * D + (2 ^ (n + 1) - 1 - v) = i % 2 + 2 * (D + (2 ^ n - 1 - v / 2)) by rw [Nat.pow_succ]; omega]
      have := and_2 (r := i % 2) (s := 1) (a := D + (2 ^ n - 1 - v / 2)) (b := v / 2) (by omega) (by omega)
      rw [show 1 + 2 * (v / 2) = v by omega, ih] at this
      rw [this, show i % 2 &&& 1 = i % 2 by rcases (by omega : i % 2 = 0 ∨ i % 2 = 1) with h | h <;> rw [h] <;> rfl]
    · next e =>
      have ih := dep_sub n (v / 2) i (by omega)
      have l := dep_le n (v / 2) i
      generalize dep n (v / 2) i = D at *
      rw [show 2 * D + (2 ^ (n + 1) - 1 - v) = 1 + 2 * (D + (2 ^ n - 1 - v / 2)) by rw [Nat.pow_succ]; omega]
      have := and_2 (r := 1) (s := 0) (a := D + (2 ^ n - 1 - v / 2)) (b := v / 2) (by omega) (by omega)
      rw [show 0 + 2 * (v / 2) = v by omega, ih] at this
      rw [this]
      show 0 + 2 * D = 2 * D
      omega
theorem dep_nx : ∀ n v i, v < 2 ^ n → (dep n v i + (2 ^ n - v)) &&& v = dep n v (i + 1)
  | 0, v, i, h => by
    have : v = 0 := by omega
    subst this; exact Nat.and_zero _
  | n + 1, v, i, h => by
    rw [Nat.pow_succ] at h
    have hp := Nat.two_pow_pos n
    rw [dep_s, dep_s]
    split
    · next e =>
      have l := dep_le n (v / 2) (i / 2)
      rcases (by omega : i % 2 = 0 ∨ i % 2 = 1) with hi | hi
      · have ih := dep_sub n (v / 2) (i / 2) (by omega)
        rw [show (i + 1) / 2 = i / 2 by omega, show (i + 1) % 2 = 1 by omega]
        generalize dep n (v / 2) (i / 2) = D at *
        rw [show i % 2 + 2 * D + (2 ^ (n + 1) - v) = 1 + 2 * (D + (2 ^ n - 1 - v / 2)) by rw [Nat.pow_succ]; omega]
        have := and_2 (r := 1) (s := 1) (a := D + (2 ^ n - 1 - v / 2)) (b := v / 2) (by omega) (by omega)
        rw [show 1 + 2 * (v / 2) = v by omega, ih] at this
        exact this
      · have ih := dep_nx n (v / 2) (i / 2) (by omega)
        rw [show (i + 1) / 2 = i / 2 + 1 by omega, show (i + 1) % 2 = 0 by omega]
        generalize dep n (v / 2) (i / 2) = D at *
        generalize dep n (v / 2) (i / 2 + 1) = D2 at *
        rw [show i % 2 + 2 * D + (2 ^ (n + 1) - v) = 0 + 2 * (D + (2 ^ n - v / 2)) by rw [Nat.pow_succ]; omega]
        have := and_2 (r := 0) (s := 1) (a := D + (2 ^ n - v / 2)) (b := v / 2) (by omega) (by omega)
        rw [show 1 + 2 * (v / 2) = v by omega, ih] at this
        exact this
    · next e =>
      have l := dep_le n (v / 2) i
      have ih := dep_nx n (v / 2) i (by omega)
      generalize dep n (v / 2) i = D at *
      generalize dep n (v / 2) (i + 1) = D2 at *
      rw [show 2 * D + (2 ^ (n + 1) - v) = 0 + 2 * (D + (2 ^ n - v / 2)) by rw [Nat.pow_succ]; omega]
      have := and_2 (r := 0) (s := 0) (a := D + (2 ^ n - v / 2)) (b := v / 2) (by omega) (by omega)
      rw [show 0 + 2 * (v / 2) = v by omega, ih] at this
      rw [this]
      show 0 + 2 * D2 = 2 * D2
      omega
theorem dep_fin : ∀ n v i, v < 2 ^ n → i < 2 ^ pcn n v → (dep n v i = v ↔ i + 1 = 2 ^ pcn n v)
  | 0, v, i, h, hi => by
    have : v = 0 := by omega
    subst this
    have hi : i < 1 := hi
    show 0 = 0 ↔ i + 1 = 1
    omega
  | n + 1, v, i, h, hi => by
    rw [Nat.pow_succ] at h
    rw [pcn_s] at hi ⊢
    rw [dep_s]
    split
    · next e =>
      rw [e, Nat.add_comm 1, Nat.pow_succ] at hi ⊢
      have ih := dep_fin n (v / 2) (i / 2) (by omega) (by omega)
      have l := dep_le n (v / 2) (i / 2)
      omega
    · next e =>
      rw [show v % 2 = 0 by omega, Nat.zero_add] at hi ⊢
      have ih := dep_fin n (v / 2) i (by omega) hi
      omega
theorem pcn_sm : ∀ n v, pcn n v = sm (fun i => v / 2 ^ i % 2) n
  | 0, v => rfl
  | n + 1, v => by
    rw [pcn_s, pcn_sm n, Nat.add_comm n 1, sm_split]
    show _ = 0 + v / 2 ^ 0 % 2 + _
    rw [Nat.pow_zero, Nat.div_one, Nat.zero_add]
    congr 1
    refine sm_cong fun k _ => ?_
    rw [Nat.pow_add, ← Nat.div_div_eq_div_mul]
theorem pcn_cnt (n v : Nat) : pcn n v = cnt (fun i => v.testBit i) n := by
  rw [pcn_sm]
  exact sm_cong fun i _ => (tb_d v i).symm
theorem cnt_le (p : Nat → Bool) (n : Nat) : cnt p n ≤ n := by
  have := sm_bd (n := n) (c := 1) (f := fun i => if p i = true then 1 else 0) fun k _ => ite_1
  unfold cnt; omega
/-- the class's way from a part to the next -/
theorem dep_i {v : Nat} (hv : v < 2 ^ 32) (i : Nat) : (nI (dep 32 v i) - nI v) &&& nI v = nI (dep 32 v (i + 1)) := by
  have l := dep_le 32 v i
  have e : nI (dep 32 v i) - nI v = nI (dep 32 v i + (2 ^ 32 - v)) := by
    have z : nI (2 ^ 32) = 0 := by decide +kernel
    have : nI (dep 32 v i + (2 ^ 32 - v)) + nI v = nI (dep 32 v i) := by
      rw [nI_add, show dep 32 v i + (2 ^ 32 - v) + v = dep 32 v i + 2 ^ 32 by omega, ← nI_add, z, Int32.add_zero]
    rw [← this, Int32.add_sub_cancel]
  rw [e, nI_and, dep_nx 32 v i hv]
/-- the model's -/
theorem dep_m {v : Nat} (hv : v < 2 ^ 32) (i : Nat) : ((nI (dep 32 v i) ||| (nI v ^^^ (-1))) + 1) &&& nI v = nI (dep 32 v (i + 1)) := by
  rw [← dep_i hv i]
  have l := dep_le 32 v i
  have sb := dep_sub 32 v i hv
  have e : nI v ^^^ (-1) = nI (2 ^ 32 - 1 - v) := by
    have : nI (2 ^ 32 - 1 - v) = -1 - nI v := by
      have z : nI (2 ^ 32 - 1) = -1 := by decide +kernel
      have : nI (2 ^ 32 - 1 - v) + nI v = -1 := by rw [nI_add, show 2 ^ 32 - 1 - v + v = 2 ^ 32 - 1 by omega, z]
      rw [← this, Int32.add_sub_cancel]
    rw [this]
    refine Int32.toBitVec_inj.mp ?_
    rw [Int32.toBitVec_xor, Int32.toBitVec_sub]
    show _ ^^^ BitVec.allOnes 32 = BitVec.allOnes 32 - _
    rw [BitVec.xor_allOnes, BitVec.allOnes_sub_eq_not]
  have h2 : nI (dep 32 v i) ||| (nI v ^^^ (-1)) = nI (dep 32 v i) + (nI v ^^^ (-1)) := by
    refine Int32.toBitVec_inj.mp ?_
    rw [Int32.toBitVec_or, Int32.toBitVec_add]
    refine (BitVec.add_eq_or_of_and_eq_zero _ _ ?_).symm
    rw [← Int32.toBitVec_and]
    have : nI (dep 32 v i) &&& (nI v ^^^ (-1)) = 0 := b_zero.mpr fun k hk => by
      rw [b_and, b_not _ hk, b_nI hk, b_nI hk]
      have t := congrArg (fun z => z.testBit k) sb
      simp only [Nat.testBit_and] at t
      rw [← t]
      cases v.testBit k <;> simp
    rw [this]; rfl
  rw [h2, e]
  have : nI (dep 32 v i) + nI (2 ^ 32 - 1 - v) + 1 = nI (dep 32 v i) - nI v := by
    have z : nI (2 ^ 32) = 0 := by decide +kernel
    have q : nI (dep 32 v i) + nI (2 ^ 32 - 1 - v) + 1 + nI v = nI (dep 32 v i) := by
      rw [nI_add, nI_1, nI_add, show dep 32 v i + (2 ^ 32 - 1 - v) + 1 + v = dep 32 v i + 2 ^ 32 by omega, ← nI_add, z, Int32.add_zero]
    rw [← q, Int32.add_sub_cancel, q]
  rw [this]
