/-! ===== the highest bit ===== -/
theorem dv {v t k : Nat} (hk : k ≤ t) (h1 : 2 ^ t ≤ v) (h2 : v < 2 ^ (t + 1)) : 2 ^ (t - k) ≤ v / 2 ^ k ∧ v / 2 ^ k < 2 ^ (t - k + 1) := by
  refine ⟨(Nat.le_div_iff_mul_le (Nat.two_pow_pos k)).mpr ?_, (Nat.div_lt_iff_lt_mul (Nat.two_pow_pos k)).mpr ?_⟩
  · rw [← Nat.pow_add, Nat.sub_add_cancel hk]; exact h1
  · rw [← Nat.pow_add, show t - k + 1 + k = t + 1 by omega]; exact h2
theorem nI_dn {r k : Nat} {z : Int32} (h : k ≤ r) (hz : nI k + z = 0) : nI r + z = nI (r - k) := by
  rw [show r = (r - k) + k by omega, ← nI_add, Int32.add_assoc, hz, Nat.add_sub_cancel, Int32.add_zero]
theorem p2 {v t k : Nat} (h1 : 2 ^ t ≤ v) (h2 : v < 2 ^ (t + 1)) : (v < 2 ^ k → t < k) ∧ (t < k → v < 2 ^ k) := by
  constructor
  · intro h
    by_cases e : t < k
    · exact e
    · have := Nat.pow_le_pow_right (n := 2) (by omega) (Nat.not_lt.mp e); omega
  · intro h
    have := Nat.pow_le_pow_right (n := 2) (by omega) (show t + 1 ≤ k by omega); omega
section NLZ
variable {X : a_X} {m : Nat → Nat → Int32} {Q : Option Value → (Nat → Nat → Int32) → Prop}
theorem n73 {v r t : Nat} (ht : t < 2) (h1 : 2 ^ t ≤ v) (h2 : v < 2 ^ (t + 1)) (hr : t ≤ r) (h : Q (some (.int (nI (r - t)))) m) : Wp X mJ6_numberOfLeadingZeros_0f7a4 73 [some (.int (nI v)), some (.int (nI r))] [] m Q := by
  refine eJ6_numberOfLeadingZeros_0f7a4_73 ?_
  have h3 := Nat.pow_le_pow_right (n := 2) (by omega) (show t + 1 ≤ 2 by omega)
  have e : a_ush (nI v) 1 = nI (v / 2 ^ 1) := pk_ushrN (by omega) 1 1 (by decide +kernel)
  have e2 : v / 2 ^ 1 = t := by
    rcases (by omega : t = 0 ∨ t = 1) with z | z <;> subst z <;> omega
  rw [e, e2, pk_sub hr]; exact h
theorem nst {x k2 z : Int32} {v r t k : Nat} {W : Int32 → Int32 → Prop} (hb : x = nI (2 ^ k)) (hk : k < 31) (he : ((k2.toUInt32 &&& Int32.toUInt32 31).toBitVec % 32).toNat = k) (hz : nI k + z = 0) (hv : v < 2 ^ 31) (h1 : 2 ^ t ≤ v) (h2 : v < 2 ^ (t + 1)) (hr : t ≤ r)
    (lo : t < k → W (nI v) (nI r)) (hi : k ≤ t → ∀ v2 r2 t2, t2 + k = t → r2 + k = r → t2 ≤ r2 → r - t = r2 - t2 → v2 < 2 ^ 31 → 2 ^ t2 ≤ v2 → v2 < 2 ^ (t2 + 1) → W (nI v2) (nI r2)) : (nI v < x → W (nI v) (nI r)) ∧ (¬ nI v < x → W (a_ush (nI v) k2) (nI r + z)) := by
  have hp := Nat.pow_lt_pow_right (a := 2) (by omega) hk
  obtain ⟨q1, q2⟩ := p2 (k := k) h1 h2
  refine pk_lt v (2 ^ k) (fun c => lo (q1 c)) (fun c => ?_) rfl hb hv hp
  have hkt : k ≤ t := by
    by_cases e : t < k
    · have := q2 e; omega
    · omega
  have e : a_ush (nI v) k2 = nI (v / 2 ^ k) := pk_ushrN (by omega) k2 k he
  rw [e, nI_dn (by omega) hz]
  obtain ⟨d1, d2⟩ := dv hkt h1 h2
  exact hi hkt _ _ (t - k) (by omega) (by omega) (by omega) (by omega) (Nat.lt_of_le_of_lt (Nat.div_le_self _ _) hv) d1 d2
theorem n61 {v r t : Nat} (ht : t < 4) (hv : v < 2 ^ 31) (h1 : 2 ^ t ≤ v) (h2 : v < 2 ^ (t + 1)) (hr : t ≤ r) (h : Q (some (.int (nI (r - t)))) m) : Wp X mJ6_numberOfLeadingZeros_0f7a4 61 [some (.int (nI v)), some (.int (nI r))] [] m Q :=
  eJ6_numberOfLeadingZeros_0f7a4_61 (nst (W := fun a b => Wp X mJ6_numberOfLeadingZeros_0f7a4 73 [some (.int a), some (.int b)] [] m Q) (k := 2) (by decide +kernel) (by omega) (by decide +kernel) (by decide +kernel) hv h1 h2 hr (fun c => n73 c h1 h2 hr h) (fun _ v2 r2 t2 q1 q2 q3 q4 q5 q6 q7 => n73 (by omega) q6 q7 q3 (q4 ▸ h)))
theorem n48 {v r t : Nat} (ht : t < 8) (hv : v < 2 ^ 31) (h1 : 2 ^ t ≤ v) (h2 : v < 2 ^ (t + 1)) (hr : t ≤ r) (h : Q (some (.int (nI (r - t)))) m) : Wp X mJ6_numberOfLeadingZeros_0f7a4 48 [some (.int (nI v)), some (.int (nI r))] [] m Q :=
  eJ6_numberOfLeadingZeros_0f7a4_48 (nst (W := fun a b => Wp X mJ6_numberOfLeadingZeros_0f7a4 61 [some (.int a), some (.int b)] [] m Q) (k := 4) (by decide +kernel) (by omega) (by decide +kernel) (by decide +kernel) hv h1 h2 hr (fun c => n61 c hv h1 h2 hr h) (fun _ v2 r2 t2 q1 q2 q3 q4 q5 q6 q7 => n61 (by omega) q5 q6 q7 q3 (q4 ▸ h)))
theorem n33 {v r t : Nat} (ht : t < 16) (hv : v < 2 ^ 31) (h1 : 2 ^ t ≤ v) (h2 : v < 2 ^ (t + 1)) (hr : t ≤ r) (h : Q (some (.int (nI (r - t)))) m) : Wp X mJ6_numberOfLeadingZeros_0f7a4 33 [some (.int (nI v)), some (.int (nI r))] [] m Q :=
  eJ6_numberOfLeadingZeros_0f7a4_33 (nst (W := fun a b => Wp X mJ6_numberOfLeadingZeros_0f7a4 48 [some (.int a), some (.int b)] [] m Q) (k := 8) (by decide +kernel) (by omega) (by decide +kernel) (by decide +kernel) hv h1 h2 hr (fun c => n48 c hv h1 h2 hr h) (fun _ v2 r2 t2 q1 q2 q3 q4 q5 q6 q7 => n48 (by omega) q5 q6 q7 q3 (q4 ▸ h)))
theorem n18 {v r t : Nat} (ht : t < 32) (hv : v < 2 ^ 31) (h1 : 2 ^ t ≤ v) (h2 : v < 2 ^ (t + 1)) (hr : t ≤ r) (h : Q (some (.int (nI (r - t)))) m) : Wp X mJ6_numberOfLeadingZeros_0f7a4 18 [some (.int (nI v)), some (.int (nI r))] [] m Q :=
  eJ6_numberOfLeadingZeros_0f7a4_18 (nst (W := fun a b => Wp X mJ6_numberOfLeadingZeros_0f7a4 33 [some (.int a), some (.int b)] [] m Q) (k := 16) (by decide +kernel) (by omega) (by decide +kernel) (by decide +kernel) hv h1 h2 hr (fun c => n33 c hv h1 h2 hr h) (fun _ v2 r2 t2 q1 q2 q3 q4 q5 q6 q7 => n33 (by omega) q5 q6 q7 q3 (q4 ▸ h)))
end NLZ
/-- a set's greatest, by its value -/
theorem tp_val {x : Int32} {p : Nat → Bool} {n t : Nat} (hn : n ≤ 31) (hx : isS x p) (hz : ∀ i, n ≤ i → i < 32 → p i = false) (ht : tp p n = t + 1) : 2 ^ t ≤ x.toBitVec.toNat ∧ x.toBitVec.toNat < 2 ^ (t + 1) := by
  obtain ⟨h1, h2, h3⟩ := tp_has ht
  constructor
  · refine Nat.ge_two_pow_of_testBit ?_
    rw [← bt_nat, hx t (by omega)]; exact h2
  · refine Nat.lt_pow_two_of_testBit _ fun i hi => ?_
    rw [← bt_nat]
    by_cases h32 : i < 32
    · rw [hx i h32]
      by_cases hin : i < n
      · exact h3 i (by omega) hin
      · exact hz i (by omega) h32
    · exact b_big (by omega)
theorem tI_31 : ∀ t, t < 33 → 31 - nI (32 - t) = tI t := by decide +kernel
section TOP
variable {X : a_X} {m : Nat → Nat → Int32} {Q : Int32 → (Nat → Nat → Int32) → Prop}
theorem s_nlz {x : Int32} {p : Nat → Bool} {n : Nat} (hn : n ≤ 31) (hx : isS x p) (hz : ∀ i, n ≤ i → i < 32 → p i = false) (h : Q (nI (32 - tp p n)) m) : CallI X mJ6_numberOfLeadingZeros_0f7a4 [.int x] m Q := by
  cases e : tp p n with
  | zero =>
    have h0 := tp_none e
    have : x = 0 := hx.zero.mpr fun i hi => by
      by_cases hin : i < n
      · exact h0 i hin
      · exact hz i (by omega) hi
    subst this
    rw [e] at h
    exact eJ6_numberOfLeadingZeros_0f7a4_0 ⟨fun c => absurd c (by decide), fun _ => ⟨fun c => absurd rfl c, fun _ => qI h⟩⟩
  | succ t =>
    obtain ⟨v1, v2⟩ := tp_val hn hx hz e
    have hv : x.toBitVec.toNat < 2 ^ 31 := Nat.lt_of_lt_of_le v2 (Nat.pow_le_pow_right (by omega) (by have := (tp_has e).1; omega))
    have hx2 := b_toNat x
    generalize x.toBitVec.toNat = v at hx2 v1 v2 hv
    subst hx2
    have ht := (tp_has e).1
    rw [e] at h
    refine eJ6_numberOfLeadingZeros_0f7a4_0 ⟨fun _ => n18 (r := 31) (t := t) (by omega) hv v1 v2 (by omega) ?_, fun c => absurd ?_ c⟩
    · rw [show 31 - t = 32 - (t + 1) by omega]; exact qI h
    · have := Nat.two_pow_pos t
      exact nI_lt (a := 0) (by omega) hv
theorem s_topAt {b c : Nat} (hb : sBills b) {p : Nat → Bool} (hc : c < 128) (hp : isS (m (b + 6) c) p) (hz : ∀ i, 20 ≤ i → i < 32 → p i = false) (h : Q (tI (tp p 20)) m) : CallI X mX0_topAt [.ref b, .int (nI c)] m Q := by
  refine eX0_topAt_0 hb ⟨pk_in c 128 hc, ?_⟩
  rw [pk_cl c]
  refine s_nlz (n := 20) (by omega) hp hz ?_
  rw [tI_31 _ (by have := tp_le p 20; omega)]
  exact qI h
end TOP
