/-! ===== ORDERS: when there is one; what surely lies over ===== -/
theorem cnt_s (p : Nat → Bool) (n : Nat) : cnt p (n + 1) = cnt p n + (if p n = true then 1 else 0) := rfl
theorem sm_cnt (p : Nat → Bool) (x : Nat) : ∀ n, sm (fun b => if p b = true then x else 0) n = cnt p n * x
  | 0 => by show 0 = 0 * x; omega
  | n + 1 => by
    rw [sm_s, cnt_s, sm_cnt p x n, Nat.add_mul]
    split
    · rw [Nat.one_mul]
    · rw [Nat.zero_mul]
theorem cnt_up {p q : Nat → Bool} {k n : Nat} (hk : k < n) (h1 : p k = false) (h2 : q k = true) (h : ∀ i, i ≠ k → q i = p i) : cnt q n = cnt p n + 1 := by
  have := sm_1 (f := fun i => if p i = true then 1 else 0) (g := fun i => if q i = true then 1 else 0) hk (fun i hi => by show (if q i = true then 1 else 0) = _; rw [h i hi])
  rw [h1, h2, if_pos rfl, if_neg (by decide)] at this
  unfold cnt; omega
theorem cnt_all {p : Nat → Bool} : ∀ {n}, cnt p n = n → ∀ i, i < n → p i = true
  | 0, _, i, hi => absurd hi (Nat.not_lt_zero i)
  | n + 1, h, i, hi => by
    rw [cnt_s] at h
    have l := cnt_le p n
    by_cases hn : p n = true
    · rw [if_pos hn] at h
      by_cases e : i = n
      · rw [e]; exact hn
      · exact cnt_all (n := n) (by omega) i (by omega)
    · rw [if_neg hn] at h; omega
def fct : Nat → Nat
  | 0 => 1
  | n + 1 => (n + 1) * fct n
theorem fct_10 : ∀ n, n ≤ 10 → fct n ≤ 3628800 := by decide
/-- a set of the first n -/
def inN (n s : Nat) : Prop := ∀ i, s.testBit i = true → i < n
theorem inN_rmv {n s b : Nat} (hs : s < 2 ^ 32) (h : inN n s) : inN n (rmv s b) := fun i hi => by
  rw [tb_rmv hs, Bool.and_eq_true] at hi
  exact h i hi.1
theorem wy_le (R : Nat → Nat → Bool) (n : Nat) : ∀ s, s < 2 ^ 32 → inN n s → wy R n s ≤ fct (cnt (fun i => s.testBit i) n) := by
  intro s
  induction s using Nat.strongRecOn with
  | ind s ih =>
    intro hs hN
    by_cases h0 : s = 0
    · subst h0
      rw [wy_0, show cnt (fun i => Nat.testBit 0 i) n = 0 from sm_0 fun k _ => if_neg (by show ¬ Nat.testBit 0 k = true; rw [Nat.zero_testBit]; decide)]
      exact Nat.le_refl _
    · rw [wy_s hs h0]
      cases hc : cnt (fun i => s.testBit i) n with
      | zero =>
        refine absurd (Nat.eq_of_testBit_eq (y := 0) fun i => ?_) h0
        rw [Nat.zero_testBit]
        cases hb : s.testBit i with
        | false => rfl
        | true =>
          have := sm_z (f := fun i => if s.testBit i = true then 1 else 0) hc i (hN i hb)
          rw [if_pos hb] at this
          cases this
      | succ k =>
        have key : sm (wyT R n s) n ≤ sm (fun b => if (fun i => s.testBit i) b = true then fct k else 0) n := sm_le fun b hb => by
          unfold wyT
          cases tb : s.testBit b with
          | false => rw [if_neg fun q => by cases q.1]; exact Nat.zero_le _
          | true =>
            have l := rmv_lt hs tb
            have i1 := ih _ l (rmv_32 s b) (inN_rmv hs hN)
            have c1 := cnt_up (p := fun i => (rmv s b).testBit i) (q := fun i => s.testBit i) hb (by rw [tb_rmv hs, decide_eq_true (rfl : b = b)]; simp) tb fun i hi => by rw [tb_rmv hs, decide_eq_false hi]; simp
            rw [show cnt (fun i => (rmv s b).testBit i) n = k by omega] at i1
            show _ ≤ if s.testBit b = true then fct k else 0
            rw [if_pos tb]
            split
            · exact i1
            · exact Nat.zero_le _
        rw [sm_cnt, hc] at key
        exact key
theorem full_bit (n i : Nat) : (2 ^ n - 1).testBit i = decide (i < n) := Nat.testBit_two_pow_sub_one n i
theorem full_in (n : Nat) : inN n (2 ^ n - 1) := fun i hi => by
  rw [full_bit] at hi
  exact of_decide_eq_true hi
theorem full_32 {n : Nat} (hn : n ≤ 10) : 2 ^ n - 1 < 2 ^ 32 := by
  have := Nat.pow_le_pow_right (n := 2) (by omega) hn
  omega
theorem ord_31 {R : Nat → Nat → Bool} {n : Nat} (hn : n ≤ 10) : wy R n (2 ^ n - 1) < 2 ^ 31 := by
  have h1 := wy_le R n _ (full_32 hn) (full_in n)
  have h2 := cnt_le (fun i => (2 ^ n - 1).testBit i) n
  have h3 := fct_10 (cnt (fun i => (2 ^ n - 1).testBit i) n) (by omega)
  omega
section GREEDY
variable {R : Nat → Nat → Bool} {n : Nat}
theorem fo_has {i : Nat} (h : fo R n i < n) : (gS R n i).testBit (fo R n i) = false ∧ sbt (R (fo R n i)) (gS R n i) = true := by
  have := fL_is (p := fun b => !(gS R n i).testBit b && sbt (R b) (gS R n i)) h
  rw [Bool.and_eq_true, Bool.not_eq_true'] at this
  exact this
theorem gS_bit (hn : n ≤ 10) : ∀ i, (∀ j, j < i → fo R n j < n) → (∀ b, (gS R n i).testBit b = true ↔ ∃ j, j < i ∧ fo R n j = b) ∧ cnt (fun b => (gS R n i).testBit b) n = i ∧ wy R n (gS R n i) ≠ 0
  | 0, _ => by
    refine ⟨fun b => ?_, ?_, by show wy R n 0 ≠ 0; rw [wy_0]; decide⟩
    · show Nat.testBit 0 b = true ↔ _
      rw [Nat.zero_testBit]
      exact ⟨(fun q => by cases q), fun ⟨j, hj, _⟩ => absurd hj (Nat.not_lt_zero j)⟩
    · exact sm_0 fun k _ => if_neg (by show ¬ Nat.testBit 0 k = true; rw [Nat.zero_testBit]; decide)
  | i + 1, h => by
    obtain ⟨h1, h2, h3⟩ := gS_bit hn i fun j hj => h j (by omega)
    have hb := h i (by omega)
    obtain ⟨p1, p2⟩ := fo_has hb
    have s32 := gS_32 R n i
    rw [gS_s]
    have tb := tb_ins s32 (b := fo R n i) (by omega)
    refine ⟨fun b => ?_, ?_, ?_⟩
    · rw [tb, Bool.or_eq_true, h1]
      constructor
      · rintro (⟨j, hj, e⟩ | q)
        · exact ⟨j, by omega, e⟩
        · exact ⟨i, by omega, (of_decide_eq_true q).symm⟩
      · rintro ⟨j, hj, e⟩
        by_cases z : j = i
        · subst z; exact Or.inr (decide_eq_true e.symm)
        · exact Or.inl ⟨j, by omega, e⟩
    · rw [cnt_up (p := fun b => (gS R n i).testBit b) hb p1 (by rw [tb, decide_eq_true (rfl : fo R n i = fo R n i), Bool.or_true]) fun k hk => by rw [tb, decide_eq_false hk, Bool.or_false], h2]
    · have i32 := ins_32 (gS R n i) (fo R n i)
      have tt : (ins (gS R n i) (fo R n i)).testBit (fo R n i) = true := by rw [tb, decide_eq_true (rfl : fo R n i = fo R n i), Bool.or_true]
      have ne : ins (gS R n i) (fo R n i) ≠ 0 := fun q => by rw [q, Nat.zero_testBit] at tt; cases tt
      have er : rmv (ins (gS R n i) (fo R n i)) (fo R n i) = gS R n i := Nat.eq_of_testBit_eq fun k => by
        rw [tb_rmv i32, tb]
        by_cases z : k = fo R n i
        · rw [z, p1, decide_eq_true (rfl : fo R n i = fo R n i)]; rfl
        · rw [decide_eq_false z]; simp
      rw [wy_s i32 ne]
      have l := sm_part (f := wyT R n (ins (gS R n i) (fo R n i))) hb
      have : wyT R n (ins (gS R n i) (fo R n i)) (fo R n i) = wy R n (gS R n i) := by
        unfold wyT
        rw [er, if_pos ⟨tt, p2⟩]
      omega
theorem hso_f : hso R n = true ↔ ∀ i, i < n → fo R n i < n := by
  unfold hso
  rw [Bool.not_eq_true', ex_f]
  constructor
  · intro h i hi
    have := of_decide_eq_false (h i hi)
    omega
  · intro h i hi
    have := h i hi
    exact decide_eq_false (by omega)
theorem gS_full (hn : n ≤ 10) (h : hso R n = true) : gS R n n = 2 ^ n - 1 := by
  obtain ⟨h1, h2, -⟩ := gS_bit hn n (hso_f.mp h)
  refine Nat.eq_of_testBit_eq fun i => ?_
  rw [full_bit]
  by_cases hi : i < n
  · rw [decide_eq_true hi]
    exact cnt_all h2 i hi
  · rw [decide_eq_false hi]
    cases q : (gS R n n).testBit i with
    | false => rfl
    | true =>
      obtain ⟨j, hj, e⟩ := (h1 i).mp q
      have := hso_f.mp h j hj
      omega
theorem hso_wy (hn : n ≤ 10) (h : hso R n = true) : wy R n (2 ^ n - 1) ≠ 0 := by
  rw [← gS_full hn h]
  exact (gS_bit hn n (hso_f.mp h)).2.2
theorem wy_pos : ∀ T, T < 2 ^ 32 → inN n T → wy R n T ≠ 0 → ∀ S, (∃ j, T.testBit j = true ∧ S.testBit j = false) → ∃ b, b < n ∧ S.testBit b = false ∧ sbt (R b) S = true := by
  intro T
  induction T using Nat.strongRecOn with
  | ind T ih =>
    intro h32 hN hw S ⟨j, hj1, hj2⟩
    have ne : T ≠ 0 := fun q => by rw [q, Nat.zero_testBit] at hj1; cases hj1
    rw [wy_s h32 ne] at hw
    have : ∃ b, b < n ∧ wyT R n T b ≠ 0 := by
      by_cases q : ∃ b, b < n ∧ wyT R n T b ≠ 0
      · exact q
      · refine absurd (sm_0 fun b hb => ?_) hw
        by_cases z : wyT R n T b = 0
        · exact z
        · exact absurd ⟨b, hb, z⟩ q
    obtain ⟨b, hb, hw2⟩ := this
    unfold wyT at hw2
    by_cases c : T.testBit b = true ∧ sbt (R b) (rmv T b) = true
    · rw [if_pos c] at hw2
      by_cases q : ∃ k, (rmv T b).testBit k = true ∧ S.testBit k = false
      · exact ih _ (rmv_lt h32 c.1) (rmv_32 T b) (inN_rmv h32 hN) hw2 S q
      · have sub : ∀ k, (rmv T b).testBit k = true → S.testBit k = true := fun k hk => by
          cases z : S.testBit k with
          | true => rfl
          | false => exact absurd ⟨k, hk, z⟩ q
        have jb : j = b := by
          by_cases z : j = b
          · exact z
          · have := sub j (by rw [tb_rmv h32, hj1, decide_eq_false z]; rfl)
            rw [hj2] at this; cases this
        subst jb
        refine ⟨j, hb, hj2, sbt_t.mpr fun k hk hp => sub k (sbt_t.mp c.2 k hk hp)⟩
    · rw [if_neg c] at hw2
      exact absurd rfl hw2
theorem wy_hso (hn : n ≤ 10) (h : wy R n (2 ^ n - 1) ≠ 0) : hso R n = true := by
  refine hso_f.mpr ?_
  intro i
  induction i using Nat.strongRecOn with
  | ind i ih =>
    intro hi
    obtain ⟨h1, h2, -⟩ := gS_bit (R := R) hn i fun j hj => ih j hj (by omega)
    have : ∃ j, (2 ^ n - 1).testBit j = true ∧ (gS R n i).testBit j = false := by
      by_cases q : ∃ j, (2 ^ n - 1).testBit j = true ∧ (gS R n i).testBit j = false
      · exact q
      · have all : ∀ j, j < n → (gS R n i).testBit j = true := fun j hj => by
          cases z : (gS R n i).testBit j with
          | true => rfl
          | false => exact absurd ⟨j, by rw [full_bit, decide_eq_true hj], z⟩ q
        have : cnt (fun b => (gS R n i).testBit b) n = n := by
          have e : cnt (fun b => (gS R n i).testBit b) n = cnt (fun _ => true) n := cnt_cong fun j hj => all j hj
          rw [e]
          show sm (fun _ => if true = true then 1 else 0) n = n
          rw [sm_cong (g := fun _ => 1) fun _ _ => if_pos rfl, sm_const, Nat.mul_one]
        omega
    obtain ⟨b, hb, b1, b2⟩ := wy_pos _ (full_32 hn) (full_in n) h (gS R n i) this
    by_cases q : fo R n i < n
    · exact q
    · have l := fL_le (fun b => !(gS R n i).testBit b && sbt (R b) (gS R n i)) n
      have := fL_not (p := fun b => !(gS R n i).testBit b && sbt (R b) (gS R n i)) (n := n) (i := b) (show b < fo R n i by omega)
      rw [b1, b2] at this
      cases this
/-- one way through, and n ways: the model's -/
def psN (R : Nat → Nat → Bool) : Nat → (Nat → Bool) → Nat → Bool
  | 0, p => p
  | c + 1, p => fun j => psN R c p j || (psN R c p c && R c j)
def prN (R : Nat → Nat → Bool) (n : Nat) : Nat → (Nat → Bool) → Nat → Bool
  | 0, p => p
  | k + 1, p => psN R n (prN R n k p)
theorem psN_s (R : Nat → Nat → Bool) (c : Nat) (p : Nat → Bool) (j : Nat) : psN R (c + 1) p j = (psN R c p j || (psN R c p c && R c j)) := rfl
theorem psN_up {c d : Nat} {p : Nat → Bool} {j : Nat} (h : psN R c p j = true) : psN R (c + d) p j = true := by
  induction d with
  | zero => exact h
  | succ d ih =>
    rw [← Nat.add_assoc, psN_s, ih]; rfl
theorem psN_0 {d : Nat} {p : Nat → Bool} {j : Nat} (h : p j = true) : psN R d p j = true := by
  have := psN_up (R := R) (c := 0) (d := d) (p := p) (j := j) h
  rwa [Nat.zero_add] at this
theorem psN_x {x : Nat} {p : Nat → Bool} {j : Nat} (hx : x < n) (h1 : p x = true) (h2 : R x j = true) : psN R n p j = true := by
  have : psN R (x + 1) p j = true := by
    rw [psN_s, psN_0 (d := x) h1, h2]; simp
  have := psN_up (R := R) (d := n - (x + 1)) this
  rwa [show x + 1 + (n - (x + 1)) = n by omega] at this
theorem psN_sub {K : Nat → Bool} {p : Nat → Bool} (hK : ∀ x j, x < n → K x = true → R x j = true → K j = true) (hp : ∀ j, p j = true → K j = true) : ∀ c, c ≤ n → ∀ j, psN R c p j = true → K j = true
  | 0, _, j, h => hp j h
  | c + 1, hc, j, h => by
    rw [psN_s, Bool.or_eq_true, Bool.and_eq_true] at h
    rcases h with h | h
    · exact psN_sub hK hp c (by omega) j h
    · exact hK c j (by omega) (psN_sub hK hp c (by omega) c h.1) h.2
theorem prN_sub {K : Nat → Bool} {p : Nat → Bool} (hK : ∀ x j, x < n → K x = true → R x j = true → K j = true) (hp : ∀ j, p j = true → K j = true) : ∀ k j, prN R n k p j = true → K j = true
  | 0, j, h => hp j h
  | k + 1, j, h => psN_sub hK (prN_sub hK hp k) n (Nat.le_refl _) j h
theorem prN_up {k d : Nat} {p : Nat → Bool} {j : Nat} (h : prN R n k p j = true) : prN R n (k + d) p j = true := by
  induction d with
  | zero => exact h
  | succ d ih => exact psN_0 (d := n) ih
theorem lvS_s (a d j : Nat) : lvS R n a (d + 1) j = (lvS R n a d j || (lvS R n a d (fo R n (n - 1 - d)) && R (fo R n (n - 1 - d)) j)) := rfl
theorem lvS_up {a d e j : Nat} (h : lvS R n a d j = true) : lvS R n a (d + e) j = true := by
  induction e with
  | zero => exact h
  | succ e ih => rw [← Nat.add_assoc, lvS_s, ih]; rfl
/-- what is below one stands ahead of it -/
theorem fo_R (hn : n ≤ 10) (h : hso R n = true) {i j : Nat} (hi : i < n) (hj : j < 32) (hr : R (fo R n i) j = true) : ∃ k, k < i ∧ fo R n k = j := by
  have hf := hso_f.mp h
  obtain ⟨-, p2⟩ := fo_has (hf i hi)
  have := sbt_t.mp p2 j hj hr
  exact ((gS_bit hn i fun j hj => hf j (by omega)).1 j).mp this
theorem fo_inj (hn : n ≤ 10) (h : hso R n = true) {i j : Nat} (hi : i < n) (hj : j < n) (e : fo R n i = fo R n j) : i = j := by
  have hf := hso_f.mp h
  have go : ∀ a b, a < b → b < n → fo R n a = fo R n b → False := fun a b hab hb e => by
    obtain ⟨p1, -⟩ := fo_has (hf b hb)
    rw [((gS_bit hn b fun j hj => hf j (by omega)).1 _).mpr ⟨a, hab, e⟩] at p1
    cases p1
  rcases Nat.lt_trichotomy i j with q | q | q
  · exact (go i j q hj e).elim
  · exact q
  · exact (go j i q hi e.symm).elim
theorem fo_sur (hn : n ≤ 10) (h : hso R n = true) {b : Nat} (hb : b < n) : ∃ i, i < n ∧ fo R n i = b := by
  have hf := hso_f.mp h
  have := gS_full hn h
  refine ((gS_bit hn n hf).1 b).mp ?_
  rw [this, full_bit, decide_eq_true hb]
/-- what is added late stands early -/
theorem lvS_old (hn : n ≤ 10) (h : hso R n = true) (hR : ∀ x j, R x j = true → j < n) {a i : Nat} (hi : i < n) : ∀ e, n - 1 - i + e ≤ n → lvS R n a (n - 1 - i + e) (fo R n i) = true → lvS R n a (n - 1 - i) (fo R n i) = true
  | 0, _, q => q
  | e + 1, he, q => by
    rw [← Nat.add_assoc, lvS_s, Bool.or_eq_true, Bool.and_eq_true] at q
    rcases q with q | q
    · exact lvS_old hn h hR hi e (by omega) q
    · obtain ⟨k, hk, ek⟩ := fo_R hn h (i := n - 1 - (n - 1 - i + e)) (by omega) (by have := hR _ _ q.2; omega) q.2
      have := fo_inj hn h (by omega) hi ek
      omega
theorem lvS_closed (hn : n ≤ 10) (h : hso R n = true) (hR : ∀ x j, R x j = true → j < n) {a : Nat} : ∀ x j, x < n → lvS R n a n x = true → R x j = true → lvS R n a n j = true := by
  intro x j hx h1 h2
  obtain ⟨i, hi, rfl⟩ := fo_sur hn h hx
  have h3 := lvS_old hn h hR hi (i + 1) (by omega) (by rw [show n - 1 - i + (i + 1) = n by omega]; exact h1)
  have : lvS R n a (n - 1 - i + 1) j = true := by
    rw [lvS_s, show n - 1 - (n - 1 - i) = i by omega, h3, h2]; simp
  have := lvS_up (e := i) this
  rwa [show n - 1 - i + 1 + i = n by omega] at this
theorem lvS_why {a : Nat} : ∀ d y, lvS R n a d y = true → R a y = true ∨ ∃ k, k < d ∧ lvS R n a d (fo R n (n - 1 - k)) = true ∧ R (fo R n (n - 1 - k)) y = true
  | 0, y, h => Or.inl h
  | d + 1, y, h => by
    rw [lvS_s, Bool.or_eq_true, Bool.and_eq_true] at h
    rcases h with h | h
    · rcases lvS_why d y h with q | ⟨k, hk, q1, q2⟩
      · exact Or.inl q
      · exact Or.inr ⟨k, by omega, lvS_up (e := 1) q1, q2⟩
    · exact Or.inr ⟨d, by omega, lvS_up (e := 1) h.1, h.2⟩
theorem lvS_prN (hn : n ≤ 10) (h : hso R n = true) (hR : ∀ x j, R x j = true → j < n) {a : Nat} : ∀ s i, i < n → n - 1 - i = s → lvS R n a n (fo R n i) = true → prN R n s (R a) (fo R n i) = true := by
  intro s
  induction s using Nat.strongRecOn with
  | ind s ih =>
    intro i hi es hl
    rcases lvS_why n _ hl with q | ⟨k, hk, q1, q2⟩
    · have := prN_up (R := R) (n := n) (k := 0) (d := s) (p := R a) q
      rwa [Nat.zero_add] at this
    · obtain ⟨i2, hi2, ei2⟩ := fo_R hn h (i := n - 1 - k) (by omega) (by have := hR _ _ q2; omega) q2
      have := fo_inj hn h (by omega) hi ei2
      have p1 := ih k (by omega) (n - 1 - k) (by omega) (by omega) q1
      have hf := hso_f.mp h (n - 1 - k) (by omega)
      have p2 : prN R n (k + 1) (R a) (fo R n i) = true := psN_x hf p1 q2
      have := prN_up (d := s - (k + 1)) p2
      rwa [show k + 1 + (s - (k + 1)) = s by omega] at this
theorem prN_lvS (hn : n ≤ 10) (h : hso R n = true) (hR : ∀ x j, R x j = true → j < n) {a b : Nat} (hb : b < n) : prN R n n (R a) b = lvS R n a n b := by
  cases hl : lvS R n a n b with
  | true =>
    obtain ⟨i, hi, rfl⟩ := fo_sur hn h hb
    have := lvS_prN hn h hR _ i hi rfl hl
    have := prN_up (d := i + 1) this
    rwa [show n - 1 - i + (i + 1) = n by omega] at this
  | false =>
    cases hp : prN R n n (R a) b with
    | false => rfl
    | true =>
      have := prN_sub (K := lvS R n a n) (lvS_closed hn h hR) (fun j hj => by
        have := lvS_up (R := R) (n := n) (a := a) (d := 0) (e := n) (j := j) hj
        rwa [Nat.zero_add] at this) n b hp
      rw [hl] at this
      cases this
end GREEDY
theorem ordF_can {P : PT} {F : FT} (hn : fn F ≤ 10) : canF P F = true ↔ ordF P F ≠ 0 := by
  unfold canF ordF
  cases psb P F with
  | false => simp
  | true =>
    rw [Bool.true_and, if_pos rfl]
    exact ⟨fun h => hso_wy hn h, fun h => wy_hso hn h⟩
theorem ordF_31 {P : PT} {F : FT} (hn : fn F ≤ 10) : ordF P F < 2 ^ 31 := by
  unfold ordF
  split
  · exact ord_31 hn
  · decide
theorem ordF_0 {P : PT} {F : FT} (hn : fn F ≤ 10) : nI (ordF P F) = 0 ↔ canF P F = false := by
  have h := ordF_can (P := P) hn
  rw [show (0 : Int32) = nI 0 from rfl, nI_eq (ordF_31 hn) (by decide)]
  cases hc : canF P F with
  | true => rw [hc] at h; exact ⟨fun q => absurd q (h.mp rfl), fun q => by cases q⟩
  | false =>
    rw [hc] at h
    refine ⟨fun _ => rfl, fun _ => ?_⟩
    by_cases z : ordF P F = 0
    · exact z
    · have := h.mpr z; cases this
theorem blw_lt {P : PT} {F : FT} {a j : Nat} (h : blw P F a j = true) : j < fn F := by
  by_cases q : j < fn F
  · exact q
  · rw [blw_no (by omega)] at h; cases h
