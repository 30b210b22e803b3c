/-! ===== sets as numbers; ORDERS ===== -/
/-- all of p are in s -/
def sbt (p : Nat → Bool) (s : Nat) : Bool := !ex (fun j => p j && !s.testBit j) 32
def rmv (s b : Nat) : Nat := ofB (fun i => s.testBit i && !decide (i = b)) 32
def ins (s b : Nat) : Nat := ofB (fun i => s.testBit i || decide (i = b)) 32
theorem tb_big {s i : Nat} (hs : s < 2 ^ 32) (hi : 32 ≤ i) : s.testBit i = false := Nat.testBit_lt_two_pow (Nat.lt_of_lt_of_le hs (Nat.pow_le_pow_right (by omega) hi))
theorem rmv_32 (s b : Nat) : rmv s b < 2 ^ 32 := (ofB_t _ 32).1
theorem ins_32 (s b : Nat) : ins s b < 2 ^ 32 := (ofB_t _ 32).1
theorem tb_rmv {s b : Nat} (hs : s < 2 ^ 32) (i : Nat) : (rmv s b).testBit i = (s.testBit i && !decide (i = b)) := by
  unfold rmv
  rw [(ofB_t _ 32).2]
  by_cases h : i < 32
  · rw [decide_eq_true h, Bool.true_and]
  · rw [tb_big hs (by omega), Bool.false_and, Bool.and_false]
theorem tb_ins {s b : Nat} (hs : s < 2 ^ 32) (hb : b < 32) (i : Nat) : (ins s b).testBit i = (s.testBit i || decide (i = b)) := by
  unfold ins
  rw [(ofB_t _ 32).2]
  by_cases h : i < 32
  · rw [decide_eq_true h, Bool.true_and]
  · rw [tb_big hs (by omega), decide_eq_false (by omega : ¬ i = b), Bool.or_false, Bool.and_false]
theorem rmv_lt {s b : Nat} (hs : s < 2 ^ 32) (h : s.testBit b = true) : rmv s b < s := by
  have l : rmv s b ≤ s := Nat.le_of_testBit fun i hi => by
    rw [tb_rmv hs, Bool.and_eq_true] at hi
    exact hi.1
  have ne : rmv s b ≠ s := fun q => by
    have := tb_rmv hs (s := s) (b := b) b
    rw [q, h, decide_eq_true (rfl : b = b)] at this
    cases this
  omega
theorem rmv_eq {s b : Nat} (hs : s < 2 ^ 32) (h : s.testBit b = false) : rmv s b = s := Nat.eq_of_testBit_eq fun i => by
  rw [tb_rmv hs]
  by_cases e : i = b
  · rw [e, h]; rfl
  · rw [decide_eq_false e]; simp
theorem nI_rmv {s b : Nat} (hb : b < 32) : nI s &&& ((1 <<< (nI b &&& 31)) ^^^ (-1)) = nI (rmv s b) := isS_ofB ((isS_nI s).and (isS_one hb).not)
theorem nI_ins {s b : Nat} (hb : b < 32) : nI s ||| (1 <<< (nI b &&& 31)) = nI (ins s b) := isS_ofB ((isS_nI s).or (isS_one hb))
theorem z_sbt {a : Int32} {p : Nat → Bool} {d : Nat} (ha : isS a p) : a &&& (nI d ^^^ (-1)) = 0 ↔ sbt p d = true := by
  rw [z_ex ha]
  unfold sbt
  cases ex (fun j => p j && !d.testBit j) 32 <;> simp
theorem sbt_t {p : Nat → Bool} {s : Nat} : sbt p s = true ↔ ∀ j, j < 32 → p j = true → s.testBit j = true := by
  unfold sbt
  rw [Bool.not_eq_true', ex_f]
  constructor
  · intro h j hj hp
    have := h j hj
    rw [hp, Bool.true_and, Bool.not_eq_false'] at this
    exact this
  · intro h j hj
    cases hp : p j with
    | false => rfl
    | true => rw [h j hj hp]; rfl
/-- in how many ways the set can have been pasted, R: what each lies over -/
def wyF (R : Nat → Nat → Bool) (n : Nat) : Nat → Nat → Nat
  | 0, _ => 0
  | f + 1, s => if s = 0 then 1 else sm (fun b => if s.testBit b = true ∧ sbt (R b) (rmv s b) = true then wyF R n f (rmv s b) else 0) n
def wy (R : Nat → Nat → Bool) (n s : Nat) : Nat := wyF R n (s + 1) s
theorem wyF_s (R : Nat → Nat → Bool) (n f s : Nat) : wyF R n (f + 1) s = if s = 0 then 1 else sm (fun b => if s.testBit b = true ∧ sbt (R b) (rmv s b) = true then wyF R n f (rmv s b) else 0) n := rfl
theorem wyF_e (R : Nat → Nat → Bool) (n : Nat) : ∀ s, s < 2 ^ 32 → ∀ f, s < f → wyF R n f s = wy R n s := by
  intro s
  induction s using Nat.strongRecOn with
  | ind s ih =>
    intro hs f hf
    obtain ⟨f, rfl⟩ : ∃ g, f = g + 1 := ⟨f - 1, by omega⟩
    unfold wy
    rw [wyF_s, wyF_s]
    by_cases h0 : s = 0
    · rw [if_pos h0, if_pos h0]
    · rw [if_neg h0, if_neg h0]
      refine sm_cong fun b _ => ?_
      by_cases c : s.testBit b = true ∧ sbt (R b) (rmv s b) = true
      · rw [if_pos c, if_pos c]
        have l := rmv_lt hs c.1
        rw [ih _ l (rmv_32 s b) f (by omega), ih _ l (rmv_32 s b) s l]
      · rw [if_neg c, if_neg c]
theorem wy_0 (R : Nat → Nat → Bool) (n : Nat) : wy R n 0 = 1 := rfl
def wyT (R : Nat → Nat → Bool) (n s b : Nat) : Nat := if s.testBit b = true ∧ sbt (R b) (rmv s b) = true then wy R n (rmv s b) else 0
theorem wy_s {R : Nat → Nat → Bool} {n s : Nat} (hs : s < 2 ^ 32) (h0 : s ≠ 0) : wy R n s = sm (wyT R n s) n := by
  show wyF R n (s + 1) s = _
  rw [wyF_s, if_neg h0]
  refine sm_cong fun b _ => ?_
  unfold wyT
  by_cases c : s.testBit b = true ∧ sbt (R b) (rmv s b) = true
  · rw [if_pos c, if_pos c, wyF_e R n _ (rmv_32 s b) s (rmv_lt hs c.1)]
  · rw [if_neg c, if_neg c]
/-- the first below n that has it, else n -/
def fL (p : Nat → Bool) : Nat → Nat
  | 0 => 0
  | n + 1 => if fL p n < n then fL p n else if p n = true then n else n + 1
theorem fL_le (p : Nat → Bool) : ∀ n, fL p n ≤ n
  | 0 => Nat.le_refl _
  | n + 1 => by
    have := fL_le p n
    unfold fL
    split
    · omega
    · split <;> omega
theorem fL_is {p : Nat → Bool} : ∀ {n}, fL p n < n → p (fL p n) = true
  | 0, h => absurd h (Nat.not_lt_zero _)
  | n + 1, h => by
    unfold fL at h ⊢
    split
    · next q => exact fL_is q
    · next q =>
      rw [if_neg q] at h
      split
      · next r => exact r
      · next r => rw [if_neg r] at h; omega
theorem fL_not {p : Nat → Bool} : ∀ {n i}, i < fL p n → p i = false
  | 0, i, h => absurd h (Nat.not_lt_zero _)
  | n + 1, i, h => by
    unfold fL at h
    split at h
    · exact fL_not h
    · next q =>
      have l := fL_le p n
      split at h
      · exact fL_not (n := n) (by omega)
      · next r =>
        by_cases e : i = n
        · rw [e]; simpa using r
        · exact fL_not (n := n) (by omega)
theorem fL_of {p : Nat → Bool} {n t : Nat} (ht : t < n) (h1 : p t = true) (h2 : ∀ i, i < t → p i = false) : fL p n = t := by
  rcases Nat.lt_trichotomy (fL p n) t with h | h | h
  · have := fL_is (p := p) (n := n) (by omega)
    rw [h2 _ h] at this; cases this
  · exact h
  · have := fL_not h
    rw [h1] at this; cases this
theorem fL_no {p : Nat → Bool} {n : Nat} (h2 : ∀ i, i < n → p i = false) : fL p n = n := by
  have l := fL_le p n
  by_cases h : fL p n < n
  · have := fL_is h
    rw [h2 _ h] at this; cases this
  · omega
def gB (R : Nat → Nat → Bool) (n s : Nat) : Nat := fL (fun b => !s.testBit b && sbt (R b) s) n
def gS (R : Nat → Nat → Bool) (n : Nat) : Nat → Nat
  | 0 => 0
  | i + 1 => ins (gS R n i) (gB R n (gS R n i))
def fo (R : Nat → Nat → Bool) (n i : Nat) : Nat := gB R n (gS R n i)
theorem gS_s (R : Nat → Nat → Bool) (n i : Nat) : gS R n (i + 1) = ins (gS R n i) (fo R n i) := rfl
theorem gS_32 (R : Nat → Nat → Bool) (n : Nat) : ∀ i, gS R n i < 2 ^ 32
  | 0 => by show 0 < 2 ^ 32; decide
  | i + 1 => ins_32 _ _
def hso (R : Nat → Nat → Bool) (n : Nat) : Bool := !ex (fun i => decide (n ≤ fo R n i)) n
def lvS (R : Nat → Nat → Bool) (n a : Nat) : Nat → Nat → Bool
  | 0 => R a
  | d + 1 => fun j => lvS R n a d j || (lvS R n a d (fo R n (n - 1 - d)) && R (fo R n (n - 1 - d)) j)
/-- ORDERS, THE FIRST ORDER, surely -/
def ordF (P : PT) (F : FT) : Nat := if psb P F = true then wy (blw P F) (fn F) (2 ^ fn F - 1) else 0
def canF (P : PT) (F : FT) : Bool := psb P F && hso (blw P F) (fn F)
def fstF (P : PT) (F : FT) (i : Nat) : Int32 := if i < fn F ∧ canF P F = true then nI (fo (blw P F) (fn F) i) else -1
def surF (P : PT) (F : FT) (a b : Nat) : Bool := canF P F && lvS (blw P F) (fn F) a (fn F) b
theorem blw_no {P : PT} {F : FT} {a j : Nat} (h : fn F ≤ j) : blw P F a j = false := ex_f.mpr fun c _ => by
  unfold bwc
  rw [decide_eq_false (by omega : ¬ j < fn F)]; simp
