/-! ===== THE BEST PLACE ===== -/
abbrev UT : Type := Option (Int32 × Nat × Nat)
/-- what Places holds of the best one as yet -/
def PL (m : Nat → Nat → Int32) : UT → Prop
  | none => m 50 4 = 0
  | some (g, x, y) => m 50 4 = 1 ∧ m 50 9 = g ∧ m 50 5 = nI x ∧ m 50 6 = nI y
def bet (u : UT) (g : Int32) (x y : Nat) : UT := match u with
  | none => some (g, x, y)
  | some v => if v.1 < g then some (g, x, y) else some v
def bst (P : PT) (B : BT) (k c : Nat) (u : UT) : UT := if c % 16 + pwd P k ≤ pn P 0 ∧ c / 16 + phg P k ≤ pn P 1 ∧ bar P k (c % 16) (c / 16) = false then bet u (wga P B k (c % 16) (c / 16)) (c % 16) (c / 16) else u
def bN (P : PT) (B : BT) (k : Nat) : Nat → UT
  | 0 => none
  | c + 1 => bst P B k c (bN P B k c)
theorem bN_s (P : PT) (B : BT) (k c : Nat) : bN P B k (c + 1) = bst P B k c (bN P B k c) := rfl
theorem bN_skip {P : PT} {B : BT} {k a : Nat} : ∀ d, (∀ c, a ≤ c → c < a + d → ¬ (c % 16 + pwd P k ≤ pn P 0 ∧ c / 16 + phg P k ≤ pn P 1)) → bN P B k (a + d) = bN P B k a
  | 0, _ => rfl
  | d + 1, h => by
    rw [← Nat.add_assoc, bN_s, bN_skip d (fun c h1 h2 => h c h1 (by omega))]
    unfold bst
    rw [if_neg (fun q => h (a + d) (by omega) (by omega) ⟨q.1, q.2.1⟩)]
section BEST
variable {X : a_X} {m : Nat → Nat → Int32} {P : PT} {B : BT} {b : Nat}
theorem s_isBetter {Q : Int32 → (Nat → Nat → Int32) → Prop} {u : UT} {g : Int32} (hU : PL m u) (h1 : ∀ m', Fr (fun c => c = 50) m m' → m' 50 4 = 1 → m' 50 9 = g → (∀ i, i ≠ 4 → i ≠ 9 → m' 50 i = m 50 i) → (∀ x y, bet u g x y = some (g, x, y)) → Q 1 m') (h0 : (∀ x y, bet u g x y = u) → Q 0 m) : CallI X mX4_isBetter [.ref 50, .int g] m Q := by
  have go : ∀ m3 m4, m3 = a_up m 50 4 1 → m4 = a_up m3 50 9 g → (∀ x y, bet u g x y = some (g, x, y)) → Q 1 m4 := fun m3 m4 e3 e4 z => h1 m4 (by rw [e4, e3]; exact Fr.up (Fr.up Fr.rf rfl) rfl) (by rw [e4, a_up_n _ _ (Or.inr (by omega)), e3, a_up_s]) (by rw [e4, a_up_s]) (fun i h1 h2 => by rw [e4, a_up_n _ _ (Or.inr h2), e3, a_up_n _ _ (Or.inr h1)]) z
  cases u with
  | none =>
    refine eX4_isBetter_0 ⟨fun _ m1 e1 m2 e2 => qI (go m1 m2 e1 e2 fun _ _ => rfl), fun c => absurd hU c⟩
  | some v =>
    obtain ⟨a, x, y⟩ := v
    obtain ⟨q4, q9, -, -⟩ := hU
    refine eX4_isBetter_0 ⟨fun c => absurd (q4.symm.trans c) (by decide), fun _ => ?_⟩
    rw [q9]
    exact ⟨fun c m3 e3 m4 e4 => qI (go m3 m4 e3 e4 fun _ _ => if_pos c), fun c => qI (h0 fun _ _ => if_neg c)⟩
end BEST
