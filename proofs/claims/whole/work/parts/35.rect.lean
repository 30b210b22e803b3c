/-! ===== loops over a rectangle of CELLS ===== -/
def vis (x0 x1 y0 l k c : Nat) : Bool := decide (x0 ≤ c % 16 ∧ c % 16 < x1 ∧ y0 ≤ c / 16 ∧ (c / 16 < l ∨ c / 16 = l ∧ c % 16 < k))
def rec4 (x0 x1 y0 y1 c : Nat) : Bool := decide (x0 ≤ c % 16 ∧ c % 16 < x1 ∧ y0 ≤ c / 16 ∧ c / 16 < y1)
theorem vis_0 (x0 x1 y0 : Nat) : vis x0 x1 y0 y0 x0 = fun _ => false := funext fun c => decide_eq_false (by omega)
theorem vis_row (x0 x1 y0 l : Nat) (h : x0 ≤ x1) : vis x0 x1 y0 l x1 = vis x0 x1 y0 (l + 1) x0 := funext fun c => decide_eq_decide.mpr (by omega)
theorem vis_1 {x0 x1 y0 l k : Nat} (hk : x0 ≤ k) (hk1 : k < x1) (hx : x1 ≤ 16) (hl : y0 ≤ l) : vis x0 x1 y0 l (k + 1) = fun c => vis x0 x1 y0 l k c || decide (c = 16 * l + k) := funext fun c => by
  rw [vis, vis, ← Bool.decide_or]
  exact decide_eq_decide.mpr (by omega)
theorem vis_f {x0 x1 y0 l k : Nat} (hx : k < 16) : vis x0 x1 y0 l k (16 * l + k) = false := decide_eq_false (by omega)
theorem vis_R (x0 x1 y0 y1 : Nat) : vis x0 x1 y0 y1 x0 = rec4 x0 x1 y0 y1 := funext fun c => decide_eq_decide.mpr (by omega)
theorem rect {x0 x1 y0 y1 : Nat} (hx : x0 ≤ x1) (hx1 : x1 ≤ 16) (hy : y0 ≤ y1) (hy1 : y1 ≤ 8) {I : (Nat → Bool) → (Nat → Nat → Int32) → Prop} {Wo : Nat → (Nat → Bool) → (Nat → Nat → Int32) → Prop} {Wi : Nat → Nat → (Nat → Bool) → (Nat → Nat → Int32) → Prop}
    (row : ∀ y v m, y0 ≤ y → y < y1 → I v m → Wi y x0 v m → Wo y v m)
    (eol : ∀ y v m, y0 ≤ y → y < y1 → I v m → Wo (y + 1) v m → Wi y x1 v m)
    (step : ∀ y x v m, y0 ≤ y → y < y1 → x0 ≤ x → x < x1 → v (16 * y + x) = false → I v m → (∀ m', I (fun c => v c || decide (c = 16 * y + x)) m' → Wi y (x + 1) (fun c => v c || decide (c = 16 * y + x)) m') → Wi y x v m)
    (last : ∀ m, I (rec4 x0 x1 y0 y1) m → Wo y1 (rec4 x0 x1 y0 y1) m)
    {m : Nat → Nat → Int32} (h : I (fun _ => false) m) : Wo y0 (fun _ => false) m := by
  have outer : ∀ d l, y0 ≤ l → l + d = y1 → ∀ m, I (vis x0 x1 y0 l x0) m → Wo l (vis x0 x1 y0 l x0) m := by
    intro d
    induction d with
    | zero =>
      intro l h0 hl m hI
      have : l = y1 := by omega
      subst this
      rw [vis_R] at hI ⊢
      exact last m hI
    | succ d ih =>
      intro l h0 hl m hI
      refine row l _ m h0 (by omega) hI ?_
      have inner : ∀ e k, x0 ≤ k → k + e = x1 → ∀ m, I (vis x0 x1 y0 l k) m → Wi l k (vis x0 x1 y0 l k) m := by
        intro e
        induction e with
        | zero =>
          intro k k0 hk m hI
          have : k = x1 := by omega
          subst this
          refine eol l _ m h0 (by omega) hI ?_
          rw [vis_row _ _ _ _ k0] at hI ⊢
          exact ih (l + 1) (by omega) (by omega) m hI
        | succ e ih2 =>
          intro k k0 hk m hI
          refine step l k _ m h0 (by omega) k0 (by omega) (vis_f (by omega)) hI fun m' hI' => ?_
          rw [← vis_1 k0 (by omega) hx1 h0] at hI' ⊢
          exact ih2 (k + 1) (by omega) (by omega) m' hI'
      exact inner (x1 - x0) x0 (Nat.le_refl _) (by omega) m hI
  have := outer (y1 - y0) y0 (Nat.le_refl _) (by omega) m
  rw [vis_0] at this
  exact this h
/-- what is summed over CELLS, over those of v alone -/
def smv (v : Nat → Bool) (f : Nat → Nat) : Nat := sm (fun c => if v c = true then f c else 0) 128
theorem sm_1 {f g : Nat → Nat} {k : Nat} : ∀ {n : Nat}, k < n → (∀ i, i ≠ k → g i = f i) → sm g n + f k = sm f n + g k
  | 0, h, _ => by omega
  | n + 1, h, e => by
    rw [sm_s, sm_s]
    by_cases z : k = n
    · subst z
      rw [sm_cong (fun i hi => e i (by omega))]; omega
    · have := sm_1 (n := n) (by omega) e
      rw [e n (fun q => z q.symm)]; omega
theorem smv_1 {v : Nat → Bool} {f : Nat → Nat} {k : Nat} (hk : k < 128) (hv : v k = false) : smv (fun c => v c || decide (c = k)) f = smv v f + f k := by
  unfold smv
  have := sm_1 (f := fun c => if v c = true then f c else 0) (g := fun c => if (v c || decide (c = k)) = true then f c else 0) hk (fun i hi => by show (if (v i || decide (i = k)) = true then f i else 0) = _; rw [decide_eq_false hi, Bool.or_false])
  rw [if_neg (by rw [hv]; decide), if_pos (by rw [decide_eq_true rfl, Bool.or_true])] at this
  omega
theorem smv_0 (f : Nat → Nat) : smv (fun _ => false) f = 0 := sm_0 fun _ _ => rfl
theorem rch_rec {P : PT} {k x y : Nat} : rch P k x y = rec4 x (x + pwd P k) y (y + phg P k) := rfl
