/-! THE STATE, as the document has it; how the class's cells and the model's hold it -/
/-- sums below a bound -/
def sm (f : Nat → Nat) : Nat → Nat
  | 0 => 0
  | n + 1 => sm f n + f n
theorem sm_s (f : Nat → Nat) (n : Nat) : sm f (n + 1) = sm f n + f n := rfl
theorem sm_cong {f g : Nat → Nat} : ∀ {n : Nat}, (∀ k, k < n → f k = g k) → sm f n = sm g n
  | 0, _ => rfl
  | n + 1, h => by rw [sm_s, sm_s, sm_cong (fun k hk => h k (by omega)), h n (by omega)]
theorem sm_add (f g : Nat → Nat) : ∀ n, sm (fun k => f k + g k) n = sm f n + sm g n
  | 0 => rfl
  | n + 1 => by rw [sm_s, sm_s, sm_s, sm_add f g n]; omega
theorem sm_bd {f : Nat → Nat} {c : Nat} : ∀ {n : Nat}, (∀ k, k < n → f k ≤ c) → sm f n ≤ n * c
  | 0, _ => Nat.zero_le _
  | n + 1, h => by
    have h1 := sm_bd (n := n) (fun k hk => h k (by omega))
    have h2 := h n (by omega)
    rw [sm_s, Nat.succ_mul]; omega
theorem sm_le {f g : Nat → Nat} : ∀ {n : Nat}, (∀ k, k < n → f k ≤ g k) → sm f n ≤ sm g n
  | 0, _ => Nat.le_refl _
  | n + 1, h => by
    have h1 := sm_le (n := n) (fun k hk => h k (by omega))
    have h2 := h n (by omega)
    rw [sm_s, sm_s]; omega
theorem sm_0 {f : Nat → Nat} : ∀ {n : Nat}, (∀ k, k < n → f k = 0) → sm f n = 0
  | 0, _ => rfl
  | n + 1, h => by rw [sm_s, sm_0 (fun k hk => h k (by omega)), h n (by omega)]
theorem sm_part {f : Nat → Nat} {i n : Nat} (h : i < n) : f i ≤ sm f n := by
  induction n with
  | zero => omega
  | succ n ih =>
    rw [sm_s]
    by_cases e : i = n
    · subst e; omega
    · have := ih (by omega); omega
theorem sm_split (f : Nat → Nat) (a : Nat) : ∀ b, sm f (a + b) = sm f a + sm (fun k => f (a + k)) b
  | 0 => rfl
  | b + 1 => by rw [← Nat.add_assoc, sm_s, sm_s, sm_split f a b]; omega
theorem sm_const (c : Nat) : ∀ n, sm (fun _ => c) n = n * c
  | 0 => by rw [Nat.zero_mul]; rfl
  | n + 1 => by rw [sm_s, sm_const c n, Nat.succ_mul]
/-- 1 and the greatest below n that has it; 0: none has -/
def tp (p : Nat → Bool) : Nat → Nat
  | 0 => 0
  | n + 1 => if p n then n + 1 else tp p n
theorem tp_le (p : Nat → Bool) : ∀ n, tp p n ≤ n
  | 0 => Nat.le_refl _
  | n + 1 => by
    unfold tp
    split
    · omega
    · have := tp_le p n; omega
theorem tp_cong {p q : Nat → Bool} : ∀ {n : Nat}, (∀ k, k < n → p k = q k) → tp p n = tp q n
  | 0, _ => rfl
  | n + 1, h => by
    unfold tp
    rw [h n (by omega), tp_cong (fun k hk => h k (by omega))]
theorem tp_has {p : Nat → Bool} : ∀ {n t : Nat}, tp p n = t + 1 → t < n ∧ p t = true ∧ ∀ j, t < j → j < n → p j = false
  | 0, t, h => by cases h
  | n + 1, t, h => by
    unfold tp at h
    split at h
    · next hp =>
      have : t = n := by omega
      subst this
      exact ⟨by omega, hp, fun j h1 h2 => by omega⟩
    · next hp =>
      obtain ⟨h1, h2, h3⟩ := tp_has h
      refine ⟨by omega, h2, fun j h4 h5 => ?_⟩
      by_cases e : j = n
      · subst e; simpa using hp
      · exact h3 j h4 (by omega)
theorem tp_none {p : Nat → Bool} : ∀ {n : Nat}, tp p n = 0 → ∀ j, j < n → p j = false
  | 0, _, j, hj => by omega
  | n + 1, h, j, hj => by
    unfold tp at h
    split at h
    · omega
    · next hp =>
      by_cases e : j = n
      · subst e; simpa using hp
      · exact tp_none h j (by omega)
theorem tp_of {p : Nat → Bool} {n t : Nat} (h1 : t < n) (h2 : p t = true) (h3 : ∀ j, t < j → j < n → p j = false) : tp p n = t + 1 := by
  induction n with
  | zero => omega
  | succ n ih =>
    unfold tp
    by_cases e : t = n
    · subst e; rw [if_pos h2]
    · rw [if_neg (by rw [h3 n (by omega) (by omega)]; decide)]
      exact ih (by omega) (fun j a b => h3 j a (by omega))
theorem tp_z {p : Nat → Bool} {n : Nat} (h : ∀ j, j < n → p j = false) : tp p n = 0 := by
  cases e : tp p n with
  | zero => rfl
  | succ t =>
    obtain ⟨h1, h2, -⟩ := tp_has e
    rw [h t h1] at h2; cases h2
/-- as an answer: NONE, or which -/
def tI (t : Nat) : Int32 := if t = 0 then -1 else nI (t - 1)
/-- THE WALL: its numbers (0 columns, 1 rows, 2 guard, 3 fine, 4 read, 5 strips, 6 kinds), passers by, bare cells, the kinds' owners, columns, rows -/
abbrev PT : Type := (Nat → Nat) × (Nat → Nat) × (Nat → Bool) × (Nat → Nat) × (Nat → Nat) × (Nat → Nat)
abbrev pn (P : PT) (i : Nat) : Nat := P.1 i
abbrev pps (P : PT) (x : Nat) : Nat := P.2.1 x
abbrev pbr (P : PT) (c : Nat) : Bool := P.2.2.1 c
abbrev pow (P : PT) (k : Nat) : Nat := P.2.2.2.1 k
abbrev pwd (P : PT) (k : Nat) : Nat := P.2.2.2.2.1 k
abbrev phg (P : PT) (k : Nat) : Nat := P.2.2.2.2.2 k
/-- BILLS: how many, the day, of each its kind, column, row, day, whether it is on, where it is torn; fines; the seed -/
abbrev BT : Type := Nat × Int32 × (Nat → Nat) × (Nat → Nat) × (Nat → Nat) × (Nat → Int32) × (Nat → Bool) × (Nat → Nat → Bool) × (Nat → Int32) × Int32
abbrev bn (B : BT) : Nat := B.1
abbrev bty (B : BT) : Int32 := B.2.1
abbrev bkd (B : BT) (b : Nat) : Nat := B.2.2.1 b
abbrev bco (B : BT) (b : Nat) : Nat := B.2.2.2.1 b
abbrev bro (B : BT) (b : Nat) : Nat := B.2.2.2.2.1 b
abbrev bdy (B : BT) (b : Nat) : Int32 := B.2.2.2.2.2.1 b
abbrev bon (B : BT) (b : Nat) : Bool := B.2.2.2.2.2.2.1 b
abbrev btn (B : BT) (b c : Nat) : Bool := B.2.2.2.2.2.2.2.1 b c
abbrev bfi (B : BT) (o : Nat) : Int32 := B.2.2.2.2.2.2.2.2.1 o
abbrev bsd (B : BT) : Int32 := B.2.2.2.2.2.2.2.2.2
/-- a KIND at a column and row has the cell -/
def rch (P : PT) (k x y c : Nat) : Bool := decide (x ≤ c % 16 ∧ c % 16 < x + pwd P k ∧ y ≤ c / 16 ∧ c / 16 < y + phg P k)
def hasB (P : PT) (B : BT) (b c : Nat) : Bool := bon B b && rch P (bkd B b) (bco B b) (bro B b) c
def lie (P : PT) (B : BT) (b c : Nat) : Bool := hasB P B b c && !btn B b c
/-- ABOVE -/
def top (P : PT) (B : BT) (c : Nat) : Nat := tp (fun b => lie P B b c) (bn B)
def seen (P : PT) (B : BT) (b : Nat) : Nat := sm (fun c => if top P B c = b + 1 then 1 else 0) 128
def met (P : PT) (B : BT) (b : Nat) : Nat := sm (fun c => if top P B c = b + 1 then pps P (c % 16) else 0) 128
def siz (P : PT) (k : Nat) : Nat := pwd P k * phg P k
def canR (P : PT) (s a : Nat) : Bool := decide (pn P 4 * a ≤ 100 * s)
def red (P : PT) (B : BT) (b : Nat) : Bool := canR P (seen P B b) (siz P (bkd B b))
def wob (P : PT) (B : BT) (b : Nat) : Nat := if red P B b then met P B b else 0
def wor (P : PT) (B : BT) (o : Nat) : Nat := sm (fun b => if pow P (bkd B b) = o then wob P B b else 0) (bn B)
/-- what is so of every wall, of all bills -/
def VP (P : PT) : Prop := (1 ≤ pn P 0 ∧ pn P 0 ≤ 16) ∧ (1 ≤ pn P 1 ∧ pn P 1 ≤ 8) ∧ pn P 2 ≤ 99 ∧ pn P 3 ≤ 999 ∧ (1 ≤ pn P 4 ∧ pn P 4 ≤ 100) ∧ pn P 5 ≤ 8 ∧ pn P 6 ≤ 12 ∧ (∀ x, x < 16 → pps P x ≤ 99) ∧ ∀ k, k < pn P 6 → pow P k < 6 ∧ (1 ≤ pwd P k ∧ pwd P k ≤ pn P 0) ∧ (1 ≤ phg P k ∧ phg P k ≤ pn P 1)
def VB (P : PT) (B : BT) : Prop := bn B ≤ 20 ∧ ∀ b, b < bn B → bkd B b < pn P 6 ∧ bco B b + pwd P (bkd B b) ≤ pn P 0 ∧ bro B b + phg P (bkd B b) ≤ pn P 1 ∧ ∀ c, btn B b c = true → rch P (bkd B b) (bco B b) (bro B b) c = true
/-- the class's plan, its bills at b -/
def EP (m : Nat → Nat → Int32) (P : PT) : Prop := (∀ i, i < 7 → m 1 i = nI (pn P i)) ∧ (∀ x, x < 16 → m 2 x = nI (pps P x)) ∧ (∀ y, y < 8 → isS (m 3 y) (fun x => decide (x < 16) && pbr P (16 * y + x))) ∧ ∀ k, k < pn P 6 → m 4 k = nI (pow P k) ∧ m 5 k = nI (pwd P k) ∧ m 6 k = nI (phg P k)
def EB (m : Nat → Nat → Int32) (b : Nat) (P : PT) (B : BT) : Prop := m b 1 = nI (bn B) ∧ m b 2 = bty B ∧ m b 3 = bsd B ∧ isS (m b 9) (fun i => decide (i < bn B) && bon B i) ∧ (∀ i, i < bn B → m (b + 1) i = nI (bkd B i) ∧ m (b + 2) i = nI (bco B i) ∧ m (b + 3) i = nI (bro B i) ∧ m (b + 4) i = bdy B i) ∧ (∀ o, o < 6 → m (b + 5) o = bfi B o) ∧ ∀ c, c < 128 → isS (m (b + 6) c) (fun i => decide (i < bn B) && lie P B i c) ∧ isS (m (b + 7) c) (fun i => decide (i < bn B) && (hasB P B i c && btn B i c))
/-- the model's wall, its bills at r -/
def MP (m : Nat → Nat → Int32) (P : PT) : Prop := (∀ i, i < 5 → m 80 i = nI (pn P i)) ∧ m 77 5 = nI (pn P 5) ∧ m 77 9 = nI (pn P 6) ∧ (∀ x, x < 16 → m 81 x = nI (pps P x)) ∧ (∀ c, c < 128 → m 82 c = bI (pbr P c)) ∧ ∀ k, k < pn P 6 → m 83 k = nI (pow P k) ∧ m 84 k = nI (pwd P k) ∧ m 85 k = nI (phg P k)
def MB (m : Nat → Nat → Int32) (r : Nat) (B : BT) : Prop := m 78 (r + 180) = nI (bn B) ∧ m 78 (r + 181) = bty B ∧ m 78 (r + 190) = bsd B ∧ (∀ i, i < bn B → m 78 (r + i) = nI (bkd B i) ∧ m 78 (r + 20 + i) = nI (bco B i) ∧ m 78 (r + 40 + i) = nI (bro B i) ∧ m 78 (r + 60 + i) = bdy B i ∧ m 78 (r + 80 + i) = bI (bon B i) ∧ ∀ c, c < 128 → bt (m 78 (r + 100 + 4 * i + c / 32)) (c % 32) = btn B i c) ∧ ∀ o, o < 6 → m 78 (r + 182 + o) = bfi B o
theorem EP.fr {m m' : Nat → Nat → Int32} {P : PT} (h : EP m P) (e : ∀ c, 1 ≤ c → c ≤ 6 → m' c = m c) : EP m' P := by
  unfold EP at h ⊢
  rw [e 1 (by omega) (by omega), e 2 (by omega) (by omega), e 3 (by omega) (by omega), e 4 (by omega) (by omega), e 5 (by omega) (by omega), e 6 (by omega) (by omega)]
  exact h
theorem EB.fr {m m' : Nat → Nat → Int32} {b : Nat} {P : PT} {B : BT} (h : EB m b P B) (e : ∀ c, b ≤ c → c ≤ b + 7 → m' c = m c) : EB m' b P B := by
  unfold EB at h ⊢
  rw [e b (by omega) (by omega), e (b + 1) (by omega) (by omega), e (b + 2) (by omega) (by omega), e (b + 3) (by omega) (by omega), e (b + 4) (by omega) (by omega), e (b + 5) (by omega) (by omega), e (b + 6) (by omega) (by omega), e (b + 7) (by omega) (by omega)]
  exact h
/-! arguments: any int is below, above, or one of them -/
def ink (x : Int32) (n : Nat) : Bool := decide (¬ x < 0 ∧ ¬ nI n ≤ x)
theorem ink_t {x : Int32} {n : Nat} (hn : n < 2 ^ 31) (h : ink x n = true) : ∃ j, j < n ∧ x = nI j := by
  have h := of_decide_eq_true h
  rcases pk_ix x hn with q | q | q
  · exact absurd q h.1
  · exact absurd q h.2
  · exact q
theorem ink_nI {j n : Nat} (h : j < n) (hn : n < 2 ^ 31) : ink (nI j) n = true := decide_eq_true ⟨nI_pos (by omega), nI_ge h hn⟩
