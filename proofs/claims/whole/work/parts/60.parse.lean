/-! ===== THE TEXT ===== -/
def rnF (q : Nat → Bool) : Nat → Nat → Nat
  | 0, p => p
  | d + 1, p => if q p = true then rnF q d (p + 1) else p
/-- the end of the signs from p on that are as q says -/
def rn (q : Nat → Bool) (L p : Nat) : Nat := rnF q (L - p) p
theorem rn_stop {q : Nat → Bool} {L p : Nat} (h : L ≤ p ∨ q p = false) : rn q L p = p := by
  unfold rn
  rcases h with h | h
  · rw [show L - p = 0 by omega]; rfl
  · cases e : L - p with
    | zero => rfl
    | succ d => exact if_neg (by rw [h]; decide)
theorem rn_go {q : Nat → Bool} {L p : Nat} (h : p < L) (h2 : q p = true) : rn q L p = rn q L (p + 1) := by
  unfold rn
  rw [show L - p = (L - (p + 1)) + 1 by omega]
  exact if_pos h2
theorem rn_i {q : Nat → Bool} {L : Nat} : ∀ d p, L - p = d → p ≤ rn q L p ∧ (p ≤ L → rn q L p ≤ L) ∧ (L ≤ rn q L p ∨ q (rn q L p) = false) ∧ ∀ i, p ≤ i → i < rn q L p → q i = true
  | 0, p, h => by
    rw [rn_stop (Or.inl (by omega))]
    exact ⟨Nat.le_refl _, fun h => h, Or.inl (by omega), fun i h1 h2 => by omega⟩
  | d + 1, p, h => by
    cases e : q p with
    | true =>
      rw [rn_go (by omega) e]
      obtain ⟨h1, h2, h3, h4⟩ := rn_i (q := q) (L := L) d (p + 1) (by omega)
      refine ⟨by omega, fun _ => h2 (by omega), h3, fun i i1 i2 => ?_⟩
      by_cases z : i = p
      · rw [z]; exact e
      · exact h4 i (by omega) i2
    | false =>
      rw [rn_stop (Or.inr e)]
      exact ⟨Nat.le_refl _, fun h => h, Or.inr e, fun i h1 h2 => by omega⟩
theorem rn_ge (q : Nat → Bool) (L p : Nat) : p ≤ rn q L p := (rn_i _ p rfl).1
theorem rn_le {q : Nat → Bool} {L p : Nat} (h : p ≤ L) : rn q L p ≤ L := (rn_i _ p rfl).2.1 h
theorem rn_end (q : Nat → Bool) (L p : Nat) : L ≤ rn q L p ∨ q (rn q L p) = false := (rn_i _ p rfl).2.2.1
theorem rn_all {q : Nat → Bool} {L p i : Nat} (h : p ≤ i) (h2 : i < rn q L p) : q i = true := (rn_i _ p rfl).2.2.2 i h h2
theorem runI {I W : Nat → (Nat → Nat → Int32) → Prop} {q : Nat → Bool} {L : Nat} (step : ∀ p m, p < L → q p = true → I p m → (∀ m', I (p + 1) m' → W (p + 1) m') → W p m) : ∀ d p0, L - p0 = d → (∀ m, I (rn q L p0) m → W (rn q L p0) m) → ∀ m, I p0 m → W p0 m
  | 0, p0, h, stop, m, hI => by
    rw [rn_stop (Or.inl (by omega))] at stop
    exact stop m hI
  | d + 1, p0, h, stop, m, hI => by
    cases e : q p0 with
    | true =>
      rw [rn_go (by omega) e] at stop
      exact step p0 m (by omega) e hI fun m' h' => runI step d (p0 + 1) (by omega) stop m' h'
    | false =>
      rw [rn_stop (Or.inr e)] at stop
      exact stop m hI
abbrev TX : Type := Nat → Nat
def isB (t : TX) (i : Nat) : Bool := decide (t i = 32)
def isG (t : TX) (i : Nat) : Bool := decide (48 ≤ t i ∧ t i ≤ 57)
def isL (t : TX) (i : Nat) : Bool := decide (97 ≤ t i ∧ t i ≤ 122)
def sk (t : TX) (L p : Nat) : Nat := rn (isB t) L p
/-- what the figures from p on are worth -/
def vl (t : TX) (p : Nat) : Nat → Nat
  | 0 => 0
  | i + 1 => 10 * vl t p i + (t (p + i) - 48)
/-- a FAULT and its place, or what is read -/
abbrev Rs (α : Type) : Type := Except (Nat × Nat) α
def bnd {α β : Type} (e : Rs α) (f : α → Rs β) : Rs β := match e with
  | .ok a => f a
  | .error w => .error w
/-- where the figures end -/
def ge (t : TX) (L p : Nat) : Nat := rn (isG t) L (sk t L p)
def nmb (t : TX) (L lo hi p : Nat) : Rs (Nat × Nat) :=
  if ge t L p = sk t L p then .error (1, sk t L p)
  else if 3 < ge t L p - sk t L p ∨ vl t (sk t L p) (ge t L p - sk t L p) < lo ∨ hi < vl t (sk t L p) (ge t L p - sk t L p) then .error (2, sk t L p)
  else .ok (vl t (sk t L p) (ge t L p - sk t L p), ge t L p)
def setN (P : PT) (i v : Nat) : PT := (up1 (pn P) i v, pps P, pbr P, pow P, pwd P, phg P)
def setP (P : PT) (x v : Nat) : PT := (pn P, up1 (pps P) x v, pbr P, pow P, pwd P, phg P)
def addS (P : PT) (x y w h : Nat) : PT := (up1 (pn P) 5 (pn P 5 + 1), pps P, fun c => pbr P c || decide (x ≤ c % 16 ∧ c % 16 < x + w ∧ y ≤ c / 16 ∧ c / 16 < y + h), pow P, pwd P, phg P)
def addK (P : PT) (o w h : Nat) : PT := (up1 (pn P) 6 (pn P 6 + 1), pps P, pbr P, up1 (pow P) (pn P 6) o, up1 (pwd P) (pn P 6) w, up1 (phg P) (pn P 6) h)
def unt (i : Nat) : Nat := if i = 0 then 16 else if i = 1 then 8 else if i = 2 then 3 else if i = 3 then 10 else if i = 4 then 60 else 0
def untP : PT := (unt, fun _ => 1, fun _ => false, fun _ => 0, fun _ => 0, fun _ => 0)
/-- the numbers of a clause: place behind, columns told, wall told -/
def cnm (t : TX) (L w p tc : Nat) (P : PT) : Rs (Nat × Nat × PT) :=
  if w = 0 then bnd (nmb t L 1 16 p) fun a => bnd (nmb t L 1 8 a.2) fun b => .ok (b.2, tc, setN (setN P 0 a.1) 1 b.1)
  else if w = 1 then bnd (nmb t L 0 99 p) fun a => .ok (a.2, tc, setN P 2 a.1)
  else if w = 2 then bnd (nmb t L 0 999 p) fun a => .ok (a.2, tc, setN P 3 a.1)
  else if w = 3 then bnd (nmb t L 1 100 p) fun a => .ok (a.2, tc, setN P 4 a.1)
  else if w = 4 then bnd (nmb t L 0 (pn P 0 - 1) p) fun a => bnd (nmb t L 0 (pn P 1 - 1) a.2) fun b => bnd (nmb t L 1 (pn P 0 - a.1) b.2) fun c => bnd (nmb t L 1 (pn P 1 - b.1) c.2) fun d => .ok (d.2, tc, addS P a.1 b.1 c.1 d.1)
  else if w = 5 then bnd (nmb t L 0 (pn P 0 - 1) p) fun a => if tc.testBit a.1 = true then .error (4, sk t L p) else bnd (nmb t L 0 99 a.2) fun b => .ok (b.2, ins tc a.1, setP P a.1 b.1)
  else bnd (nmb t L 0 5 p) fun a => bnd (nmb t L 1 (pn P 0) a.2) fun b => bnd (nmb t L 1 (pn P 1) b.2) fun c => .ok (c.2, tc, addK P a.1 b.1 c.1)
def endc (t : TX) (L p : Nat) : Rs Nat := if sk t L p < L ∧ t (sk t L p) = 59 then .ok (sk t L p + 1) else .error (1, sk t L p)
def wln (w : Nat) : Nat := a_sl.getD w 0
def wch (w j : Nat) : Int32 := (a_sc.getD w []).getD j 0
def spl (t : TX) (p e w : Nat) : Bool := decide (e - p = wln w) && !ex (fun j => decide (nI (t (p + j)) ≠ wch w j)) (wln w)
/-- which word: 7, if none -/
def wrd (t : TX) (p e : Nat) : Nat := fL (spl t p e) 7
def late (tk : Nat) : Bool := tk.testBit 4 || tk.testBit 5 || tk.testBit 6
def tld (w tk : Nat) (P : PT) : Bool := if w = 4 then decide (8 ≤ pn P 5) else if w = 5 then false else if w = 6 then decide (12 ≤ pn P 6) else tk.testBit w
/-- where it stands, clauses told, columns told, the wall told -/
abbrev CT : Type := Nat × Nat × Nat × PT
def cls (t : TX) (L : Nat) (C : CT) : Rs CT :=
  if wrd t C.1 (rn (isL t) L C.1) = 7 ∨ (wrd t C.1 (rn (isL t) L C.1) = 0 ∧ late C.2.1 = true) then .error (1, C.1)
  else if tld (wrd t C.1 (rn (isL t) L C.1)) C.2.1 C.2.2.2 = true then .error (3, C.1)
  else bnd (cnm t L (wrd t C.1 (rn (isL t) L C.1)) (rn (isL t) L C.1) C.2.2.1 C.2.2.2) fun r => bnd (endc t L r.1) fun p => .ok (p, ins C.2.1 (wrd t C.1 (rn (isL t) L C.1)), r.2.1, r.2.2)
def prsF (t : TX) (L : Nat) : Nat → CT → Rs PT
  | 0, C => .ok C.2.2.2
  | f + 1, C => if C.1 < L then bnd (cls t L C) fun D => prsF t L f (sk t L D.1, D.2) else .ok C.2.2.2
def prs (t : TX) (L : Nat) : Rs PT := prsF t L 300 (sk t L 0, 0, 0, untP)
theorem wrd_le (t : TX) (p e : Nat) : wrd t p e ≤ 7 := fL_le _ _
theorem wln_bd : ∀ w, w < 7 → 4 ≤ wln w ∧ wln w ≤ 5 := by decide +kernel
theorem nmb_ok {t : TX} {L lo hi p : Nat} {r : Nat × Nat} (h : nmb t L lo hi p = .ok r) (hp : p ≤ L) : lo ≤ r.1 ∧ r.1 ≤ hi ∧ p < r.2 ∧ r.2 ≤ L := by
  unfold nmb at h
  split at h
  · cases h
  · split at h
    · cases h
    · next h1 h2 =>
      cases h
      have s1 := rn_ge (isB t) L p
      have s2 := rn_ge (isG t) L (sk t L p)
      have s3 : sk t L p ≤ L := rn_le hp
      have s4 : ge t L p ≤ L := rn_le s3
      unfold ge sk at *
      dsimp only
      omega
theorem nmb_er {t : TX} {L lo hi p : Nat} {r : Nat × Nat} (h : nmb t L lo hi p = .error r) : r.1 = 1 ∨ r.1 = 2 := by
  unfold nmb at h
  split at h
  · cases h; exact Or.inl rfl
  · split at h
    · cases h; exact Or.inr rfl
    · cases h
