/-! ===== all that there is, and what each call answers ===== -/
abbrev UNK : Int32 := -100000001
abbrev OUT : Int32 := -100000002
abbrev NOT : Int32 := -100000003
abbrev FUL : Int32 := -100000004
abbrev IM : Type := Bool × BT
/-- the wall, bills, two images, the photograph, the text, the fault's place -/
abbrev ST : Type := PT × BT × IM × IM × FT × (Nat × TX) × Int32
abbrev qP (S : ST) : PT := S.1
abbrev qB (S : ST) : BT := S.2.1
abbrev qI0 (S : ST) : IM := S.2.2.1
abbrev qI1 (S : ST) : IM := S.2.2.2.1
abbrev qF (S : ST) : FT := S.2.2.2.2.1
abbrev qL (S : ST) : Nat := S.2.2.2.2.2.1.1
abbrev qT (S : ST) : TX := S.2.2.2.2.2.1.2
abbrev qW (S : ST) : Int32 := S.2.2.2.2.2.2
def wB (S : ST) (B : BT) : ST := (qP S, B, qI0 S, qI1 S, qF S, (qL S, qT S), qW S)
def wF (S : ST) (F : FT) : ST := (qP S, qB S, qI0 S, qI1 S, F, (qL S, qT S), qW S)
def wT (S : ST) (L : Nat) (t : TX) : ST := (qP S, qB S, qI0 S, qI1 S, qF S, (L, t), qW S)
def wI (S : ST) (i : Bool) (z : IM) : ST := (qP S, qB S, if i then qI0 S else z, if i then z else qI1 S, qF S, (qL S, qT S), qW S)
abbrev cl (x : Int32) : Nat := x.toNatClampNeg
abbrev cel (x y : Int32) : Nat := 16 * cl y + cl x
def isC (P : PT) (x y : Int32) : Bool := ink x (pn P 0) && ink y (pn P 1)
def finB (B : BT) (o : Nat) (v : Int32) : BT := (bn B, bty B, bkd B, bco B, bro B, bdy B, bon B, btn B, up1 (bfi B) o (bfi B o + v), bsd B)
def dayB (B : BT) (n : Int32) : BT := (bn B, bty B + n, bkd B, bco B, bro B, bdy B, bon B, btn B, bfi B, bsd B)
def aTold (S : ST) (x : Int32) : Int32 := if x = 0 then nI (pn (qP S) 0) else if x = 1 then nI (pn (qP S) 1) else if x = 2 then nI (pn (qP S) 2) else if x = 3 then nI (pn (qP S) 3) else if x = 4 then nI (pn (qP S) 4) else if x = 5 then nI (pn (qP S) 5) else if x = 6 then nI (pn (qP S) 6) else if x = 7 then nI (bn (qB S)) else if x = 8 then bty (qB S) else if x = 9 then nI (qL S) else if x = 10 then nI (fn (qF S)) else OUT
def aKind (S : ST) (k x : Int32) : Int32 := if ink k (pn (qP S) 6) = true then (if x = 0 then nI (pow (qP S) (cl k)) else if x = 1 then nI (pwd (qP S) (cl k)) else if x = 2 then nI (phg (qP S) (cl k)) else OUT) else UNK
def aPasses (S : ST) (x : Int32) : Int32 := if ink x (pn (qP S) 0) = true then nI (pps (qP S) (cl x)) else OUT
def aBare (S : ST) (x y : Int32) : Int32 := if isC (qP S) x y = true then bI (pbr (qP S) (cel x y)) else OUT
def pastes (S : ST) (k x y : Int32) : Bool := ink k (pn (qP S) 6) && fit (qP S) (cl k) x y && !bar (qP S) (cl k) (cl x) (cl y) && decide (bn (qB S) < 20)
def aPaste (S : ST) (k x y : Int32) : Int32 := if ink k (pn (qP S) 6) = true then (if fit (qP S) (cl k) x y = true then (if bar (qP S) (cl k) (cl x) (cl y) = true then NOT else if 20 ≤ bn (qB S) then FUL else nI (bn (qB S))) else OUT) else UNK
def nPaste (S : ST) (k x y : Int32) : ST := if ink k (pn (qP S) 6) = true then (if fit (qP S) (cl k) x y = true then (if bar (qP S) (cl k) (cl x) (cl y) = true then S else if 20 ≤ bn (qB S) then S else wB S (hangB (finB (qB S) (pow (qP S) (cl k)) (wdu (qP S) (qB S) (cl k) (cl x) (cl y))) (cl k) (cl x) (cl y))) else S) else S
def aDays (S : ST) (n : Int32) : Int32 := if ink n 1000 = true then bty (qB S) + n else OUT
def nDays (S : ST) (n : Int32) : ST := if ink n 1000 = true then wB S (dayB (qB S) n) else S
def aAbove (S : ST) (x y : Int32) : Int32 := if isC (qP S) x y = true then tI (top (qP S) (qB S) (cel x y)) else OUT
def aBill (S : ST) (b x : Int32) : Int32 := if ink b (bn (qB S)) = true then (if x = 0 then nI (bkd (qB S) (cl b)) else if x = 1 then nI (bco (qB S) (cl b)) else if x = 2 then nI (bro (qB S) (cl b)) else if x = 3 then bdy (qB S) (cl b) else if x = 4 then nI (seen (qP S) (qB S) (cl b)) else if x = 5 then nI (torn (qP S) (qB S) (cl b)) else if x = 6 then bI (red (qP S) (qB S) (cl b)) else if x = 7 then nI (wob (qP S) (qB S) (cl b)) else if x = 8 then bI (bon (qB S) (cl b)) else OUT) else UNK
def ovr (P : PT) (B : BT) (b : Nat) : Nat := ofB (cov P B b) 32
def aOver (S : ST) (b : Int32) : Int32 := if ink b (bn (qB S)) = true then nI (ovr (qP S) (qB S) (cl b)) else UNK
def aFree (S : ST) (b : Int32) : Int32 := if ink b (bn (qB S)) = true then (if bon (qB S) (cl b) = true then nI (frv (qP S) (qB S) (cl b)) else NOT) else UNK
def aReveal (S : ST) (b : Int32) : Int32 := if ink b (bn (qB S)) = true then (if bon (qB S) (cl b) = true then (if pcn 32 (frv (qP S) (qB S) (cl b)) ≤ 12 then rvI (rvN (qP S) (qB S) (cl b) (frv (qP S) (qB S) (cl b)) (2 ^ pcn 32 (frv (qP S) (qB S) (cl b)))) else NOT) else NOT) else UNK
def aPeel (S : ST) (b : Int32) : Int32 := if ink b (bn (qB S)) = true then (if bon (qB S) (cl b) = true then (if ovr (qP S) (qB S) (cl b) = 0 then nI (unc (qP S) (qB S) (cl b)) else NOT) else NOT) else UNK
def nPeel (S : ST) (b : Int32) : ST := if ink b (bn (qB S)) = true then (if bon (qB S) (cl b) = true then (if ovr (qP S) (qB S) (cl b) = 0 then wB S (offB (qB S) (cl b)) else S) else S) else S
def nTear (S : ST) (x y : Int32) : ST := if isC (qP S) x y = true then wB S (tearB (qP S) (qB S) (cel x y)) else S
def aRain (S : ST) (k : Int32) : Int32 := if ink k 101 = true then nI (rnN (qP S) k 128 (0, qB S)).1 else OUT
def nRain (S : ST) (k : Int32) : ST := if ink k 101 = true then wB S (rnN (qP S) k 128 (0, qB S)).2 else S
def aOwner (S : ST) (o x : Int32) : Int32 := if ink o 6 = true then (if x = 0 then nI (wor (qP S) (qB S) (cl o)) else if x = 1 then bfi (qB S) (cl o) else if x = 2 then nI (hng (qP S) (qB S) (cl o)) else OUT) else UNK
def aShow (S : ST) (k x y : Int32) : Int32 := if ink k (pn (qP S) 6) = true then (if fit (qP S) (cl k) x y = true then (if fn (qF S) < 10 then nI (fn (qF S)) else FUL) else OUT) else UNK
def nShow (S : ST) (k x y : Int32) : ST := if ink k (pn (qP S) 6) = true then (if fit (qP S) (cl k) x y = true then (if fn (qF S) < 10 then wF S (addF (qF S) (cl k) (cl x) (cl y)) else S) else S) else S
def lkI (b : Int32) : Nat := if b = -1 then 1 else cl b + 2
def aLook (S : ST) (x y b : Int32) : Int32 := if b = -1 ∨ ink b (fn (qF S)) = true then (if isC (qP S) x y = true then 1 else OUT) else UNK
def nLook (S : ST) (x y b : Int32) : ST := if b = -1 ∨ ink b (fn (qF S)) = true then (if isC (qP S) x y = true then wF S (lokF (qF S) (cel x y) (lkI b)) else S) else S
def aOrder (S : ST) (i : Int32) : Int32 := if i < 0 then OUT else fstF (qP S) (qF S) (cl i)
def aSurely (S : ST) (a b : Int32) : Int32 := if a = b then UNK else if ink a (fn (qF S)) = true then (if ink b (fn (qF S)) = true then bI (surF (qP S) (qF S) (cl a) (cl b)) else UNK) else UNK
def aBest (S : ST) (k x : Int32) : Int32 := if ink k (pn (qP S) 6) = true then (if ink x 3 = true then (if 20 ≤ bn (qB S) then NOT else match bN (qP S) (qB S) (cl k) 128 with
  | none => NOT
  | some v => if x = 0 then nI v.2.1 else if x = 1 then nI v.2.2 else v.1) else OUT) else UNK
def aTwo (S : ST) (k j x : Int32) : Int32 := if ink k (pn (qP S) 6) = true then (if ink j (pn (qP S) 6) = true then (if ink x 5 = true then (if pow (qP S) (cl k) = pow (qP S) (cl j) then (if bn (qB S) ≤ 18 then (match tN (qP S) (qB S) (cl k) (cl j) 128 with
  | none => NOT
  | some v => if x = 0 then nI v.2.1 else if x = 1 then nI v.2.2.1 else if x = 2 then nI v.2.2.2.1 else if x = 3 then nI v.2.2.2.2 else v.1) else NOT) else NOT) else OUT) else UNK) else UNK
def aRivals (S : ST) (k j n x : Int32) : Int32 := if ink k (pn (qP S) 6) = true then (if ink j (pn (qP S) 6) = true then (if (ink n 13 && !decide (n = 0) && ink x 3) = true then (if x = 0 then nI (wor (qP S) (cN (qP S) (cl k) (cl j) (cl n) (qB S, 0)).1 (pow (qP S) (cl k))) else if x = 1 then nI (wor (qP S) (cN (qP S) (cl k) (cl j) (cl n) (qB S, 0)).1 (pow (qP S) (cl j))) else nI (cN (qP S) (cl k) (cl j) (cl n) (qB S, 0)).2) else OUT) else UNK) else UNK
def aSeed (S : ST) (v : Int32) : Int32 := if v < 0 then OUT else bsd (qB S)
def nSeed (S : ST) (v : Int32) : ST := if v < 0 then S else wB S (sdB (qB S) v)
def aKeep (i : Int32) : Int32 := if ink i 2 = true then 1 else UNK
def nKeep (S : ST) (i : Int32) : ST := if ink i 2 = true then wI S (decide (i = 1)) (true, qB S) else S
def imI (S : ST) (i : Int32) : IM := if i = 1 then qI1 S else qI0 S
def aBack (S : ST) (i : Int32) : Int32 := if ink i 2 = true then (if (imI S i).1 = true then 1 else NOT) else UNK
def nBack (S : ST) (i : Int32) : ST := if ink i 2 = true then (if (imI S i).1 = true then wB S (imI S i).2 else S) else S
def byt (v : Int64) (i : Nat) : Nat := v.toBitVec.toNat / 2 ^ (8 * i) % 256
def fedT (S : ST) (k : Nat) (v : Int64) : TX := fun i => if i < qL S then qT S i else byt v (k - 1 - (i - qL S))
def feeds (n : Int32) : Bool := ink n 9 && !decide (n = 0)
def aFeed (S : ST) (n : Int32) (v : Int64) : Int32 := if feeds n = true then (if qL S + cl n ≤ 300 then nI (qL S + cl n) else FUL) else OUT
def nFeed (S : ST) (n : Int32) (v : Int64) : ST := if feeds n = true then (if qL S + cl n ≤ 300 then wT S (qL S + cl n) (fedT S (cl n) v) else S) else S
def aWall (S : ST) : Int32 := match prs (qT S) (qL S) with
  | .ok P => nI (pn P 6)
  | .error w => -10 - nI w.1
def nWall (S : ST) : ST := match prs (qT S) (qL S) with
  | .ok P => (P, awayB (bsd (qB S)), (false, qB S), (false, qB S), eF, (0, qT S), -1)
  | .error w => (qP S, qB S, qI0 S, qI1 S, qF S, (0, qT S), nI w.2)
/-- what is so of it at all times -/
def VI (P : PT) (I : IM) : Prop := I.1 = true → VB P I.2
def VS (S : ST) : Prop := VP (qP S) ∧ VB (qP S) (qB S) ∧ VI (qP S) (qI0 S) ∧ VI (qP S) (qI1 S) ∧ VF (qP S) (qF S) ∧ qL S ≤ 300 ∧ ∀ i, i < qL S → qT S i < 256
def EI (m : Nat → Nat → Int32) (c : Nat) (P : PT) (I : IM) : Prop := m c 1 = bI I.1 ∧ (I.1 = true → EB m (c + 1) P I.2)
/-- the class's memory holds it -/
def CI (m : Nat → Nat → Int32) (S : ST) : Prop := EP m (qP S) ∧ EB m 15 (qP S) (qB S) ∧ EI m 23 (qP S) (qI0 S) ∧ EI m 32 (qP S) (qI1 S) ∧ EF m (qP S) (qF S) ∧ (m 13 1 = nI (qL S) ∧ (∀ i, i < qL S → m 14 i = nI (qT S i)) ∧ m 13 5 = qW S) ∧ EL m 41 ∧ EL m 59 ∧ EL m 65
theorem EI.fr {m m' : Nat → Nat → Int32} {c : Nat} {P : PT} {I : IM} (h : EI m c P I) (e : ∀ d, c ≤ d → d ≤ c + 8 → m' d = m d) : EI m' c P I := ⟨by rw [e c (by omega) (by omega)]; exact h.1, fun q => (h.2 q).fr fun d h1 h2 => e d (by omega) (by omega)⟩
/-- nothing but scratch has changed -/
theorem CI.scr {m m' : Nat → Nat → Int32} {S : ST} (h : CI m S) (e : ∀ c, 1 ≤ c ∧ c ≤ 6 ∨ 13 ≤ c ∧ c ≤ 40 ∨ 71 ≤ c ∧ c ≤ 73 → m' c = m c) (l1 : EL m' 41) (l2 : EL m' 59) (l3 : EL m' 65) : CI m' S := by
  obtain ⟨a1, a2, a3, a4, a5, a6, -, -, -⟩ := h
  refine ⟨a1.fr fun c h1 h2 => e c (by omega), a2.fr fun c h1 h2 => e c (by omega), a3.fr fun c h1 h2 => e c (by omega), a4.fr fun c h1 h2 => e c (by omega), a5.fr fun c h1 h2 => e c (by omega), ?_, l1, l2, l3⟩
  rw [e 13 (by omega), e 14 (by omega)]; exact a6
theorem CI.bills {m m' : Nat → Nat → Int32} {S : ST} {B : BT} (h : CI m S) (e : ∀ c, 1 ≤ c ∧ c ≤ 6 ∨ 13 ≤ c ∧ c ≤ 14 ∨ 23 ≤ c ∧ c ≤ 40 ∨ 71 ≤ c ∧ c ≤ 73 → m' c = m c) (hB : EB m' 15 (qP S) B) (l1 : EL m' 41) (l2 : EL m' 59) (l3 : EL m' 65) : CI m' (wB S B) := by
  obtain ⟨a1, a2, a3, a4, a5, a6, -, -, -⟩ := h
  refine ⟨a1.fr fun c h1 h2 => e c (by omega), hB, a3.fr fun c h1 h2 => e c (by omega), a4.fr fun c h1 h2 => e c (by omega), a5.fr fun c h1 h2 => e c (by omega), ?_, l1, l2, l3⟩
  show m' 13 1 = nI (qL S) ∧ (∀ i, i < qL S → m' 14 i = nI (qT S i)) ∧ m' 13 5 = qW S
  rw [e 13 (by omega), e 14 (by omega)]; exact a6
theorem CI.foto {m m' : Nat → Nat → Int32} {S : ST} {F : FT} (h : CI m S) (e : ∀ c, c ≤ 70 → m' c = m c) (hF : EF m' (qP S) F) : CI m' (wF S F) := by
  obtain ⟨a1, a2, a3, a4, a5, a6, l1, l2, l3⟩ := h
  refine ⟨a1.fr fun c h1 h2 => e c (by omega), a2.fr fun c h1 h2 => e c (by omega), a3.fr fun c h1 h2 => e c (by omega), a4.fr fun c h1 h2 => e c (by omega), hF, ?_, l1.fr (e _ (by omega)) (e _ (by omega)), l2.fr (e _ (by omega)) (e _ (by omega)), l3.fr (e _ (by omega)) (e _ (by omega))⟩
  show m' 13 1 = nI (qL S) ∧ (∀ i, i < qL S → m' 14 i = nI (qT S i)) ∧ m' 13 5 = qW S
  rw [e 13 (by omega), e 14 (by omega)]; exact a6
theorem CI.same {m m' : Nat → Nat → Int32} {S : ST} (h : CI m S) (e : ∀ c, c ≤ 73 → m' c = m c) : CI m' S := by
  obtain ⟨l1, l2, l3⟩ := h.2.2.2.2.2.2
  exact h.scr (fun c hc => e c (by omega)) (l1.fr (e _ (by omega)) (e _ (by omega))) (l2.fr (e _ (by omega)) (e _ (by omega))) (l3.fr (e _ (by omega)) (e _ (by omega)))
theorem CI.tx {m : Nat → Nat → Int32} {S : ST} (h : CI m S) (hV : VS S) : TXm m (qT S) (qL S) := ⟨hV.2.2.2.2.2.1, fun i hi => ⟨h.2.2.2.2.2.1.2.1 i hi, hV.2.2.2.2.2.2 i hi⟩⟩
