/-! ===== bounds of what a new one brings ===== -/
theorem i_add {x y : Int32} {a : Int} (h : x.toInt + y.toInt = a) (h1 : -2147483648 ≤ a) (h2 : a < 2147483648) : (x + y).toInt = a := by
  rw [Int32.toInt_add, h]
  exact Int.bmod_eq_of_le (by omega) (by omega)
theorem i_sub {x y : Int32} {a : Int} (h : x.toInt - y.toInt = a) (h1 : -2147483648 ≤ a) (h2 : a < 2147483648) : (x - y).toInt = a := by
  rw [Int32.toInt_sub, h]
  exact Int.bmod_eq_of_le (by omega) (by omega)
theorem canR_mono {P : PT} {s t a : Nat} (h : s ≤ t) (hc : canR P s a = true) : canR P t a = true := decide_eq_true (by have := of_decide_eq_true hc; omega)
theorem wo2_le (P : PT) (B : BT) (k x y i : Nat) : wo2 P B k x y i ≤ wob P B i := by
  unfold wo2 wob red
  by_cases c : canR P (seen P B i - lsn P B k x y i) (siz P (bkd B i)) = true
  · rw [if_pos c, if_pos (canR_mono (Nat.sub_le _ _) c)]; exact Nat.sub_le _ _
  · rw [if_neg c]; exact Nat.zero_le _
theorem wob_le {P : PT} (hVP : VP P) (B : BT) (i : Nat) : wob P B i ≤ 12672 := by
  have := met_le hVP B i
  unfold wob
  split <;> omega
theorem pof_le {P : PT} (hVP : VP P) {k x : Nat} (hk : k < pn P 6) (hx : x + pwd P k ≤ pn P 0) : pof P k x ≤ 12672 := by
  obtain ⟨hw, hh⟩ := (hVP.2.2.2.2.2.2.2.2 k hk).2
  have h0 := hVP.1.2
  have h1 := hVP.2.1.2
  have q := sm_bd (n := pwd P k) (c := 99) (f := fun i => pps P (x + i)) fun i hi => hVP.2.2.2.2.2.2.2.1 (x + i) (by omega)
  have := Nat.mul_le_mul (show sm (fun i => pps P (x + i)) (pwd P k) ≤ 16 * 99 by omega) (show phg P k ≤ 8 by omega)
  exact this
theorem wN_bd {P : PT} {B : BT} (hVP : VP P) (hV : VB P B) {k x y : Nat} (hk : k < pn P 6) (hx : x + pwd P k ≤ pn P 0) : ∀ n : Nat, n ≤ 20 → (-(n : Int) * 12672 ≤ (wN P B k x y n).1.toInt ∧ (wN P B k x y n).1.toInt ≤ pof P k x) ∧ 0 ≤ (wN P B k x y n).2.toInt ∧ (wN P B k x y n).2.toInt ≤ n * 999
  | 0, _ => by
    have hp := pof_le hVP hk hx
    have e1 : (wN P B k x y 0).1.toInt = pof P k x := nI_toInt (by omega)
    have e2 : (wN P B k x y 0).2.toInt = 0 := by show (0 : Int32).toInt = 0; decide
    omega
  | n + 1, hn => by
    have hp := pof_le hVP hk hx
    have ih := wN_bd hVP hV (y := y) hk hx n (by omega)
    rw [wN_s]
    generalize wN P B k x y n = u at *
    split
    · omega
    · unfold wst
      split
      · have w1 := wo2_le P B k x y n
        have w2 := wob_le hVP B n
        have t1 : (nI (wob P B n)).toInt = wob P B n := nI_toInt (by omega)
        have t2 : (nI (wo2 P B k x y n)).toInt = wo2 P B k x y n := nI_toInt (by omega)
        have s1 : (u.1 - nI (wob P B n)).toInt = u.1.toInt - wob P B n := i_sub (by rw [t1]) (by omega) (by omega)
        have s2 : (u.1 - nI (wob P B n) + nI (wo2 P B k x y n)).toInt = u.1.toInt - wob P B n + wo2 P B k x y n := i_add (by rw [s1, t2]) (by omega) (by omega)
        dsimp only
        rw [s2]
        omega
      · split
        · have h3 := hVP.2.2.2.1
          have t1 : (nI (pn P 3)).toInt = pn P 3 := nI_toInt (by omega)
          have s1 : (u.2 + nI (pn P 3)).toInt = u.2.toInt + pn P 3 := i_add (by rw [t1]) (by omega) (by omega)
          dsimp only
          rw [s1]
          omega
        · omega
theorem wga_bd {P : PT} {B : BT} (hVP : VP P) (hV : VB P B) {k x y : Nat} (hk : k < pn P 6) (hx : x + pwd P k ≤ pn P 0) : -300000 ≤ (wga P B k x y).toInt ∧ (wga P B k x y).toInt ≤ pof P k x := by
  have hn := hV.1
  have hp := pof_le hVP hk hx
  have q := wN_bd hVP hV (y := y) hk hx (bn B) hn
  have : (wga P B k x y).toInt = (wN P B k x y (bn B)).1.toInt - (wN P B k x y (bn B)).2.toInt := i_sub rfl (by omega) (by omega)
  omega
theorem i_mono {g a b : Int32} (hg : -1000000 ≤ g.toInt ∧ g.toInt ≤ 1000000) (ha : -1000000 ≤ a.toInt ∧ a.toInt ≤ 1000000) (hb : -1000000 ≤ b.toInt ∧ b.toInt ≤ 1000000) : g + a < g + b ↔ a < b := by
  rw [Int32.lt_iff_toInt_lt, Int32.lt_iff_toInt_lt, i_add (x := g) (y := a) rfl (by omega) (by omega), i_add (x := g) (y := b) rfl (by omega) (by omega)]
  omega
/-! ===== THE BEST TWO ===== -/
abbrev U2 : Type := Option (Int32 × Nat × Nat × Nat × Nat)
def PL2 (m : Nat → Nat → Int32) : U2 → Prop
  | none => m 50 4 = 0
  | some (g, x, y, x2, y2) => m 50 4 = 1 ∧ m 50 9 = g ∧ m 50 5 = nI x ∧ m 50 6 = nI y ∧ m 50 7 = nI x2 ∧ m 50 8 = nI y2
def be2 (u : U2) (w : Int32 × Nat × Nat × Nat × Nat) : U2 := match u with
  | none => some w
  | some v => if v.1 < w.1 then some w else some v
def mrg (u : U2) (g : Int32) (x y : Nat) : UT → U2
  | none => u
  | some v => be2 u (g + v.1, x, y, v.2.1, v.2.2)
/-- a KIND can hang at the cell, and no strip is there -/
abbrev plc (P : PT) (k c : Nat) : Prop := c % 16 + pwd P k ≤ pn P 0 ∧ c / 16 + phg P k ≤ pn P 1 ∧ bar P k (c % 16) (c / 16) = false
theorem bst_p {P : PT} {B : BT} {k c : Nat} {u : UT} (h : plc P k c) : bst P B k c u = bet u (wga P B k (c % 16) (c / 16)) (c % 16) (c / 16) := if_pos h
theorem bst_n {P : PT} {B : BT} {k c : Nat} {u : UT} (h : ¬ plc P k c) : bst P B k c u = u := if_neg h
def tst (P : PT) (B : BT) (k j c : Nat) (u : U2) : U2 := if plc P k c then mrg u (wga P B k (c % 16) (c / 16)) (c % 16) (c / 16) (bN P (hangB B k (c % 16) (c / 16)) j 128) else u
def tN (P : PT) (B : BT) (k j : Nat) : Nat → U2
  | 0 => none
  | c + 1 => tst P B k j c (tN P B k j c)
theorem tN_s (P : PT) (B : BT) (k j c : Nat) : tN P B k j (c + 1) = tst P B k j c (tN P B k j c) := rfl
theorem tN_skip {P : PT} {B : BT} {k j a : Nat} : ∀ d, (∀ c, a ≤ c → c < a + d → ¬ (c % 16 + pwd P k ≤ pn P 0 ∧ c / 16 + phg P k ≤ pn P 1)) → tN P B k j (a + d) = tN P B k j a
  | 0, _ => rfl
  | d + 1, h => by
    rw [← Nat.add_assoc, tN_s, tN_skip d (fun c h1 h2 => h c h1 (by omega))]
    unfold tst
    rw [if_neg (fun q => h (a + d) (by omega) (by omega) ⟨q.1, q.2.1⟩)]
theorem be2_mrg {u : U2} {g : Int32} {x y x2 y2 : Nat} {w : UT} {a : Int32} (hm : ∀ v, w = some v → (g + v.1 < g + a ↔ v.1 < a)) : mrg u g x y (bet w a x2 y2) = be2 (mrg u g x y w) (g + a, x, y, x2, y2) := by
  cases w with
  | none => rfl
  | some v =>
    have hm := hm v rfl
    unfold bet
    dsimp only
    by_cases h : v.1 < a
    · rw [if_pos h]
      have h2 := hm.mpr h
      cases u with
      | none => exact (if_pos h2).symm
      | some t =>
        show (if t.1 < g + a then some (g + a, x, y, x2, y2) else some t) = be2 (if t.1 < g + v.1 then some (g + v.1, x, y, v.2.1, v.2.2) else some t) (g + a, x, y, x2, y2)
        by_cases h3 : t.1 < g + v.1
        · rw [if_pos h3, if_pos (Int32.lt_trans h3 h2)]
          exact (if_pos h2).symm
        · rw [if_neg h3]; rfl
    · rw [if_neg h]
      have h2 : ¬ g + v.1 < g + a := fun q => h (hm.mp q)
      cases u with
      | none => exact (if_neg h2).symm
      | some t =>
        show (if t.1 < g + v.1 then some (g + v.1, x, y, v.2.1, v.2.2) else some t) = be2 (if t.1 < g + v.1 then some (g + v.1, x, y, v.2.1, v.2.2) else some t) (g + a, x, y, x2, y2)
        by_cases h3 : t.1 < g + v.1
        · rw [if_pos h3]
          exact (if_neg h2).symm
        · rw [if_neg h3]
          exact (if_neg (fun q => h2 (by
            have q : t.1 < g + a := q
            rw [Int32.lt_iff_toInt_lt] at *; omega))).symm
theorem mrg_bst {P : PT} {B : BT} {u : U2} {g : Int32} {x y j d : Nat} (hVP : VP P) (hV : VB P B) (hj : j < pn P 6) (hg : -1000000 ≤ g.toInt ∧ g.toInt ≤ 1000000) (hd : plc P j d) : mrg u g x y (bN P B j (d + 1)) = be2 (mrg u g x y (bN P B j d)) (g + wga P B j (d % 16) (d / 16), x, y, d % 16, d / 16) := by
  rw [bN_s, bst_p hd]
  refine be2_mrg fun v hv => ?_
  obtain ⟨c, -, rfl, h1, -, -⟩ := bN_ok hv
  have w1 := wga_bd hVP hV (y := c / 16) hj h1
  have w2 := wga_bd hVP hV (y := d / 16) hj hd.1
  have p1 := pof_le hVP hj h1
  have p2 := pof_le hVP hj hd.1
  exact i_mono hg (by dsimp only; omega) (by omega)
