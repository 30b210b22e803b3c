/-! ===== tearing, rain ===== -/
def torB (B : BT) (t c : Nat) : BT := (bn B, bty B, bkd B, bco B, bro B, bdy B, bon B, up1 (btn B) t (up1 (btn B t) c true), bfi B, bsd B)
def tearB (P : PT) (B : BT) (c : Nat) : BT := if top P B c = 0 then B else torB B (top P B c - 1) c
def sdB (B : BT) (s : Int32) : BT := (bn B, bty B, bkd B, bco B, bro B, bdy B, bon B, btn B, bfi B, s)
theorem btn_tor {B : BT} {t c i d : Nat} : btn (torB B t c) i d = (btn B i d || (decide (i = t) && decide (d = c))) := by
  by_cases e : i = t
  · have : btn (torB B t c) i = up1 (btn B t) c true := by rw [e]; exact up1_s _ _ _
    rw [this, decide_eq_true e, Bool.true_and, e]
    by_cases f : d = c
    · rw [f, up1_s, decide_eq_true (rfl : c = c), Bool.or_true]
    · rw [up1_n _ _ f, decide_eq_false f, Bool.or_false]
  · have : btn (torB B t c) i = btn B i := up1_n _ _ e
    rw [this, decide_eq_false e, Bool.false_and, Bool.or_false]
theorem VB.tor {P : PT} {B : BT} {t c : Nat} (hV : VB P B) (h : lie P B t c = true) : VB P (torB B t c) := by
  refine ⟨hV.1, fun i hi => ?_⟩
  obtain ⟨h1, h2, h3, h4⟩ := hV.2 i hi
  refine ⟨h1, h2, h3, fun d hd => ?_⟩
  rw [btn_tor, Bool.or_eq_true] at hd
  rcases hd with q | q
  · exact h4 d q
  · rw [Bool.and_eq_true] at q
    have e1 := of_decide_eq_true q.1
    have e2 := of_decide_eq_true q.2
    rw [e1, e2]
    exact (lie_rch h).1
theorem VB.tear {P : PT} {B : BT} {c : Nat} (hV : VB P B) : VB P (tearB P B c) := by
  unfold tearB
  split
  · exact hV
  · next h =>
    exact hV.tor (top_has (t := top P B c - 1) (by omega)).2
theorem tI_s (T : Nat) (h : T ≠ 0) : tI T = nI (T - 1) := if_neg h
/-- the draw out of a hundred, by the seed ahead of it -/
def nxt (s : Int32) : Int32 := Int64.toInt32 (a_remL (((Int32.toInt64 s) * 1103515245) + 12345) 2147483648)
theorem nxt_e (s : Int32) : Int64.toInt32 (a_remL (((Int32.toInt64 s) * 1103515245) + 12345) 2147483648) = nxt s := rfl
def drw (s : Int32) : Int32 := a_rem (nxt s / 65536) 100
theorem drw_e (s : Int32) : a_rem (nxt s / 65536) 100 = drw s := rfl
section TEAR
variable {X : a_X} {m : Nat → Nat → Int32} {P : PT} {B : BT} {b : Nat} {Q : Int32 → (Nat → Nat → Int32) → Prop}
theorem s_tearTop (hb : sBills b) (h7 : 7 ≤ b) (hE : EB m b P B) (hV : VB P B) {c : Nat} (hc : c < 128) (h : ∀ m', Fr (fun d => d = b + 6 ∨ d = b + 7) m m' → EB m' b P (tearB P B c) → Q (tI (top P B c)) m') : CallI X mX0_tearTop [.ref b, .int (nI c)] m Q := by
  have hT := top_le hV c
  have hn := hV.1
  refine eX0_tearTop_0 hb (s_above hb hE hV hc ⟨fun d => ?_, fun d => ?_⟩)
  · rw [tI_0 _ (by omega)] at d
    refine qI (h m Fr.rf ?_)
    unfold tearB
    rw [if_pos d]; exact hE
  · rw [tI_0 _ (by omega)] at d
    have hl := top_has (t := top P B c - 1) (B := B) (P := P) (c := c) (by omega)
    rw [pk_cl c]
    refine ⟨pk_in c 128 hc, pk_in c 128 hc, fun m3 e3 => ⟨pk_in c 128 hc, pk_in c 128 hc, fun m4 e4 => qI (h m4 ?_ ?_)⟩⟩
    · subst e4 e3
      exact Fr.up (Fr.up Fr.rf (Or.inl rfl)) (Or.inr rfl)
    · unfold tearB
      rw [if_neg d]
      rw [tI_s _ d] at e3 e4
      generalize top P B c - 1 = t at *
      obtain ⟨E1, E2, E3, E9, EA, EF, EC⟩ := hE
      have k0 : ∀ c, c ≠ b + 6 → c ≠ b + 7 → m4 c = m c := fun c h1 h2 => by rw [e4, a_up_c _ _ h2, e3, a_up_c _ _ h1]
      have hB : hasB P B t c = true := by
        have := hl.2
        unfold lie at this
        simp only [Bool.and_eq_true] at this
        exact this.1
      refine ⟨?_, ?_, ?_, ?_, ?_, ?_, fun x hx => ?_⟩
      · rw [k0 _ (by omega) (by omega)]; exact E1
      · rw [k0 _ (by omega) (by omega)]; exact E2
      · rw [k0 _ (by omega) (by omega)]; exact E3
      · rw [k0 _ (by omega) (by omega)]; exact E9
      · intro i hi
        rw [k0 _ (by omega) (by omega), k0 _ (by omega) (by omega), k0 _ (by omega) (by omega), k0 _ (by omega) (by omega)]
        exact EA i hi
      · intro o ho
        rw [k0 _ (by omega) (by omega)]; exact EF o ho
      · have w1 : m4 (b + 6) x = if x = c then m (b + 6) c &&& ((1 <<< (nI t &&& 31)) ^^^ (-1)) else m (b + 6) x := by
          rw [e4, a_up_n _ _ (Or.inl (by omega)), e3, a_up_i]
        have w2 : m4 (b + 7) x = if x = c then m (b + 7) c ||| (1 <<< (nI t &&& 31)) else m (b + 7) x := by
          rw [e4, a_up_i, e3, a_up_n _ _ (Or.inl (by omega)), a_up_n _ _ (Or.inl (by omega))]
        obtain ⟨c1, c2⟩ := EC x hx
        have lt : ∀ i, lie P (torB B t c) i x = (hasB P B i x && !(btn B i x || (decide (i = t) && decide (x = c)))) := fun i => by
          rw [← btn_tor]; rfl
        have ht : ∀ i, hasB P (torB B t c) i x = hasB P B i x := fun i => rfl
        by_cases e : x = c
        · rw [w1, w2, if_pos e, if_pos e]
          subst e
          constructor
          · refine (c1.and (isS_one (k := t) (by omega)).not).cg fun i hi => ?_
            show _ = (decide (i < bn B) && lie P (torB B t x) i x)
            rw [lt, decide_eq_true (rfl : x = x)]
            show (decide (i < bn B) && (hasB P B i x && !btn B i x) && !decide (i = t)) = _
            cases decide (i = t) <;> simp
          · refine (c2.or (isS_one (k := t) (by omega))).cg fun i hi => ?_
            show _ = (decide (i < bn B) && (hasB P (torB B t x) i x && btn (torB B t x) i x))
            rw [ht, btn_tor, decide_eq_true (rfl : x = x)]
            by_cases e : i = t
            · rw [e, decide_eq_true (rfl : t = t), decide_eq_true hl.1, hB]; simp
            · rw [decide_eq_false e]; simp
        · rw [w1, w2, if_neg e, if_neg e]
          constructor
          · refine c1.cg fun i hi => ?_
            show _ = (decide (i < bn B) && lie P (torB B t c) i x)
            rw [lt, decide_eq_false e]
            simp [lie]
          · refine c2.cg fun i hi => ?_
            show _ = (decide (i < bn B) && (hasB P (torB B t c) i x && btn (torB B t c) i x))
            rw [ht, btn_tor, decide_eq_false e]; simp
theorem EB.sd {m1 : Nat → Nat → Int32} {s : Int32} (hE : EB m b P B) (e1 : m1 = a_up m b 3 s) : EB m1 b P (sdB B s) := by
  obtain ⟨E1, E2, E3, E9, EA, EF, EC⟩ := hE
  have e0 : ∀ i, i ≠ 3 → m1 b i = m b i := fun i hi => by rw [e1, a_up_n _ _ (Or.inr hi)]
  have k0 : ∀ c, c ≠ b → m1 c = m c := fun c hc => by rw [e1, a_up_c _ _ hc]
  refine ⟨?_, ?_, ?_, ?_, ?_, ?_, ?_⟩
  · rw [e0 _ (by omega)]; exact E1
  · rw [e0 _ (by omega)]; exact E2
  · rw [e1, a_up_s]; rfl
  · rw [e0 _ (by omega)]; exact E9
  · intro i hi
    rw [k0 _ (by omega), k0 _ (by omega), k0 _ (by omega), k0 _ (by omega)]; exact EA i hi
  · rw [k0 _ (by omega)]; exact EF
  · rw [k0 _ (by omega), k0 _ (by omega)]; exact EC
theorem s_draw (hb : sBills b) (hE : EB m b P B) (h : ∀ m', Fr (fun d => d = b) m m' → EB m' b P (sdB B (nxt (bsd B))) → Q (drw (bsd B)) m') : CallI X mX0_drawOfHundred [.ref b] m Q := by
  refine eX0_drawOfHundred_0 hb fun m1 e1 => ?_
  rw [hE.2.2.1, nxt_e] at e1
  have e2 : m1 b 3 = nxt (bsd B) := by rw [e1, a_up_s]
  rw [e2, drw_e]
  exact qI (h m1 (fun c hc => by rw [e1, a_up_c _ _ hc]) (hE.sd e1))
end TEAR
