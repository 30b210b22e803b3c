/-! ===== hanging ===== -/
/-- what a Call is to leave -/
abbrev QV (Q : (Nat → Nat → Int32) → Prop) : Option Value → (Nat → Nat → Int32) → Prop := fun r m' => r = none ∧ Q m'
abbrev QI (Q : Int32 → (Nat → Nat → Int32) → Prop) : Option Value → (Nat → Nat → Int32) → Prop := fun r m' => ∃ v, r = some (.int v) ∧ Q v m'
section HANG
variable {X : a_X} {m : Nat → Nat → Int32} {P : PT} {B : BT} {b : Nat}
theorem s_hang {Q : (Nat → Nat → Int32) → Prop} (hb : sBills b) (h7 : 7 ≤ b) (hP : EP m P) (hVP : VP P) (hE : EB m b P B) (hV : VB P B) (hn : bn B < 20) {k x y : Nat} (hk : k < pn P 6) (hx : x + pwd P k ≤ pn P 0) (hy : y + phg P k ≤ pn P 1) (h : ∀ m', Fr (fun c => b ≤ c ∧ c ≤ b + 7) m m' → EB m' b P (hangB B k x y) → Q m') : CallV X mX0_hang [.ref b, .int (nI k), .int (nI x), .int (nI y)] m Q := by
  obtain ⟨E1, E2, E3, E9, EA, EF, EC⟩ := hE
  have h0 := hVP.1.2
  have h1 := hVP.2.1.2
  have h6 := hVP.2.2.2.2.2.2.1
  obtain ⟨-, hw, hh⟩ := hVP.2.2.2.2.2.2.2.2 k hk
  refine eX0_hang_0 hb (s_isFull hb (by omega) E1 ?_)
  rw [decide_eq_false (by omega)]
  refine ⟨fun _ m3 e3 => ?_, fun c => absurd rfl c⟩
  have e3' : m3 = a_up m b 1 (nI (bn B + 1)) := by rw [e3, E1, nI_1]
  clear e3; rw [E1]
  refine ⟨pk_in (bn B) 20 hn, ?_⟩
  rw [pk_cl (bn B)]
  intro m4 e4
  refine ⟨pk_in (bn B) 20 hn, fun m5 e5 => ⟨pk_in (bn B) 20 hn, fun m6 e6 => ⟨pk_in (bn B) 20 hn, fun m7 e7 m8 e8 => ?_⟩⟩⟩
  have F : Fr (fun c => b ≤ c ∧ c ≤ b + 7) m m8 := by
    subst e8 e7 e6 e5 e4 e3'
    exact Fr.up (Fr.up (Fr.up (Fr.up (Fr.up (Fr.up Fr.rf (by omega)) (by omega)) (by omega)) (by omega)) (by omega)) (by omega)
  have g1 : m8 b 1 = nI (bn B + 1) := by subst e8 e7 e6 e5 e4 e3'; simp (disch := omega) [a_up_s, a_up_n]
  have g2 : m8 b 2 = bty B := by subst e8 e7 e6 e5 e4 e3'; simp (disch := omega) [a_up_n, E2]
  have g3 : m8 b 3 = bsd B := by subst e8 e7 e6 e5 e4 e3'; simp (disch := omega) [a_up_n, E3]
  have g9 : m8 b 9 = m b 9 ||| (1 <<< (nI (bn B) &&& 31)) := by subst e8 e7 e6 e5 e4 e3'; simp (disch := omega) [a_up_s, a_up_n]
  have ga : ∀ i, i < bn B + 1 → m8 (b + 1) i = nI (up1 (bkd B) (bn B) k i) ∧ m8 (b + 2) i = nI (up1 (bco B) (bn B) x i) ∧ m8 (b + 3) i = nI (up1 (bro B) (bn B) y i) ∧ m8 (b + 4) i = up1 (bdy B) (bn B) (bty B) i := by
    intro i hi
    by_cases e : i = bn B
    · rw [e, up1_s, up1_s, up1_s, up1_s]
      subst e8 e7 e6 e5 e4 e3'
      refine ⟨?_, ?_, ?_, ?_⟩ <;> simp (disch := omega) [a_up_s, a_up_n, E2]
    · rw [up1_n _ _ e, up1_n _ _ e, up1_n _ _ e, up1_n _ _ e]
      obtain ⟨a1, a2, a3, a4⟩ := EA i (by omega)
      subst e8 e7 e6 e5 e4 e3'
      refine ⟨?_, ?_, ?_, ?_⟩ <;> simp (disch := omega) [a_up_n, a1, a2, a3, a4]
  have gf : ∀ o, o < 6 → m8 (b + 5) o = bfi B o := by
    intro o ho
    subst e8 e7 e6 e5 e4 e3'
    simp (disch := omega) [a_up_n, EF o ho]
  have gw : m8 (b + 6) = m (b + 6) := by subst e8 e7 e6 e5 e4 e3'; funext j; simp (disch := omega) [a_up_n]
  have gt : m8 (b + 7) = m (b + 7) := by subst e8 e7 e6 e5 e4 e3'; funext j; simp (disch := omega) [a_up_n]
  have P8 : EP m8 P := hP.fr fun c hc hc2 => F c (by omega)
  clear e3' e4 e5 e6 e7 e8
  obtain ⟨a1, a2, a3, -⟩ := ga (bn B) (by omega)
  rw [up1_s] at a1 a2 a3
  refine rect (x0 := x) (x1 := x + pwd P k) (y0 := y) (y1 := y + phg P k) (by omega) (by omega) (by omega) (by omega)
    (I := fun v m' => Fr (fun c => c = b + 6) m8 m' ∧ ∀ c, c < 128 → isS (m' (b + 6) c) (fun i => (decide (i < bn B) && lie P B i c) || (decide (i = bn B) && v c)))
    (Wo := fun l v m' => Wp X mX0_hang 75 [some (.ref b), none, some (.int (nI x)), none, some (.int (nI (bn B))), some (.int (nI l)), none] [] m' (QV Q))
    (Wi := fun l c v m' => Wp X mX0_hang 89 [some (.ref b), none, some (.int (nI x)), none, some (.int (nI (bn B))), some (.int (nI l)), some (.int (nI c))] [] m' (QV Q)) ?_ ?_ ?_ ?_ ⟨Fr.rf, fun c hc => ?_⟩
  · rintro l v m' hl hl2 ⟨hF, -⟩ next
    have P' : EP m' P := P8.fr fun c hc hc2 => hF c (by omega)
    refine eX0_hang_75 hb (s_bottom hb P' hn h6 hk (by rw [hF _ (by omega), a1]) (by rw [hF _ (by omega), a3]) ?_)
    exact pk_le (y + phg P k) l (fun c => absurd c (by omega)) (fun _ => next)
  · rintro l v m' hl hl2 ⟨hF, -⟩ next
    have P' : EP m' P := P8.fr fun c hc hc2 => hF c (by omega)
    refine eX0_hang_89 hb (s_right hb P' hn h6 hk (by rw [hF _ (by omega), a1]) (by rw [hF _ (by omega), a2]) ?_)
    rw [nI_1]
    exact pk_le (x + pwd P k) (x + pwd P k) (fun _ => next) (fun c => absurd c (by omega))
  · rintro l q v m' hl hl2 hq hq2 hv ⟨hF, hI⟩ next
    have P' : EP m' P := P8.fr fun c hc hc2 => hF c (by omega)
    refine eX0_hang_89 hb (s_right hb P' hn h6 hk (by rw [hF _ (by omega), a1]) (by rw [hF _ (by omega), a2]) ?_)
    refine pk_le (x + pwd P k) q (fun c => absurd c (by omega)) (fun _ => s_cellAt ⟨pk_in (16 * l + q) 128 (by omega), pk_in (16 * l + q) 128 (by omega), ?_⟩)
    rw [pk_cl (16 * l + q), nI_1]
    rintro m9 rfl
    refine next _ ⟨Fr.up hF rfl, fun c hc => ?_⟩
    rw [a_up_i]
    by_cases e : c = 16 * l + q
    · subst e
      rw [if_pos rfl]
      refine ((hI _ hc).or (isS_one (k := bn B) (by omega))).cg fun i hi => ?_
      dsimp only
      rw [hv, decide_eq_true (rfl : 16 * l + q = 16 * l + q), Bool.and_false, Bool.or_false, Bool.false_or, Bool.and_true]
    · rw [if_neg e]
      refine (hI _ hc).cg fun i hi => ?_
      dsimp only
      rw [decide_eq_false e, Bool.or_false]
  · rintro m' ⟨hF, hI⟩
    have P' : EP m' P := P8.fr fun c hc hc2 => hF c (by omega)
    refine eX0_hang_75 hb (s_bottom hb P' hn h6 hk (by rw [hF _ (by omega), a1]) (by rw [hF _ (by omega), a3]) ?_)
    refine pk_le (y + phg P k) (y + phg P k) (fun _ => qV (h m' ?_ ?_)) (fun c => absurd c (by omega))
    · exact F.tr (hF.mono fun c hc => by omega)
    · refine ⟨?_, ?_, ?_, ?_, ?_, ?_, fun c hc => ⟨?_, ?_⟩⟩
      · rw [hF _ (by omega)]; exact g1
      · rw [hF _ (by omega)]; exact g2
      · rw [hF _ (by omega)]; exact g3
      · rw [hF _ (by omega), g9]
        refine (E9.or (isS_one (k := bn B) (by omega))).cg fun i hi => ?_
        show ((decide (i < bn B) && bon B i) || decide (i = bn B)) = (decide (i < bn B + 1) && up1 (bon B) (bn B) true i)
        by_cases e : i = bn B
        · rw [e, up1_s, decide_eq_true (rfl : bn B = bn B), decide_eq_true (by omega : bn B < bn B + 1), Bool.or_true]; rfl
        · rw [up1_n _ _ e, decide_eq_false e, Bool.or_false]
          congr 1
          exact decide_eq_decide.mpr (by omega)
      · intro i hi
        rw [hF _ (by omega), hF _ (by omega), hF _ (by omega), hF _ (by omega)]
        exact ga i hi
      · intro o ho
        rw [hF _ (by omega)]
        exact gf o ho
      · refine (hI c hc).cg fun i hi => ?_
        show _ = (decide (i < bn B + 1) && lie P (hangB B k x y) i c)
        by_cases e : i = bn B
        · rw [e, lie_hang_n.1, decide_eq_false (by omega : ¬ bn B < bn B), decide_eq_true rfl, decide_eq_true (by omega : bn B < bn B + 1)]
          rfl
        · rw [(lie_hang e).1, decide_eq_false e, Bool.false_and, Bool.or_false]
          congr 1
          exact decide_eq_decide.mpr (by omega)
      · rw [hF _ (by omega), gt]
        refine (EC c hc).2.cg fun i hi => ?_
        show _ = (decide (i < bn B + 1) && (hasB P (hangB B k x y) i c && btn (hangB B k x y) i c))
        by_cases e : i = bn B
        · rw [e, (lie_hang_n (P := P)).2.2, Bool.and_false, Bool.and_false, decide_eq_false (by omega)]; rfl
        · rw [(lie_hang e).2.1, (lie_hang (P := P) e (c := c)).2.2]
          congr 1
          exact decide_eq_decide.mpr (by omega)
  · rw [gw]
    refine (EC c hc).1.cg fun i hi => ?_
    rw [Bool.and_false, Bool.or_false]
end HANG
