/-! ===== what a new one would hide ===== -/
def EL (m : Nat → Nat → Int32) (s : Nat) : Prop := ∀ i, i < 20 → m (s + 4) i = 0 ∧ m (s + 5) i = 0
def fs (P : PT) (B : BT) (i c : Nat) : Nat := if top P B c = i + 1 then 1 else 0
def fm (P : PT) (B : BT) (i c : Nat) : Nat := if top P B c = i + 1 then pps P (c % 16) else 0
/-- how many SEEN CELLS of i, and how many that pass them, a KIND there would hide -/
def lsn (P : PT) (B : BT) (k x y i : Nat) : Nat := smv (rch P k x y) (fs P B i)
def lsm (P : PT) (B : BT) (k x y i : Nat) : Nat := smv (rch P k x y) (fm P B i)
section HIDE
variable {X : a_X} {m : Nat → Nat → Int32} {P : PT} {B : BT} {s : Nat}
theorem s_hide {Q : Int32 → (Nat → Nat → Int32) → Prop} (hs : sSight s) (h7 : 7 ≤ s) (hP : EP m P) (hVP : VP P) (hV : VB P B) (hS : ES m s P B) (hL : EL m s) {k x y : Nat} (hk : k < pn P 6) (hx : x + pwd P k ≤ pn P 0) (hy : y + phg P k ≤ pn P 1) (h : ∀ a m', isS a (fun i => decide (i < 20) && decide (lsn P B k x y i ≠ 0)) → Fr (fun c => c = s + 4 ∨ c = s + 5) m m' → (∀ i, i < 20 → m' (s + 4) i = nI (lsn P B k x y i) ∧ m' (s + 5) i = nI (lsm P B k x y i)) → Q a m') : CallI X mX7_hide [.ref s, .int (nI k), .int (nI x), .int (nI y)] m Q := by
  have h0 := hVP.1.2
  have h1 := hVP.2.1.2
  have h6 := hVP.2.2.2.2.2.2.1
  obtain ⟨-, hw, hh⟩ := hVP.2.2.2.2.2.2.2.2 k hk
  obtain ⟨-, ew, eh⟩ := hP.2.2.2 k hk
  refine eX7_hide_0 hs ⟨pk_in k 12 (by omega), pk_in k 12 (by omega), ?_⟩
  rw [pk_cl k, ew, eh, nI_add, nI_add]
  have key := rect (x0 := x) (x1 := x + pwd P k) (y0 := y) (y1 := y + phg P k) (by omega) (by omega) (by omega) (by omega) (m := m)
    (I := fun v m' => Fr (fun c => c = s + 4 ∨ c = s + 5) m m' ∧ ∀ i, i < 20 → m' (s + 4) i = nI (smv v (fs P B i)) ∧ m' (s + 5) i = nI (smv v (fm P B i)))
    (Wo := fun l v m' => ∀ a, isS a (fun i => decide (i < 20) && decide (smv v (fs P B i) ≠ 0)) → Wp X mX7_hide 32 [some (.ref s), none, some (.int (nI x)), none, some (.int a), some (.int (nI (y + phg P k))), some (.int (nI (x + pwd P k))), some (.int (nI l)), none, none] [] m' (QI Q))
    (Wi := fun l q v m' => ∀ a, isS a (fun i => decide (i < 20) && decide (smv v (fs P B i) ≠ 0)) → Wp X mX7_hide 42 [some (.ref s), none, some (.int (nI x)), none, some (.int a), some (.int (nI (y + phg P k))), some (.int (nI (x + pwd P k))), some (.int (nI l)), some (.int (nI q)), none] [] m' (QI Q)) ?_ ?_ ?_ ?_ ⟨Fr.rf, fun i hi => ?_⟩
  · exact key 0 (isS_0.cg fun i hi => by rw [smv_0]; simp)
  · rintro l v m' hl hl2 - next a ha
    exact eX7_hide_32 hs (pk_le (y + phg P k) l (fun c => absurd c (by omega)) (fun _ => next a ha))
  · rintro l v m' hl hl2 - next a ha
    refine eX7_hide_42 hs ?_
    rw [nI_1]
    exact pk_le (x + pwd P k) (x + pwd P k) (fun _ => next a ha) (fun c => absurd c (by omega))
  · rintro l q v m' hl hl2 hq hq2 hv ⟨hF, hI⟩ next a ha
    have hc : 16 * l + q < 128 := by omega
    have hT := top_le hV (16 * l + q)
    have et : m' (s + 1) (16 * l + q) = tI (top P B (16 * l + q)) := by
      rw [hF _ (by omega)]
      exact hS.1 _ (by omega) (by omega)
    refine eX7_hide_42 hs (pk_le (x + pwd P k) q (fun c => absurd c (by omega)) (fun _ => s_cellAt ⟨pk_in (16 * l + q) 128 hc, ?_⟩))
    rw [nI_clamp (n := 16 * l + q) (by omega), nI_1, et]
    refine ⟨fun d => ?_, fun d => ?_⟩
    · rw [tI_0 _ (by omega)] at d
      have z1 : ∀ i, fs P B i (16 * l + q) = 0 := fun i => if_neg (by omega)
      have z2 : ∀ i, fm P B i (16 * l + q) = 0 := fun i => if_neg (by omega)
      refine next m' ⟨hF, fun i hi => ?_⟩ a (ha.cg fun i hi => ?_)
      · rw [smv_1 hc hv, smv_1 hc hv, z1, z2]
        simp only [Nat.add_zero]
        exact hI i hi
      · rw [smv_1 hc hv, z1]; simp only [Nat.add_zero]
    · rw [tI_0 _ (by omega)] at d
      rw [tI_s _ d]
      generalize ht : top P B (16 * l + q) - 1 = t at *
      have ht20 : t < 20 := by omega
      rw [nI_clamp (n := t) (by omega), nI_clamp (n := q) (by omega)]
      have y1 : fs P B t (16 * l + q) = 1 := if_pos (by omega)
      have y2 : fm P B t (16 * l + q) = pps P q := by
        show (if _ then pps P ((16 * l + q) % 16) else 0) = _
        rw [if_pos (by omega), show (16 * l + q) % 16 = q by omega]
      have z1 : ∀ i, i ≠ t → fs P B i (16 * l + q) = 0 := fun i hi => if_neg (by omega)
      have z2 : ∀ i, i ≠ t → fm P B i (16 * l + q) = 0 := fun i hi => if_neg (by omega)
      refine ⟨pk_in t 20 ht20, pk_in t 20 ht20, fun m3 e3 => ⟨pk_in t 20 ht20, pk_in q 16 (by omega), pk_in t 20 ht20, fun m4 e4 => ?_⟩⟩
      have hpp : m3 2 q = nI (pps P q) := by
        rw [e3, a_up_c _ _ (by omega), hF 2 (by omega)]
        exact hP.2.1 q (by omega)
      refine next m4 ⟨?_, fun i hi => ?_⟩ _ ((ha.or (isS_one (k := t) (by omega))).cg fun i hi => ?_)
      · rw [e4, e3]
        exact Fr.up (Fr.up hF (Or.inl rfl)) (Or.inr rfl)
      · obtain ⟨i1, i2⟩ := hI i hi
        have w1 : m4 (s + 4) i = if i = t then m' (s + 4) t + 1 else m' (s + 4) i := by
          rw [e4, a_up_c _ _ (by omega), e3, a_up_i]
        have w2 : m4 (s + 5) i = if i = t then m' (s + 5) t + nI (pps P q) else m' (s + 5) i := by
          rw [e4, a_up_i, hpp, e3, a_up_c _ _ (by omega)]
        rw [w1, w2, smv_1 hc hv, smv_1 hc hv]
        by_cases e : i = t
        · rw [if_pos e, if_pos e, ← e, i1, i2, e, y1, y2, nI_1, nI_add]
          exact ⟨rfl, rfl⟩
        · rw [if_neg e, if_neg e, z1 i e, z2 i e]
          simp only [Nat.add_zero]
          exact ⟨i1, i2⟩
      · rw [smv_1 hc hv]
        by_cases e : i = t
        · rw [e, y1, decide_eq_true (rfl : t = t), decide_eq_true ht20, Bool.or_true, decide_eq_true (by omega : smv v (fs P B t) + 1 ≠ 0)]; rfl
        · rw [z1 i e, decide_eq_false e, Bool.or_false]; simp only [Nat.add_zero]
  · rintro m' ⟨hF, hI⟩ a ha
    exact eX7_hide_32 hs (pk_le (y + phg P k) (y + phg P k) (fun _ => qI (h a m' ha hF hI)) (fun c => absurd c (by omega)))
  · rw [smv_0, smv_0]
    exact hL i hi
end HIDE
