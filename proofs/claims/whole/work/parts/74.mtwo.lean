/-! ===== the model's best two, rivals ===== -/
def fiB (B : BT) (f : Nat → Int32) : BT := (bn B, bty B, bkd B, bco B, bro B, bdy B, bon B, btn B, f, bsd B)
theorem wor_fi (P : PT) (B : BT) (f : Nat → Int32) (q : Nat) : wor P (fiB B f) q = wor P B q := rfl
theorem wN_fi (P : PT) (B : BT) (f : Nat → Int32) (k x y : Nat) : ∀ n, wN P (fiB B f) k x y n = wN P B k x y n
  | 0 => rfl
  | n + 1 => by
    rw [wN_s, wN_s, wN_fi P B f k x y n]
    rfl
theorem wga_fi (P : PT) (B : BT) (f : Nat → Int32) (k x y : Nat) : wga P (fiB B f) k x y = wga P B k x y := by
  show (wN P (fiB B f) k x y (bn B)).1 - (wN P (fiB B f) k x y (bn B)).2 = _
  rw [wN_fi]; rfl
theorem bN_fi (P : PT) (B : BT) (f : Nat → Int32) (k : Nat) : ∀ n, bN P (fiB B f) k n = bN P B k n
  | 0 => rfl
  | n + 1 => by
    rw [bN_s, bN_s, bN_fi P B f k n]
    unfold bst
    rw [wga_fi]
theorem fi_self (B : BT) : fiB B (bfi B) = B := rfl
/-- the running best of two, as the model holds it -/
def tI2 : U2 → Int32
  | none => -1
  | some (_, x, y, x2, y2) => nI (128 * (16 * y + x) + (16 * y2 + x2))
def tG2 : U2 → Int32
  | none => 0
  | some (g, _) => g
def ok2 : U2 → Prop
  | none => True
  | some (_, x, y, x2, y2) => x < 16 ∧ y < 8 ∧ x2 < 16 ∧ y2 < 8
/-- the model's kept fields -/
def GT (m m' : Nat → Nat → Int32) : Prop := Fr (fun c => c = 77 ∨ c = 78 ∨ (87 ≤ c ∧ c ≤ 89)) m m' ∧ (∀ i, i ≠ 33 → i ≠ 34 → i ≠ 35 → m' 77 i = m 77 i) ∧ ∀ i, (i < 200 ∨ 400 ≤ i) → m' 78 i = m 78 i
theorem GT.rf {m : Nat → Nat → Int32} : GT m m := ⟨Fr.rf, fun _ _ _ _ => rfl, fun _ _ => rfl⟩
theorem GT.tr {m m1 m2 : Nat → Nat → Int32} (h : GT m m1) (h2 : GT m1 m2) : GT m m2 := ⟨h.1.tr h2.1, fun i a b c => (h2.2.1 i a b c).trans (h.2.1 i a b c), fun i hi => (h2.2.2 i hi).trans (h.2.2 i hi)⟩
theorem GB.gt {m m' : Nat → Nat → Int32} (h : GB 200 m m') : GT m m' := ⟨h.1, fun i a b _ => h.2.1 i a b, fun i hi => h.2.2 i (by omega)⟩
theorem G78.gt {m m' : Nat → Nat → Int32} (h : G78 200 m m') : GT m m' := ⟨h.1.mono fun c hc => Or.inr hc, fun i _ _ _ => by rw [h.1 77 (by omega)], fun i hi => h.2 i (by omega)⟩
theorem MP.gt {m m' : Nat → Nat → Int32} {P : PT} (h : MP m P) (g : GT m m') : MP m' P := h.fr ⟨g.2.1 5 (by omega) (by omega) (by omega), g.2.1 9 (by omega) (by omega) (by omega)⟩ fun c h1 h2 => g.1 c (by omega)
theorem PM_v {m : Nat → Nat → Int32} {u : UT} (h : PM m u) : (u = none ∧ m 77 33 = -1) ∨ ∃ g x y, u = some (g, x, y) ∧ m 77 33 = nI (16 * y + x) ∧ x < 16 ∧ y < 8 ∧ m 77 34 = g := by
  cases u with
  | none => exact Or.inl ⟨rfl, h⟩
  | some v =>
    obtain ⟨g, x, y⟩ := v
    exact Or.inr ⟨g, x, y, rfl, h.1.1, h.1.2.1, h.1.2.2, h.2⟩
section MTWO
variable {X : a_X} {m : Nat → Nat → Int32} {P : PT} {B : BT}
theorem s_mturn {Q : (Nat → Nat → Int32) → Prop} {k n : Nat} {f : Nat → Int32} (hM : MP m P) (hVP : VP P) (hB : MB m 200 (fiB B f)) (hV : VB P B) (hk : k < pn P 6) (hn : m 77 35 = nI n) (h : ∀ m' f', GT m m' → MB m' 200 (fiB (turn P k (B, n)).1 f') → m' 77 35 = nI (turn P k (B, n)).2 → Q m') : CallV X mX9_takeTurn [.ref 77, .int (nI k)] m Q := by
  have hn20 := hV.1
  have b1 : m 78 380 = nI (bn B) := hB.1
  unfold turn at h
  dsimp only at h
  refine eX9_takeTurn_0 ⟨pk_in 380 800 (by omega), ?_⟩
  rw [show Int32.toNatClampNeg 380 = 380 from rfl, b1]
  refine pk_le 20 (bn B) (fun c => ?_) (fun c => ?_)
  · rw [if_pos c] at h
    exact qV (h m f GT.rf hB hn)
  · rw [if_neg (by omega)] at h
    refine s_mfindBest (r := 200) (B := fiB B f) hM hVP hB hV (by omega) c hk fun m1 g1 B1 p1 => ?_
    rw [bN_fi] at p1
    have n1 : m1 77 35 = nI n := by rw [g1.2.1 35 (by omega) (by omega)]; exact hn
    rcases PM_v p1 with ⟨eu, q⟩ | ⟨g, x, y, eu, q, hx, hy, q2⟩
    · rw [eu] at h
      rw [q]
      exact ⟨fun _ => qV (h m1 f g1.gt B1 n1), fun d => absurd (show (-1 : Int32) < 0 by decide) d⟩
    · obtain ⟨c, hc, ev, hcx, hcy, -⟩ := bN_ok eu
      rw [eu] at h
      dsimp only at h
      cases ev
      rw [q, q2, show (16 : Int32) = nI 16 from rfl, rem_nI (by omega) (by omega) (by omega), pk_div (by omega) (by omega) (by omega), show (16 * (c / 16) + c % 16) % 16 = c % 16 by omega, show (16 * (c / 16) + c % 16) / 16 = c / 16 by omega]
      refine ⟨fun d => absurd d (nI_pos (by omega)), fun _ => ⟨fun d => ?_, fun d => ?_⟩⟩
      · rw [if_pos d] at h
        exact qV (h m1 f g1.gt B1 n1)
      · rw [if_neg d] at h
        refine s_lay (r := 200) (B := fiB B f) (hM.gb g1) hVP B1 hV (by omega) (show bn B < 20 by omega) hk hcx hcy fun m2 g2 B2 m3 e3 => qV ?_
        have n2 : m2 77 35 = nI n := by rw [g2.1 77 (by omega)]; exact n1
        rw [n2, nI_1] at e3
        refine h m3 _ ((g1.gt.tr g2.gt).tr ⟨e3 ▸ Fr.up Fr.rf (by omega), fun i a b c => by rw [e3, a_up_n _ _ (Or.inr c)], fun i hi => by rw [e3, a_up_c _ _ (by omega)]⟩) (B2.f78 (by rw [e3, a_up_c _ _ (by omega)])) (by rw [e3, a_up_s])
theorem be2_v {u : U2} {g : Int32} {x y x2 y2 : Nat} (h : ok2 u) (hx : x < 16) (hy : y < 8) (hx2 : x2 < 16) (hy2 : y2 < 8) : ok2 (be2 u (g, x, y, x2, y2)) := by
  cases u with
  | none => exact ⟨hx, hy, hx2, hy2⟩
  | some v =>
    unfold be2
    dsimp only
    split
    · exact ⟨hx, hy, hx2, hy2⟩
    · exact h
theorem s_mtwoLoop {Q : Int32 → (Nat → Nat → Int32) → Prop} {k j w : Nat} (hM : MP m P) (hVP : VP P) (hB : MB m 200 B) (hV : VB P B) (hn : bn B ≤ 18) (hk : k < pn P 6) (hj : j < pn P 6) (hw : w < 5) (h : ∀ m', GT m m' → Q (match tN P B k j 128 with
  | none => NOT
  | some v => if nI w = 0 then nI v.2.1 else if nI w = 1 then nI v.2.2.1 else if nI w = 2 then nI v.2.2.2.1 else if nI w = 3 then nI v.2.2.2.2 else v.1) m') : Wp X mX9_two 97 [some (.ref 77), some (.int (nI k)), some (.int (nI j)), some (.int (nI w)), some (.int (nI (wor P B (pow P k)))), some (.int (-1)), some (.int 0), some (.int 0), none, none, none] [] m (QI Q) := by
  have h6 := hVP.2.2.2.2.2.2.1
  have ho := (hVP.2.2.2.2.2.2.2.2 k hk).1
  refine lpf (a := 0) (b := 128) (m := m) (by omega) (I := fun c m' => GT m m' ∧ MB m' 200 B ∧ ok2 (tN P B k j c)) (W := fun c m' => Wp X mX9_two 97 [some (.ref 77), some (.int (nI k)), some (.int (nI j)), some (.int (nI w)), some (.int (nI (wor P B (pow P k)))), some (.int (tI2 (tN P B k j c))), some (.int (tG2 (tN P B k j c))), some (.int (nI c)), none, none, none] [] m' (QI Q)) ?_ ?_ ⟨GT.rf, hB, trivial⟩
  · rintro c - hc m1 ⟨g1, B1, ok⟩ next
    have M1 := hM.gt g1
    rw [tN_s] at next
    generalize tN P B k j c = u at *
    refine eX9_two_97 (pk_le 128 c (fun d => absurd d (by omega)) (fun _ => s_isPlace M1 hVP hk hc ?_))
    rw [nI_1, show (16 : Int32) = nI 16 from rfl, rem_nI (by omega) (by omega) (by omega), pk_div (by omega) (by omega) (by omega)]
    unfold tst at next
    by_cases pl : plc P k c
    · rw [if_pos pl] at next
      rw [decide_eq_true pl]
      refine ⟨fun z => absurd z (by decide), fun _ => s_lay (r := 200) M1 hVP B1 hV (by omega) (show bn B < 20 by omega) hk pl.1 pl.2.1 fun m4 g4 B4 => ⟨pk_in k 24 (by omega), ?_⟩⟩
      have M4 := M1.g g4
      have V4 : VB P (finB (hangB B k (c % 16) (c / 16)) (pow P k) (wdu P B k (c % 16) (c / 16))) := hV.hang (by omega) hk pl.1 pl.2.1
      rw [nI_clamp (n := k) (by omega), (M4.2.2.2.2.2 k hk).1]
      refine s_mworthOf (r := 200) M4 hVP B4 V4 (by omega) ho fun m5 f5 => ?_
      rw [wor_fin]
      have M5 : MP m5 P := M4.fs fun d hd => f5 d (by omega)
      refine s_mfindBest (r := 200) M5 hVP (B4.f78 (f5 78 (by omega))) V4 (by omega) (show bn B + 1 < 20 by omega) hj fun m7 g7 B7 p7 => ?_
      rw [bN_fin] at p7
      refine s_undo (r := 200) (M5.gb g7) hVP B7 hV (by omega) (show bn B < 20 by omega) hk fun m8 g8 B8 => ?_
      rw [gain_eq hVP pl.1 pl.2.1]
      have G8 : GT m m8 := (((g1.tr g4.gt).tr ⟨f5.mono fun c hc => by omega, fun i _ _ _ => by rw [f5 77 (by omega)], fun i hi => by rw [f5 78 (by omega)]⟩).tr g7.gt).tr g8.gt
      have e33 : m8 77 33 = m7 77 33 := by rw [g8.1 77 (by omega)]
      rw [e33]
      rcases PM_v p7 with ⟨eu, q⟩ | ⟨g, x, y, eu, q, hx, hy, q2⟩
      · rw [eu] at next
        rw [q]
        exact ⟨fun _ => next m8 ⟨G8, B8, ok⟩, fun d => absurd (show (-1 : Int32) < 0 by decide) d⟩
      · rw [eu] at next
        have next : ∀ m', (GT m m' ∧ MB m' 200 B ∧ ok2 (be2 u (wga P B k (c % 16) (c / 16) + g, c % 16, c / 16, x, y))) → Wp X mX9_two 97 [some (.ref 77), some (.int (nI k)), some (.int (nI j)), some (.int (nI w)), some (.int (nI (wor P B (pow P k)))), some (.int (tI2 (be2 u (wga P B k (c % 16) (c / 16) + g, c % 16, c / 16, x, y)))), some (.int (tG2 (be2 u (wga P B k (c % 16) (c / 16) + g, c % 16, c / 16, x, y)))), some (.int (nI (c + 1))), none, none, none] [] m' (QI Q) := next
        have nx := next m8 ⟨G8, B8, be2_v ok (by omega) (by omega) hx hy⟩
        rw [q, q2, show (128 : Int32) = nI 128 from rfl, pk_mul, nI_add]
        refine ⟨fun d => absurd d (nI_pos (by omega)), fun _ => ?_⟩
        have e16 : 16 * (c / 16) + c % 16 = c := by omega
        have tset : ∀ g', tI2 (some (g', c % 16, c / 16, x, y)) = nI (128 * c + (16 * y + x)) := fun g' => by
          show nI (128 * (16 * (c / 16) + c % 16) + (16 * y + x)) = _
          rw [e16]
        cases u with
        | none =>
          refine ⟨fun _ => ?_, fun d => absurd (show (-1 : Int32) < 0 by decide) d⟩
          have z : be2 none (wga P B k (c % 16) (c / 16) + g, c % 16, c / 16, x, y) = some (wga P B k (c % 16) (c / 16) + g, c % 16, c / 16, x, y) := rfl
          rw [z, tset] at nx
          exact nx
        | some v =>
          obtain ⟨g0, x0, y0, x2, y2⟩ := v
          obtain ⟨k1, k2, k3, k4⟩ := ok
          refine ⟨fun d => absurd d ?_, fun _ => Int32.le_lt (fun d => ?_) (fun d => ?_)⟩
          · show ¬ nI (128 * (16 * y0 + x0) + (16 * y2 + x2)) < 0
            exact nI_pos (by omega)
          · have z : be2 (some (g0, x0, y0, x2, y2)) (wga P B k (c % 16) (c / 16) + g, c % 16, c / 16, x, y) = some (g0, x0, y0, x2, y2) := if_neg d
            rw [z] at nx
            exact nx
          · have z : be2 (some (g0, x0, y0, x2, y2)) (wga P B k (c % 16) (c / 16) + g, c % 16, c / 16, x, y) = some (wga P B k (c % 16) (c / 16) + g, c % 16, c / 16, x, y) := if_pos d
            rw [z, tset] at nx
            exact nx
    · rw [if_neg pl] at next
      rw [decide_eq_false pl]
      exact ⟨fun _ => next m1 ⟨g1, B1, ok⟩, fun d => absurd rfl d⟩
  · rintro m1 ⟨g1, B1, ok⟩
    have h := h m1 g1
    generalize tN P B k j 128 = u at *
    refine eX9_two_97 (pk_le 128 128 (fun _ => ?_) (fun d => absurd d (by omega)))
    cases u with
    | none => exact ⟨fun d => absurd d (by decide), fun _ => qI h⟩
    | some v =>
      obtain ⟨g0, x0, y0, x2, y2⟩ := v
      obtain ⟨k1, k2, k3, k4⟩ := ok
      dsimp only at h
      show (0 ≤ nI (128 * (16 * y0 + x0) + (16 * y2 + x2)) → _) ∧ _
      have hF : 128 * (16 * y0 + x0) + (16 * y2 + x2) < 2 ^ 31 := by omega
      refine ⟨fun _ => ?_, fun d => absurd (nI_pos' hF) d⟩
      have r128 : a_rem (nI (128 * (16 * y0 + x0) + (16 * y2 + x2))) 128 = nI (16 * y2 + x2) := by
        rw [show (128 : Int32) = nI 128 from rfl, rem_nI hF (by omega) (by omega)]
        congr 1
        omega
      have d128 : nI (128 * (16 * y0 + x0) + (16 * y2 + x2)) / 128 = nI (16 * y0 + x0) := by
        rw [show (128 : Int32) = nI 128 from rfl, pk_div hF (by omega) (by omega)]
        congr 1
        omega
      have c16 : (16 : Int32) = nI 16 := rfl
      have r1 : a_rem (nI (16 * y2 + x2)) 16 = nI x2 := by rw [c16, rem_nI (by omega) (by omega) (by omega)]; congr 1; omega
      have r2 : nI (16 * y2 + x2) / 16 = nI y2 := by rw [c16, pk_div (by omega) (by omega) (by omega)]; congr 1; omega
      have r3 : a_rem (nI (16 * y0 + x0)) 16 = nI x0 := by rw [c16, rem_nI (by omega) (by omega) (by omega)]; congr 1; omega
      have r4 : nI (16 * y0 + x0) / 16 = nI y0 := by rw [c16, pk_div (by omega) (by omega) (by omega)]; congr 1; omega
      have e5 : tI2 (some (g0, x0, y0, x2, y2)) = nI (128 * (16 * y0 + x0) + (16 * y2 + x2)) := rfl
      rw [e5, r128, d128, r1, r2, r3, r4]
      rcases (by omega : w = 0 ∨ w = 1 ∨ w = 2 ∨ w = 3 ∨ w = 4) with q | q | q | q | q <;> subst q
      · exact ⟨fun d => absurd d (by decide), fun _ => ⟨fun _ => ⟨fun d => absurd (by decide) d, fun _ => qI h⟩, fun d => absurd d (by decide)⟩⟩
      · exact ⟨fun d => absurd d (by decide), fun _ => ⟨fun _ => ⟨fun _ => qI h, fun d => absurd d (by decide)⟩, fun d => absurd d (by decide)⟩⟩
      · exact ⟨fun _ => ⟨fun _ => ⟨fun d => absurd (by decide) d, fun _ => qI h⟩, fun d => absurd d (by decide)⟩, fun d => absurd (by decide) d⟩
      · exact ⟨fun _ => ⟨fun _ => ⟨fun _ => qI h, fun d => absurd d (by decide)⟩, fun d => absurd d (by decide)⟩, fun d => absurd (by decide) d⟩
      · exact ⟨fun _ => ⟨fun d => absurd (by decide) d, fun _ => qI h⟩, fun d => absurd (by decide) d⟩
theorem s_mrivLoop {Q : Int32 → (Nat → Nat → Int32) → Prop} {k j n : Nat} {x : Int32} {f : Nat → Int32} (hM : MP m P) (hVP : VP P) (hB : MB m 200 (fiB B f)) (hV : VB P B) (hk : k < pn P 6) (hj : j < pn P 6) (hn : n < 13) (h0 : m 77 35 = 0) (h : ∀ m', GT m m' → Q (if x = 0 then nI (wor P (cN P k j n (B, 0)).1 (pow P k)) else if x = 2 then nI (cN P k j n (B, 0)).2 else nI (wor P (cN P k j n (B, 0)).1 (pow P j))) m') : Wp X mX9_rivals 63 [some (.ref 77), some (.int (nI k)), some (.int (nI j)), some (.int (nI n)), some (.int x), some (.int 0)] [] m (QI Q) := by
  have h6 := hVP.2.2.2.2.2.2.1
  have hVn : ∀ i, VB P (cN P k j i (B, 0)).1 := v_cN hV hk hj
  refine lpf (a := 0) (b := n) (m := m) (by omega) (I := fun i m' => GT m m' ∧ (∃ f', MB m' 200 (fiB (cN P k j i (B, 0)).1 f')) ∧ m' 77 35 = nI (cN P k j i (B, 0)).2) (W := fun i m' => Wp X mX9_rivals 63 [some (.ref 77), some (.int (nI k)), some (.int (nI j)), some (.int (nI n)), some (.int x), some (.int (nI i))] [] m' (QI Q)) ?_ ?_ ⟨GT.rf, ⟨f, hB⟩, h0⟩
  · rintro i - hi m1 ⟨g1, ⟨f1, B1⟩, n1⟩ next
    have hv := hVn i
    rw [cN_s] at next
    generalize cN P k j i (B, 0) = s at *
    obtain ⟨B3, c3⟩ := s
    dsimp only at *
    refine eX9_rivals_63 (pk_le n i (fun c => absurd c (by omega)) fun _ => ?_)
    refine s_mturn (hM.gt g1) hVP B1 hv hk n1 fun m2 f2 g2 B2 n2 => ?_
    have hv4 : VB P (turn P k (B3, c3)).1 := v_turn (s := (B3, c3)) hv hk
    generalize turn P k (B3, c3) = s4 at *
    obtain ⟨B4, c4⟩ := s4
    dsimp only at *
    refine s_mturn ((hM.gt g1).gt g2) hVP B2 hv4 hj n2 fun m3 f3 g3 B3' n3 => ?_
    rw [show Int32.toNatClampNeg 381 = 381 from rfl, nI_1]
    refine ⟨pk_in 381 800 (by omega), pk_in 381 800 (by omega), fun m4 e4 => next m4 ⟨((g1.tr g2).tr g3).tr ⟨e4 ▸ Fr.up Fr.rf (by omega), fun i a b c => by rw [e4, a_up_c _ _ (by omega)], fun i hi => by rw [e4, a_up_n _ _ (Or.inr (by omega))]⟩, ⟨f3, ?_⟩, by rw [e4, a_up_c _ _ (by omega)]; exact n3⟩⟩
    obtain ⟨b1, b2, b3, b4, b5⟩ := B3'
    have hv5 : bn (turn P j (B4, c4)).1 ≤ 20 := (v_turn (s := (B4, c4)) hv4 hj).1
    have z : ∀ i, i ≠ 381 → m4 78 i = m3 78 i := fun i hi => by rw [e4, a_up_n _ _ (Or.inr hi)]
    refine ⟨by rw [z _ (by omega)]; exact b1, ?_, by rw [z _ (by omega)]; exact b3, fun i hi => ?_, fun o ho => by rw [z _ (by omega)]; exact b5 o ho⟩
    · rw [e4, a_up_s, show m3 78 381 = bty (turn P j (B4, c4)).1 from b2]; rfl
    · have hi : i < bn (turn P j (B4, c4)).1 := hi
      obtain ⟨a1, a2, a3, a4, a5, a6⟩ := b4 i hi
      exact ⟨by rw [z _ (by omega)]; exact a1, by rw [z _ (by omega)]; exact a2, by rw [z _ (by omega)]; exact a3, by rw [z _ (by omega)]; exact a4, by rw [z _ (by omega)]; exact a5, fun c hc => by rw [z _ (by omega)]; exact a6 c hc⟩
  · rintro m1 ⟨g1, ⟨f1, B1⟩, n1⟩
    have M1 := hM.gt g1
    have hv := hVn n
    generalize cN P k j n (B, 0) = s at *
    have w : ∀ a, a < pn P 6 → (∀ m', GT m m' → Q (nI (wor P s.1 (pow P a))) m') → vp_in (nI a) 24 ∧ CallI X mX9_worthOf [.ref 77, .int 200, .int (m1 83 (Int32.toNatClampNeg (nI a)))] m1 (fun v2 m1 => (QI Q) (some (.int v2)) m1) := fun a ha hq => by
      rw [nI_clamp (n := a) (by omega), (M1.2.2.2.2.2 a ha).1]
      refine ⟨pk_in a 24 (by omega), s_mworthOf (r := 200) (B := fiB s.1 f1) M1 hVP B1 hv (by omega) (hVP.2.2.2.2.2.2.2.2 a ha).1 fun m2 f2 => qI ?_⟩
      rw [wor_fi]
      exact hq m2 (g1.tr ⟨f2.mono fun c hc => by omega, fun i _ _ _ => by rw [f2 77 (by omega)], fun i hi => by rw [f2 78 (by omega)]⟩)
    refine eX9_rivals_63 (pk_le n n (fun _ => ⟨fun c => ⟨fun c2 => w j hj fun m' g => ?_, fun c2 => w k hk fun m' g => ?_⟩, fun c => ?_⟩) fun c => absurd c (by omega))
    · have h := h m' g
      rw [if_neg c2, if_neg c] at h
      exact h
    · have h := h m' g
      rw [if_pos c2] at h
      exact h
    · have h := h m1 g1
      subst c
      rw [n1]
      exact qI h
end MTWO
