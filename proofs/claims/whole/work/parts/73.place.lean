/-! ===== the model's places ===== -/
section PLACE
variable {X : a_X} {m : Nat → Nat → Int32} {P : PT} {B : BT} {r : Nat} {Q : Int32 → (Nat → Nat → Int32) → Prop}
theorem s_isWithin {k : Nat} {x y : Int32} (hM : MP m P) (hV : VP P) (hk : k < pn P 6) (h : Q (bI (fit P k x y)) m) : CallI X mX9_isWithin [.ref 77, .int (nI k), .int x, .int y] m Q := by
  obtain ⟨⟨-, h0⟩, ⟨-, h1⟩, -, -, -, -, h6, -, hK⟩ := hV
  obtain ⟨-, hw, hh⟩ := hK k hk
  obtain ⟨-, ew, eh⟩ := hM.2.2.2.2.2 k hk
  unfold fit at h
  refine eX9_isWithin_0 ⟨fun c => ?_, fun c => ⟨fun d => ?_, fun d => ⟨pk_in 0 10 (by omega), pk_in k 24 (by omega), ?_⟩⟩⟩
  · rw [ink_n c, Bool.false_and] at h; exact qI h
  · rw [ink_n d, Bool.and_false] at h; exact qI h
  · rw [nI_clamp (n := k) (by omega), show Int32.toNatClampNeg 0 = 0 from rfl, show Int32.toNatClampNeg 1 = 1 from rfl]
    refine ink_s (n := pn P 0 - pwd P k) c (by rw [hM.1 0 (by omega), ew, pk_sub hw.2]) (by omega) (fun e => ?_) (fun e => ⟨pk_in 1 10 (by omega), pk_in k 24 (by omega), ?_⟩)
    · rw [e, Bool.false_and] at h; exact qI h
    · refine ink_s (n := pn P 1 - phg P k) d (by rw [hM.1 1 (by omega), eh, pk_sub hh.2]) (by omega) (fun f => ?_) (fun f => ?_)
      · rw [e, f] at h; exact qI h
      · rw [e, f] at h; exact qI h
theorem s_isClear {k x y : Nat} (hM : MP m P) (hV : VP P) (hk : k < pn P 6) (hx : x ≤ 1000) (hy : y ≤ 1000) (h : Q (bI (!bar P k x y)) m) : CallI X mX9_isClear [.ref 77, .int (nI k), .int (nI x), .int (nI y)] m Q := by
  refine eX9_isClear_0 ?_
  refine lpf (a := 0) (b := 128) (m := m) (by omega) (I := fun c m' => m = m') (W := fun c m' => Wp X mX9_isClear 6 [some (.ref 77), some (.int (nI k)), some (.int (nI x)), some (.int (nI y)), some (.int (bI (!ex (fun c => rch P k x y c && pbr P c) c))), some (.int (nI c))] [] m' (QI Q)) ?_ ?_ rfl
  · rintro c - hc _ rfl next
    have nx := next _ rfl
    rw [ex_s] at nx
    refine eX9_isClear_6 (pk_le 128 c (fun d => absurd d (by omega)) (fun _ => ?_))
    rw [nI_1, nI_clamp (n := c) (by omega), hM.2.2.2.2.1 c hc]
    generalize ex (fun c => rch P k x y c && pbr P c) c = e at *
    refine ⟨fun z => ?_, fun z => ⟨pk_in c 256 (by omega), fun y1 => ?_, fun y1 => ?_⟩⟩
    · rw [bI_0, Bool.not_eq_false'] at z
      rw [z, Bool.or_true] at nx
      exact nx
    · rw [bI_n0, Bool.not_eq_true'] at z
      rw [bI_0] at y1
      rw [z, y1, Bool.and_false] at nx
      exact nx
    · rw [bI_n0, Bool.not_eq_true'] at z
      rw [bI_n0] at y1
      rw [z, y1, Bool.and_true, Bool.or_false] at nx
      refine s_reaches hM hV hk hx hy hc ⟨fun w => ?_, fun w => ?_⟩
      · rw [bI_n0] at w
        rw [w] at nx; exact nx
      · rw [bI_0] at w
        rw [w] at nx; exact nx
  · rintro _ rfl
    refine eX9_isClear_6 (pk_le 128 128 (fun _ => ⟨?_, qI h⟩) (fun d => absurd d (by omega)))
    cases ex (fun c => rch P k x y c && pbr P c) 128 <;> rfl
theorem fit_nat {k x y : Nat} (hV : VP P) (hk : k < pn P 6) (hx : x ≤ 1000) (hy : y ≤ 1000) : fit P k (nI x) (nI y) = decide (x + pwd P k ≤ pn P 0 ∧ y + phg P k ≤ pn P 1) := by
  have h0 := hV.1
  have h1 := hV.2.1
  obtain ⟨hw, hh⟩ := (hV.2.2.2.2.2.2.2.2 k hk).2
  unfold fit
  by_cases a : x + pwd P k ≤ pn P 0
  · rw [ink_nI (j := x) (by omega) (by omega), Bool.true_and]
    by_cases b : y + phg P k ≤ pn P 1
    · rw [ink_nI (j := y) (by omega) (by omega), decide_eq_true ⟨a, b⟩]
    · rw [ink_f (by omega) (by omega), decide_eq_false fun q => b q.2]
  · rw [ink_f (by omega) (by omega), Bool.false_and, decide_eq_false fun q => a q.1]
theorem s_isPlace {k c : Nat} (hM : MP m P) (hV : VP P) (hk : k < pn P 6) (hc : c < 128) (h : Q (bI (decide (plc P k c))) m) : CallI X mX9_isPlace [.ref 77, .int (nI k), .int (nI c)] m Q := by
  refine eX9_isPlace_0 ?_
  rw [show (16 : Int32) = nI 16 from rfl, rem_nI (by omega) (by omega) (by omega), pk_div (by omega) (by omega) (by omega)]
  refine s_isWithin hM hV hk ?_
  rw [fit_nat hV hk (by omega) (by omega)]
  refine ⟨fun z => ?_, fun z => s_isClear hM hV hk (by omega) (by omega) ⟨fun y => ?_, fun y => ?_⟩⟩
  · rw [bI_0] at z
    have z := of_decide_eq_false z
    rw [decide_eq_false fun q => z ⟨q.1, q.2.1⟩] at h
    exact qI h
  · rw [bI_0, Bool.not_eq_false'] at y
    rw [decide_eq_false fun q => by have q := q.2.2; rw [y] at q; cases q] at h
    exact qI h
  · rw [bI_n0] at z
    rw [bI_n0, Bool.not_eq_true'] at y
    have z := of_decide_eq_true z
    rw [decide_eq_true ⟨z.1, z.2, y⟩] at h
    exact qI h
/-- the best cell as the model holds it -/
def PM (m : Nat → Nat → Int32) : UT → Prop
  | none => m 77 33 = -1
  | some (g, x, y) => (m 77 33 = nI (16 * y + x) ∧ x < 16 ∧ y < 8) ∧ m 77 34 = g
def GB (r : Nat) (m m' : Nat → Nat → Int32) : Prop := Fr (fun c => c = 77 ∨ c = 78 ∨ (87 ≤ c ∧ c ≤ 89)) m m' ∧ (∀ i, i ≠ 33 → i ≠ 34 → m' 77 i = m 77 i) ∧ ∀ i, (i < r ∨ r + 200 ≤ i) → m' 78 i = m 78 i
theorem GB.rf {r : Nat} {m : Nat → Nat → Int32} : GB r m m := ⟨Fr.rf, fun _ _ _ => rfl, fun _ _ => rfl⟩
theorem GB.tr {m1 m2 : Nat → Nat → Int32} (h : GB r m m1) (h2 : GB r m1 m2) : GB r m m2 := ⟨h.1.tr h2.1, fun i a b => (h2.2.1 i a b).trans (h.2.1 i a b), fun i hi => (h2.2.2 i hi).trans (h.2.2 i hi)⟩
theorem GB.g {m1 m2 : Nat → Nat → Int32} (h : GB r m m1) (g : G78 r m1 m2) : GB r m m2 := ⟨h.1.tr (g.1.mono fun c hc => Or.inr hc), fun i a b => by rw [g.1 77 (by omega)]; exact h.2.1 i a b, fun i hi => (g.2 i hi).trans (h.2.2 i hi)⟩
theorem GB.up {m1 m2 : Nat → Nat → Int32} {i : Nat} {v : Int32} (h : GB r m m1) (e : m2 = a_up m1 77 i v) (hi : i = 33 ∨ i = 34) : GB r m m2 := ⟨by rw [e]; exact Fr.up h.1 (Or.inl rfl), fun j a b => by rw [e, a_up_n _ _ (Or.inr (by omega))]; exact h.2.1 j a b, fun j hj => by rw [e, a_up_c _ _ (by omega)]; exact h.2.2 j hj⟩
theorem GB.s {m1 m2 : Nat → Nat → Int32} (h : GB r m m1) (f : Fr (fun c => c = 87 ∨ c = 88) m1 m2) : GB r m m2 := ⟨h.1.tr (f.mono fun c hc => by omega), fun i a b => by rw [f 77 (by omega)]; exact h.2.1 i a b, fun i hi => by rw [f 78 (by omega)]; exact h.2.2 i hi⟩
theorem MP.gb {m' : Nat → Nat → Int32} (h : MP m P) (g : GB r m m') : MP m' P := h.fr ⟨g.2.1 5 (by omega) (by omega), g.2.1 9 (by omega) (by omega)⟩ fun c h1 h2 => g.1 c (by omega)
theorem PM.fr {m' : Nat → Nat → Int32} {u : UT} (h : PM m u) (e3 : m' 77 = m 77) : PM m' u := by
  cases u with
  | none => exact (congrFun e3 33).trans h
  | some v => obtain ⟨g, x, y⟩ := v; unfold PM at h ⊢; rw [e3]; exact h
theorem s_mfindBest {Q : (Nat → Nat → Int32) → Prop} {k : Nat} (hM : MP m P) (hVP : VP P) (hB : MB m r B) (hV : VB P B) (hr : r ≤ 600) (hn : bn B < 20) (hk : k < pn P 6) (h : ∀ m', GB r m m' → MB m' r B → PM m' (bN P B k 128) → Q m') : CallV X mX9_findBest [.ref 77, .int (nI r), .int (nI k)] m Q := by
  have h6 := hVP.2.2.2.2.2.2.1
  have ho := (hVP.2.2.2.2.2.2.2.2 k hk).1
  refine eX9_findBest_0 fun m1 e1 => ?_
  have g1 : GB r m m1 := GB.rf.up e1 (Or.inl rfl)
  have M1 := hM.gb g1
  have B1 : MB m1 r B := hB.f78 (by rw [e1, a_up_c _ _ (by omega)])
  rw [nI_clamp (n := k) (by omega), (M1.2.2.2.2.2 k hk).1]
  refine ⟨pk_in k 24 (by omega), s_mworthOf M1 hVP B1 hV hr ho fun m2 f2 => ?_⟩
  refine lpf (a := 0) (b := 128) (m := m2) (by omega) (I := fun c m' => GB r m m' ∧ MB m' r B ∧ PM m' (bN P B k c)) (W := fun c m' => Wp X mX9_findBest 20 [some (.ref 77), some (.int (nI r)), some (.int (nI k)), some (.int (nI (wor P B (pow P k)))), some (.int (nI c)), none, none] [] m' (QV Q)) ?_ ?_ ⟨g1.s f2, B1.f78 (f2 78 (by omega)), by show m2 77 33 = -1; rw [f2 77 (by omega), e1, a_up_s]⟩
  · rintro c - hc m3 ⟨g3, B3, p3⟩ next
    have M3 := hM.gb g3
    refine eX9_findBest_20 (pk_le 128 c (fun d => absurd d (by omega)) (fun _ => s_isPlace M3 hVP hk hc ?_))
    rw [nI_1, show (16 : Int32) = nI 16 from rfl, rem_nI (by omega) (by omega) (by omega), pk_div (by omega) (by omega) (by omega)]
    rw [bN_s] at next
    generalize bN P B k c = u at *
    by_cases pl : plc P k c
    · rw [bst_p pl] at next
      rw [decide_eq_true pl]
      refine ⟨fun z => absurd z (by decide), fun _ => s_lay M3 hVP B3 hV hr hn hk pl.1 pl.2.1 fun m4 g4 B4 => ⟨pk_in k 24 (by omega), ?_⟩⟩
      have M4 := M3.g g4
      have V4 : VB P (finB (hangB B k (c % 16) (c / 16)) (pow P k) (wdu P B k (c % 16) (c / 16))) := hV.hang hn hk pl.1 pl.2.1
      rw [nI_clamp (n := k) (by omega), (M4.2.2.2.2.2 k hk).1]
      refine s_mworthOf M4 hVP B4 V4 hr ho fun m5 f5 => ?_
      rw [wor_fin]
      have M5 : MP m5 P := M4.fs fun d hd => f5 d (by omega)
      refine s_undo M5 hVP (B4.f78 (f5 78 (by omega))) hV hr hn hk fun m6 g6 B6 => ?_
      rw [gain_eq hVP pl.1 pl.2.1]
      have g36 : GB r m m6 := ((g3.g g4).s f5).g g6
      have p6 : PM m6 u := p3.fr (by rw [g6.1 77 (by omega), f5 77 (by omega), g4.1 77 (by omega)])
      have set : bet u (wga P B k (c % 16) (c / 16)) (c % 16) (c / 16) = some (wga P B k (c % 16) (c / 16), c % 16, c / 16) → ∀ m8, m8 = a_up m6 77 33 (nI c) → ∀ m9, m9 = a_up m8 77 34 (wga P B k (c % 16) (c / 16)) → Wp X mX9_findBest 20 [some (.ref 77), some (.int (nI r)), some (.int (nI k)), some (.int (nI (wor P B (pow P k)))), some (.int (nI (c + 1))), none, none] [] m9 (QV Q) := fun z m8 e8 m9 e9 => next m9 ⟨(g36.up e8 (Or.inl rfl)).up e9 (Or.inr rfl), B6.f78 (by rw [e9, a_up_c _ _ (by omega), e8, a_up_c _ _ (by omega)]), by
        rw [z]
        refine ⟨⟨?_, by omega, by omega⟩, by rw [e9, a_up_s]⟩
        rw [e9, a_up_n _ _ (Or.inr (by omega)), e8, a_up_s, show 16 * (c / 16) + c % 16 = c by omega]⟩
      cases u with
      | none =>
        have q : m6 77 33 = -1 := p6
        rw [q]
        exact ⟨fun _ => set rfl, fun d => absurd (show (-1 : Int32) < 0 by decide) d⟩
      | some v =>
        obtain ⟨g0, x0, y0⟩ := v
        obtain ⟨⟨q, qx, qy⟩, q2⟩ := p6
        rw [q, q2]
        refine ⟨fun d => absurd d (nI_pos (by omega)), fun _ => Int32.le_lt (fun d => ?_) (fun d => set (if_pos d))⟩
        have : bet (some (g0, x0, y0)) (wga P B k (c % 16) (c / 16)) (c % 16) (c / 16) = some (g0, x0, y0) := if_neg d
        rw [this] at next
        exact next m6 ⟨g36, B6, ⟨q, qx, qy⟩, q2⟩
    · rw [bst_n pl] at next
      rw [decide_eq_false pl]
      exact ⟨fun _ => next m3 ⟨g3, B3, p3⟩, fun d => absurd rfl d⟩
  · rintro m3 ⟨g3, B3, p3⟩
    exact eX9_findBest_20 (pk_le 128 128 (fun _ => qV (h m3 g3 B3 p3)) (fun d => absurd d (by omega)))
theorem s_copy {Q : (Nat → Nat → Int32) → Prop} {a b : Nat} (ha : a ≤ 600) (hb : b ≤ 600) (hd : a + 200 ≤ b ∨ b + 200 ≤ a) (h : ∀ m', Fr (fun c => c = 78) m m' → (∀ i, (i < b ∨ b + 200 ≤ i) → m' 78 i = m 78 i) → (∀ B, bn B ≤ 20 → MB m a B → MB m' b B) → Q m') : CallV X mX9_copy [.ref 77, .int (nI a), .int (nI b)] m Q := by
  refine eX9_copy_0 ?_
  refine lpf (a := 0) (b := 200) (m := m) (by omega) (I := fun i m' => Fr (fun c => c = 78) m m' ∧ (∀ j, (j < b ∨ b + i ≤ j) → m' 78 j = m 78 j) ∧ ∀ j, j < i → m' 78 (b + j) = m 78 (a + j)) (W := fun i m' => Wp X mX9_copy 2 [some (.ref 77), some (.int (nI a)), some (.int (nI b)), some (.int (nI i))] [] m' (QV Q)) ?_ ?_ ⟨Fr.rf, fun _ _ => rfl, fun j hj => by omega⟩
  · rintro i - hi m1 ⟨f1, k1, I1⟩ next
    refine eX9_copy_2 (pk_le 200 i (fun c => absurd c (by omega)) (fun _ => ?_))
    rw [nI_add, nI_add, nI_clamp (n := a + i) (by omega), nI_clamp (n := b + i) (by omega), k1 (a + i) (by omega), nI_1]
    refine ⟨pk_in (a + i) 800 (by omega), pk_in (b + i) 800 (by omega), fun m2 e2 => next m2 ⟨e2 ▸ Fr.up f1 rfl, fun j hj => ?_, fun j hj => ?_⟩⟩
    · rw [e2, a_up_n _ _ (Or.inr (by omega))]; exact k1 j (by omega)
    · rw [e2, a_up_i]
      by_cases e : j = i
      · rw [if_pos (by omega), e]
      · rw [if_neg (by omega)]; exact I1 j (by omega)
  · rintro m1 ⟨f1, k1, I1⟩
    refine eX9_copy_2 (pk_le 200 200 (fun _ => qV (h m1 f1 k1 fun B hn hB => ?_)) (fun c => absurd c (by omega)))
    obtain ⟨E1, E2, E3, E4, E5⟩ := hB
    refine ⟨by rw [I1 180 (by omega)]; exact E1, by rw [I1 181 (by omega)]; exact E2, by rw [I1 190 (by omega)]; exact E3, fun i hi => ?_, fun o ho => ?_⟩
    · obtain ⟨a1, a2, a3, a4, a5, a6⟩ := E4 i hi
      refine ⟨?_, ?_, ?_, ?_, ?_, fun c hc => ?_⟩
      · rw [I1 i (by omega)]; exact a1
      · rw [Nat.add_assoc b, I1 (20 + i) (by omega), ← Nat.add_assoc]; exact a2
      · rw [Nat.add_assoc b, I1 (40 + i) (by omega), ← Nat.add_assoc]; exact a3
      · rw [Nat.add_assoc b, I1 (60 + i) (by omega), ← Nat.add_assoc]; exact a4
      · rw [Nat.add_assoc b, I1 (80 + i) (by omega), ← Nat.add_assoc]; exact a5
      · have := a6 c hc
        rw [show b + 100 + 4 * i + c / 32 = b + (100 + 4 * i + c / 32) by omega, I1 (100 + 4 * i + c / 32) (by omega), show a + (100 + 4 * i + c / 32) = a + 100 + 4 * i + c / 32 by omega]
        exact this
    · rw [Nat.add_assoc b, I1 (182 + o) (by omega), ← Nat.add_assoc]; exact E5 o ho
end PLACE
