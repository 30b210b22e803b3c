/-! ===== the model lays one, and takes it back ===== -/
/-- only the row at r of the bills has changed, of 78 -/
def G78 (r : Nat) (m m' : Nat → Nat → Int32) : Prop := Fr (fun c => c = 78 ∨ (87 ≤ c ∧ c ≤ 89)) m m' ∧ ∀ i, (i < r ∨ r + 200 ≤ i) → m' 78 i = m 78 i
theorem G78.rf {r : Nat} {m : Nat → Nat → Int32} : G78 r m m := ⟨Fr.rf, fun _ _ => rfl⟩
theorem G78.tr {r : Nat} {m m1 m2 : Nat → Nat → Int32} (h : G78 r m m1) (h2 : G78 r m1 m2) : G78 r m m2 := ⟨h.1.tr h2.1, fun i hi => (h2.2 i hi).trans (h.2 i hi)⟩
theorem G78.up {r : Nat} {m m1 m2 : Nat → Nat → Int32} {i : Nat} {v : Int32} (h : G78 r m m1) (e : m2 = a_up m1 78 i v) (hi : r ≤ i ∧ i < r + 200) : G78 r m m2 := ⟨by rw [e]; exact Fr.up h.1 (Or.inl rfl), fun j hj => by rw [e, a_up_n _ _ (Or.inr (by omega))]; exact h.2 j hj⟩
theorem G78.s {r : Nat} {m m1 m2 : Nat → Nat → Int32} (h : G78 r m m1) (f : Fr (fun c => 87 ≤ c ∧ c ≤ 89) m1 m2) : G78 r m m2 := ⟨h.1.tr (f.mono fun c hc => Or.inr hc), fun i hi => by rw [f 78 (by omega)]; exact h.2 i hi⟩
theorem MP.g {r : Nat} {m m' : Nat → Nat → Int32} {P : PT} (h : MP m P) (g : G78 r m m') : MP m' P := h.fs fun c hc => g.1 c (by omega)
section LAY
variable {X : a_X} {m : Nat → Nat → Int32} {P : PT} {B : BT} {r : Nat} {Q : Int32 → (Nat → Nat → Int32) → Prop}
theorem s_lay {k x y : Nat} (hM : MP m P) (hVP : VP P) (hB : MB m r B) (hV : VB P B) (hr : r ≤ 600) (hn : bn B < 20) (hk : k < pn P 6) (hx : x + pwd P k ≤ pn P 0) (hy : y + phg P k ≤ pn P 1) (h : ∀ m', G78 r m m' → MB m' r (finB (hangB B k x y) (pow P k) (wdu P B k x y)) → Q (wdu P B k x y) m') : CallI X mX9_lay [.ref 77, .int (nI r), .int (nI k), .int (nI x), .int (nI y)] m Q := by
  have h6 := hVP.2.2.2.2.2.2.1
  have ho := (hVP.2.2.2.2.2.2.2.2 k hk).1
  obtain ⟨E1, E2, E3, E4, E5⟩ := hB
  have hB : MB m r B := ⟨E1, E2, E3, E4, E5⟩
  have c180 : (180 : Int32) = nI 180 := rfl
  have c181 : (181 : Int32) = nI 181 := rfl
  have c182 : (182 : Int32) = nI 182 := rfl
  have c20 : (20 : Int32) = nI 20 := rfl
  have c40 : (40 : Int32) = nI 40 := rfl
  have c60 : (60 : Int32) = nI 60 := rfl
  have c80 : (80 : Int32) = nI 80 := rfl
  have c100 : (100 : Int32) = nI 100 := rfl
  have c4 : (4 : Int32) = nI 4 := rfl
  refine eX9_lay_0 (s_see hM hVP hB hV hr fun m1 f1 S1 => ?_)
  have g1 : G78 r m m1 := G78.rf.s (f1.mono fun c hc => by omega)
  refine lpf (a := 0) (b := 20) (m := m1) (by omega) (I := fun i m' => Fr (fun c => c = 89) m1 m' ∧ ∀ j, j < i → m' 89 j = nI (seen P B j)) (W := fun i m' => Wp X mX9_lay 8 [some (.ref 77), some (.int (nI r)), some (.int (nI k)), some (.int (nI x)), some (.int (nI y)), some (.int (nI i)), none, none, none] [] m' (QI Q)) ?_ ?_ ⟨Fr.rf, fun j hj => by omega⟩
  · rintro i - hi m2 ⟨f2, I2⟩ next
    refine eX9_lay_8 (pk_le 20 i (fun c => absurd c (by omega)) (fun _ => ⟨pk_in i 20 hi, pk_in i 20 hi, fun m3 e3 => ?_⟩))
    rw [nI_clamp (n := i) (by omega), f2 87 (by omega), (S1 i hi).1] at e3
    rw [nI_1]
    refine next m3 ⟨e3 ▸ Fr.up f2 rfl, fun j hj => ?_⟩
    rw [e3, a_up_i]
    by_cases e : j = i
    · rw [if_pos e, e]
    · rw [if_neg e]; exact I2 j (by omega)
  · rintro m2 ⟨f2, I2⟩
    have g2 : G78 r m m2 := g1.s (f2.mono fun c hc => by omega)
    have n2 : m2 78 (r + 180) = nI (bn B) := by rw [f2 78 (by omega), f1 78 (by omega)]; exact E1
    refine eX9_lay_8 (pk_le 20 20 (fun _ => ?_) (fun c => absurd c (by omega)))
    rw [c180, c181, c20, c40, c60, c80, nI_add, nI_add, nI_add, nI_add, nI_add, nI_add, nI_clamp (n := r + 180) (by omega), n2, nI_add, nI_add, nI_add, nI_add, nI_add, nI_clamp (n := r + bn B) (by omega), nI_clamp (n := r + 20 + bn B) (by omega), nI_clamp (n := r + 40 + bn B) (by omega), nI_clamp (n := r + 60 + bn B) (by omega), nI_clamp (n := r + 80 + bn B) (by omega), nI_clamp (n := r + 181) (by omega)]
    refine ⟨pk_in (r + 180) 800 (by omega), pk_in (r + bn B) 800 (by omega), fun m3 e3 => ⟨pk_in (r + 20 + bn B) 800 (by omega), fun m4 e4 => ⟨pk_in (r + 40 + bn B) 800 (by omega), fun m5 e5 => ⟨pk_in (r + 181) 800 (by omega), pk_in (r + 60 + bn B) 800 (by omega), fun m6 e6 => ⟨pk_in (r + 80 + bn B) 800 (by omega), fun m7 e7 => ?_⟩⟩⟩⟩⟩
    have g7 : G78 r m m7 := ((((g2.up e3 (by omega)).up e4 (by omega)).up e5 (by omega)).up e6 (by omega)).up e7 (by omega)
    have b2 : ∀ i, m2 78 i = m 78 i := fun i => by rw [f2 78 (by omega), f1 78 (by omega)]
    have t5 : m5 78 (r + 181) = bty B := by
      rw [e5, a_up_n _ _ (Or.inr (by omega)), e4, a_up_n _ _ (Or.inr (by omega)), e3, a_up_n _ _ (Or.inr (by omega)), b2]; exact E2
    rw [t5] at e6
    have w7 : ∀ i, m7 78 i = if i = r + 80 + bn B then 1 else if i = r + 60 + bn B then bty B else if i = r + 40 + bn B then nI y else if i = r + 20 + bn B then nI x else if i = r + bn B then nI k else m 78 i := fun i => by
      rw [e7, a_up_i, e6, a_up_i, e5, a_up_i, e4, a_up_i, e3, a_up_i, b2]
    refine lpf (a := 0) (b := 4) (m := m7) (by omega) (I := fun i m' => G78 r m m' ∧ Fr (fun c => c = 78) m7 m' ∧ (∀ j, (j < r + 100 + 4 * bn B ∨ r + 104 + 4 * bn B ≤ j) → m' 78 j = m7 78 j) ∧ ∀ j, j < i → m' 78 (r + 100 + 4 * bn B + j) = 0) (W := fun i m' => Wp X mX9_lay 122 [some (.ref 77), some (.int (nI r)), some (.int (nI k)), none, none, some (.int (nI (bn B))), some (.int (nI i)), none, none] [] m' (QI Q)) ?_ ?_ ⟨g7, Fr.rf, fun _ _ => rfl, fun j hj => by omega⟩
    · rintro i - hi m8 ⟨g8, f8, k8, I8⟩ next
      refine eX9_lay_122 (pk_le 4 i (fun c => absurd c (by omega)) (fun _ => ?_))
      rw [c100, c4, pk_mul, nI_add, nI_add, nI_add, nI_clamp (n := r + 100 + 4 * bn B + i) (by omega), nI_1]
      refine ⟨pk_in (r + 100 + 4 * bn B + i) 800 (by omega), fun m9 e9 => next m9 ⟨g8.up e9 (by omega), e9 ▸ Fr.up f8 rfl, fun j hj => ?_, fun j hj => ?_⟩⟩
      · rw [e9, a_up_n _ _ (Or.inr (by omega))]; exact k8 j hj
      · rw [e9, a_up_i]
        by_cases e : j = i
        · rw [if_pos (by omega)]
        · rw [if_neg (by omega)]; exact I8 j (by omega)
    · rintro m8 ⟨g8, f8, k8, I8⟩
      refine eX9_lay_122 (pk_le 4 4 (fun _ => ?_) (fun c => absurd c (by omega)))
      rw [c180, nI_add, nI_clamp (n := r + 180) (by omega), nI_1]
      refine ⟨pk_in (r + 180) 800 (by omega), fun m9 e9 => ?_⟩
      have g9 : G78 r m m9 := g8.up e9 (by omega)
      have M9 : MP m9 P := hM.g g9
      have kn : ∀ j, j ≠ r + 180 → (j < r + 100 + 4 * bn B ∨ r + 104 + 4 * bn B ≤ j) → m9 78 j = m7 78 j := fun j h1 h2 => by rw [e9, a_up_n _ _ (Or.inr h1)]; exact k8 j h2
      have B9 : MB m9 r (hangB B k x y) := by
        refine ⟨?_, ?_, ?_, fun i hi => ?_, fun o ho => ?_⟩
        · rw [e9, a_up_s]; rfl
        · rw [kn _ (by omega) (by omega), w7, if_neg (by omega), if_neg (by omega), if_neg (by omega), if_neg (by omega), if_neg (by omega)]; exact E2
        · rw [kn _ (by omega) (by omega), w7, if_neg (by omega), if_neg (by omega), if_neg (by omega), if_neg (by omega), if_neg (by omega)]; exact E3
        · have hi : i < bn B + 1 := hi
          rw [kn (r + i) (by omega) (by omega), kn (r + 20 + i) (by omega) (by omega), kn (r + 40 + i) (by omega) (by omega), kn (r + 60 + i) (by omega) (by omega), kn (r + 80 + i) (by omega) (by omega), w7, w7, w7, w7, w7]
          show _ = nI (up1 (bkd B) (bn B) k i) ∧ _ = nI (up1 (bco B) (bn B) x i) ∧ _ = nI (up1 (bro B) (bn B) y i) ∧ _ = up1 (bdy B) (bn B) (bty B) i ∧ _ = bI (up1 (bon B) (bn B) true i) ∧ ∀ c, c < 128 → _ = up1 (btn B) (bn B) (fun _ => false) i c
          by_cases e : i = bn B
          · subst e
            rw [up1_s, up1_s, up1_s, up1_s, up1_s, up1_s]
            refine ⟨?_, ?_, ?_, ?_, ?_, fun c hc => ?_⟩
            · rw [if_neg (by omega), if_neg (by omega), if_neg (by omega), if_neg (by omega), if_pos rfl]
            · rw [if_neg (by omega), if_neg (by omega), if_neg (by omega), if_pos rfl]
            · rw [if_neg (by omega), if_neg (by omega), if_pos rfl]
            · rw [if_neg (by omega), if_pos rfl]
            · rw [if_pos rfl]; rfl
            · rw [e9, a_up_n _ _ (Or.inr (by omega)), I8 (c / 32) (by omega), b_0]
          · rw [up1_n _ _ e, up1_n _ _ e, up1_n _ _ e, up1_n _ _ e, up1_n _ _ e, up1_n _ _ e]
            obtain ⟨a1, a2, a3, a4, a5, a6⟩ := E4 i (by omega)
            refine ⟨?_, ?_, ?_, ?_, ?_, fun c hc => ?_⟩
            · rw [if_neg (by omega), if_neg (by omega), if_neg (by omega), if_neg (by omega), if_neg (by omega)]; exact a1
            · rw [if_neg (by omega), if_neg (by omega), if_neg (by omega), if_neg (by omega), if_neg (by omega)]; exact a2
            · rw [if_neg (by omega), if_neg (by omega), if_neg (by omega), if_neg (by omega), if_neg (by omega)]; exact a3
            · rw [if_neg (by omega), if_neg (by omega), if_neg (by omega), if_neg (by omega), if_neg (by omega)]; exact a4
            · rw [if_neg (by omega), if_neg (by omega), if_neg (by omega), if_neg (by omega), if_neg (by omega)]; exact a5
            · rw [kn _ (by omega) (by omega), w7, if_neg (by omega), if_neg (by omega), if_neg (by omega), if_neg (by omega), if_neg (by omega)]; exact a6 c hc
        · rw [kn _ (by omega) (by omega), w7, if_neg (by omega), if_neg (by omega), if_neg (by omega), if_neg (by omega), if_neg (by omega)]; exact E5 o ho
      have V9 : VB P (hangB B k x y) := hV.hang hn hk hx hy
      refine s_see M9 hVP B9 V9 hr fun m10 f10 S10 => ?_
      have g10 : G78 r m m10 := g9.s (f10.mono fun c hc => by omega)
      have M10 : MP m10 P := hM.g g10
      have B10 : MB m10 r (hangB B k x y) := B9.f78 (f10 78 (by omega))
      have bef : ∀ j, j < 20 → m10 89 j = nI (seen P B j) := fun j hj => by
        rw [f10 89 (by omega), e9, a_up_c _ _ (by omega), f8 89 (by omega), e7, a_up_c _ _ (by omega), e6, a_up_c _ _ (by omega), e5, a_up_c _ _ (by omega), e4, a_up_c _ _ (by omega), e3, a_up_c _ _ (by omega)]
        exact I2 j hj
      refine lpf (a := 0) (b := bn B) (m := m10) (by omega) (I := fun i m' => m10 = m') (W := fun i m' => Wp X mX9_lay 177 [some (.ref 77), some (.int (nI r)), some (.int (nI k)), none, none, some (.int (nI (bn B))), some (.int (mduN P B k x y i)), some (.int (nI i)), none] [] m' (QI Q)) ?_ ?_ rfl
      · rintro i - hi _ rfl next
        have nx := next _ rfl
        have hi1 : i < bn (hangB B k x y) := Nat.lt_succ_of_lt hi
        obtain ⟨hk2, -⟩ := hV.2 i hi
        have ho2 := (hVP.2.2.2.2.2.2.2.2 _ hk2).1
        have K24 : vp_in (nI k) 24 := pk_in k 24 (by omega)
        have t10 : m10 78 (r + 181) = bty B := B10.2.1
        have d10 : m10 78 (r + 60 + i) = bdy B i := by
          have := (B10.2.2.2.1 i hi1).2.2.2.1
          rw [show bdy (hangB B k x y) i = bdy B i from up1_n _ _ (by omega)] at this
          exact this
        have own : ∀ {Q' : Int32 → (Nat → Nat → Int32) → Prop}, Q' (nI (pow P (bkd B i))) m10 → CallI X mX9_ownerOf [.ref 77, .int (nI r), .int (nI i)] m10 Q' := fun hq => s_mownerOf M10 hVP B10 V9 hr hi1 (by rw [kd_hang (by omega)]; exact hq)
        show Wp X mX9_lay 177 _ _ _ _
        refine eX9_lay_177 (pk_le (bn B) i (fun c => absurd c (by omega)) (fun _ => ?_))
        have nx : Wp X mX9_lay 177 [some (.ref 77), some (.int (nI r)), some (.int (nI k)), none, none, some (.int (nI (bn B))), some (.int (mduN P B k x y i + (if bty B - bdy B i < nI (pn P 2) ∧ ¬ pow P (bkd B i) = pow P k ∧ seen P (hangB B k x y) i < seen P B i then nI (pn P 3) else 0))), some (.int (nI (i + 1))), none] [] m10 (QI Q) := nx
        rw [c181, c60, nI_add, nI_add, nI_add, nI_clamp (n := r + 181) (by omega), nI_clamp (n := r + 60 + i) (by omega), t10, d10, nI_1, show Int32.toNatClampNeg 2 = 2 from rfl, show Int32.toNatClampNeg 3 = 3 from rfl, M10.1 2 (by omega), nI_clamp (n := k) (by omega), nI_clamp (n := i) (by omega)]
        refine ⟨pk_in (r + 181) 800 (by omega), pk_in (r + 60 + i) 800 (by omega), pk_in 2 10 (by omega), Int32.le_lt (fun fr => own ⟨K24, ?_⟩) (fun fr => own ⟨K24, ?_⟩)⟩
        · rw [if_neg fun q => fr q.1] at nx
          exact ⟨fun _ => nx, fun _ => nx⟩
        · rw [(M10.2.2.2.2.2 k hk).1]
          refine pk_eq (pow P (bkd B i)) (pow P k) (fun c => ?_) (fun c => ⟨pk_in i 20 (by omega), pk_in i 20 (by omega), ?_⟩)
          · rw [if_neg fun q => q.2.1 c] at nx
            exact nx
          · rw [bef i (by omega), (S10 i (by omega)).1, M10.1 3 (by omega)]
            have q1 := seen_le P B i
            have q2 := seen_le P (hangB B k x y) i
            refine pk_le (seen P B i) (seen P (hangB B k x y) i) (fun d => ?_) (fun d => ⟨pk_in 3 10 (by omega), ?_⟩)
            · rw [if_neg fun q => by omega] at nx
              exact nx
            · rw [if_pos ⟨fr, c, d⟩] at nx
              exact nx
      · rintro _ rfl
        refine eX9_lay_177 (pk_le (bn B) (bn B) (fun _ => ?_) (fun c => absurd c (by omega)))
        rw [nI_clamp (n := k) (by omega), (M10.2.2.2.2.2 k hk).1, c182, nI_add, nI_add, nI_clamp (n := r + 182 + pow P k) (by omega), mdu_eq]
        refine ⟨pk_in k 24 (by omega), pk_in (r + 182 + pow P k) 800 (by omega), pk_in (r + 182 + pow P k) 800 (by omega), fun m11 e11 => qI (h m11 (g10.up e11 (by omega)) ?_)⟩
        rw [B10.2.2.2.2 _ ho] at e11
        obtain ⟨b1, b2, b3, b4, b5⟩ := B10
        have hnn : bn (hangB B k x y) = bn B + 1 := rfl
        have z : ∀ i, i ≠ r + 182 + pow P k → m11 78 i = m10 78 i := fun i hi => by rw [e11, a_up_n _ _ (Or.inr hi)]
        refine ⟨by rw [z _ (by omega)]; exact b1, by rw [z _ (by omega)]; exact b2, by rw [z _ (by omega)]; exact b3, fun i hi => ?_, fun o ho => ?_⟩
        · have hi : i < bn (hangB B k x y) := hi
          obtain ⟨a1, a2, a3, a4, a5, a6⟩ := b4 i hi
          refine ⟨by rw [z _ (by omega)]; exact a1, by rw [z _ (by omega)]; exact a2, by rw [z _ (by omega)]; exact a3, by rw [z _ (by omega)]; exact a4, by rw [z _ (by omega)]; exact a5, fun c hc => by rw [z _ (by omega)]; exact a6 c hc⟩
        · show _ = (if o = pow P k then bfi B (pow P k) + wdu P B k x y else bfi B o)
          rw [e11, a_up_i]
          by_cases e : o = pow P k
          · rw [if_pos (by omega), if_pos e]; rfl
          · rw [if_neg (by omega), if_neg e]; exact b5 o ho
theorem s_undo {Q : (Nat → Nat → Int32) → Prop} {k x y : Nat} {v : Int32} (hM : MP m P) (hVP : VP P) (hB : MB m r (finB (hangB B k x y) (pow P k) v)) (hV : VB P B) (hr : r ≤ 600) (hn : bn B < 20) (hk : k < pn P 6) (h : ∀ m', G78 r m m' → MB m' r B → Q m') : CallV X mX9_undo [.ref 77, .int (nI r), .int v] m Q := by
  have h6 := hVP.2.2.2.2.2.2.1
  have ho := (hVP.2.2.2.2.2.2.2.2 k hk).1
  obtain ⟨E1, E2, E3, E4, E5⟩ := hB
  have E1 : m 78 (r + 180) = nI (bn B + 1) := E1
  have kk : m 78 (r + bn B) = nI k := by
    have := (E4 (bn B) (Nat.lt_succ_self _)).1
    rw [show bkd (finB (hangB B k x y) (pow P k) v) (bn B) = k from up1_s _ _ _] at this
    exact this
  refine eX9_undo_0 ?_
  rw [show (180 : Int32) = nI 180 from rfl, show (182 : Int32) = nI 182 from rfl, show (80 : Int32) = nI 80 from rfl, nI_add, nI_add, nI_add, nI_clamp (n := r + 180) (by omega), E1, nI_pred]
  refine ⟨pk_in (r + 180) 800 (by omega), pk_in (r + 180) 800 (by omega), fun m1 e1 => ?_⟩
  have n1 : m1 78 (r + 180) = nI (bn B) := by rw [e1, a_up_s]
  have k1 : m1 78 (r + bn B) = nI k := by rw [e1, a_up_n _ _ (Or.inr (by omega))]; exact kk
  have M1 : MP m1 P := hM.fs fun c hc => by rw [e1, a_up_c _ _ (by omega)]
  rw [n1, nI_add, nI_clamp (n := r + bn B) (by omega), k1, nI_clamp (n := k) (by omega), (M1.2.2.2.2.2 k hk).1, nI_add, nI_add, nI_clamp (n := r + 182 + pow P k) (by omega), nI_clamp (n := r + 80 + bn B) (by omega)]
  refine ⟨pk_in (r + 180) 800 (by omega), pk_in (r + bn B) 800 (by omega), pk_in k 24 (by omega), pk_in (r + 182 + pow P k) 800 (by omega), pk_in (r + 182 + pow P k) 800 (by omega), fun m2 e2 => ⟨pk_in (r + 80 + bn B) 800 (by omega), fun m3 e3 => qV (h m3 (((G78.rf.up e1 (by omega)).up e2 (by omega)).up e3 (by omega)) ?_)⟩⟩
  have z : ∀ i, i ≠ r + 180 → i ≠ r + 182 + pow P k → i ≠ r + 80 + bn B → m3 78 i = m 78 i := fun i h1 h2 h3 => by rw [e3, a_up_n _ _ (Or.inr h3), e2, a_up_n _ _ (Or.inr h2), e1, a_up_n _ _ (Or.inr h1)]
  refine ⟨?_, by rw [z _ (by omega) (by omega) (by omega)]; exact E2, by rw [z _ (by omega) (by omega) (by omega)]; exact E3, fun i hi => ?_, fun o ho => ?_⟩
  · rw [e3, a_up_n _ _ (Or.inr (by omega)), e2, a_up_n _ _ (Or.inr (by omega))]; exact n1
  · have e : i ≠ bn B := by omega
    obtain ⟨a1, a2, a3, a4, a5, a6⟩ := E4 i (Nat.lt_succ_of_lt hi)
    rw [show bkd (finB (hangB B k x y) (pow P k) v) i = bkd B i from up1_n _ _ e] at a1
    rw [show bco (finB (hangB B k x y) (pow P k) v) i = bco B i from up1_n _ _ e] at a2
    rw [show bro (finB (hangB B k x y) (pow P k) v) i = bro B i from up1_n _ _ e] at a3
    rw [show bdy (finB (hangB B k x y) (pow P k) v) i = bdy B i from up1_n _ _ e] at a4
    rw [show bon (finB (hangB B k x y) (pow P k) v) i = bon B i from up1_n _ _ e] at a5
    rw [show btn (finB (hangB B k x y) (pow P k) v) i = btn B i from up1_n _ _ e] at a6
    refine ⟨by rw [z _ (by omega) (by omega) (by omega)]; exact a1, by rw [z _ (by omega) (by omega) (by omega)]; exact a2, by rw [z _ (by omega) (by omega) (by omega)]; exact a3, by rw [z _ (by omega) (by omega) (by omega)]; exact a4, by rw [z _ (by omega) (by omega) (by omega)]; exact a5, fun c hc => by rw [z _ (by omega) (by omega) (by omega)]; exact a6 c hc⟩
  · have q : ∀ i, i < 6 → m1 78 (r + 182 + i) = if i = pow P k then bfi B (pow P k) + v else bfi B i := fun i hi => by
      rw [e1, a_up_n _ _ (Or.inr (by omega))]; exact E5 i hi
    rw [e3, a_up_n _ _ (Or.inr (by omega)), e2, a_up_i]
    by_cases e : o = pow P k
    · rw [if_pos (by omega), q _ (by omega), if_pos rfl, Int32.add_sub_cancel, e]
    · rw [if_neg (by omega), q o ho, if_neg e]
end LAY
