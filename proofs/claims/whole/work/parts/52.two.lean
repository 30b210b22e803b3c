/-! ===== findSecond, findTwo ===== -/
theorem dup {p T E : Prop} (t : T) (e : ¬ p → T → E) : (p → T) ∧ (¬ p → E) := ⟨fun _ => t, fun h => e h t⟩
section TWO
variable {X : a_X} {m : Nat → Nat → Int32} {P : PT} {B : BT} {b : Nat}
theorem PL2.fr {m m' : Nat → Nat → Int32} {u : U2} (h : PL2 m u) (e : m' 50 = m 50) : PL2 m' u := by
  cases u with
  | none => exact (congrFun e 4).trans h
  | some v => obtain ⟨g, x, y, x2, y2⟩ := v; unfold PL2 at h ⊢; rw [e]; exact h
theorem s_better2 {Q : Int32 → (Nat → Nat → Int32) → Prop} {u : U2} {g : Int32} (hU : PL2 m u) (h1 : ∀ m', Fr (fun c => c = 50) m m' → m' 50 4 = 1 → m' 50 9 = g → (∀ x y x2 y2, be2 u (g, x, y, x2, y2) = some (g, x, y, x2, y2)) → Q 1 m') (h0 : (∀ x y x2 y2, be2 u (g, x, y, x2, y2) = u) → Q 0 m) : CallI X mX4_isBetter [.ref 50, .int g] m Q := by
  have go : ∀ m3 m4, m3 = a_up m 50 4 1 → m4 = a_up m3 50 9 g → (∀ x y x2 y2, be2 u (g, x, y, x2, y2) = some (g, x, y, x2, y2)) → Q 1 m4 := fun m3 m4 e3 e4 z => h1 m4 (by rw [e4, e3]; exact Fr.up (Fr.up Fr.rf rfl) rfl) (by rw [e4, a_up_n _ _ (Or.inr (by omega)), e3, a_up_s]) (by rw [e4, a_up_s]) z
  cases u with
  | none =>
    refine eX4_isBetter_0 ⟨fun _ m1 e1 m2 e2 => qI (go m1 m2 e1 e2 fun _ _ _ _ => rfl), fun c => absurd hU c⟩
  | some v =>
    obtain ⟨a, x, y, x2, y2⟩ := v
    obtain ⟨q4, q9, -⟩ := hU
    refine eX4_isBetter_0 ⟨fun c => absurd (q4.symm.trans c) (by decide), fun _ => ?_⟩
    rw [q9]
    exact ⟨fun c m3 e3 m4 e4 => qI (go m3 m4 e3 e4 fun _ _ _ _ => if_pos c), fun c => qI (h0 fun _ _ _ _ => if_neg c)⟩
theorem s_findSecond {Q : (Nat → Nat → Int32) → Prop} (hP : EP m P) (hVP : VP P) (hE : EB m 51 P B) (hV : VB P B) (hL : EL m 65) {j x1 y1 : Nat} {g : Int32} {u : U2} (hj : j < pn P 6) (hg : -1000000 ≤ g.toInt ∧ g.toInt ≤ 1000000) (hU : PL2 m u) (h : ∀ m', Fr (fun c => c = 50 ∨ (65 ≤ c ∧ c ≤ 70)) m m' → EL m' 65 → PL2 m' (mrg u g x1 y1 (bN P B j 128)) → Q m') : CallV X mX4_findSecond [.ref 50, .int (nI x1), .int (nI y1), .int g, .int (nI j)] m Q := by
  have h0 := hVP.1
  have h1 := hVP.2.1
  have h6 := hVP.2.2.2.2.2.2.1
  obtain ⟨-, hw, hh⟩ := hVP.2.2.2.2.2.2.2.2 j hj
  refine eX4_findSecond_0 (s_lookAt sS65 sB51 (by omega) (by omega) hP hVP hE hV fun m2 f2 S2 => ?_)
  have F2 : Fr (fun c => c = 50 ∨ (65 ≤ c ∧ c ≤ 70)) m m2 := f2.mono fun c hc => by omega
  have L2 : EL m2 65 := hL.fr (f2 _ (by omega)) (f2 _ (by omega))
  let I : Nat → (Nat → Nat → Int32) → Prop := fun c m' => Fr (fun c => c = 50 ∨ (65 ≤ c ∧ c ≤ 70)) m m' ∧ ES m' 65 P B ∧ EL m' 65 ∧ PL2 m' (mrg u g x1 y1 (bN P B j c))
  refine lpf (a := 0) (b := pn P 1 - phg P j + 1) (by omega) (I := fun y m' => I (16 * y) m') (W := fun y m' => Wp X mX4_findSecond 14 [some (.ref 50), some (.int (nI x1)), some (.int (nI y1)), some (.int g), some (.int (nI j)), some (.int (nI y)), none, none] [] m' (QV Q)) ?_ ?_ ⟨F2, S2, L2, hU.fr (f2 50 (by omega))⟩
  · rintro y - hy m3 I3 next
    have P3 : EP m3 P := hP.fr fun c hc hc2 => I3.1 c (by omega)
    refine eX4_findSecond_14 ⟨pk_in j 12 (by omega), ?_⟩
    rw [nI_clamp (n := j) (by omega), P3.1 1 (by omega), (P3.2.2.2 j hj).2.2, pk_sub hh.2]
    refine pk_lt (pn P 1 - phg P j) y (fun c => absurd c (by omega)) (fun _ => ?_)
    refine lpf (a := 0) (b := pn P 0 - pwd P j + 1) (by omega) (I := fun x m' => I (16 * y + x) m') (W := fun x m' => Wp X mX4_findSecond 40 [some (.ref 50), some (.int (nI x1)), some (.int (nI y1)), some (.int g), some (.int (nI j)), some (.int (nI y)), some (.int (nI x)), none] [] m' (QV Q)) ?_ ?_ I3
    · rintro x - hx m4 ⟨F4, S4, L4, p4⟩ next2
      have P4 : EP m4 P := hP.fr fun c hc hc2 => F4 c (by omega)
      have E4 : EB m4 51 P B := hE.fr fun c hc hc2 => F4 c (by omega)
      have ex1 : (16 * y + x) % 16 = x := by omega
      have ex2 : (16 * y + x) / 16 = y := by omega
      have skip : ¬ plc P j (16 * y + x) → Wp X mX4_findSecond 40 [some (.ref 50), some (.int (nI x1)), some (.int (nI y1)), some (.int g), some (.int (nI j)), some (.int (nI y)), some (.int (nI (x + 1))), none] [] m4 (QV Q) := fun z => next2 m4 ⟨F4, S4, L4, by rw [← Nat.add_assoc, bN_s, bst_n z]; exact p4⟩
      have nx : bar P j x y = false → ∀ m', Fr (fun c => c = 50 ∨ (65 ≤ c ∧ c ≤ 70)) m m' → ES m' 65 P B → EL m' 65 → PL2 m' (be2 (mrg u g x1 y1 (bN P B j (16 * y + x))) (g + wga P B j x y, x1, y1, x, y)) → Wp X mX4_findSecond 40 [some (.ref 50), some (.int (nI x1)), some (.int (nI y1)), some (.int g), some (.int (nI j)), some (.int (nI y)), some (.int (nI (x + 1))), none] [] m' (QV Q) := fun z m' a1 a2 a3 a4 => next2 m' ⟨a1, a2, a3, by
        have := mrg_bst (P := P) (B := B) (u := u) (g := g) (x := x1) (y := y1) (d := 16 * y + x) hVP hV hj hg ⟨by omega, by omega, by rw [ex1, ex2]; exact z⟩
        rw [ex1, ex2] at this
        rw [← Nat.add_assoc, this]; exact a4⟩
      generalize mrg u g x1 y1 (bN P B j (16 * y + x)) = w at *
      refine eX4_findSecond_40 ⟨pk_in j 12 (by omega), ?_⟩
      rw [nI_clamp (n := j) (by omega), P4.1 0 (by omega), (P4.2.2.2 j hj).2.1, pk_sub hw.2, nI_1, nI_1]
      refine pk_lt (pn P 0 - pwd P j) x (fun c => absurd c (by omega)) (fun _ => dup ?_ fun c t => ?_)
      · refine s_isBarred P4 hVP hj (by omega) (by omega) ⟨fun z => ?_, fun z => ?_⟩
        · rw [bI_n0] at z
          exact skip fun q => by have q := q.2.2; rw [ex1, ex2, z] at q; cases q
        · rw [bI_0] at z
          refine s_weigh sS65 sB51 (by omega) (by omega) P4 hVP E4 hV S4 L4 hj (by omega) (by omega) fun m5 f5 L5 g5 _ => ?_
          rw [g5]
          have F5 : Fr (fun c => c = 50 ∨ (65 ≤ c ∧ c ≤ 70)) m m5 := F4.tr (f5.mono fun c hc => by omega)
          have S5 : ES m5 65 P B := S4.fr fun c h1 h2 => f5 c (by omega)
          have p5 : PL2 m5 w := p4.fr (f5 50 (by omega))
          refine s_better2 p5 (fun m6 f6 b4 b9 hz => ⟨fun c => absurd c (by decide), fun _ m7 e7 m8 e8 m9 e9 m10 e10 => ?_⟩) (fun hz => ⟨fun _ => ?_, fun c => absurd rfl c⟩)
          · have k10 : ∀ c, c ≠ 50 → m10 c = m5 c := fun c hc => by rw [e10, a_up_c _ _ hc, e9, a_up_c _ _ hc, e8, a_up_c _ _ hc, e7, a_up_c _ _ hc, f6 c hc]
            refine nx z m10 (fun c hc => by rw [k10 c (by omega), F5 c hc]) (S5.fr fun c h1 h2 => k10 c (by omega)) (L5.fr (k10 _ (by omega)) (k10 _ (by omega))) ?_
            rw [hz]
            refine ⟨?_, ?_, ?_, ?_, ?_, ?_⟩
            · rw [e10, a_up_n _ _ (Or.inr (by omega)), e9, a_up_n _ _ (Or.inr (by omega)), e8, a_up_n _ _ (Or.inr (by omega)), e7, a_up_n _ _ (Or.inr (by omega))]; exact b4
            · rw [e10, a_up_n _ _ (Or.inr (by omega)), e9, a_up_n _ _ (Or.inr (by omega)), e8, a_up_n _ _ (Or.inr (by omega)), e7, a_up_n _ _ (Or.inr (by omega))]; exact b9
            · rw [e10, a_up_n _ _ (Or.inr (by omega)), e9, a_up_n _ _ (Or.inr (by omega)), e8, a_up_n _ _ (Or.inr (by omega)), e7, a_up_s]
            · rw [e10, a_up_n _ _ (Or.inr (by omega)), e9, a_up_n _ _ (Or.inr (by omega)), e8, a_up_s]
            · rw [e10, a_up_n _ _ (Or.inr (by omega)), e9, a_up_s]
            · rw [e10, a_up_s]
          · exact nx z m5 F5 S5 L5 (by rw [hz]; exact p5)
      · refine s_passersOf P4 hVP hj (by omega) ⟨fun le => ?_, fun _ => t⟩
        by_cases z : plc P j (16 * y + x)
        · have z3 := z.2.2
          rw [ex1, ex2] at z3
          refine nx z3 m4 F4 S4 L4 ?_
          cases w with
          | none => exact absurd p4 c
          | some v =>
            obtain ⟨a, b1, b2, b3, b4⟩ := v
            have q9 := p4.2.1
            rw [q9] at le
            have w1 := wga_bd hVP hV (y := y) hj (show x + pwd P j ≤ pn P 0 by omega)
            have w2 := pof_le hVP hj (show x + pwd P j ≤ pn P 0 by omega)
            have s1 : (g + wga P B j x y).toInt = g.toInt + (wga P B j x y).toInt := i_add rfl (by omega) (by omega)
            have s2 : (g + nI (pof P j x)).toInt = g.toInt + pof P j x := i_add (by rw [nI_toInt (by omega)]) (by omega) (by omega)
            have le : g + nI (pof P j x) ≤ a := le
            rw [Int32.le_iff_toInt_le, s2] at le
            have : be2 (some (a, b1, b2, b3, b4)) (g + wga P B j x y, x1, y1, x, y) = some (a, b1, b2, b3, b4) := if_neg (by
              rw [Int32.lt_iff_toInt_lt]
              dsimp only
              omega)
            rw [this]; exact p4
        · exact skip z
    · rintro m4 I4
      have P4 : EP m4 P := hP.fr fun c hc hc2 => I4.1 c (by omega)
      refine eX4_findSecond_40 ⟨pk_in j 12 (by omega), ?_⟩
      rw [nI_clamp (n := j) (by omega), P4.1 0 (by omega), (P4.2.2.2 j hj).2.1, pk_sub hw.2, nI_1]
      refine pk_lt (pn P 0 - pwd P j) (pn P 0 - pwd P j + 1) (fun _ => next m4 ?_) (fun c => absurd c (by omega))
      have sk := bN_skip (P := P) (B := B) (k := j) (a := 16 * y + (pn P 0 - pwd P j + 1)) (16 - (pn P 0 - pwd P j + 1)) (fun c h1 h2 q => by omega)
      rw [show 16 * y + (pn P 0 - pwd P j + 1) + (16 - (pn P 0 - pwd P j + 1)) = 16 * (y + 1) by omega] at sk
      obtain ⟨a1, a2, a3, a4⟩ := I4
      exact ⟨a1, a2, a3, sk ▸ a4⟩
  · rintro m3 ⟨a1, a2, a3, a4⟩
    have P3 : EP m3 P := hP.fr fun c hc hc2 => a1 c (by omega)
    refine eX4_findSecond_14 ⟨pk_in j 12 (by omega), ?_⟩
    rw [nI_clamp (n := j) (by omega), P3.1 1 (by omega), (P3.2.2.2 j hj).2.2, pk_sub hh.2]
    have sk := bN_skip (P := P) (B := B) (k := j) (a := 16 * (pn P 1 - phg P j + 1)) (128 - 16 * (pn P 1 - phg P j + 1)) (fun c h1 h2 q => by omega)
    rw [show 16 * (pn P 1 - phg P j + 1) + (128 - 16 * (pn P 1 - phg P j + 1)) = 128 by omega] at sk
    exact pk_lt (pn P 1 - phg P j) (pn P 1 - phg P j + 1) (fun _ => qV (h m3 a1 a3 (sk ▸ a4))) (fun c => absurd c (by omega))
theorem s_findTwo {Q : (Nat → Nat → Int32) → Prop} (hP : EP m P) (hVP : VP P) (hE : EB m 15 P B) (hV : VB P B) (hn : bn B ≤ 18) (hL : EL m 59) (hL2 : EL m 65) {k j : Nat} (hk : k < pn P 6) (hj : j < pn P 6) (h : ∀ m', Fr (fun c => 50 ≤ c ∧ c ≤ 70) m m' → EL m' 59 → EL m' 65 → PL2 m' (tN P B k j 128) → Q m') : CallV X mX4_findTwo [.ref 50, .ref 15, .int (nI k), .int (nI j)] m Q := by
  have h0 := hVP.1
  have h1 := hVP.2.1
  have h6 := hVP.2.2.2.2.2.2.1
  obtain ⟨-, hw, hh⟩ := hVP.2.2.2.2.2.2.2.2 k hk
  refine eX4_findTwo_0 fun m1 e1 => ?_
  have f1 : Fr (fun c => 50 ≤ c ∧ c ≤ 70) m m1 := e1 ▸ Fr.up Fr.rf (by omega)
  refine s_lookAt sS59 sB15 (by omega) (by omega) (hP.fr fun c hc hc2 => f1 c (by omega)) hVP (hE.fr fun c hc hc2 => f1 c (by omega)) hV fun m2 f2 S2 => ?_
  have F2 : Fr (fun c => 50 ≤ c ∧ c ≤ 70) m m2 := f1.tr (f2.mono fun c hc => by omega)
  refine s_copyFrom sB51 sB15 (by omega) (hE.fr fun c hc hc2 => F2 c (by omega)) hV fun m3 f3 E3 => ?_
  have F3 : Fr (fun c => 50 ≤ c ∧ c ≤ 70) m m3 := F2.tr (f3.mono fun c hc => by omega)
  have k3 : ∀ c, 62 < c → m3 c = m c := fun c hc => by rw [f3 c (by omega), f2 c (by omega), e1, a_up_c _ _ (by omega)]
  let I : Nat → (Nat → Nat → Int32) → Prop := fun c m' => Fr (fun c => 50 ≤ c ∧ c ≤ 70) m m' ∧ ES m' 59 P B ∧ EL m' 59 ∧ EL m' 65 ∧ EB m' 51 P B ∧ PL2 m' (tN P B k j c)
  refine lpf (a := 0) (b := pn P 1 - phg P k + 1) (by omega) (I := fun y m' => I (16 * y) m') (W := fun y m' => Wp X mX4_findTwo 24 [some (.ref 50), some (.ref 15), some (.int (nI k)), some (.int (nI j)), some (.int (nI y)), none] [] m' (QV Q)) ?_ ?_ ⟨F3, S2.fr fun c h1 h2 => f3 c (by omega), hL.fr (k3 _ (by omega)) (k3 _ (by omega)), hL2.fr (k3 _ (by omega)) (k3 _ (by omega)), E3, by show m3 50 4 = 0; rw [f3 50 (by omega), f2 50 (by omega), e1, a_up_s]⟩
  · rintro y - hy m3 I3 next
    have P3 : EP m3 P := hP.fr fun c hc hc2 => I3.1 c (by omega)
    refine eX4_findTwo_24 ⟨pk_in k 12 (by omega), ?_⟩
    rw [nI_clamp (n := k) (by omega), P3.1 1 (by omega), (P3.2.2.2 k hk).2.2, pk_sub hh.2]
    refine pk_lt (pn P 1 - phg P k) y (fun c => absurd c (by omega)) (fun _ => ?_)
    refine lpf (a := 0) (b := pn P 0 - pwd P k + 1) (by omega) (I := fun x m' => I (16 * y + x) m') (W := fun x m' => Wp X mX4_findTwo 49 [some (.ref 50), some (.ref 15), some (.int (nI k)), some (.int (nI j)), some (.int (nI y)), some (.int (nI x))] [] m' (QV Q)) ?_ ?_ I3
    · rintro x - hx m4 ⟨F4, S4, L4, M4, T4, p4⟩ next2
      have P4 : EP m4 P := hP.fr fun c hc hc2 => F4 c (by omega)
      have E4 : EB m4 15 P B := hE.fr fun c hc hc2 => F4 c (by omega)
      have ex1 : (16 * y + x) % 16 = x := by omega
      have ex2 : (16 * y + x) / 16 = y := by omega
      rw [← Nat.add_assoc] at next2
      generalize hu : tN P B k j (16 * y + x) = u at *
      refine eX4_findTwo_49 ⟨pk_in k 12 (by omega), ?_⟩
      rw [nI_clamp (n := k) (by omega), P4.1 0 (by omega), (P4.2.2.2 k hk).2.1, pk_sub hw.2, nI_1, nI_1]
      refine pk_lt (pn P 0 - pwd P k) x (fun c => absurd c (by omega)) (fun _ => s_isBarred P4 hVP hk (by omega) (by omega) ⟨fun z => ?_, fun z => ?_⟩)
      · rw [bI_n0] at z
        refine next2 m4 ⟨F4, S4, L4, M4, T4, ?_⟩
        rw [tN_s, hu]
        unfold tst
        rw [if_neg fun q => by have := q.2.2; rw [ex1, ex2, z] at this; cases this]
        exact p4
      · rw [bI_0] at z
        refine s_weigh sS59 sB15 (by omega) (by omega) P4 hVP E4 hV S4 L4 hk (by omega) (by omega) fun m5 f5 L5 g5 _ => ?_
        have P5 : EP m5 P := P4.fr fun c hc hc2 => f5 c (by omega)
        refine s_hang sB51 (by omega) P5 hVP (T4.fr fun c hc hc2 => f5 c (by omega)) hV (by omega) hk (by omega) (by omega) fun m6 f6 T6 => ?_
        rw [f6 59 (by omega), g5]
        have hV6 : VB P (hangB B k x y) := hV.hang (by omega) hk (by omega) (by omega)
        have bd := wga_bd hVP hV (y := y) hk (show x + pwd P k ≤ pn P 0 by omega)
        have bp := pof_le hVP hk (show x + pwd P k ≤ pn P 0 by omega)
        refine s_findSecond (P5.fr fun c hc hc2 => f6 c (by omega)) hVP T6 hV6 (M4.fr (by rw [f6 _ (by omega), f5 _ (by omega)]) (by rw [f6 _ (by omega), f5 _ (by omega)])) hj ⟨by omega, by omega⟩ (p4.fr (by rw [f6 _ (by omega), f5 _ (by omega)])) fun m7 f7 M7 p7 => ?_
        refine s_undoHang sB51 (by omega) (P5.fr fun c hc hc2 => by rw [f7 c (by omega), f6 c (by omega)]) hVP (T6.fr fun c hc hc2 => f7 c (by omega)) hV6 fun m8 f8 T8 => ?_
        have F8 : Fr (fun c => 50 ≤ c ∧ c ≤ 70) m m8 := (((F4.tr (f5.mono fun c hc => by omega)).tr (f6.mono fun c hc => by omega)).tr (f7.mono fun c hc => by omega)).tr (f8.mono fun c hc => by omega)
        refine next2 m8 ⟨F8, ?_, ?_, ?_, T8, ?_⟩
        · exact S4.fr fun c h1 h2 => by rw [f8 c (by omega), f7 c (by omega), f6 c (by omega), f5 c (by omega)]
        · exact L5.fr (by rw [f8 _ (by omega), f7 _ (by omega), f6 _ (by omega)]) (by rw [f8 _ (by omega), f7 _ (by omega), f6 _ (by omega)])
        · exact M7.fr (f8 _ (by omega)) (f8 _ (by omega))
        · rw [tN_s, hu]
          unfold tst
          rw [if_pos ⟨by omega, by omega, by rw [ex1, ex2]; exact z⟩, ex1, ex2]
          exact p7.fr (f8 50 (by omega))
    · rintro m4 I4
      have P4 : EP m4 P := hP.fr fun c hc hc2 => I4.1 c (by omega)
      refine eX4_findTwo_49 ⟨pk_in k 12 (by omega), ?_⟩
      rw [nI_clamp (n := k) (by omega), P4.1 0 (by omega), (P4.2.2.2 k hk).2.1, pk_sub hw.2, nI_1]
      refine pk_lt (pn P 0 - pwd P k) (pn P 0 - pwd P k + 1) (fun _ => next m4 ?_) (fun c => absurd c (by omega))
      have sk := tN_skip (P := P) (B := B) (k := k) (j := j) (a := 16 * y + (pn P 0 - pwd P k + 1)) (16 - (pn P 0 - pwd P k + 1)) (fun c h1 h2 q => by omega)
      rw [show 16 * y + (pn P 0 - pwd P k + 1) + (16 - (pn P 0 - pwd P k + 1)) = 16 * (y + 1) by omega] at sk
      obtain ⟨a1, a2, a3, a4, a5, a6⟩ := I4
      exact ⟨a1, a2, a3, a4, a5, sk ▸ a6⟩
  · rintro m3 ⟨a1, a2, a3, a4, a5, a6⟩
    have P3 : EP m3 P := hP.fr fun c hc hc2 => a1 c (by omega)
    refine eX4_findTwo_24 ⟨pk_in k 12 (by omega), ?_⟩
    rw [nI_clamp (n := k) (by omega), P3.1 1 (by omega), (P3.2.2.2 k hk).2.2, pk_sub hh.2]
    have sk := tN_skip (P := P) (B := B) (k := k) (j := j) (a := 16 * (pn P 1 - phg P k + 1)) (128 - 16 * (pn P 1 - phg P k + 1)) (fun c h1 h2 q => by omega)
    rw [show 16 * (pn P 1 - phg P k + 1) + (128 - 16 * (pn P 1 - phg P k + 1)) = 128 by omega] at sk
    exact pk_lt (pn P 1 - phg P k) (pn P 1 - phg P k + 1) (fun _ => qV (h m3 a1 a3 a4 (sk ▸ a6))) (fun c => absurd c (by omega))
end TWO
