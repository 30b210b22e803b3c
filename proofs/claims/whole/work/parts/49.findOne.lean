/-! ===== findOne ===== -/
section FIND
variable {X : a_X} {m : Nat → Nat → Int32} {P : PT} {B : BT} {b : Nat}
theorem s_findOne {Q : (Nat → Nat → Int32) → Prop} (hb : sBills b) (h7 : 7 ≤ b) (hd : 64 < b ∨ b + 7 < 59) (hd2 : 50 < b ∨ b + 7 < 50) (hP : EP m P) (hVP : VP P) (hE : EB m b P B) (hV : VB P B) (hL : EL m 59) {k : Nat} (hk : k < pn P 6) (h : ∀ m', Fr (fun c => c = 50 ∨ (59 ≤ c ∧ c ≤ 64)) m m' → (∀ i, i ≠ 4 → i ≠ 5 → i ≠ 6 → i ≠ 9 → m' 50 i = m 50 i) → ES m' 59 P B → EL m' 59 → PL m' (bN P B k 128) → Q m') : CallV X mX4_findOne [.ref 50, .ref b, .int (nI k)] m Q := by
  have h0 := hVP.1
  have h1 := hVP.2.1
  have h6 := hVP.2.2.2.2.2.2.1
  obtain ⟨-, hw, hh⟩ := hVP.2.2.2.2.2.2.2.2 k hk
  refine eX4_findOne_0 hb fun m1 e1 => ?_
  have f1 : Fr (fun c => c = 50 ∨ (59 ≤ c ∧ c ≤ 64)) m m1 := e1 ▸ Fr.up Fr.rf (Or.inl rfl)
  refine s_lookAt sS59 hb (by omega) (by omega) (hP.fr fun c hc hc2 => f1 c (by omega)) hVP (hE.fr fun c hc hc2 => f1 c (by omega)) hV fun m2 f2 S2 => ?_
  have F2 : Fr (fun c => c = 50 ∨ (59 ≤ c ∧ c ≤ 64)) m m2 := f1.tr (f2.mono fun c hc => by omega)
  have L2 : EL m2 59 := fun i hi => by rw [f2 _ (by omega), f2 _ (by omega), e1, a_up_c _ _ (by omega), a_up_c _ _ (by omega)]; exact hL i hi
  have i2 : ∀ i, i ≠ 4 → i ≠ 5 → i ≠ 6 → i ≠ 9 → m2 50 i = m 50 i := fun i hi _ _ _ => by rw [f2 _ (by omega), e1, a_up_n _ _ (Or.inr hi)]
  have p2 : m2 50 4 = 0 := by rw [f2 _ (by omega), e1, a_up_s]
  let I : Nat → (Nat → Nat → Int32) → Prop := fun c m' => Fr (fun c => c = 50 ∨ (59 ≤ c ∧ c ≤ 64)) m m' ∧ (∀ i, i ≠ 4 → i ≠ 5 → i ≠ 6 → i ≠ 9 → m' 50 i = m 50 i) ∧ ES m' 59 P B ∧ EL m' 59 ∧ PL m' (bN P B k c)
  refine lpf (a := 0) (b := pn P 1 - phg P k + 1) (by omega) (I := fun y m' => I (16 * y) m') (W := fun y m' => Wp X mX4_findOne 15 [some (.ref 50), some (.ref b), some (.int (nI k)), some (.int (nI y)), none] [] m' (QV Q)) ?_ ?_ ⟨F2, i2, S2, L2, p2⟩
  · rintro y - hy m3 I3 next
    have P3 : EP m3 P := hP.fr fun c hc hc2 => I3.1 c (by omega)
    refine eX4_findOne_15 hb ⟨pk_in k 12 (by omega), ?_⟩
    rw [nI_clamp (n := k) (by omega), P3.1 1 (by omega), (P3.2.2.2 k hk).2.2, pk_sub hh.2]
    refine pk_lt (pn P 1 - phg P k) y (fun c => absurd c (by omega)) (fun _ => ?_)
    refine lpf (a := 0) (b := pn P 0 - pwd P k + 1) (by omega) (I := fun x m' => I (16 * y + x) m') (W := fun x m' => Wp X mX4_findOne 39 [some (.ref 50), some (.ref b), some (.int (nI k)), some (.int (nI y)), some (.int (nI x))] [] m' (QV Q)) ?_ ?_ I3
    · rintro x - hx m4 ⟨F4, i4, S4, L4, p4⟩ next2
      have P4 : EP m4 P := hP.fr fun c hc hc2 => F4 c (by omega)
      have E4 : EB m4 b P B := hE.fr fun c hc hc2 => F4 c (by omega)
      refine eX4_findOne_39 hb ⟨pk_in k 12 (by omega), ?_⟩
      rw [nI_clamp (n := k) (by omega), P4.1 0 (by omega), (P4.2.2.2 k hk).2.1, pk_sub hw.2, nI_1, nI_1]
      refine pk_lt (pn P 0 - pwd P k) x (fun c => absurd c (by omega)) (fun _ => s_isBarred P4 hVP hk (by omega) (by omega) ?_)
      have ex1 : (16 * y + x) % 16 = x := by omega
      have ex2 : (16 * y + x) / 16 = y := by omega
      have nx : ∀ m', Fr (fun c => c = 50 ∨ (59 ≤ c ∧ c ≤ 64)) m m' → (∀ i, i ≠ 4 → i ≠ 5 → i ≠ 6 → i ≠ 9 → m' 50 i = m 50 i) → ES m' 59 P B → EL m' 59 → PL m' (bst P B k (16 * y + x) (bN P B k (16 * y + x))) → Wp X mX4_findOne 39 [some (.ref 50), some (.ref b), some (.int (nI k)), some (.int (nI y)), some (.int (nI (x + 1)))] [] m' (QV Q) := fun m' a1 a2 a3 a4 a5 => next2 m' ⟨a1, a2, a3, a4, a5⟩
      generalize hu : bN P B k (16 * y + x) = u at *
      unfold bst at nx
      rw [ex1, ex2] at nx
      refine ⟨fun z => ?_, fun z => ?_⟩
      · rw [bI_n0] at z
        rw [if_neg (fun q => by rw [z] at q; cases q.2.2)] at nx
        exact nx m4 F4 i4 S4 L4 p4
      · rw [bI_0] at z
        rw [if_pos ⟨by omega, by omega, z⟩] at nx
        refine s_weigh sS59 hb (by omega) (by omega) P4 hVP E4 hV S4 L4 hk (by omega) (by omega) fun m5 f5 L5 g5 _ => ?_
        rw [g5]
        have F5 : Fr (fun c => c = 50 ∨ (59 ≤ c ∧ c ≤ 64)) m m5 := F4.tr (f5.mono fun c hc => by omega)
        have S5 : ES m5 59 P B := S4.fr fun c h1 h2 => f5 c (by omega)
        have k5 : m5 50 = m4 50 := f5 50 (by omega)
        have p5 : PL m5 u := by
          cases u with
          | none => exact (congrFun k5 4).trans p4
          | some v => obtain ⟨a, c, d⟩ := v; unfold PL at p4 ⊢; rw [k5]; exact p4
        refine s_isBetter p5 (fun m6 f6 b4 b9 bi hz => ⟨fun c => absurd c (by decide), fun _ m7 e7 m8 e8 => ?_⟩) (fun hz => ⟨fun _ => ?_, fun c => absurd rfl c⟩)
        · rw [hz] at nx
          have k8 : ∀ c, c ≠ 50 → m8 c = m5 c := fun c hc => by rw [e8, a_up_c _ _ hc, e7, a_up_c _ _ hc, f6 c hc]
          refine nx m8 (fun c hc => by rw [k8 c (by omega), F5 c hc]) (fun i h4 h5 h6 h9 => ?_) (S5.fr fun c h1 h2 => k8 c (by omega)) (fun i hi => by rw [k8 _ (by omega), k8 _ (by omega)]; exact L5 i hi) ⟨?_, ?_, ?_, ?_⟩
          · rw [e8, a_up_n _ _ (Or.inr h6), e7, a_up_n _ _ (Or.inr h5), bi i h4 h9, k5]; exact i4 i h4 h5 h6 h9
          · rw [e8, a_up_n _ _ (Or.inr (by omega)), e7, a_up_n _ _ (Or.inr (by omega))]; exact b4
          · rw [e8, a_up_n _ _ (Or.inr (by omega)), e7, a_up_n _ _ (Or.inr (by omega))]; exact b9
          · rw [e8, a_up_n _ _ (Or.inr (by omega)), e7, a_up_s]
          · rw [e8, a_up_s]
        · rw [hz] at nx
          exact nx m5 F5 (by rw [k5]; exact i4) S5 L5 p5
    · rintro m4 I4
      have P4 : EP m4 P := hP.fr fun c hc hc2 => I4.1 c (by omega)
      refine eX4_findOne_39 hb ⟨pk_in k 12 (by omega), ?_⟩
      rw [nI_clamp (n := k) (by omega), P4.1 0 (by omega), (P4.2.2.2 k hk).2.1, pk_sub hw.2, nI_1]
      refine pk_lt (pn P 0 - pwd P k) (pn P 0 - pwd P k + 1) (fun _ => next m4 ?_) (fun c => absurd c (by omega))
      have sk := bN_skip (P := P) (B := B) (k := k) (a := 16 * y + (pn P 0 - pwd P k + 1)) (16 - (pn P 0 - pwd P k + 1)) (fun c h1 h2 q => by omega)
      rw [show 16 * y + (pn P 0 - pwd P k + 1) + (16 - (pn P 0 - pwd P k + 1)) = 16 * (y + 1) by omega] at sk
      obtain ⟨a1, a2, a3, a4, a5⟩ := I4
      exact ⟨a1, a2, a3, a4, sk ▸ a5⟩
  · rintro m3 ⟨a1, a2, a3, a4, a5⟩
    have P3 : EP m3 P := hP.fr fun c hc hc2 => a1 c (by omega)
    refine eX4_findOne_15 hb ⟨pk_in k 12 (by omega), ?_⟩
    rw [nI_clamp (n := k) (by omega), P3.1 1 (by omega), (P3.2.2.2 k hk).2.2, pk_sub hh.2]
    have sk := bN_skip (P := P) (B := B) (k := k) (a := 16 * (pn P 1 - phg P k + 1)) (128 - 16 * (pn P 1 - phg P k + 1)) (fun c h1 h2 q => by omega)
    rw [show 16 * (pn P 1 - phg P k + 1) + (128 - 16 * (pn P 1 - phg P k + 1)) = 128 by omega] at sk
    exact pk_lt (pn P 1 - phg P k) (pn P 1 - phg P k + 1) (fun _ => qV (h m3 a1 a2 a3 a4 (sk ▸ a5))) (fun c => absurd c (by omega))
end FIND
