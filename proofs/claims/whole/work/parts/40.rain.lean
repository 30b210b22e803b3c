/-! ===== rain ===== -/
theorem top_out {P : PT} {B : BT} {c : Nat} (hV : VB P B) (h : pn P 0 ≤ c % 16 ∨ pn P 1 ≤ c / 16) : top P B c = 0 := by
  cases e : top P B c with
  | zero => rfl
  | succ t =>
    obtain ⟨h1, h2⟩ := top_has e
    obtain ⟨r1, r2, r3, r4⟩ := rch_i.mp (lie_rch h2).1
    have := hV.2 t h1
    omega
theorem VB.sd {P : PT} {B : BT} (s : Int32) (hV : VB P B) : VB P (sdB B s) := hV
theorem top_sd (P : PT) (B : BT) (s : Int32) (c : Nat) : top P (sdB B s) c = top P B c := rfl
def rst (P : PT) (k : Int32) (c : Nat) (s : Nat × BT) : Nat × BT := if top P s.2 c = 0 then s else if k ≤ drw (bsd s.2) then (s.1, sdB s.2 (nxt (bsd s.2))) else (s.1 + 1, tearB P (sdB s.2 (nxt (bsd s.2))) c)
def rnN (P : PT) (k : Int32) : Nat → Nat × BT → Nat × BT
  | 0, s => s
  | c + 1, s => rst P k c (rnN P k c s)
theorem rnN_s (P : PT) (k : Int32) (c : Nat) (s : Nat × BT) : rnN P k (c + 1) s = rst P k c (rnN P k c s) := rfl
theorem VB.rain {P : PT} {k : Int32} {s : Nat × BT} (hV : VB P s.2) : ∀ c, VB P (rnN P k c s).2
  | 0 => hV
  | c + 1 => by
    have ih := VB.rain (k := k) hV c
    rw [rnN_s]
    generalize rnN P k c s = u at *
    unfold rst
    split
    · exact ih
    · split
      · exact ih.sd _
      · exact (ih.sd _).tear
theorem rnN_skip {P : PT} {k : Int32} {s : Nat × BT} (hV : VB P s.2) {a : Nat} : ∀ d, (∀ c, a ≤ c → c < a + d → pn P 0 ≤ c % 16 ∨ pn P 1 ≤ c / 16) → rnN P k (a + d) s = rnN P k a s
  | 0, _ => rfl
  | d + 1, h => by
    rw [← Nat.add_assoc, rnN_s, rnN_skip hV d (fun c h1 h2 => h c h1 (by omega))]
    unfold rst
    rw [if_pos]
    exact top_out (hV.rain a) (h (a + d) (by omega) (by omega)) |> fun q => by
      rw [show top P (rnN P k a s).2 (a + d) = 0 from q]
section RAIN
variable {X : a_X} {m : Nat → Nat → Int32} {P : PT} {B : BT} {b : Nat} {Q : Int32 → (Nat → Nat → Int32) → Prop}
theorem s_loosen (hb : sBills b) (h7 : 7 ≤ b) (hP : EP m P) (hVP : VP P) (hE : EB m b P B) (hV : VB P B) {k : Int32} (h : ∀ m', Fr (fun c => b ≤ c ∧ c ≤ b + 7) m m' → EB m' b P (rnN P k 128 (0, B)).2 → Q (nI (rnN P k 128 (0, B)).1) m') : CallI X mX0_loosen [.ref b, .int k] m Q := by
  have h0 := hVP.1
  have h1 := hVP.2.1
  have hv : ∀ c, VB P (rnN P k c (0, B)).2 := VB.rain hV
  refine eX0_loosen_0 hb ?_
  refine lpf (a := 0) (b := pn P 1) (I := fun y m' => Fr (fun c => b ≤ c ∧ c ≤ b + 7) m m' ∧ EB m' b P (rnN P k (16 * y) (0, B)).2) (W := fun y m' => Wp X mX0_loosen 4 [some (.ref b), some (.int k), some (.int (nI (rnN P k (16 * y) (0, B)).1)), some (.int (nI y)), none, none] [] m' (QI Q)) (by omega) ?_ ?_ ⟨Fr.rf, hE⟩
  · rintro y - hy m' ⟨hF, hI⟩ next
    have P' : EP m' P := hP.fr fun c hc hc2 => hF c (by omega)
    refine eX0_loosen_4 hb ?_
    rw [P'.1 1 (by omega)]
    refine pk_le (pn P 1) y (fun c => absurd c (by omega)) (fun _ => ?_)
    refine lpf (a := 0) (b := pn P 0) (I := fun x m' => Fr (fun c => b ≤ c ∧ c ≤ b + 7) m m' ∧ EB m' b P (rnN P k (16 * y + x) (0, B)).2) (W := fun x m' => Wp X mX0_loosen 18 [some (.ref b), some (.int k), some (.int (nI (rnN P k (16 * y + x) (0, B)).1)), some (.int (nI y)), some (.int (nI x)), none] [] m' (QI Q)) (by omega) ?_ ?_ ⟨hF, hI⟩
    · rintro x - hx m2 ⟨hF2, hI2⟩ next2
      have P2 : EP m2 P := hP.fr fun c hc hc2 => hF2 c (by omega)
      refine eX0_loosen_18 hb ?_
      rw [P2.1 0 (by omega)]
      refine pk_le (pn P 0) x (fun c => absurd c (by omega)) (fun _ => s_cellAt ?_)
      have hV2 := hv (16 * y + x)
      have hT := top_le hV2 (16 * y + x)
      rw [show 16 * y + (x + 1) = (16 * y + x) + 1 by omega, rnN_s] at next2
      generalize hu : rnN P k (16 * y + x) (0, B) = u at *
      rw [nI_1, nI_1]
      unfold rst at next2
      refine s_above hb hI2 hV2 (by omega) ⟨fun d => ?_, fun d => ?_⟩
      · rw [tI_0 _ (by omega)] at d
        rw [if_pos d] at next2
        exact next2 m2 ⟨hF2, hI2⟩
      · rw [tI_0 _ (by omega)] at d
        rw [if_neg d] at next2
        refine s_draw hb hI2 fun m3 f3 e3 => ?_
        refine ⟨fun q => ?_, fun q => ?_⟩
        · rw [if_pos q] at next2
          exact next2 m3 ⟨hF2.tr (f3.mono fun c hc => by omega), e3⟩
        · rw [if_neg q] at next2
          refine s_tearTop hb h7 e3 (hV2.sd _) (by omega) fun m4 f4 e4 => ?_
          exact next2 m4 ⟨(hF2.tr (f3.mono fun c hc => by omega)).tr (f4.mono fun c hc => by omega), e4⟩
    · rintro m2 ⟨hF2, hI2⟩
      have P2 : EP m2 P := hP.fr fun c hc hc2 => hF2 c (by omega)
      refine eX0_loosen_18 hb ?_
      rw [P2.1 0 (by omega), nI_1]
      refine pk_le (pn P 0) (pn P 0) (fun _ => ?_) (fun c => absurd c (by omega))
      have sk := rnN_skip (P := P) (k := k) (s := (0, B)) hV (a := 16 * y + pn P 0) (16 - pn P 0) (fun c h1 h2 => Or.inl (by omega))
      rw [show 16 * y + pn P 0 + (16 - pn P 0) = 16 * (y + 1) by omega] at sk
      rw [← sk] at hI2 ⊢
      exact next m2 ⟨hF2, hI2⟩
  · rintro m' ⟨hF, hI⟩
    have P' : EP m' P := hP.fr fun c hc hc2 => hF c (by omega)
    refine eX0_loosen_4 hb ?_
    rw [P'.1 1 (by omega)]
    refine pk_le (pn P 1) (pn P 1) (fun _ => qI ?_) (fun c => absurd c (by omega))
    have sk := rnN_skip (P := P) (k := k) (s := (0, B)) hV (a := 16 * pn P 1) (128 - 16 * pn P 1) (fun c h1 h2 => Or.inr (by omega))
    rw [show 16 * pn P 1 + (128 - 16 * pn P 1) = 128 by omega] at sk
    rw [← sk] at hI ⊢
    exact h m' hF hI
end RAIN
