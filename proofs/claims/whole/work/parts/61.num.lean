/-! ===== the class's way through THE TEXT ===== -/
def TXm (m : Nat → Nat → Int32) (t : TX) (L : Nat) : Prop := L ≤ 300 ∧ ∀ i, i < L → m 14 i = nI (t i) ∧ t i < 256
/-- where the reader stands: at a place, or with a FAULT -/
def KS (m : Nat → Nat → Int32) (L : Nat) : Rs Nat → Prop
  | .ok p => m 13 1 = nI L ∧ m 13 2 = nI p ∧ p ≤ L ∧ m 13 4 = 0 ∧ m 13 5 = -1
  | .error w => m 13 1 = nI L ∧ (∃ p, p ≤ L ∧ m 13 2 = nI p) ∧ (1 ≤ w.1 ∧ w.1 ≤ 4) ∧ m 13 4 = nI w.1 ∧ m 13 5 = nI w.2
def G13 (m m' : Nat → Nat → Int32) : Prop := Fr (fun c => c = 13) m m' ∧ ∀ i, i = 0 ∨ i = 1 ∨ i = 6 ∨ i = 7 → m' 13 i = m 13 i
theorem G13.rf {m : Nat → Nat → Int32} : G13 m m := ⟨Fr.rf, fun _ _ => rfl⟩
theorem G13.tr {m m1 m2 : Nat → Nat → Int32} (h : G13 m m1) (h2 : G13 m1 m2) : G13 m m2 := ⟨h.1.tr h2.1, fun i hi => (h2.2 i hi).trans (h.2 i hi)⟩
theorem G13.up {m m1 m2 : Nat → Nat → Int32} {i : Nat} {v : Int32} (h : G13 m m1) (e : m2 = a_up m1 13 i v) (hi : 2 ≤ i ∧ i ≤ 5) : G13 m m2 := ⟨by rw [e]; exact Fr.up h.1 rfl, fun j hj => by rw [e, a_up_n _ _ (Or.inr (by omega))]; exact h.2 j hj⟩
theorem TXm.fr {m m' : Nat → Nat → Int32} {t : TX} {L : Nat} (h : TXm m t L) (e : m' 14 = m 14) : TXm m' t L := ⟨h.1, fun i hi => by rw [e]; exact h.2 i hi⟩
theorem TXm.g {m m' : Nat → Nat → Int32} {t : TX} {L : Nat} (h : TXm m t L) (e : G13 m m') : TXm m' t L := h.fr (e.1 14 (by omega))
section NUM
variable {X : a_X} {m : Nat → Nat → Int32} {t : TX} {L : Nat}
/-- where it stands, whatever the FAULT -/
theorem KS.at {e : Rs Nat} (h : KS m L e) : m 13 1 = nI L ∧ ∃ p, p ≤ L ∧ m 13 2 = nI p := by
  cases e with
  | ok p => exact ⟨h.1, p, h.2.2.1, h.2.1⟩
  | error w => exact ⟨h.1, h.2.1⟩
/-- another place, all else as it was -/
theorem KS.mv {m' : Nat → Nat → Int32} {e : Rs Nat} {p : Nat} (h : KS m L e) (hp : p ≤ L) (h1 : m' 13 1 = m 13 1) (h2 : m' 13 2 = nI p) (h4 : m' 13 4 = m 13 4) (h5 : m' 13 5 = m 13 5) : KS m' L (bnd e fun _ => .ok p) := by
  cases e with
  | ok q =>
    obtain ⟨k1, k2, k3, k4, k5⟩ := h
    exact ⟨h1.trans k1, h2, hp, h4.trans k4, h5.trans k5⟩
  | error w =>
    obtain ⟨k1, k2, k3, k4, k5⟩ := h
    exact ⟨h1.trans k1, ⟨p, hp, h2⟩, k3, h4.trans k4, h5.trans k5⟩
theorem s_isFaultless {Q : Int32 → (Nat → Nat → Int32) → Prop} {e : Rs Nat} (hK : KS m L e) (h : Q (match e with | .ok _ => 1 | .error _ => 0) m) : CallI X mX6_isFaultless [.ref 13] m Q := by
  cases e with
  | ok p => exact eX6_isFaultless_0 ⟨fun c => absurd hK.2.2.2.1 c, fun _ => qI h⟩
  | error w =>
    refine eX6_isFaultless_0 ⟨fun _ => qI h, fun c => ?_⟩
    obtain ⟨-, -, k3, k4, -⟩ := hK
    rw [k4] at c
    exact absurd ((nI_eq (b := 0) (by omega) (by omega)).mp c) (by omega)
theorem s_fail {Q : (Nat → Nat → Int32) → Prop} {e : Rs Nat} {f w : Nat} (hK : KS m L e) (hf : 1 ≤ f ∧ f ≤ 4) (h : ∀ m', G13 m m' → m' 13 3 = m 13 3 → m' 13 2 = m 13 2 → KS m' L (bnd e fun _ => .error (f, w)) → Q m') : CallV X mX6_fail [.ref 13, .int (nI f), .int (nI w)] m Q := by
  cases e with
  | ok p =>
    refine eX6_fail_0 ⟨fun c => absurd hK.2.2.2.1 c, fun _ m1 e1 m2 e2 => qV (h m2 ((G13.rf.up e1 (by omega)).up e2 (by omega)) ?_ ?_ ⟨?_, ⟨p, hK.2.2.1, ?_⟩, hf, ?_, ?_⟩)⟩
    · rw [e2, a_up_n _ _ (Or.inr (by omega)), e1, a_up_n _ _ (Or.inr (by omega))]
    · rw [e2, a_up_n _ _ (Or.inr (by omega)), e1, a_up_n _ _ (Or.inr (by omega))]
    · rw [e2, a_up_n _ _ (Or.inr (by omega)), e1, a_up_n _ _ (Or.inr (by omega))]; exact hK.1
    · rw [e2, a_up_n _ _ (Or.inr (by omega)), e1, a_up_n _ _ (Or.inr (by omega))]; exact hK.2.1
    · rw [e2, a_up_n _ _ (Or.inr (by omega)), e1, a_up_s]
    · rw [e2, a_up_s]
  | error w =>
    refine eX6_fail_0 ⟨fun _ => qV (h m G13.rf rfl rfl hK), fun c => ?_⟩
    obtain ⟨-, -, k3, k4, -⟩ := hK
    rw [k4] at c
    exact absurd ((nI_eq (b := 0) (by omega) (by omega)).mp c) (by omega)
/-- a loop that goes over signs from a place on -/
theorem s_skip {Q : (Nat → Nat → Int32) → Prop} {p : Nat} (hT : TXm m t L) (h1 : m 13 1 = nI L) (h2 : m 13 2 = nI p) (hp : p ≤ L) (h : ∀ m', G13 m m' → (∀ i, i ≠ 2 → m' 13 i = m 13 i) → m' 13 2 = nI (sk t L p) → Q m') : CallV X mX6_skipBlanks [.ref 13] m Q := by
  have hL := hT.1
  have key := runI (q := isB t) (L := L) (I := fun p m' => p ≤ L ∧ G13 m m' ∧ (∀ i, i ≠ 2 → m' 13 i = m 13 i) ∧ m' 13 2 = nI p) (W := fun p m' => Wp X mX6_skipBlanks 0 [some (.ref 13)] [] m' (QV Q)) ?_ _ p rfl ?_ m ⟨hp, G13.rf, fun _ _ => rfl, h2⟩
  · exact key
  · rintro p m2 hpL hq ⟨-, g, hI, e2⟩ next
    obtain ⟨c1, c2⟩ := hT.2 p hpL
    refine eX6_skipBlanks_0 ?_
    rw [hI 1 (by omega), h1, e2]
    refine pk_le L p (fun c => absurd c (by omega)) (fun _ => ⟨pk_in p 300 (by omega), ?_⟩)
    rw [nI_clamp (n := p) (by omega), g.1 14 (by omega), c1, nI_1]
    refine (pk_eq (t p) 32 (fun c m3 e3 => next m3 ⟨by omega, g.up e3 (by omega), fun i hi => ?_, ?_⟩) (fun c => absurd (of_decide_eq_true hq) c)).symm
    · rw [e3, a_up_n _ _ (Or.inr hi)]; exact hI i hi
    · rw [e3, a_up_s]
  · rintro m2 ⟨hpL, g, hI, e2⟩
    have he := rn_end (isB t) L p
    have fin : QV Q none m2 := qV (h m2 g hI e2)
    generalize rn (isB t) L p = q at *
    refine eX6_skipBlanks_0 ?_
    rw [hI 1 (by omega), h1, e2]
    refine pk_le L q (fun _ => fin) (fun c => ⟨pk_in q 300 (by omega), ?_⟩)
    obtain ⟨c1, c2⟩ := hT.2 q c
    rw [nI_clamp (n := q) (by omega), g.1 14 (by omega), c1, nI_1]
    exact (pk_eq (t q) 32 (fun c m3 e3 => absurd c (of_decide_eq_false (he.resolve_left (by omega)))) (fun c => fin)).symm
theorem s_skipB {Q : (Nat → Nat → Int32) → Prop} {e : Rs Nat} (hT : TXm m t L) (hK : KS m L e) (h : ∀ m', G13 m m' → m' 13 3 = m 13 3 → KS m' L (bnd e fun p => .ok (sk t L p)) → Q m') : CallV X mX6_skipBlanks [.ref 13] m Q := by
  obtain ⟨h1, p, hp, h2⟩ := hK.at
  refine s_skip hT h1 h2 hp fun m' g hI e2 => h m' g (hI 3 (by omega)) ?_
  have hq : sk t L p ≤ L := rn_le hp
  have := hK.mv (m' := m') hq (hI 1 (by omega)) e2 (hI 4 (by omega)) (hI 5 (by omega))
  cases e with
  | ok q =>
    have : nI q = nI p := hK.2.1.symm.trans h2
    have hq2 := hK.2.2.1
    have hL := hT.1
    have : q = p := (nI_eq (by omega) (by omega)).mp this
    subst this
    assumption
  | error w => exact this
theorem s_isG {c : Nat} (hc : c < 256) {Q : Int32 → (Nat → Nat → Int32) → Prop} (h : Q (bI (decide (48 ≤ c ∧ c ≤ 57))) m) : CallI X mX6_isFigure [.int (nI c)] m Q := by
  refine eX6_isFigure_0 (pk_lt c 48 (fun d => ?_) (fun d => pk_lt 57 c (fun d2 => ?_) (fun d2 => ?_)))
  · rw [decide_eq_false (by omega)] at h; exact qI h
  · rw [decide_eq_false (by omega)] at h; exact qI h
  · rw [decide_eq_true (by omega)] at h; exact qI h
theorem s_isLt {c : Nat} (hc : c < 256) {Q : Int32 → (Nat → Nat → Int32) → Prop} (h : Q (bI (decide (97 ≤ c ∧ c ≤ 122))) m) : CallI X mX6_isLetter [.int (nI c)] m Q := by
  refine eX6_isLetter_0 (pk_lt c 97 (fun d => ?_) (fun d => pk_lt 122 c (fun d2 => ?_) (fun d2 => ?_)))
  · rw [decide_eq_false (by omega)] at h; exact qI h
  · rw [decide_eq_false (by omega)] at h; exact qI h
  · rw [decide_eq_true (by omega)] at h; exact qI h
/-- what a NUMBER answers, and what is left -/
def nuV (lo : Int32) : Rs (Nat × Nat) → Int32
  | .ok r => nI r.1
  | .error _ => lo
theorem vl_le {t : TX} {p : Nat} : ∀ n, n ≤ 3 → (∀ i, i < n → t (p + i) ≤ 57) → vl t p n ≤ 999
  | 0, _, _ => Nat.zero_le _
  | 1, _, h => by
    have := h 0 (by omega)
    show 10 * 0 + (t (p + 0) - 48) ≤ 999
    omega
  | 2, _, h => by
    have := h 0 (by omega)
    have := h 1 (by omega)
    show 10 * (10 * 0 + (t (p + 0) - 48)) + (t (p + 1) - 48) ≤ 999
    omega
  | 3, _, h => by
    have := h 0 (by omega)
    have := h 1 (by omega)
    have := h 2 (by omega)
    show 10 * (10 * (10 * 0 + (t (p + 0) - 48)) + (t (p + 1) - 48)) + (t (p + 2) - 48) ≤ 999
    omega
  | n + 4, h, _ => by omega
theorem s_num {Q : Int32 → (Nat → Nat → Int32) → Prop} {e : Rs Nat} {lo hi : Int32} {nlo nhi : Nat} (hT : TXm m t L) (hK : KS m L e) (hlo : ∀ p, e = .ok p → lo = nI nlo ∧ hi = nI nhi ∧ nlo ≤ 1000 ∧ nhi ≤ 1000) (h : ∀ m', G13 m m' → (∀ p, e = .ok p → m' 13 3 = nI (sk t L p)) → KS m' L (bnd (bnd e fun p => nmb t L nlo nhi p) fun r => .ok r.2) → Q (nuV lo (bnd e fun p => nmb t L nlo nhi p)) m') : CallI X mX6_readNumber [.ref 13, .int lo, .int hi] m Q := by
  have hL := hT.1
  refine eX6_readNumber_0 (s_skipB hT hK fun m1 g1 _ K1 m2 e2 => ?_)
  obtain ⟨a1, p1, hp1, a2⟩ := K1.at
  rw [a2] at e2
  have g2 : G13 m m2 := g1.up e2 (by omega)
  have T2 := hT.g g2
  have o2 : ∀ i, i ≠ 3 → m2 13 i = m1 13 i := fun i hi => by rw [e2, a_up_n _ _ (Or.inr hi)]
  have n2 : m2 13 3 = nI p1 := by rw [e2, a_up_s]
  have key := runI (q := isG t) (L := L) (I := fun p m' => p1 ≤ p ∧ p ≤ L ∧ G13 m2 m' ∧ (∀ i, i ≠ 2 → m' 13 i = m2 13 i) ∧ m' 13 2 = nI p ∧ ∀ i, p1 ≤ i → i < p → isG t i = true)
    (W := fun p m' => Wp X mX6_readNumber 17 [some (.ref 13), some (.int lo), some (.int hi), some (.int (nI (vl t p1 (min (p - p1) 3)))), some (.int (nI (p - p1)))] [] m' (QI Q)) ?_ _ p1 rfl ?_ m2 ⟨Nat.le_refl _, hp1, G13.rf, fun _ _ => rfl, by rw [o2 2 (by omega)]; exact a2, fun i h1 h2 => by omega⟩
  · rw [Nat.sub_self] at key
    exact key
  · rintro p m3 hpL hq ⟨hpp, -, g, hI, e3, hG⟩ next
    obtain ⟨c1, c2⟩ := T2.2 p hpL
    have hq2 := of_decide_eq_true hq
    refine eX6_readNumber_17 ?_
    rw [hI 1 (by omega), o2 1 (by omega), a1, e3]
    refine pk_le L p (fun c => absurd c (by omega)) (fun _ => ⟨pk_in p 300 (by omega), ?_⟩)
    rw [nI_clamp (n := p) (by omega), g.1 14 (by omega), c1, nI_1]
    have nx : ∀ m', m' = a_up m3 13 2 (nI (p + 1)) → Wp X mX6_readNumber 17 [some (.ref 13), some (.int lo), some (.int hi), some (.int (nI (vl t p1 (min (p + 1 - p1) 3)))), some (.int (nI (p + 1 - p1)))] [] m' (QI Q) := fun m' e4 => next m' ⟨by omega, by omega, g.up e4 (by omega), fun i hi => by rw [e4, a_up_n _ _ (Or.inr hi)]; exact hI i hi, by rw [e4, a_up_s], fun i h1 h2 => by
      by_cases z : i = p
      · rw [z]; exact hq
      · exact hG i h1 (by omega)⟩
    refine s_isG c2 ⟨fun z => ?_, fun _ => ?_⟩
    · rw [bI_0] at z
      rw [show decide (48 ≤ t p ∧ t p ≤ 57) = true from hq] at z
      cases z
    · rw [e3, nI_clamp (n := p) (by omega), g.1 14 (by omega), c1, nI_1, show p - p1 + 1 = p + 1 - p1 by omega]
      refine pk_lt 3 (p + 1 - p1) (fun c m5 e5 => ?_) (fun c => ⟨pk_in p 300 (by omega), fun m5 e5 => ?_⟩)
      · have := nx m5 e5
        rw [show min (p + 1 - p1) 3 = min (p - p1) 3 by omega] at this
        exact this
      · have := nx m5 e5
        rw [show min (p + 1 - p1) 3 = (p - p1) + 1 by omega] at this
        rw [show min (p - p1) 3 = p - p1 by omega, show (10 : Int32) = nI 10 from rfl, pk_mul, show (48 : Int32) = nI 48 from rfl, pk_sub (by omega), nI_add]
        have ev : vl t p1 (p - p1 + 1) = vl t p1 (p - p1) * 10 + (t p - 48) := by
          show 10 * vl t p1 (p - p1) + (t (p1 + (p - p1)) - 48) = _
          rw [show p1 + (p - p1) = p by omega]; omega
        rw [ev] at this
        exact this
  · rintro m3 ⟨hpp, hpL, g, hI, e3, hG⟩
    have he := rn_end (isG t) L p1
    have hv : ∀ k, k ≤ 3 → k ≤ rn (isG t) L p1 - p1 → vl t p1 k ≤ 999 := fun k hk hk2 => vl_le k hk fun i hi => by
      have := of_decide_eq_true (hG (p1 + i) (by omega) (by omega))
      omega
    generalize hp2 : rn (isG t) L p1 = p2 at *
    have G3 : G13 m m3 := g2.tr g
    have K3 : KS m3 L (bnd (bnd e fun p => .ok (sk t L p)) fun _ => .ok p2) := K1.mv hpL (by rw [hI 1 (by omega), o2 1 (by omega)]) e3 (by rw [hI 4 (by omega), o2 4 (by omega)]) (by rw [hI 5 (by omega), o2 5 (by omega)])
    have n3 : m3 13 3 = nI p1 := by rw [hI 3 (by omega)]; exact n2
    -- what is done behind the figures
    have tail : ((¬ nI (p2 - p1) = 0 → (3 < nI (p2 - p1) → CallV X mX6_fail [.ref 13, .int 2, .int (m3 13 3)] m3 (fun m1 => CallI X mX6_isFaultless [.ref 13] m1 (fun v3 m2 => (v3 = 0 → (QI Q) (some (.int lo)) m2) ∧ (¬ v3 = 0 → (QI Q) (some (.int (nI (vl t p1 (min (p2 - p1) 3))))) m2)))) ∧ (¬ 3 < nI (p2 - p1) → (nI (vl t p1 (min (p2 - p1) 3)) < lo → CallV X mX6_fail [.ref 13, .int 2, .int (m3 13 3)] m3 (fun m4 => CallI X mX6_isFaultless [.ref 13] m4 (fun v6 m5 => (v6 = 0 → (QI Q) (some (.int lo)) m5) ∧ (¬ v6 = 0 → (QI Q) (some (.int (nI (vl t p1 (min (p2 - p1) 3))))) m5)))) ∧ (¬ nI (vl t p1 (min (p2 - p1) 3)) < lo → (nI (vl t p1 (min (p2 - p1) 3)) ≤ hi → CallI X mX6_isFaultless [.ref 13] m3 (fun v8 m7 => (v8 = 0 → (QI Q) (some (.int lo)) m7) ∧ (¬ v8 = 0 → (QI Q) (some (.int (nI (vl t p1 (min (p2 - p1) 3))))) m7))) ∧ (¬ nI (vl t p1 (min (p2 - p1) 3)) ≤ hi → CallV X mX6_fail [.ref 13, .int 2, .int (m3 13 3)] m3 (fun m9 => CallI X mX6_isFaultless [.ref 13] m9 (fun v11 m10 => (v11 = 0 → (QI Q) (some (.int lo)) m10) ∧ (¬ v11 = 0 → (QI Q) (some (.int (nI (vl t p1 (min (p2 - p1) 3))))) m10))))))) ∧ (nI (p2 - p1) = 0 → CallV X mX6_fail [.ref 13, .int 1, .int (m3 13 3)] m3 (fun m12 => CallI X mX6_isFaultless [.ref 13] m12 (fun v14 m13 => (v14 = 0 → (QI Q) (some (.int lo)) m13) ∧ (¬ v14 = 0 → (QI Q) (some (.int (nI (vl t p1 (min (p2 - p1) 3))))) m13))))) := by
      have fl : ∀ f, 1 ≤ f ∧ f ≤ 4 → (∀ p, e = .ok p → nmb t L nlo nhi p = .error (f, p1)) → CallV X mX6_fail [.ref 13, .int (nI f), .int (nI p1)] m3 (fun m9 => CallI X mX6_isFaultless [.ref 13] m9 (fun v11 m10 => (v11 = 0 → (QI Q) (some (.int lo)) m10) ∧ (¬ v11 = 0 → (QI Q) (some (.int (nI (vl t p1 (min (p2 - p1) 3))))) m10))) := fun f hf hno => s_fail K3 hf fun m4 g4 n4 _ K4 => s_isFaultless K4 (by
        have G4 := G3.tr g4
        cases e with
        | ok p =>
          have h := h m4 G4 (fun q hq => by
            cases hq
            rw [n4, n3]
            obtain ⟨z1, z2, z3, -⟩ := K1
            have : nI p1 = nI (sk t L p) := a2.symm.trans z2
            exact this)
          show ((0 : Int32) = 0 → _) ∧ _
          refine ⟨fun _ => qI ?_, fun c => absurd rfl c⟩
          have en := hno p rfl
          unfold bnd at h
          dsimp only at h
          rw [en] at h
          exact h K4
        | error w =>
          have h := h m4 G4 (fun q hq => by cases hq)
          exact ⟨fun _ => qI (h K4), fun c => absurd rfl c⟩)
      have ep : ∀ p, e = .ok p → p1 = sk t L p ∧ p2 = ge t L p := fun p hp => by
        subst hp
        obtain ⟨z1, z2, z3, -⟩ := K1
        have : nI p1 = nI (sk t L p) := a2.symm.trans z2
        have e1 : p1 = sk t L p := (nI_eq (by omega) (by omega)).mp this
        refine ⟨e1, ?_⟩
        unfold ge
        rw [← e1, hp2]
      have hv2 := hv (min (p2 - p1) 3) (by omega) (by omega)
      rw [n3]
      refine (pk_eq (p2 - p1) 0 (fun c => fl 1 (by omega) fun p hp => ?_) (fun c => ?_)).symm
      · obtain ⟨i1, i2⟩ := ep p hp
        unfold nmb
        rw [← i1, ← i2, if_pos (by omega)]
      · refine pk_lt 3 (p2 - p1) (fun c2 => fl 2 (by omega) fun p hp => ?_) (fun c2 => ?_)
        · obtain ⟨i1, i2⟩ := ep p hp
          unfold nmb
          rw [← i1, ← i2, if_neg (by omega), if_pos (Or.inl c2)]
        · rw [show min (p2 - p1) 3 = p2 - p1 by omega] at hv2 fl ⊢
          have dok : ∀ p, e = .ok p → (nI (vl t p1 (p2 - p1)) < lo ↔ vl t p1 (p2 - p1) < nlo) ∧ (nI (vl t p1 (p2 - p1)) ≤ hi ↔ vl t p1 (p2 - p1) ≤ nhi) := fun p hp => by
            obtain ⟨l1, l2, l3, l4⟩ := hlo p hp
            rw [l1, l2]
            exact ⟨nI_ltI (by omega) (by omega), nI_leI (by omega) (by omega)⟩
          refine ⟨fun c3 => fl 2 (by omega) fun p hp => ?_, fun c3 => ⟨fun c4 => s_isFaultless K3 ?_, fun c4 => fl 2 (by omega) fun p hp => ?_⟩⟩
          · obtain ⟨i1, i2⟩ := ep p hp
            unfold nmb
            rw [← i1, ← i2, if_neg (by omega), if_pos (Or.inr (Or.inl (((dok p hp).1).mp c3)))]
          · cases e with
            | ok p =>
              obtain ⟨i1, i2⟩ := ep p rfl
              obtain ⟨d1, d2⟩ := dok p rfl
              have en : nmb t L nlo nhi p = .ok (vl t p1 (p2 - p1), p2) := by
                unfold nmb
                rw [← i1, ← i2, if_neg (by omega), if_neg]
                rintro (q | q | q)
                · omega
                · exact c3 (d1.mpr q)
                · have := d2.mp c4; omega
              have h := h m3 G3 (fun q hq => by cases hq; rw [n3, i1])
              show ((1 : Int32) = 0 → _) ∧ _
              refine ⟨fun c => absurd c (by decide), fun _ => qI ?_⟩
              unfold bnd at h
              dsimp only at h
              rw [en] at h
              exact h K3
            | error w =>
              have h := h m3 G3 (fun q hq => by cases hq)
              exact ⟨fun _ => qI (h K3), fun c => absurd rfl c⟩
          · obtain ⟨i1, i2⟩ := ep p hp
            obtain ⟨d1, d2⟩ := dok p hp
            unfold nmb
            rw [← i1, ← i2, if_neg (by omega), if_pos (Or.inr (Or.inr (by
              by_cases q : nhi < vl t p1 (p2 - p1)
              · exact q
              · exact absurd (d2.mpr (by omega)) c4)))]
    refine eX6_readNumber_17 ?_
    rw [hI 1 (by omega), o2 1 (by omega), a1, e3]
    refine pk_le L p2 (fun _ => tail) (fun c => ⟨pk_in p2 300 (by omega), ?_⟩)
    obtain ⟨c1, c2⟩ := T2.2 p2 c
    rw [nI_clamp (n := p2) (by omega), g.1 14 (by omega), c1]
    refine s_isG c2 ⟨fun _ => tail, fun z => ?_⟩
    rw [bI_n0] at z
    have := he.resolve_left (by omega)
    unfold isG at this
    rw [this] at z
    cases z
end NUM
