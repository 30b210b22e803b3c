/-! ===== words, the end of a clause, the draft ===== -/
theorem KS.fr {m m' : Nat → Nat → Int32} {L : Nat} {e : Rs Nat} (h : KS m L e) (z : m' 13 = m 13) : KS m' L e := by
  cases e with
  | ok p => unfold KS at h ⊢; rw [z]; exact h
  | error w => unfold KS at h ⊢; rw [z]; exact h
def EPd (m : Nat → Nat → Int32) (P : PT) : Prop := (∀ i, i < 7 → m 7 i = nI (pn P i)) ∧ (∀ x, x < 16 → m 8 x = nI (pps P x)) ∧ (∀ y, y < 8 → isS (m 9 y) (fun x => decide (x < 16) && pbr P (16 * y + x))) ∧ ∀ k, k < pn P 6 → m 10 k = nI (pow P k) ∧ m 11 k = nI (pwd P k) ∧ m 12 k = nI (phg P k)
theorem EPd.fr {m m' : Nat → Nat → Int32} {P : PT} (h : EPd m P) (e : ∀ c, 7 ≤ c → c ≤ 12 → m' c = m c) : EPd m' P := by
  unfold EPd at h ⊢
  rw [e 7 (by omega) (by omega), e 8 (by omega) (by omega), e 9 (by omega) (by omega), e 10 (by omega) (by omega), e 11 (by omega) (by omega), e 12 (by omega) (by omega)]
  exact h
theorem EPd.g {m m' : Nat → Nat → Int32} {P : PT} (h : EPd m P) (g : G13 m m') : EPd m' P := h.fr fun c h1 h2 => g.1 c (by omega)
section WORDS
variable {X : a_X} {m : Nat → Nat → Int32} {t : TX} {L : Nat}
theorem s_numK {Q : Int32 → (Nat → Nat → Int32) → Prop} {p : Nat} {lo hi : Int32} (nlo nhi : Nat) (hT : TXm m t L) (hK : KS m L (.ok p)) (el : lo = nI nlo) (eh : hi = nI nhi) (hlo : nlo ≤ 1000) (hhi : nhi ≤ 1000) (hok : ∀ r m', nmb t L nlo nhi p = .ok r → G13 m m' → m' 13 3 = nI (sk t L p) → KS m' L (.ok r.2) → Q (nI r.1) m') (her : ∀ w m', nmb t L nlo nhi p = .error w → G13 m m' → m' 13 3 = nI (sk t L p) → KS m' L (.error w) → Q lo m') : CallI X mX6_readNumber [.ref 13, .int lo, .int hi] m Q := by
  refine s_num (nlo := nlo) (nhi := nhi) hT hK (fun q hq => ⟨el, eh, hlo, hhi⟩) fun m' g n K => ?_
  have n := n p rfl
  have K : KS m' L (bnd (nmb t L nlo nhi p) fun r => .ok r.2) := K
  show Q (nuV lo (nmb t L nlo nhi p)) m'
  cases e : nmb t L nlo nhi p with
  | ok r => rw [e] at K; exact hok r m' e g n K
  | error w => rw [e] at K; exact her w m' e g n K
theorem s_numE {Q : Int32 → (Nat → Nat → Int32) → Prop} {w : Nat × Nat} {lo hi : Int32} (hT : TXm m t L) (hK : KS m L (.error w)) (h : ∀ m', G13 m m' → KS m' L (.error w) → Q lo m') : CallI X mX6_readNumber [.ref 13, .int lo, .int hi] m Q :=
  s_num (nlo := 0) (nhi := 0) hT hK (fun q hq => by cases hq) fun m' g n K => h m' g K
theorem s_readEnd {Q : (Nat → Nat → Int32) → Prop} {p : Nat} (hT : TXm m t L) (hK : KS m L (.ok p)) (h : ∀ m', G13 m m' → KS m' L (endc t L p) → Q m') : CallV X mX6_readEnd [.ref 13] m Q := by
  have hL := hT.1
  refine eX6_readEnd_0 (s_skipB hT hK fun m1 g1 _ K1 => ?_)
  have K1 : KS m1 L (.ok (sk t L p)) := K1
  obtain ⟨k1, k2, k3, k4, k5⟩ := K1
  unfold endc at h
  generalize sk t L p = q at *
  have K1 : KS m1 L (.ok q) := ⟨k1, k2, k3, k4, k5⟩
  rw [k1, k2]
  refine pk_le L q (fun c => ?_) (fun c => ⟨pk_in q 300 (by omega), ?_⟩)
  · rw [if_neg fun z => by omega] at h
    exact s_fail K1 (f := 1) (by omega) fun m2 g2 _ _ K2 => qV (h m2 (g1.tr g2) K2)
  · obtain ⟨c1, c2⟩ := hT.2 q c
    rw [nI_clamp (n := q) (by omega), g1.1 14 (by omega), c1, nI_1]
    refine (pk_eq (t q) 59 (fun d m4 e4 => ?_) (fun d => ?_)).symm
    · rw [if_pos ⟨c, d⟩] at h
      refine qV (h m4 (g1.up e4 (by omega)) ⟨?_, ?_, by omega, ?_, ?_⟩)
      · rw [e4, a_up_n _ _ (Or.inr (by omega))]; exact k1
      · rw [e4, a_up_s]
      · rw [e4, a_up_n _ _ (Or.inr (by omega))]; exact k4
      · rw [e4, a_up_n _ _ (Or.inr (by omega))]; exact k5
    · rw [if_neg fun z => d z.2] at h
      exact s_fail K1 (f := 1) (by omega) fun m2 g2 _ _ K2 => qV (h m2 (g1.tr g2) K2)
theorem s_readEndE {Q : (Nat → Nat → Int32) → Prop} {w : Nat × Nat} (hT : TXm m t L) (hK : KS m L (.error w)) (h : ∀ m', G13 m m' → KS m' L (.error w) → Q m') : CallV X mX6_readEnd [.ref 13] m Q := by
  have hL := hT.1
  refine eX6_readEnd_0 (s_skipB hT hK fun m1 g1 _ K1 => ?_)
  have K1 : KS m1 L (.error w) := K1
  obtain ⟨k1, q, hq, k2⟩ := K1.at
  rw [k1, k2]
  have fl : CallV X mX6_fail [.ref 13, .int 1, .int (nI q)] m1 (fun m2 => (QV Q) none m2) := s_fail K1 (f := 1) (by omega) fun m2 g2 _ _ K2 => qV (h m2 (g1.tr g2) K2)
  refine pk_le L q (fun c => fl) (fun c => ⟨pk_in q 300 (by omega), fun _ => fl, fun _ m4 e4 => ?_⟩)
  rw [nI_1] at e4
  refine qV (h m4 (g1.up e4 (by omega)) (K1.mv (p := q + 1) (by omega) ?_ ?_ ?_ ?_))
  · rw [e4, a_up_n _ _ (Or.inr (by omega))]
  · rw [e4, a_up_s]
  · rw [e4, a_up_n _ _ (Or.inr (by omega))]
  · rw [e4, a_up_n _ _ (Or.inr (by omega))]
theorem s_spells {Q : Int32 → (Nat → Nat → Int32) → Prop} {p e w : Nat} (hT : TXm m t L) (h2 : m 13 2 = nI e) (hpe : p ≤ e) (he : e ≤ L) (hw : w < 7) (h : Q (bI (spl t p e w)) m) : CallI X mX6_spells [.ref 13, .int (nI p), .ref (1000 + w)] m Q := by
  have hL := hT.1
  obtain ⟨w1, w2⟩ := wln_bd w hw
  have sl : a_sl.getD w 0 = wln w := rfl
  unfold spl at h
  refine eX6_spells_0 hw ?_
  rw [sl, h2, pk_sub hpe]
  refine pk_eq (e - p) (wln w) (fun c => ?_) (fun c => ?_)
  · rw [decide_eq_true c, Bool.true_and] at h
    refine lpf (a := 0) (b := wln w) (by omega) (I := fun j m' => m' = m ∧ ∀ i, i < j → decide (nI (t (p + i)) ≠ wch w i) = false) (W := fun j m' => Wp X mX6_spells 17 [some (.ref 13), some (.int (nI p)), some (.ref (1000 + w)), some (.int (nI j))] [] m' (QI Q)) ?_ ?_ ⟨rfl, fun i hi => by omega⟩
    · rintro j - hj _ ⟨rfl, hI⟩ next
      obtain ⟨c1, c2⟩ := hT.2 (p + j) (by omega)
      refine eX6_spells_17 hw ?_
      rw [sl]
      refine pk_le (wln w) j (fun c => absurd c (by omega)) (fun _ => ?_)
      rw [nI_add, nI_clamp (n := p + j) (by omega), nI_clamp (n := j) (by omega), c1, nI_1]
      refine ⟨pk_in (p + j) 300 (by omega), pk_in j (wln w) hj, fun d => next _ ⟨rfl, fun i hi => ?_⟩, fun d => ?_⟩
      · by_cases z : i = j
        · rw [z]; exact decide_eq_false fun q => q d
        · exact hI i (by omega)
      · rw [ex_t.mpr ⟨j, hj, decide_eq_true d⟩] at h
        exact qI h
    · rintro _ ⟨rfl, hI⟩
      refine eX6_spells_17 hw ?_
      rw [sl]
      rw [ex_f.mpr hI] at h
      exact pk_le (wln w) (wln w) (fun _ => qI h) (fun c => absurd c (by omega))
  · rw [decide_eq_false c, Bool.false_and] at h
    exact qI h
theorem s_nameOf {Q : Nat → (Nat → Nat → Int32) → Prop} {w : Nat} (hw : w < 7) (h : Q (1000 + w) m) : CallR X mX6_nameOf [.int (nI w)] m Q := by
  have go : ∀ v : Nat, v = 1000 + w → ∃ z, some (Value.ref v) = some (.ref z) ∧ Q z m := fun v hv => ⟨v, rfl, by rw [hv]; exact h⟩
  have eq : ∀ k : Nat, k < 7 → nI w = nI k → w = k := fun k hk c => (nI_eq (by omega) (by omega)).mp c
  refine eX6_nameOf_0 ⟨fun c => go _ ?_, fun c => go _ ?_, fun c => go _ ?_, fun c => go _ ?_, fun c => go _ ?_, fun c => go _ ?_, fun c => go _ ?_⟩
  · rw [eq 0 (by omega) c]
  · rw [eq 1 (by omega) c]
  · rw [eq 2 (by omega) c]
  · rw [eq 3 (by omega) c]
  · rw [eq 4 (by omega) c]
  · rw [eq 5 (by omega) c]
  · rw [nI_toInt (by omega)] at c
    omega
theorem s_readWord {Q : Int32 → (Nat → Nat → Int32) → Prop} {p : Nat} (hT : TXm m t L) (hK : KS m L (.ok p)) (h : ∀ m', G13 m m' → KS m' L (.ok (rn (isL t) L p)) → Q (if wrd t p (rn (isL t) L p) = 7 then -1 else nI (wrd t p (rn (isL t) L p))) m') : CallI X mX6_readWord [.ref 13] m Q := by
  have hL := hT.1
  obtain ⟨k1, k2, k3, k4, k5⟩ := hK
  refine eX6_readWord_0 ?_
  rw [k2]
  refine runI (q := isL t) (L := L) (I := fun p' m' => p' ≤ L ∧ G13 m m' ∧ (∀ i, i ≠ 2 → m' 13 i = m 13 i) ∧ m' 13 2 = nI p') (W := fun p' m' => Wp X mX6_readWord 5 [some (.ref 13), some (.int (nI p)), none] [] m' (QI Q)) ?_ _ p rfl ?_ m ⟨k3, G13.rf, fun _ _ => rfl, k2⟩
  · rintro q m2 hqL hq ⟨-, g, hI, e2⟩ next
    obtain ⟨c1, c2⟩ := hT.2 q hqL
    refine eX6_readWord_5 ?_
    rw [hI 1 (by omega), k1, e2]
    refine pk_le L q (fun c => absurd c (by omega)) (fun _ => ⟨pk_in q 300 (by omega), ?_⟩)
    rw [nI_clamp (n := q) (by omega), g.1 14 (by omega), c1]
    refine s_isLt c2 ⟨fun z => ?_, fun _ m3 e3 => ?_⟩
    · rw [bI_0, show decide (97 ≤ t q ∧ t q ≤ 122) = true from hq] at z
      cases z
    · rw [e2, nI_1] at e3
      exact next m3 ⟨by omega, g.up e3 (by omega), fun i hi => by rw [e3, a_up_n _ _ (Or.inr hi)]; exact hI i hi, by rw [e3, a_up_s]⟩
  · rintro m2 ⟨hqL, g, hI, e2⟩
    have he := rn_end (isL t) L p
    have hge := rn_ge (isL t) L p
    have h := h m2 g ⟨by rw [hI 1 (by omega)]; exact k1, e2, hqL, by rw [hI 4 (by omega)]; exact k4, by rw [hI 5 (by omega)]; exact k5⟩
    generalize rn (isL t) L p = q at *
    have tail : Wp X mX6_readWord 46 [some (.ref 13), some (.int (nI p)), some (.int 0)] [] m2 (QI Q) := by
      refine lpf (a := 0) (b := 7) (by omega) (I := fun w m' => m' = m2 ∧ ∀ i, i < w → spl t p q i = false) (W := fun w m' => Wp X mX6_readWord 46 [some (.ref 13), some (.int (nI p)), some (.int (nI w))] [] m' (QI Q)) ?_ ?_ ⟨rfl, fun i hi => by omega⟩
      · rintro w - hw _ ⟨rfl, hI2⟩ next
        refine eX6_readWord_46 (pk_le 7 w (fun c => absurd c (by omega)) (fun _ => s_nameOf hw (s_spells (hT.g g) e2 hge hqL hw ⟨fun z => ?_, fun z => ?_⟩)))
        · rw [bI_0] at z
          rw [nI_1]
          refine next _ ⟨rfl, fun i hi => ?_⟩
          by_cases y : i = w
          · rw [y]; exact z
          · exact hI2 i (by omega)
        · rw [bI_n0] at z
          have : wrd t p q = w := fL_of hw z hI2
          rw [this, if_neg (by omega)] at h
          exact qI h
      · rintro _ ⟨rfl, hI2⟩
        have : wrd t p q = 7 := fL_no hI2
        rw [this, if_pos rfl] at h
        exact eX6_readWord_46 (pk_le 7 7 (fun _ => qI h) (fun c => absurd c (by omega)))
    refine eX6_readWord_5 ?_
    rw [hI 1 (by omega), k1, e2]
    refine pk_le L q (fun c => tail) (fun c => ⟨pk_in q 300 (by omega), ?_⟩)
    obtain ⟨c1, c2⟩ := hT.2 q c
    rw [nI_clamp (n := q) (by omega), g.1 14 (by omega), c1]
    refine s_isLt c2 ⟨fun _ => tail, fun z => ?_⟩
    rw [bI_n0] at z
    have := he.resolve_left (by omega)
    unfold isL at this
    rw [this] at z
    cases z
theorem s_isLate {Q : Int32 → (Nat → Nat → Int32) → Prop} {tk : Nat} (h6 : m 13 6 = nI tk) (h : Q (bI (late tk)) m) : CallI X mX6_isSizeTooLate [.ref 13] m Q := by
  unfold late at h
  refine eX6_isSizeTooLate_0 ?_
  rw [h6]
  refine s_isIn (k := 4) (by omega) ?_
  rw [b_nI (by omega)]
  refine ⟨fun z => ?_, fun z => s_isIn (k := 5) (by omega) ?_⟩
  · rw [bI_n0] at z
    rw [z] at h; exact qI h
  · rw [bI_0] at z
    rw [z, Bool.false_or] at h
    rw [h6, b_nI (by omega)]
    refine ⟨fun y => ?_, fun y => ?_⟩
    · rw [bI_n0] at y
      rw [y] at h; exact qI h
    · rw [bI_0] at y
      rw [y, Bool.false_or] at h
      refine s_isIn (k := 6) (by omega) ?_
      rw [b_nI (by omega)]
      refine ⟨fun x => ?_, fun x => ?_⟩
      · rw [bI_0] at x
        rw [x] at h; exact qI h
      · rw [bI_n0] at x
        rw [x] at h; exact qI h
theorem s_isTold {Q : Int32 → (Nat → Nat → Int32) → Prop} {P : PT} {w tk : Nat} (hw : w < 7) (hE : EPd m P) (h5 : pn P 5 ≤ 8) (h6 : pn P 6 ≤ 12) (hk : m 13 6 = nI tk) (h : Q (bI (tld w tk P)) m) : CallI X mX6_isTold [.ref 13, .ref 7, .int (nI w)] m Q := by
  have eq : ∀ k : Nat, k < 7 → nI w = nI k → w = k := fun k hk c => (nI_eq (by omega) (by omega)).mp c
  unfold tld at h
  refine eX6_isTold_0 ⟨fun c => ?_, fun c => ?_, fun c => ?_, fun c => ?_⟩
  · rw [if_pos (eq 4 (by omega) c)] at h
    rw [hE.1 5 (by omega)]
    refine pk_lt (pn P 5) 8 (fun d => ?_) (fun d => ?_)
    · rw [decide_eq_false (by omega)] at h; exact qI h
    · rw [decide_eq_true (by omega)] at h; exact qI h
  · have := eq 5 (by omega) c
    rw [if_neg (by omega), if_pos this] at h
    exact qI h
  · have := eq 6 (by omega) c
    rw [if_neg (by omega), if_neg (by omega), if_pos this] at h
    rw [hE.1 6 (by omega)]
    refine pk_lt (pn P 6) 12 (fun d => ?_) (fun d => ?_)
    · rw [decide_eq_false (by omega)] at h; exact qI h
    · rw [decide_eq_true (by omega)] at h; exact qI h
  · rw [nI_toInt (by omega)] at c
    rw [if_neg (by omega), if_neg (by omega), if_neg (by omega)] at h
    rw [hk]
    refine s_isIn (by omega) ⟨?_, ?_⟩
    · cases bt (nI tk) w <;> rfl
    · rw [b_nI (by omega)]; exact qI h
end WORDS
