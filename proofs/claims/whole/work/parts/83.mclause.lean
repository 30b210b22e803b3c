/-! ===== the model's clauses ===== -/
def EPn (m : Nat → Nat → Int32) (P : PT) : Prop := (∀ i, i < 5 → m 80 (5 + i) = nI (pn P i)) ∧ m 77 10 = nI (pn P 5) ∧ m 77 11 = nI (pn P 6) ∧ (∀ x, x < 16 → m 81 (16 + x) = nI (pps P x)) ∧ (∀ c, c < 128 → m 82 (128 + c) = bI (pbr P c)) ∧ ∀ k, k < pn P 6 → m 83 (12 + k) = nI (pow P k) ∧ m 84 (12 + k) = nI (pwd P k) ∧ m 85 (12 + k) = nI (phg P k)
theorem EPn.fr {m m' : Nat → Nat → Int32} {P : PT} (h : EPn m P) (e7 : m' 77 10 = m 77 10 ∧ m' 77 11 = m 77 11) (e : ∀ c, 80 ≤ c → c ≤ 85 → m' c = m c) : EPn m' P := by
  unfold EPn at h ⊢
  rw [e7.1, e7.2, e 80 (by omega) (by omega), e 81 (by omega) (by omega), e 82 (by omega) (by omega), e 83 (by omega) (by omega), e 84 (by omega) (by omega), e 85 (by omega) (by omega)]
  exact h
theorem EPn.g {m m' : Nat → Nat → Int32} {P : PT} (h : EPn m P) (g : GM m m') : EPn m' P := h.fr ⟨g.2 10 (by omega), g.2 11 (by omega)⟩ fun c h1 h2 => g.1 c (by omega)
def TK (m : Nat → Nat → Int32) (tk : Nat) : Prop := (∀ i, i < 4 → bt (m 77 19) i = tk.testBit i) ∧ m 77 21 = bI (late tk)
theorem TK.fr {m m' : Nat → Nat → Int32} {tk : Nat} (h : TK m tk) (e1 : m' 77 19 = m 77 19) (e2 : m' 77 21 = m 77 21) : TK m' tk := by
  unfold TK at h ⊢
  rw [e1, e2]; exact h
theorem TK.g {m m' : Nat → Nat → Int32} {tk : Nat} (h : TK m tk) (g : GM m m') : TK m' tk := h.fr (g.2 19 (by omega)) (g.2 21 (by omega))
/-- what the parser may change -/
def GW (m m' : Nat → Nat → Int32) : Prop := Fr (fun c => c = 77 ∨ (80 ≤ c ∧ c ≤ 85)) m m' ∧ (∀ i, (i < 10 ∨ 21 < i) → m' 77 i = m 77 i) ∧ (∀ i, i < 5 → m' 80 i = m 80 i) ∧ (∀ i, i < 16 → m' 81 i = m 81 i) ∧ (∀ i, i < 128 → m' 82 i = m 82 i) ∧ ∀ i, i < 12 → m' 83 i = m 83 i ∧ m' 84 i = m 84 i ∧ m' 85 i = m 85 i
theorem GW.rf {m : Nat → Nat → Int32} : GW m m := ⟨Fr.rf, fun _ _ => rfl, fun _ _ => rfl, fun _ _ => rfl, fun _ _ => rfl, fun _ _ => ⟨rfl, rfl, rfl⟩⟩
theorem GW.tr {m m1 m2 : Nat → Nat → Int32} (h : GW m m1) (h2 : GW m1 m2) : GW m m2 := ⟨h.1.tr h2.1, fun i hi => (h2.2.1 i hi).trans (h.2.1 i hi), fun i hi => (h2.2.2.1 i hi).trans (h.2.2.1 i hi), fun i hi => (h2.2.2.2.1 i hi).trans (h.2.2.2.1 i hi), fun i hi => (h2.2.2.2.2.1 i hi).trans (h.2.2.2.2.1 i hi), fun i hi => ⟨(h2.2.2.2.2.2 i hi).1.trans (h.2.2.2.2.2 i hi).1, (h2.2.2.2.2.2 i hi).2.1.trans (h.2.2.2.2.2 i hi).2.1, (h2.2.2.2.2.2 i hi).2.2.trans (h.2.2.2.2.2 i hi).2.2⟩⟩
theorem GM.w {m m' : Nat → Nat → Int32} (h : GM m m') : GW m m' := ⟨h.1.mono fun c hc => Or.inl hc, fun i hi => h.2 i (by omega), fun i _ => by rw [h.1 80 (by omega)], fun i _ => by rw [h.1 81 (by omega)], fun i _ => by rw [h.1 82 (by omega)], fun i _ => by rw [h.1 83 (by omega), h.1 84 (by omega), h.1 85 (by omega)]; exact ⟨rfl, rfl, rfl⟩⟩
/-- one cell of what the parser may change -/
theorem GW.up {m m1 m2 : Nat → Nat → Int32} {c i : Nat} {v : Int32} (h : GW m m1) (e : m2 = a_up m1 c i v) (hc : (c = 77 ∧ 10 ≤ i ∧ i ≤ 21) ∨ (c = 80 ∧ 5 ≤ i) ∨ (c = 81 ∧ 16 ≤ i) ∨ (c = 82 ∧ 128 ≤ i) ∨ ((c = 83 ∨ c = 84 ∨ c = 85) ∧ 12 ≤ i)) : GW m m2 := by
  obtain ⟨h1, h2, h3, h4, h5, h6⟩ := h
  have z : ∀ d j, (d ≠ c ∨ j ≠ i) → m2 d j = m1 d j := fun d j q => by rw [e, a_up_n _ _ q]
  refine ⟨by rw [e]; exact Fr.up h1 (by omega), fun j hj => ?_, fun j hj => ?_, fun j hj => ?_, fun j hj => ?_, fun j hj => ?_⟩
  · rw [z 77 j (by omega)]; exact h2 j hj
  · rw [z 80 j (by omega)]; exact h3 j hj
  · rw [z 81 j (by omega)]; exact h4 j hj
  · rw [z 82 j (by omega)]; exact h5 j hj
  · rw [z 83 j (by omega), z 84 j (by omega), z 85 j (by omega)]; exact h6 j hj
theorem TXn.w {m m' : Nat → Nat → Int32} {t : TX} {L : Nat} (h : TXn m t L) (g : GW m m') : TXn m' t L := h.fr (g.1 86 (by omega))
def cbd (t : TX) (L w q e tk tc : Nat) (P : PT) : Rs (Nat × Nat × PT) := if w = 0 ∧ late tk = true then .error (1, q) else if tld w tk P = true then .error (3, q) else cnm t L w e tc P
def RB (m : Nat → Nat → Int32) (L w tk : Nat) : Rs (Nat × Nat × PT) → Prop
  | .ok r => KM m L (.ok r.1) ∧ TK m (ins tk w) ∧ m 77 20 = nI r.2.1 ∧ EPn m r.2.2
  | .error z => KM m L (.error z)
theorem late_ins {tk w : Nat} (ht : tk < 2 ^ 32) (hw : w < 7) : late (ins tk w) = (late tk || decide (4 ≤ w)) := by
  unfold late
  rw [tb_ins ht (by omega), tb_ins ht (by omega), tb_ins ht (by omega)]
  rcases (by omega : w = 0 ∨ w = 1 ∨ w = 2 ∨ w = 3 ∨ w = 4 ∨ w = 5 ∨ w = 6) with q | q | q | q | q | q | q <;> subst q <;> simp
theorem TK.ins4 {m m' : Nat → Nat → Int32} {tk w : Nat} (h : TK m tk) (ht : tk < 2 ^ 32) (hw : 4 ≤ w ∧ w < 7) (e1 : m' 77 19 = m 77 19) (e2 : m' 77 21 = 1) : TK m' (ins tk w) := by
  refine ⟨fun i hi => ?_, ?_⟩
  · rw [e1, h.1 i hi, tb_ins ht (by omega), decide_eq_false (by omega : ¬ i = w), Bool.or_false]
  · rw [e2, late_ins ht hw.2, decide_eq_true hw.1, Bool.or_true]; rfl
theorem TK.ins0 {m m' : Nat → Nat → Int32} {tk w : Nat} (h : TK m tk) (ht : tk < 2 ^ 32) (hw : w < 4) (e1 : m' 77 19 = m 77 19 ||| (1 <<< (nI w &&& 31))) (e2 : m' 77 21 = m 77 21) : TK m' (ins tk w) := by
  refine ⟨fun i hi => ?_, ?_⟩
  · rw [e1, b_or, b_one (by omega) (by omega), h.1 i hi, tb_ins ht (by omega)]
  · rw [e2, h.2, late_ins ht (by omega), decide_eq_false (by omega : ¬ 4 ≤ w), Bool.or_false]
section MCL
variable {X : a_X} {m : Nat → Nat → Int32} {t : TX} {L : Nat} {P : PT}
theorem sk_sk (t : TX) (L p : Nat) : sk t L (sk t L p) = sk t L p := rn_stop (rn_end (isB t) L p)
theorem s_takeWord {Q : (Nat → Nat → Int32) → Prop} {q : Nat} (hT : TXn m t L) (hK : KM m L (.ok q)) (hq : sk t L q = q) (h : ∀ m', GM m m' → KM m' L (.ok (rn (isL t) L q)) → m' 77 15 = nI q → m' 77 16 = nI (rn (isL t) L q - q) → Q m') : CallV X mX9_takeWord [.ref 77] m Q := by
  have hL := hT.1
  refine eX9_takeWord_0 (s_here hT hK fun m1 g1 o1 K1 m3 e3 => ?_)
  rw [hq] at K1
  have g3 : GM m m3 := g1.up e3 (by omega)
  have o3 : ∀ i, i ≠ 15 → m3 77 i = m1 77 i := fun i hi => by rw [e3, a_up_n _ _ (Or.inr hi)]
  have K3 : KM m3 L (.ok q) := K1.fr fun i hi => o3 i (by omega)
  have f3 : m3 77 15 = nI q := by rw [e3, a_up_s]; exact K1.2.1
  have T3 := hT.g g3
  refine runI (q := isL t) (L := L) (I := fun p' m' => q ≤ p' ∧ p' ≤ L ∧ GM m3 m' ∧ (∀ i, i ≠ 14 → m' 77 i = m3 77 i) ∧ m' 77 14 = nI p') (W := fun p' m' => Wp X mX9_takeWord 13 [some (.ref 77), none] [] m' (QV Q)) ?_ _ q rfl ?_ m3 ⟨Nat.le_refl _, K3.2.2.1, GM.rf, fun _ _ => rfl, K3.2.1⟩
  · rintro p m2 hpL hpq ⟨hge, -, g, hI, e2⟩ next
    obtain ⟨c1, c2⟩ := T3.2 p hpL
    refine eX9_takeWord_13 ?_
    rw [hI 13 (by omega), K3.1, e2, nI_clamp (n := p) (by omega), g.1 86 (by omega), c1]
    refine pk_le L p (fun c => absurd c (by omega)) (fun _ => ⟨pk_in p 300 (by omega), s_in (lo := 97) (hi := 122) rfl rfl ?_⟩)
    have ed : decide ((97 : Int32) ≤ nI (t p) ∧ nI (t p) ≤ 122) = isL t p := decide_eq_decide.mpr (by
      rw [show (97 : Int32) = nI 97 from rfl, show (122 : Int32) = nI 122 from rfl, nI_leI (by omega) (by omega), nI_leI (by omega) (by omega)])
    rw [ed, hpq]
    refine ⟨fun z => absurd z (by decide), fun _ m5 e5 => ?_⟩
    rw [e2, nI_1] at e5
    exact next m5 ⟨by omega, by omega, g.up e5 (by omega), (fun i hi => by rw [e5, a_up_n _ _ (Or.inr hi)]; exact hI i hi), by rw [e5, a_up_s]⟩
  · rintro m2 ⟨hge, hpL, g, hI, e2⟩
    have he := rn_end (isL t) L q
    generalize rn (isL t) L q = e at *
    have fin : ∀ m4, m4 = a_up m2 77 16 ((m2 77 14) - (m2 77 15)) → (QV Q) none m4 := fun m4 e4 => by
      rw [e2, hI 15 (by omega), f3, pk_sub hge] at e4
      have o4 : ∀ i, i ≠ 16 → m4 77 i = m2 77 i := fun i hi => by rw [e4, a_up_n _ _ (Or.inr hi)]
      exact qV (h m4 ((g3.tr g).up e4 (by omega)) ⟨by rw [o4 13 (by omega), hI 13 (by omega)]; exact K3.1, by rw [o4 14 (by omega)]; exact e2, hpL, by rw [o4 17 (by omega), hI 17 (by omega)]; exact K3.2.2.2.1, by rw [o4 18 (by omega), hI 18 (by omega)]; exact K3.2.2.2.2⟩ (by rw [o4 15 (by omega), hI 15 (by omega)]; exact f3) (by rw [e4, a_up_s]))
    refine eX9_takeWord_13 ?_
    rw [hI 13 (by omega), K3.1]
    have e2' := e2
    refine ⟨fun _ => fin, fun c => ?_⟩
    rw [e2'] at c
    have hlt : e < L := by
      by_cases z : e < L
      · exact z
      · exact absurd (nI_le (by omega) (by omega)) c
    obtain ⟨c1, c2⟩ := T3.2 e hlt
    rw [e2', nI_clamp (n := e) (by omega), g.1 86 (by omega), c1]
    refine ⟨pk_in e 300 (by omega), s_in (lo := 97) (hi := 122) rfl rfl ?_⟩
    have ed : decide ((97 : Int32) ≤ nI (t e) ∧ nI (t e) ≤ 122) = isL t e := decide_eq_decide.mpr (by
      rw [show (97 : Int32) = nI 97 from rfl, show (122 : Int32) = nI 122 from rfl, nI_leI (by omega) (by omega), nI_leI (by omega) (by omega)])
    rw [ed, he.resolve_left (by omega)]
    exact ⟨fun _ => fin, fun z => absurd rfl z⟩
theorem s_isWord {Q : Int32 → (Nat → Nat → Int32) → Prop} {q e : Nat} (w : Nat) {x1 x2 x3 x4 x5 x6 : Int32} (hw : w < 7) (hT : TXn m t L) (h15 : m 77 15 = nI q) (h16 : m 77 16 = nI (e - q)) (he : e ≤ L) (hx1 : x1 = nI (wln w)) (h0 : x2 = wch w 0) (h1 : x3 = wch w 1) (h2 : x4 = wch w 2) (h3 : x5 = wch w 3) (h4 : wln w = 5 → x6 = wch w 4) (h : Q (bI (spl t q e w)) m) : CallI X mX9_isWord [.ref 77, .int x1, .int x2, .int x3, .int x4, .int x5, .int x6] m Q := by
  have hL := hT.1
  obtain ⟨w1, w2⟩ := wln_bd w hw
  unfold spl at h
  have loop : ∀ g : Bool, g = decide (e - q = wln w) → Wp X mX9_isWord 18 [some (.ref 77), some (.int x1), some (.int x2), some (.int x3), some (.int x4), some (.int x5), some (.int x6), some (.int (bI g)), some (.int 0)] [] m (QI Q) := by
    intro g hg
    subst hx1
    rw [← hg] at h
    have key := lpf (a := 0) (b := wln w) (m := m) (by omega) (I := fun j m' => m = m') (W := fun j m' => Wp X mX9_isWord 18 [some (.ref 77), some (.int (nI (wln w))), some (.int x2), some (.int x3), some (.int x4), some (.int x5), some (.int x6), some (.int (bI (g && !ex (fun j => decide (nI (t (q + j)) ≠ wch w j)) j))), some (.int (nI j))] [] m' (QI Q)) ?_ ?_ rfl
    · rw [show ex (fun j => decide (nI (t (q + j)) ≠ wch w j)) 0 = false from rfl, Bool.not_false, Bool.and_true] at key
      exact key
    · rintro j - hj _ rfl next
      have nx := next _ rfl
      rw [ex_s] at nx
      refine eX9_isWord_18 (pk_le (wln w) j (fun c => absurd c (by omega)) (fun _ => ?_))
      generalize hgb : ex (fun j => decide (nI (t (q + j)) ≠ wch w j)) j = gb at *
      refine ⟨fun z => ⟨by cases g <;> cases gb <;> rfl, ?_⟩, fun z => ?_⟩
      · rw [bI_0] at z
        have : ex (fun j => decide (nI (t (q + j)) ≠ wch w j)) (wln w) = true ∨ g = false := by
          cases g with
          | false => exact Or.inr rfl
          | true =>
            rw [Bool.true_and, Bool.not_eq_false'] at z
            rw [z] at hgb
            obtain ⟨i, hi, hp⟩ := ex_t.mp hgb
            exact Or.inl (ex_t.mpr ⟨i, by omega, hp⟩)
        rw [z]
        rcases this with y | y
        · rw [y, Bool.not_true, Bool.and_false] at h
          exact qI h
        · rw [y, Bool.false_and] at h
          exact qI h
      · rw [bI_n0, Bool.and_eq_true, Bool.not_eq_true'] at z
        obtain ⟨zg, zb⟩ := z
        rw [zg] at hg
        have hlen := of_decide_eq_true hg.symm
        obtain ⟨c1, c2⟩ := hT.2 (q + j) (by omega)
        rw [h15, nI_add, nI_clamp (n := q + j) (by omega), c1, nI_1]
        rw [zg, zb, Bool.or_false, Bool.true_and] at nx
        have st : ∀ x : Int32, x = wch w j → (¬ nI (t (q + j)) = x → Wp X mX9_isWord 18 [some (.ref 77), some (.int (nI (wln w))), some (.int x2), some (.int x3), some (.int x4), some (.int x5), some (.int x6), some (.int 0), some (.int (nI (j + 1)))] [] m (QI Q)) ∧ (nI (t (q + j)) = x → Wp X mX9_isWord 18 [some (.ref 77), some (.int (nI (wln w))), some (.int x2), some (.int x3), some (.int x4), some (.int x5), some (.int x6), some (.int 1), some (.int (nI (j + 1)))] [] m (QI Q)) := by
          intro x hx
          subst hx
          refine ⟨fun y => ?_, fun y => ?_⟩
          · rw [decide_eq_true y] at nx; exact nx
          · rw [decide_eq_false (fun q => q y)] at nx; exact nx
        have ne : ∀ k : Nat, k < 10 → (nI j = nI k ↔ j = k) := fun k hk => nI_eq (by omega) (by omega)
        refine ⟨pk_in (q + j) 300 (by omega), fun n0 => ⟨fun n1 => ⟨fun n2 => ⟨fun n3 => st x6 ?_, fun y => st x5 ?_⟩, fun y => st x4 ?_⟩, fun y => st x3 ?_⟩, fun y => st x2 ?_⟩
        · have a0 : j ≠ 0 := fun z => n0 ((ne 0 (by omega)).mpr z)
          have a1 : j ≠ 1 := fun z => n1 ((ne 1 (by omega)).mpr z)
          have a2 : j ≠ 2 := fun z => n2 ((ne 2 (by omega)).mpr z)
          have a3 : j ≠ 3 := fun z => n3 ((ne 3 (by omega)).mpr z)
          rw [show j = 4 by omega]
          exact h4 (by omega)
        · rw [(ne 3 (by omega)).mp y]; exact h3
        · rw [(ne 2 (by omega)).mp y]; exact h2
        · rw [(ne 1 (by omega)).mp y]; exact h1
        · rw [(ne 0 (by omega)).mp y]; exact h0
    · rintro _ rfl
      refine eX9_isWord_18 (pk_le (wln w) (wln w) (fun _ => ⟨?_, qI h⟩) (fun c => absurd c (by omega)))
      cases g <;> cases ex (fun j => decide (nI (t (q + j)) ≠ wch w j)) (wln w) <;> rfl
  refine eX9_isWord_0 ?_
  rw [h16, hx1]
  rw [hx1] at loop
  refine (pk_eq (e - q) (wln w) (fun c => loop true (decide_eq_true c).symm) (fun c => loop false (decide_eq_false c).symm)).symm
/-- the end of a clause -/
theorem s_tailE {Q : Option Value → (Nat → Nat → Int32) → Prop} {w : Nat × Nat} (hK : KM m L (.error w)) (h : Q none m) : (¬ (m 77 17) = 0 → Q none m) ∧ ((m 77 17) = 0 → CallI X mX9_here [.ref 77] m (fun v19 m18 => (¬ v19 = 59 → CallI X mX9_want [.ref 77, .int 0, .int 1, .int (m18 77 14)] m18 (fun v21 m20 => (v21 = 0 → Q none m20) ∧ (¬ v21 = 0 → ∀ m22, m22 = (a_up m20 77 14 ((m20 77 14) + 1)) → Q none m22))) ∧ (v19 = 59 → CallI X mX9_want [.ref 77, .int 1, .int 1, .int (m18 77 14)] m18 (fun v24 m23 => (v24 = 0 → Q none m23) ∧ (¬ v24 = 0 → ∀ m25, m25 = (a_up m23 77 14 ((m23 77 14) + 1)) → Q none m25))))) :=
  ⟨fun _ => h, fun c => absurd c hK.e17.1⟩
theorem s_tailK {Q : Option Value → (Nat → Nat → Int32) → Prop} {p : Nat} (hT : TXn m t L) (hK : KM m L (.ok p)) (h : ∀ m', GM m m' → KM m' L (endc t L p) → Q none m') : (¬ (m 77 17) = 0 → Q none m) ∧ ((m 77 17) = 0 → CallI X mX9_here [.ref 77] m (fun v19 m18 => (¬ v19 = 59 → CallI X mX9_want [.ref 77, .int 0, .int 1, .int (m18 77 14)] m18 (fun v21 m20 => (v21 = 0 → Q none m20) ∧ (¬ v21 = 0 → ∀ m22, m22 = (a_up m20 77 14 ((m20 77 14) + 1)) → Q none m22))) ∧ (v19 = 59 → CallI X mX9_want [.ref 77, .int 1, .int 1, .int (m18 77 14)] m18 (fun v24 m23 => (v24 = 0 → Q none m23) ∧ (¬ v24 = 0 → ∀ m25, m25 = (a_up m23 77 14 ((m23 77 14) + 1)) → Q none m25))))) := by
  have hL := hT.1
  refine ⟨fun c => absurd hK.2.2.2.1 c, fun _ => s_here hT hK fun m1 g1 o1 K1 => ?_⟩
  unfold endc at h
  generalize sk t L p = q at *
  have hql := K1.2.2.1
  have no : ¬ (q < L ∧ t q = 59) → CallI X mX9_want [.ref 77, .int 0, .int 1, .int (m1 77 14)] m1 (fun v21 m20 => (v21 = 0 → Q none m20) ∧ (¬ v21 = 0 → ∀ m22, m22 = (a_up m20 77 14 ((m20 77 14) + 1)) → Q none m22)) := fun hn => by
    rw [if_neg hn] at h
    exact s_want (g := false) (f := 1) (w := q) rfl K1.2.1 (by omega) K1 (fun d => by cases d) (fun _ m6 g6 o6 K6 => ⟨fun _ => h m6 (g1.tr g6) K6, fun d => absurd rfl d⟩)
  by_cases hlt : q < L
  · rw [if_pos hlt]
    obtain ⟨c1, c2⟩ := (hT.g g1).2 q hlt
    refine (pk_eq (t q) 59 (fun c => ?_) (fun c => no fun z => c z.2)).symm
    rw [if_pos ⟨hlt, c⟩] at h
    refine s_want (g := true) (f := 1) (w := q) rfl K1.2.1 (by omega) K1 (fun _ => ⟨fun d => absurd d (show ¬ (1 : Int32) = 0 by decide), fun _ m4 e4 => ?_⟩) (fun d => by cases d)
    obtain ⟨k1, k2, k3, k4, k5⟩ := K1
    rw [k2, nI_1] at e4
    refine h m4 (g1.up e4 (by omega)) ⟨?_, by rw [e4, a_up_s], by omega, ?_, ?_⟩
    · rw [e4, a_up_n _ _ (Or.inr (by omega))]; exact k1
    · rw [e4, a_up_n _ _ (Or.inr (by omega))]; exact k4
    · rw [e4, a_up_n _ _ (Or.inr (by omega))]; exact k5
  · rw [if_neg hlt]
    exact ⟨fun _ => no fun z => hlt z.1, fun d => absurd d (by decide)⟩
theorem s_once {Q : Int32 → (Nat → Nat → Int32) → Prop} {k p q tk : Nat} {wh : Int32} (hk : k < 4) (hK : KM m L (.ok p)) (hk2 : TK m tk) (ht : tk < 2 ^ 32) (ew : wh = nI q) (hok : tk.testBit k = false → ∀ m', m' = a_up m 77 19 (m 77 19 ||| (1 <<< (nI k &&& 31))) → TK m' (ins tk k) → KM m' L (.ok p) → Q 1 m') (her : tk.testBit k = true → ∀ m', GW m m' → KM m' L (.error (3, q)) → Q 0 m') : CallI X mX9_once [.ref 77, .int (nI k), .int wh] m Q := by
  refine eX9_once_0 (s_mhas (by omega) ?_)
  rw [hk2.1 k hk]
  refine ⟨fun z => ?_, fun z => ?_⟩
  · rw [bI_n0] at z
    refine s_want (g := false) (f := 3) (w := q) rfl ew (by omega) hK (fun d => by cases d) (fun _ m3 g3 o3 K3 m5 e5 => ⟨rfl, qI (her z m5 (g3.w.up e5 (by omega)) (K3.fr fun i hi => by rw [e5, a_up_n _ _ (Or.inr (by omega))]))⟩)
  · rw [bI_0] at z
    refine s_want (g := true) (f := 3) (w := q) rfl ew (by omega) hK (fun _ m8 e8 => ⟨rfl, qI (hok z m8 e8 ?_ (hK.fr fun i hi => by rw [e8, a_up_n _ _ (Or.inr (by omega))]))⟩) (fun d => by cases d)
    exact hk2.ins0 ht hk (by rw [e8, a_up_s]) (by rw [e8, a_up_n _ _ (Or.inr (by omega))])
end MCL
