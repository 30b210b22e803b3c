/-! ===== the model's: bounds, cells, what lies ===== -/
theorem le64 {x y : Int32} : Int32.toInt64 x ≤ Int32.toInt64 y ↔ x ≤ y := by
  rw [Int64.le_iff_toInt_le, Int32.le_iff_toInt_le, Int32.toInt_toInt64, Int32.toInt_toInt64]
theorem lt64 {x y : Int32} : Int32.toInt64 x < Int32.toInt64 y ↔ ¬ y ≤ x := by
  rw [Int64.lt_iff_toInt_lt, Int32.le_iff_toInt_le, Int32.toInt_toInt64, Int32.toInt_toInt64]
  omega
theorem in_ink {x : Int32} {n : Nat} (hn : n < 2 ^ 31) : decide (0 ≤ x ∧ x ≤ nI n - 1) = ink x n := by
  unfold ink
  refine decide_eq_decide.mpr ?_
  have e : (nI n - 1).toInt = (n : Int) - 1 := i_sub (by rw [nI_toInt hn]; rfl) (by omega) (by omega)
  have e0 : (0 : Int32).toInt = 0 := by decide
  rw [Int32.le_iff_toInt_le, Int32.le_iff_toInt_le, Int32.lt_iff_toInt_lt, Int32.le_iff_toInt_le, e, nI_toInt hn, e0]
  omega
theorem in_ink0 {x hi : Int32} {n : Nat} (hn : n + 1 < 2 ^ 31) (e : hi = nI n) : decide (0 ≤ x ∧ x ≤ hi) = ink x (n + 1) := by
  rw [← in_ink hn, nI_pred, e]
theorem in_nat {a b c : Nat} (ha : a < 2 ^ 31) (hb : b < 2 ^ 31) (hc : c < 2 ^ 31) : decide (nI a ≤ nI c ∧ nI c ≤ nI b - 1) = decide (a ≤ c ∧ c < b) := by
  refine decide_eq_decide.mpr ?_
  have e : (nI b - 1).toInt = (b : Int) - 1 := i_sub (by rw [nI_toInt hb]; rfl) (by omega) (by omega)
  rw [Int32.le_iff_toInt_le, Int32.le_iff_toInt_le, e, nI_toInt ha, nI_toInt hc]
  omega
theorem rem_nI {c d : Nat} (hc : c < 2 ^ 31) (h0 : 0 < d) (hd : d < 2 ^ 31) : a_rem (nI c) (nI d) = nI (c % d) := pk_rem hc h0 hd
theorem MP.fr {m m' : Nat → Nat → Int32} {P : PT} (h : MP m P) (e77 : m' 77 5 = m 77 5 ∧ m' 77 9 = m 77 9) (e : ∀ c, 80 ≤ c → c ≤ 85 → m' c = m c) : MP m' P := by
  unfold MP at h ⊢
  rw [e77.1, e77.2, e 80 (by omega) (by omega), e 81 (by omega) (by omega), e 82 (by omega) (by omega), e 83 (by omega) (by omega), e 84 (by omega) (by omega), e 85 (by omega) (by omega)]
  exact h
theorem MP.fs {m m' : Nat → Nat → Int32} {P : PT} (h : MP m P) (e : ∀ c, c = 77 ∨ 80 ≤ c ∧ c ≤ 85 → m' c = m c) : MP m' P := h.fr ⟨by rw [e 77 (by omega)], by rw [e 77 (by omega)]⟩ fun c h1 h2 => e c (by omega)
theorem MB.fr {m m' : Nat → Nat → Int32} {r : Nat} {B : BT} (h : MB m r B) (hn : bn B ≤ 20) (e : ∀ i, r ≤ i → i < r + 200 → m' 78 i = m 78 i) : MB m' r B := by
  obtain ⟨h1, h2, h3, h4, h5⟩ := h
  refine ⟨by rw [e _ (by omega) (by omega)]; exact h1, by rw [e _ (by omega) (by omega)]; exact h2, by rw [e _ (by omega) (by omega)]; exact h3, fun i hi => ?_, fun o ho => ?_⟩
  · obtain ⟨a1, a2, a3, a4, a5, a6⟩ := h4 i hi
    refine ⟨by rw [e _ (by omega) (by omega)]; exact a1, by rw [e _ (by omega) (by omega)]; exact a2, by rw [e _ (by omega) (by omega)]; exact a3, by rw [e _ (by omega) (by omega)]; exact a4, by rw [e _ (by omega) (by omega)]; exact a5, fun c hc => ?_⟩
    rw [e _ (by omega) (by omega)]; exact a6 c hc
  · rw [e _ (by omega) (by omega)]; exact h5 o ho
theorem MB.f78 {m m' : Nat → Nat → Int32} {r : Nat} {B : BT} (h : MB m r B) (e : m' 78 = m 78) : MB m' r B := by
  unfold MB at h ⊢
  rw [e]; exact h
section MBASE
variable {X : a_X} {m : Nat → Nat → Int32} {P : PT} {B : BT} {r : Nat} {Q : Int32 → (Nat → Nat → Int32) → Prop}
theorem s_in {x lo hi : Int32} {a b : Int64} (ea : a = lo.toInt64) (eb : b = hi.toInt64) (h : Q (bI (decide (lo ≤ x ∧ x ≤ hi))) m) : CallI X mX9_in [.long (Int32.toInt64 x), .long a, .long b] m Q := by
  subst ea eb
  refine eX9_in_0 ?_
  rw [lg_cmp_lt, lg_cmp_gt]
  refine ⟨fun c => ?_, fun c => ⟨fun d => ?_, fun d => ?_⟩⟩
  · rw [lt64] at c
    rw [decide_eq_false fun q => c q.1] at h
    exact qI h
  · have d : Int32.toInt64 hi < Int32.toInt64 x := d
    rw [lt64] at d
    rw [decide_eq_false fun q => d q.2] at h
    exact qI h
  · have d : ¬ Int32.toInt64 hi < Int32.toInt64 x := d
    rw [lt64, Decidable.not_not] at c d
    rw [decide_eq_true ⟨c, d⟩] at h
    exact qI h
theorem s_isKind {x : Int32} (hM : MP m P) (hV : VP P) (h : Q (bI (ink x (pn P 6))) m) : CallI X mX9_isKind [.ref 77, .int x] m Q := by
  have h6 := hV.2.2.2.2.2.2.1
  refine eX9_isKind_0 ?_
  rw [hM.2.2.1]
  refine s_in (lo := 0) rfl rfl ?_
  rw [in_ink (by omega)]
  exact ⟨by cases ink x (pn P 6) <;> rfl, qI h⟩
theorem s_isCell {x y : Int32} (hM : MP m P) (hV : VP P) (h : Q (bI (isC P x y)) m) : CallI X mX9_isCell [.ref 77, .int x, .int y] m Q := by
  have h0 := hV.1
  have h1 := hV.2.1
  unfold isC at h
  refine eX9_isCell_0 ⟨pk_in 0 10 (by omega), ?_⟩
  rw [show Int32.toNatClampNeg 0 = 0 from rfl, show Int32.toNatClampNeg 1 = 1 from rfl, hM.1 0 (by omega)]
  refine s_in (lo := 0) rfl rfl ?_
  rw [in_ink (by omega)]
  refine ⟨fun z => ?_, fun z => ⟨pk_in 1 10 (by omega), ?_⟩⟩
  · rw [bI_0] at z
    rw [z] at h; exact qI h
  · rw [bI_n0] at z
    rw [z, Bool.true_and] at h
    rw [hM.1 1 (by omega)]
    refine s_in (lo := 0) rfl rfl ?_
    rw [in_ink (by omega)]
    refine ⟨fun y => ?_, fun y => ?_⟩
    · rw [bI_0] at y
      rw [y] at h; exact qI h
    · rw [bI_n0] at y
      rw [y] at h; exact qI h
theorem s_reaches {k x y c : Nat} (hM : MP m P) (hV : VP P) (hk : k < pn P 6) (hx : x ≤ 1000) (hy : y ≤ 1000) (hc : c < 128) (h : Q (bI (rch P k x y c)) m) : CallI X mX9_reaches [.ref 77, .int (nI k), .int (nI x), .int (nI y), .int (nI c)] m Q := by
  have h0 := hV.1
  have h1 := hV.2.1
  have h6 := hV.2.2.2.2.2.2.1
  obtain ⟨-, hw, hh⟩ := hV.2.2.2.2.2.2.2.2 k hk
  obtain ⟨-, ew, eh⟩ := hM.2.2.2.2.2 k hk
  have K24 : vp_in (nI k) 24 := pk_in k 24 (by omega)
  refine eX9_reaches_0 ⟨K24, ?_⟩
  rw [nI_clamp (n := k) (by omega), ew, nI_add, show (16 : Int32) = nI 16 from rfl, rem_nI (by omega) (by omega) (by omega), pk_div (by omega) (by omega) (by omega)]
  refine s_in rfl rfl ?_
  rw [in_nat (by omega) (by omega) (by omega)]
  have spl : rch P k x y c = (decide (x ≤ c % 16 ∧ c % 16 < x + pwd P k) && decide (y ≤ c / 16 ∧ c / 16 < y + phg P k)) := by
    unfold rch
    rw [← Bool.decide_and]
    exact decide_eq_decide.mpr (by omega)
  rw [spl] at h
  refine ⟨fun z => ?_, fun z => ⟨K24, ?_⟩⟩
  · rw [bI_0] at z
    rw [z] at h; exact qI h
  · rw [bI_n0] at z
    rw [z, Bool.true_and] at h
    rw [eh, nI_add]
    refine s_in rfl rfl ?_
    rw [in_nat (by omega) (by omega) (by omega)]
    refine ⟨fun y => ?_, fun y => ?_⟩
    · rw [bI_0] at y
      rw [y] at h; exact qI h
    · rw [bI_n0] at y
      rw [y] at h; exact qI h
theorem s_isTorn {b c : Nat} (hB : MB m r B) (hr : r ≤ 600) (hn : bn B ≤ 20) (hb : b < bn B) (hc : c < 128) (h : Q (bI (btn B b c)) m) : CallI X mX9_isTorn [.ref 77, .int (nI r), .int (nI b), .int (nI c)] m Q := by
  refine eX9_isTorn_0 ?_
  rw [show (100 : Int32) = nI 100 from rfl, show (4 : Int32) = nI 4 from rfl, show (32 : Int32) = nI 32 from rfl, pk_mul, pk_div (by omega) (by omega) (by omega), nI_add, nI_add, nI_add, rem_nI (by omega) (by omega) (by omega), nI_clamp (n := r + 100 + 4 * b + c / 32) (by omega)]
  refine ⟨pk_in (r + 100 + 4 * b + c / 32) 800 (by omega), s_mhas (by omega) ?_⟩
  rw [(hB.2.2.2.1 b hb).2.2.2.2.2 c hc]
  exact ⟨by cases btn B b c <;> rfl, qI h⟩
theorem s_lies {b c : Nat} (hM : MP m P) (hVP : VP P) (hB : MB m r B) (hV : VB P B) (hr : r ≤ 600) (hb : b < bn B) (hc : c < 128) (h : Q (bI (lie P B b c)) m) : CallI X mX9_lies [.ref 77, .int (nI r), .int (nI b), .int (nI c)] m Q := by
  have hn := hV.1
  have h0 := hVP.1
  have h1 := hVP.2.1
  obtain ⟨hk, hx, hy, -⟩ := hV.2 b hb
  obtain ⟨a1, a2, a3, a4, a5, a6⟩ := hB.2.2.2.1 b hb
  refine eX9_lies_0 ?_
  rw [show (80 : Int32) = nI 80 from rfl, show (20 : Int32) = nI 20 from rfl, show (40 : Int32) = nI 40 from rfl, nI_add, nI_add, nI_add, nI_add, nI_add, nI_add, nI_add, nI_clamp (n := r + 80 + b) (by omega), nI_clamp (n := r + b) (by omega), nI_clamp (n := r + 20 + b) (by omega), nI_clamp (n := r + 40 + b) (by omega), a1, a2, a3, a5]
  unfold lie hasB at h
  refine ⟨pk_in (r + 80 + b) 800 (by omega), fun z => ?_, fun z => ⟨pk_in (r + b) 800 (by omega), pk_in (r + 20 + b) 800 (by omega), pk_in (r + 40 + b) 800 (by omega), s_reaches hM hVP hk (by omega) (by omega) hc ⟨fun y => ?_, fun y => s_isTorn hB hr hn hb hc ⟨fun w => ?_, fun w => ?_⟩⟩⟩⟩
  · have z : bon B b = false := by
      cases hbn : bon B b with
      | false => rfl
      | true => rw [hbn] at z; exact absurd rfl z
    rw [z] at h; exact qI h
  · rw [bI_1] at z
    rw [bI_0] at y
    rw [z, y] at h; exact qI h
  · rw [bI_1] at z
    rw [bI_n0] at y w
    rw [z, y, w] at h; exact qI h
  · rw [bI_1] at z
    rw [bI_n0] at y
    rw [bI_0] at w
    rw [z, y, w] at h; exact qI h
theorem s_mtop {c : Nat} (hM : MP m P) (hVP : VP P) (hB : MB m r B) (hV : VB P B) (hr : r ≤ 600) (hc : c < 128) (h : Q (tI (top P B c)) m) : CallI X mX9_aboveAt [.ref 77, .int (nI r), .int (nI c)] m Q := by
  have hn := hV.1
  refine eX9_aboveAt_0 ?_
  rw [show (180 : Int32) = nI 180 from rfl, nI_add, nI_clamp (n := r + 180) (by omega), hB.1]
  refine ⟨pk_in (r + 180) 800 (by omega), ?_⟩
  refine lpf (a := 0) (b := bn B) (m := m) (by omega) (I := fun d m' => m = m' ∧ ∀ j, bn B - d ≤ j → j < bn B → lie P B j c = false) (W := fun d m' => Wp X mX9_aboveAt 13 [some (.ref 77), some (.int (nI r)), some (.int (nI c)), some (.int (nI (bn B - d) - 1))] [] m' (QI Q)) ?_ ?_ ⟨rfl, fun j h1 h2 => by omega⟩
  · rintro d - hd _ ⟨rfl, hI⟩ next
    rw [show nI (bn B - d) - 1 = nI (bn B - 1 - d) by rw [show bn B - d = bn B - 1 - d + 1 by omega, nI_pred]]
    have en : nI (bn B - 1 - d) + (-1) = nI (bn B - (d + 1)) - 1 := by
      rw [show bn B - (d + 1) = bn B - 1 - d by omega]
      exact (Int32.sub_eq_add_neg ..).symm
    refine eX9_aboveAt_13 ⟨fun c => absurd c (nI_pos (by omega)), fun _ => s_lies hM hVP hB hV hr (by omega) hc ⟨fun z => ?_, fun z => ?_⟩⟩
    · rw [bI_0] at z
      rw [en]
      refine next m ⟨rfl, fun j h1 h2 => ?_⟩
      by_cases e : j = bn B - 1 - d
      · rw [e]; exact z
      · exact hI j (by omega) h2
    · rw [bI_n0] at z
      have : top P B c = bn B - 1 - d + 1 := tp_of (by omega) z fun j h1 h2 => hI j (by omega) h2
      rw [this] at h
      exact qI h
  · rintro _ ⟨rfl, hI⟩
    have : top P B c = 0 := tp_z fun j hj => hI j (by omega) hj
    rw [this] at h
    refine eX9_aboveAt_13 ⟨fun _ => qI h, fun c => absurd ?_ c⟩
    rw [Nat.sub_self]; decide
theorem s_mownerOf {b : Nat} (hM : MP m P) (hVP : VP P) (hB : MB m r B) (hV : VB P B) (hr : r ≤ 600) (hb : b < bn B) (h : Q (nI (pow P (bkd B b))) m) : CallI X mX9_ownerOf [.ref 77, .int (nI r), .int (nI b)] m Q := by
  have hn := hV.1
  have h6 := hVP.2.2.2.2.2.2.1
  obtain ⟨hk, -⟩ := hV.2 b hb
  obtain ⟨a1, -⟩ := hB.2.2.2.1 b hb
  refine eX9_ownerOf_0 ?_
  rw [nI_add, nI_clamp (n := r + b) (by omega), a1, nI_clamp (n := bkd B b) (by omega), (hM.2.2.2.2.2 _ hk).1]
  exact ⟨pk_in (r + b) 800 (by omega), pk_in (bkd B b) 24 (by omega), qI h⟩
theorem s_msizeOf {k : Nat} (hM : MP m P) (hVP : VP P) (hk : k < pn P 6) (h : Q (nI (siz P k)) m) : CallI X mX9_sizeOf [.ref 77, .int (nI k)] m Q := by
  have h6 := hVP.2.2.2.2.2.2.1
  refine eX9_sizeOf_0 ?_
  rw [nI_clamp (n := k) (by omega), (hM.2.2.2.2.2 k hk).2.1, (hM.2.2.2.2.2 k hk).2.2, pk_mul]
  exact ⟨pk_in k 24 (by omega), pk_in k 24 (by omega), qI h⟩
/-- what the model has seen -/
def MS (m : Nat → Nat → Int32) (P : PT) (B : BT) : Prop := ∀ i, i < 20 → m 87 i = nI (seen P B i) ∧ m 88 i = nI (met P B i)
theorem s_see {Q : (Nat → Nat → Int32) → Prop} (hM : MP m P) (hVP : VP P) (hB : MB m r B) (hV : VB P B) (hr : r ≤ 600) (h : ∀ m', Fr (fun c => c = 87 ∨ c = 88) m m' → MS m' P B → Q m') : CallV X mX9_see [.ref 77, .int (nI r)] m Q := by
  have hn := hV.1
  refine eX9_see_0 ?_
  refine lpf (a := 0) (b := 20) (m := m) (by omega) (I := fun b m' => Fr (fun c => c = 87 ∨ c = 88) m m' ∧ ∀ i, i < b → m' 87 i = 0 ∧ m' 88 i = 0) (W := fun b m' => Wp X mX9_see 2 [some (.ref 77), some (.int (nI r)), some (.int (nI b)), none] [] m' (QV Q)) ?_ ?_ ⟨Fr.rf, fun i hi => by omega⟩
  · rintro b - hb m1 ⟨F1, I1⟩ next
    refine eX9_see_2 (pk_le 20 b (fun c => absurd c (by omega)) (fun _ => ⟨pk_in b 20 hb, fun m2 e2 => ⟨pk_in b 20 hb, fun m3 e3 => ?_⟩⟩))
    rw [nI_clamp (n := b) (by omega)] at e2 e3
    rw [nI_1]
    refine next m3 ⟨by rw [e3, e2]; exact Fr.up (Fr.up F1 (Or.inl rfl)) (Or.inr rfl), fun i hi => ?_⟩
    rw [e3, a_up_c _ _ (by omega), a_up_i, e2, a_up_i, a_up_c _ _ (by omega)]
    by_cases e : i = b
    · rw [if_pos e, if_pos e]; exact ⟨rfl, rfl⟩
    · rw [if_neg e, if_neg e]; exact I1 i (by omega)
  · rintro m1 ⟨F1, I1⟩
    refine eX9_see_2 (pk_le 20 20 (fun _ => ?_) (fun c => absurd c (by omega)))
    refine lpf (a := 0) (b := 128) (m := m1) (by omega) (I := fun c m' => Fr (fun c => c = 87 ∨ c = 88) m m' ∧ ∀ i, i < 20 → m' 87 i = nI (sm (fs P B i) c) ∧ m' 88 i = nI (sm (fm P B i) c)) (W := fun c m' => Wp X mX9_see 30 [some (.ref 77), some (.int (nI r)), some (.int (nI c)), none] [] m' (QV Q)) ?_ ?_ ⟨F1, fun i hi => I1 i hi⟩
    · rintro c - hc m2 ⟨F2, I2⟩ next
      have M2 : MP m2 P := hM.fs fun d hd => F2 d (by omega)
      have B2 : MB m2 r B := hB.f78 (F2 78 (by omega))
      refine eX9_see_30 (pk_le 128 c (fun d => absurd d (by omega)) (fun _ => s_mtop M2 hVP B2 hV hr hc ?_))
      rw [nI_1]
      have hT := top_le hV c
      rcases Nat.eq_zero_or_pos (top P B c) with t0 | t0
      · rw [t0]
        refine ⟨fun _ => next m2 ⟨F2, fun i hi => ?_⟩, fun d => absurd (show (-1 : Int32) < 0 by decide) d⟩
        rw [sm_s, sm_s, show fs P B i c = 0 from if_neg (by omega), show fm P B i c = 0 from if_neg (by omega)]
        simp only [Nat.add_zero]
        exact I2 i hi
      · rw [tI_s _ (by omega)]
        generalize ht : top P B c - 1 = t at *
        have T20 : vp_in (nI t) 20 := pk_in t 20 (by omega)
        refine ⟨fun d => absurd d (nI_pos (by omega)), fun _ => ⟨T20, T20, fun m3 e3 => ?_⟩⟩
        rw [nI_clamp (n := t) (by omega)] at e3
        rw [show (16 : Int32) = nI 16 from rfl, rem_nI (by omega) (by omega) (by omega), nI_clamp (n := t) (by omega), nI_clamp (n := c % 16) (by omega)]
        refine ⟨T20, pk_in (c % 16) 32 (by omega), T20, fun m4 e4 => ?_⟩
        have p3 : m3 81 (c % 16) = nI (pps P (c % 16)) := by rw [e3, a_up_c _ _ (by omega), F2 81 (by omega)]; exact hM.2.2.2.1 _ (by omega)
        rw [p3] at e4
        refine next m4 ⟨by rw [e4, e3]; exact Fr.up (Fr.up F2 (Or.inl rfl)) (Or.inr rfl), fun i hi => ?_⟩
        obtain ⟨j1, j2⟩ := I2 i hi
        have w1 : m4 87 i = if i = t then m2 87 t + 1 else m2 87 i := by rw [e4, a_up_c _ _ (by omega), e3, a_up_i]
        have w2 : m4 88 i = if i = t then m2 88 t + nI (pps P (c % 16)) else m2 88 i := by rw [e4, a_up_i, e3, a_up_c _ _ (by omega)]
        rw [w1, w2, sm_s, sm_s]
        by_cases e : i = t
        · rw [if_pos e, if_pos e, ← e, j1, j2, show fs P B i c = 1 from if_pos (by omega), show fm P B i c = pps P (c % 16) from if_pos (by omega), nI_1, nI_add]
          exact ⟨rfl, rfl⟩
        · rw [if_neg e, if_neg e, show fs P B i c = 0 from if_neg (by omega), show fm P B i c = 0 from if_neg (by omega)]
          simp only [Nat.add_zero]
          exact ⟨j1, j2⟩
    · rintro m2 ⟨F2, I2⟩
      exact eX9_see_30 (pk_le 128 128 (fun _ => qV (h m2 F2 I2)) (fun c => absurd c (by omega)))
theorem s_misRead {b s : Nat} (hM : MP m P) (hVP : VP P) (hB : MB m r B) (hV : VB P B) (hr : r ≤ 600) (hb : b < bn B) (hs : m 87 b = nI s) (hs2 : s ≤ 1000) (h : Q (bI (canR P s (siz P (bkd B b)))) m) : CallI X mX9_isRead [.ref 77, .int (nI r), .int (nI b)] m Q := by
  have hn := hV.1
  obtain ⟨hk, -⟩ := hV.2 b hb
  obtain ⟨a1, -⟩ := hB.2.2.2.1 b hb
  have h4 := hVP.2.2.2.2.1
  have q2 := siz_le hVP hk
  have hm : pn P 4 * siz P (bkd B b) ≤ 100 * 128 := Nat.mul_le_mul h4.2 q2
  refine eX9_isRead_0 ⟨pk_in b 20 (by omega), pk_in 4 10 (by omega), ?_⟩
  rw [nI_add, nI_clamp (n := r + b) (by omega), a1]
  refine ⟨pk_in (r + b) 800 (by omega), s_msizeOf hM hVP hk ?_⟩
  rw [show Int32.toNatClampNeg 4 = 4 from rfl, nI_clamp (n := b) (by omega), hs, hM.1 4 (by omega), show (100 : Int32) = nI 100 from rfl, pk_mul, pk_mul]
  unfold canR at h
  refine pk_lt (100 * s) (pn P 4 * siz P (bkd B b)) (fun c => ?_) (fun c => ?_)
  · rw [decide_eq_false (by omega)] at h; exact qI h
  · rw [decide_eq_true c] at h; exact qI h
theorem s_mworthOf {o : Nat} (hM : MP m P) (hVP : VP P) (hB : MB m r B) (hV : VB P B) (hr : r ≤ 600) (ho : o < 6) (h : ∀ m', Fr (fun c => c = 87 ∨ c = 88) m m' → Q (nI (wor P B o)) m') : CallI X mX9_worthOf [.ref 77, .int (nI r), .int (nI o)] m Q := by
  have hn := hV.1
  refine eX9_worthOf_0 (s_see hM hVP hB hV hr fun m1 f1 S1 => ?_)
  have M1 : MP m1 P := hM.fs fun d hd => f1 d (by omega)
  have B1 : MB m1 r B := hB.f78 (f1 78 (by omega))
  refine lpf (a := 0) (b := bn B) (m := m1) (by omega) (I := fun i m' => m1 = m') (W := fun i m' => Wp X mX9_worthOf 10 [some (.ref 77), some (.int (nI r)), some (.int (nI o)), some (.int (nI (sm (fun b => if pow P (bkd B b) = o then wob P B b else 0) i))), some (.int (nI i))] [] m' (QI Q)) ?_ ?_ rfl
  · rintro i - hi _ rfl next
    have nx := next _ rfl
    obtain ⟨hk, -⟩ := hV.2 i hi
    have ho2 := (hVP.2.2.2.2.2.2.2.2 _ hk).1
    obtain ⟨s1, s2⟩ := S1 i (by omega)
    have q1 := seen_le P B i
    refine eX9_worthOf_10 ?_
    rw [show (180 : Int32) = nI 180 from rfl, nI_add, nI_clamp (n := r + 180) (by omega), B1.1]
    refine ⟨pk_in (r + 180) 800 (by omega), pk_le (bn B) i (fun c => absurd c (by omega)) (fun _ => s_mownerOf M1 hVP B1 hV hr hi ?_)⟩
    rw [sm_s] at nx
    rw [nI_1, Int32.add_zero]
    refine (pk_eq (pow P (bkd B i)) o (fun c => s_misRead M1 hVP B1 hV hr hi s1 (by omega) ?_) (fun c => ?_)).symm
    · rw [if_pos c] at nx
      unfold wob red at nx
      refine ⟨fun z => ?_, fun z => ⟨pk_in i 20 (by omega), ?_⟩⟩
      · rw [bI_0] at z
        rw [z, if_neg (by decide), Nat.add_zero] at nx; exact nx
      · rw [bI_n0] at z
        rw [z, if_pos rfl] at nx
        rw [nI_clamp (n := i) (by omega), s2, nI_add]; exact nx
    · rw [if_neg c] at nx; exact nx
  · rintro _ rfl
    refine eX9_worthOf_10 ?_
    rw [show (180 : Int32) = nI 180 from rfl, nI_add, nI_clamp (n := r + 180) (by omega), B1.1]
    exact ⟨pk_in (r + 180) 800 (by omega), pk_le (bn B) (bn B) (fun _ => qI (h _ f1)) (fun c => absurd c (by omega))⟩
end MBASE
