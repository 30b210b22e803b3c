/-! ===== the model's sets ===== -/
theorem isS_bit {e : Bool} {a : Nat} (ha : a < 32) : isS (bI e <<< (nI a &&& 31)) (fun i => e && decide (i = a)) := by
  cases e with
  | true => exact (isS_one ha).cg fun i _ => (Bool.true_and _).symm
  | false =>
    intro i hi
    rw [b_shl a ha _ hi, show bI false = 0 from rfl, b_0, Bool.and_false]; rfl
theorem sh_bit (x : Int32) {k : Nat} (hk : k < 32) : (x >>> (nI k &&& 31)) &&& 1 = bI (bt x k) := by
  cases h : bt x k with
  | true => exact (b_t1 hk).mpr h
  | false => exact (b_t hk).mpr h
theorem cov_lt {P : PT} {B : BT} {t j : Nat} (h : cov P B t j = true) : t < j ∧ j < bn B := by
  unfold cov at h
  rw [Bool.and_eq_true] at h
  exact of_decide_eq_true h.1
theorem frN_lt {P : PT} {B : BT} {t : Nat} : ∀ d j, frN P B t d j = true → t < j ∧ j < bn B
  | 0, j, h => cov_lt h
  | d + 1, j, h => by
    have h : (frN P B t d j || (frN P B t d (t + 1 + d) && cov P B (t + 1 + d) j)) = true := h
    rw [Bool.or_eq_true] at h
    rcases h with h | h
    · exact frN_lt d j h
    · rw [Bool.and_eq_true] at h
      have h1 := frN_lt d _ h.1
      have h2 := cov_lt h.2
      omega
theorem frv_bit {P : PT} {B : BT} {t j : Nat} (h : (frv P B t).testBit j = true) : t < j ∧ j < bn B := by
  unfold frv at h
  rw [(ofB_t _ 32).2, Bool.and_eq_true] at h
  exact frN_lt _ j h.2
theorem frv_20 {P : PT} {B : BT} {t : Nat} (hV : VB P B) : frv P B t < 2 ^ 20 := by
  refine Nat.lt_pow_two_of_testBit _ fun i hi => ?_
  cases h : (frv P B t).testBit i with
  | false => rfl
  | true =>
    have := (frv_bit h).2
    have := hV.1
    omega
theorem dep_bit : ∀ n v i j, (dep n v i).testBit j = true → v.testBit j = true
  | 0, v, i, j, h => by
    rw [show dep 0 v i = 0 from rfl, Nat.zero_testBit] at h
    cases h
  | n + 1, v, i, 0, h => by
    rw [dep_s] at h
    rw [Nat.testBit_zero] at h ⊢
    split at h
    · next e => rw [e]; rfl
    · have := of_decide_eq_true h
      omega
  | n + 1, v, i, j + 1, h => by
    rw [dep_s] at h
    rw [Nat.testBit_add_one] at h ⊢
    split at h
    · rw [show (i % 2 + 2 * dep n (v / 2) (i / 2)) / 2 = dep n (v / 2) (i / 2) by omega] at h
      exact dep_bit n _ _ j h
    · rw [show 2 * dep n (v / 2) i / 2 = dep n (v / 2) i by omega] at h
      exact dep_bit n _ _ j h
theorem pcn_20 {d : Nat} (hd : d < 2 ^ 20) : pcn 32 d = cnt (fun i => d.testBit i) 20 := by
  rw [pcn_cnt]
  unfold cnt
  rw [show (32 : Nat) = 20 + 12 from rfl, sm_split]
  rw [sm_0 (n := 12) fun k _ => if_neg (by
    show ¬ d.testBit (20 + k) = true
    rw [Nat.testBit_lt_two_pow (Nat.lt_of_lt_of_le hd (Nat.pow_le_pow_right (by omega) (by omega)))]; decide)]
  exact Nat.add_zero _
/-- those of d turned off -/
def ofsB (B : BT) (d : Nat) : BT := (bn B, bty B, bkd B, bco B, bro B, bdy B, fun i => bon B i && !d.testBit i, btn B, bfi B, bsd B)
theorem VB.ofs {P : PT} {B : BT} {d : Nat} (h : VB P B) : VB P (ofsB B d) := h
theorem lie_ofs {P : PT} {B : BT} {d i c : Nat} : lie P (ofsB B d) i c = (lie P B i c && !d.testBit i) := by
  show ((bon B i && !d.testBit i) && rch P (bkd B i) (bco B i) (bro B i) c && !btn B i c) = ((bon B i && rch P (bkd B i) (bco B i) (bro B i) c && !btn B i c) && !d.testBit i)
  cases bon B i <;> cases d.testBit i <;> simp
theorem seen_ofs {P : PT} {B : BT} {t d : Nat} (hV : VB P B) (ht : t < bn B) (hd : d.testBit t = false) : seen P (ofsB B d) t = swo P B t d := by
  have hn := hV.1
  refine sm_cong fun c _ => ?_
  unfold swf
  by_cases h : (lie P B t c && !hid P B t d c) = true
  · rw [if_pos h]
    rw [Bool.and_eq_true, Bool.not_eq_true'] at h
    refine if_pos (tp_of (p := fun b => lie P (ofsB B d) b c) (show t < bn B from ht) ?_ fun j h1 h2 => ?_)
    · show lie P (ofsB B d) t c = true
      rw [lie_ofs, h.1, hd]; rfl
    · show lie P (ofsB B d) j c = false
      have h2 : j < bn B := h2
      have := ex_f.mp h.2 j (by omega)
      rw [decide_eq_true h1, decide_eq_true h2, Bool.true_and, Bool.true_and] at this
      rw [lie_ofs]; exact this
  · rw [if_neg h]
    refine if_neg fun q => h ?_
    obtain ⟨h1, h2, h3⟩ := tp_has q
    have h2 : lie P (ofsB B d) t c = true := h2
    rw [lie_ofs, Bool.and_eq_true] at h2
    rw [h2.1, Bool.true_and, Bool.not_eq_true']
    refine ex_f.mpr fun j hj => ?_
    by_cases a : t < j
    · by_cases b : j < bn B
      · have := h3 j a b
        have this : lie P (ofsB B d) j c = false := this
        rw [lie_ofs] at this
        rw [decide_eq_true a, decide_eq_true b, Bool.true_and, Bool.true_and]; exact this
      · rw [decide_eq_false b]; simp
    · rw [decide_eq_false a]; simp
section MSETS
variable {X : a_X} {m : Nat → Nat → Int32} {P : PT} {B : BT} {Q : Int32 → (Nat → Nat → Int32) → Prop}
theorem s_moverOf {b : Nat} (hM : MP m P) (hVP : VP P) (hB : MB m 0 B) (hV : VB P B) (hb : b < bn B) (h : Q (nI (ovr P B b)) m) : CallI X mX9_overOf [.ref 77, .int (nI b)] m Q := by
  have hn := hV.1
  refine eX9_overOf_0 ?_
  rw [nI_1]
  refine lpf (a := b + 1) (b := bn B) (m := m) (by omega) (I := fun a m' => m = m') (W := fun a m' => ∀ s, isS s (fun j => decide (j < a) && cov P B b j) → Wp X mX9_overOf 6 [some (.ref 77), some (.int (nI b)), some (.int s), some (.int (nI a)), none, none] [] m' (QI Q)) ?_ ?_ rfl 0 (isS_0.cg fun i _ => ?_)
  · rintro a ha ha2 _ rfl next s hs
    refine eX9_overOf_6 ?_
    rw [show Int32.toNatClampNeg 180 = 180 from rfl, show m 78 180 = nI (bn B) from hB.1]
    refine ⟨pk_in 180 800 (by omega), pk_le (bn B) a (fun c => absurd c (by omega)) (fun _ => ?_)⟩
    refine lpf (a := 0) (b := 128) (m := m) (by omega) (I := fun c m' => m = m') (W := fun c m' => Wp X mX9_overOf 24 [some (.ref 77), some (.int (nI b)), some (.int s), some (.int (nI a)), some (.int (bI (ex (fun c => lie P B b c && lie P B a c) c))), some (.int (nI c))] [] m' (QI Q)) ?_ ?_ rfl
    · rintro c - hc _ rfl next2
      have nx := next2 _ rfl
      rw [ex_s] at nx
      refine eX9_overOf_24 (pk_le 128 c (fun d => absurd d (by omega)) (fun _ => ?_))
      rw [nI_1]
      generalize ex (fun c => lie P B b c && lie P B a c) c = e at *
      refine ⟨fun z => ?_, fun z => s_lies (r := 0) hM hVP hB hV (by omega) ha2 hc ⟨fun y => ?_, fun y => s_lies (r := 0) hM hVP hB hV (by omega) hb hc ⟨fun w => ?_, fun w => ?_⟩⟩⟩
      · rw [bI_n0] at z
        rw [z, Bool.or_true] at nx; exact nx
      · rw [bI_0] at z y
        rw [z, y, Bool.and_false, Bool.or_false] at nx; exact nx
      · rw [bI_0] at z w
        rw [z, w, Bool.false_and, Bool.or_false] at nx; exact nx
      · rw [bI_n0] at y w
        rw [y, w] at nx; exact nx
    · rintro _ rfl
      refine eX9_overOf_24 (pk_le 128 128 (fun _ => s_one ?_) (fun d => absurd d (by omega)))
      rw [nI_1]
      refine next _ rfl _ ((hs.or (isS_bit (by omega))).cg fun j hj => ?_)
      show (decide (j < a) && cov P B b j || _ && decide (j = a)) = (decide (j < a + 1) && cov P B b j)
      by_cases e : j = a
      · subst e
        have : cov P B b j = ex (fun c => lie P B b c && lie P B j c) 128 := by
          unfold cov
          rw [decide_eq_true ⟨by omega, ha2⟩, Bool.true_and]
        rw [this, decide_eq_false (by omega : ¬ j < j), decide_eq_true (by omega : j < j + 1), decide_eq_true (rfl : j = j)]; simp
      · rw [decide_eq_false e, Bool.and_false, Bool.or_false]
        congr 1
        exact decide_eq_decide.mpr (by omega)
  · rintro _ rfl s hs
    refine eX9_overOf_6 ?_
    rw [show Int32.toNatClampNeg 180 = 180 from rfl, show m 78 180 = nI (bn B) from hB.1]
    refine ⟨pk_in 180 800 (by omega), pk_le (bn B) (bn B) (fun _ => qI ?_) (fun c => absurd c (by omega))⟩
    have : s = nI (ovr P B b) := isS_ofB (hs.cg fun j hj => by
      cases hc : cov P B b j with
      | false => rw [Bool.and_false]
      | true => rw [decide_eq_true (cov_lt hc).2]; rfl)
    rw [this]; exact h
  · cases hc : cov P B b i with
    | false => rw [Bool.and_false]
    | true =>
      have := (cov_lt hc).1
      rw [decide_eq_false (by omega)]; rfl
theorem ovr_S (P : PT) (B : BT) (b : Nat) : isS (nI (ovr P B b)) (cov P B b) := fun i hi => by
  rw [b_nI hi]
  unfold ovr
  rw [(ofB_t _ 32).2, decide_eq_true hi, Bool.true_and]
theorem s_mfreeOf {t : Nat} (hM : MP m P) (hVP : VP P) (hB : MB m 0 B) (hV : VB P B) (ht : t < bn B) (h : Q (nI (frv P B t)) m) : CallI X mX9_freeOf [.ref 77, .int (nI t)] m Q := by
  have hn := hV.1
  refine eX9_freeOf_0 (s_moverOf hM hVP hB hV ht ?_)
  rw [nI_1]
  refine lpf (a := t + 1) (b := bn B) (m := m) (by omega) (I := fun i m' => m = m') (W := fun i m' => ∀ a, isS a (frN P B t (i - (t + 1))) → Wp X mX9_freeOf 10 [some (.ref 77), none, some (.int a), some (.int (nI i))] [] m' (QI Q)) ?_ ?_ rfl _ (by rw [Nat.sub_self]; exact ovr_S P B t)
  · rintro i hi hi2 _ rfl next a ha
    refine eX9_freeOf_10 ?_
    rw [show Int32.toNatClampNeg 180 = 180 from rfl, show m 78 180 = nI (bn B) from hB.1]
    refine ⟨pk_in 180 800 (by omega), pk_le (bn B) i (fun c => absurd c (by omega)) (fun _ => s_mhas (by omega) ?_)⟩
    have e : i + 1 - (t + 1) = (i - (t + 1)) + 1 := by omega
    have e2 : t + 1 + (i - (t + 1)) = i := by omega
    rw [ha i (by omega), nI_1]
    refine ⟨fun z => ?_, fun z => s_moverOf hM hVP hB hV hi2 ?_⟩
    · rw [bI_0] at z
      refine next _ rfl _ ((ha.or isS_0).cg fun j hj => ?_)
      rw [e]
      show (_ || false) = (frN P B t (i - (t + 1)) j || (frN P B t (i - (t + 1)) (t + 1 + (i - (t + 1))) && cov P B (t + 1 + (i - (t + 1))) j))
      rw [e2, z, Bool.false_and]
    · rw [bI_n0] at z
      refine next _ rfl _ ((ha.or (ovr_S P B i)).cg fun j hj => ?_)
      rw [e]
      show _ = (frN P B t (i - (t + 1)) j || (frN P B t (i - (t + 1)) (t + 1 + (i - (t + 1))) && cov P B (t + 1 + (i - (t + 1))) j))
      rw [e2, z, Bool.true_and]
  · rintro _ rfl a ha
    refine eX9_freeOf_10 ?_
    rw [show Int32.toNatClampNeg 180 = 180 from rfl, show m 78 180 = nI (bn B) from hB.1]
    rw [frv_e ha]
    exact ⟨pk_in 180 800 (by omega), pk_le (bn B) (bn B) (fun _ => qI h) (fun c => absurd c (by omega))⟩
theorem s_ones {d : Nat} (hd : d < 2 ^ 20) (h : Q (nI (pcn 32 d)) m) : CallI X mX9_ones [.int (nI d)] m Q := by
  refine eX9_ones_0 ?_
  refine lpf (a := 0) (b := 20) (m := m) (by omega) (I := fun i m' => m = m') (W := fun i m' => Wp X mX9_ones 4 [some (.int (nI d)), some (.int (nI (cnt (fun i => d.testBit i) i))), some (.int (nI i))] [] m' (QI Q)) ?_ ?_ rfl
  · rintro i - hi _ rfl next
    have nx := next _ rfl
    refine eX9_ones_4 (pk_le 20 i (fun c => absurd c (by omega)) (fun _ => ?_))
    rw [sh_bit _ (by omega), b_nI (by omega), nI_1]
    have es : cnt (fun i => d.testBit i) (i + 1) = cnt (fun i => d.testBit i) i + (if d.testBit i = true then 1 else 0) := rfl
    rw [es, ← nI_add] at nx
    cases hb : d.testBit i with
    | true => rw [hb] at nx; exact nx
    | false => rw [hb] at nx; exact nx
  · rintro _ rfl
    rw [← pcn_20 hd]
    exact eX9_ones_4 (pk_le 20 20 (fun _ => qI h) (fun c => absurd c (by omega)))
theorem s_isWhole {d : Nat} (hB : MB m 0 B) (hn : bn B ≤ 20) (hO : ∀ a, a < bn B → m 90 a = nI (ovr P B a)) (h : Q (bI (lft P B d)) m) : CallI X mX9_isWhole [.ref 77, .int (nI d)] m Q := by
  refine eX9_isWhole_0 ?_
  refine lpf (a := 0) (b := bn B) (m := m) (by omega) (I := fun i m' => m = m') (W := fun i m' => Wp X mX9_isWhole 4 [some (.ref 77), some (.int (nI d)), some (.int (bI (!ex (fun c => d.testBit c && ex (fun j => cov P B c j && !d.testBit j) 32) i))), some (.int (nI i))] [] m' (QI Q)) ?_ ?_ rfl
  · rintro i - hi _ rfl next
    have nx := next _ rfl
    rw [ex_s] at nx
    refine eX9_isWhole_4 ?_
    rw [show Int32.toNatClampNeg 180 = 180 from rfl, show m 78 180 = nI (bn B) from hB.1]
    refine ⟨pk_in 180 800 (by omega), pk_le (bn B) i (fun c => absurd c (by omega)) (fun _ => ?_)⟩
    rw [nI_1]
    generalize ex (fun c => d.testBit c && ex (fun j => cov P B c j && !d.testBit j) 32) i = e at *
    refine ⟨fun z => ?_, fun z => s_mhas (by omega) ?_⟩
    · rw [bI_0, Bool.not_eq_false'] at z
      rw [z, Bool.or_true] at nx; exact nx
    · rw [bI_n0, Bool.not_eq_true'] at z
      rw [b_nI (by omega), nI_clamp (n := i) (by omega), hO i hi]
      refine ⟨fun y => ?_, fun y => ⟨pk_in i 20 (by omega), fun w => ?_, fun w => ?_⟩⟩
      · rw [bI_0] at y
        rw [z, y, Bool.false_and, Bool.or_false] at nx; exact nx
      · rw [bI_n0] at y
        rw [z_ex (ovr_S P B i), Bool.not_eq_false] at w
        rw [y, w] at nx; exact nx
      · rw [z_ex (ovr_S P B i)] at w
        rw [z, w, Bool.and_false, Bool.or_false] at nx; exact nx
  · rintro _ rfl
    refine eX9_isWhole_4 ?_
    rw [show Int32.toNatClampNeg 180 = 180 from rfl, show m 78 180 = nI (bn B) from hB.1]
    refine ⟨pk_in 180 800 (by omega), pk_le (bn B) (bn B) (fun _ => ⟨?_, qI h⟩) (fun c => absurd c (by omega))⟩
    cases ex (fun c => d.testBit c && ex (fun j => cov P B c j && !d.testBit j) 32) (bn B) <;> rfl
/-- what reveal may change -/
def GV (m m' : Nat → Nat → Int32) : Prop := Fr (fun c => c = 78 ∨ c = 87 ∨ c = 88) m m' ∧ ∀ i, (i < 200 ∨ 400 ≤ i) → m' 78 i = m 78 i
theorem GV.rf {m : Nat → Nat → Int32} : GV m m := ⟨Fr.rf, fun _ _ => rfl⟩
theorem GV.tr {m m1 m2 : Nat → Nat → Int32} (h : GV m m1) (h2 : GV m1 m2) : GV m m2 := ⟨h.1.tr h2.1, fun i hi => (h2.2 i hi).trans (h.2 i hi)⟩
theorem s_isReadWithout {t d : Nat} (hM : MP m P) (hVP : VP P) (hB : MB m 0 B) (hV : VB P B) (ht : t < bn B) (hd : d.testBit t = false) (h : ∀ m', GV m m' → Q (bI (canR P (swo P B t d) (siz P (bkd B t)))) m') : CallI X mX9_isReadWithout [.ref 77, .int (nI t), .int (nI d)] m Q := by
  have hn := hV.1
  refine eX9_isReadWithout_0 (s_copy (a := 0) (b := 200) (by omega) (by omega) (by omega) fun m1 f1 k1 c1 => ?_)
  have B1 := c1 B hn hB
  have g1 : GV m m1 := ⟨f1.mono fun c hc => Or.inl hc, fun i hi => k1 i (by omega)⟩
  refine lpf (a := 0) (b := bn B) (m := m1) (by omega) (I := fun i m' => GV m m' ∧ Fr (fun c => c = 78) m1 m' ∧ (∀ j, (j < 280 ∨ 280 + bn B ≤ j) → m' 78 j = m1 78 j) ∧ (∀ j, i ≤ j → j < bn B → m' 78 (280 + j) = m1 78 (280 + j)) ∧ ∀ j, j < i → m' 78 (280 + j) = bI (bon B j && !d.testBit j)) (W := fun i m' => Wp X mX9_isReadWithout 10 [some (.ref 77), some (.int (nI t)), some (.int (nI d)), some (.int (nI i))] [] m' (QI Q)) ?_ ?_ ⟨g1, Fr.rf, fun _ _ => rfl, fun _ _ _ => rfl, fun j hj => by omega⟩
  · rintro i - hi m2 ⟨g2, f2, k2, r2, I2⟩ next
    have nn : m2 78 180 = nI (bn B) := by rw [g2.2 180 (by omega)]; exact hB.1
    have on2 : m2 78 (80 + i) = bI (bon B i) := by
      rw [g2.2 _ (by omega)]
      have := (hB.2.2.2.1 i hi).2.2.2.2.1
      rw [show 0 + 80 + i = 80 + i by omega] at this
      exact this
    refine eX9_isReadWithout_10 ?_
    rw [show Int32.toNatClampNeg 180 = 180 from rfl, nn, show (80 : Int32) = nI 80 from rfl, show (280 : Int32) = nI 280 from rfl, nI_add, nI_add, nI_clamp (n := 80 + i) (by omega), nI_clamp (n := 280 + i) (by omega), nI_1]
    refine ⟨pk_in 180 800 (by omega), pk_le (bn B) i (fun c => absurd c (by omega)) (fun _ => s_mhas (by omega) ?_)⟩
    rw [b_nI (by omega), on2]
    have go : ∀ m6, m6 = a_up m2 78 (280 + i) (bI (bon B i && !d.testBit i)) → Wp X mX9_isReadWithout 10 [some (.ref 77), some (.int (nI t)), some (.int (nI d)), some (.int (nI (i + 1)))] [] m6 (QI Q) := fun m6 e6 => next m6 ⟨⟨by rw [e6]; exact Fr.up g2.1 (Or.inl rfl), fun j hj => by rw [e6, a_up_n _ _ (Or.inr (by omega))]; exact g2.2 j hj⟩, by rw [e6]; exact Fr.up f2 rfl, fun j hj => by rw [e6, a_up_n _ _ (Or.inr (by omega))]; exact k2 j hj, fun j h1 h2 => by rw [e6, a_up_n _ _ (Or.inr (by omega))]; exact r2 j (by omega) h2, fun j hj => by
      rw [e6, a_up_i]
      by_cases e : j = i
      · rw [if_pos (by omega), e]
      · rw [if_neg (by omega)]; exact I2 j (by omega)⟩
    refine ⟨fun z => ⟨pk_in (80 + i) 800 (by omega), pk_in (280 + i) 800 (by omega), fun m6 e6 => go m6 ?_⟩, fun z => ⟨pk_in (280 + i) 800 (by omega), fun m6 e6 => go m6 ?_⟩⟩
    · rw [bI_0] at z
      rw [z, Bool.not_false, Bool.and_true]; exact e6
    · rw [bI_n0] at z
      rw [z, Bool.not_true, Bool.and_false]; exact e6
  · rintro m2 ⟨g2, f2, k2, r2, I2⟩
    have nn : m2 78 180 = nI (bn B) := by rw [g2.2 180 (by omega)]; exact hB.1
    have M2 : MP m2 P := hM.fs fun c hc => g2.1 c (by omega)
    have B2 : MB m2 200 (ofsB B d) := by
      obtain ⟨b1, b2, b3, b4, b5⟩ := B1
      refine ⟨by rw [k2 _ (by omega)]; exact b1, by rw [k2 _ (by omega)]; exact b2, by rw [k2 _ (by omega)]; exact b3, fun i hi => ?_, fun o ho => by rw [k2 _ (by omega)]; exact b5 o ho⟩
      have hi : i < bn B := hi
      obtain ⟨a1, a2, a3, a4, a5, a6⟩ := b4 i hi
      exact ⟨by rw [k2 _ (by omega)]; exact a1, by rw [k2 _ (by omega)]; exact a2, by rw [k2 _ (by omega)]; exact a3, by rw [k2 _ (by omega)]; exact a4, I2 i hi, fun c hc => by rw [k2 _ (by omega)]; exact a6 c hc⟩
    refine eX9_isReadWithout_10 ?_
    rw [show Int32.toNatClampNeg 180 = 180 from rfl, nn]
    refine ⟨pk_in 180 800 (by omega), pk_le (bn B) (bn B) (fun _ => s_see (r := 200) M2 hVP B2 hV.ofs (by omega) fun m3 f3 S3 => ?_) (fun c => absurd c (by omega))⟩
    have e3 := (S3 t (by omega)).1
    rw [seen_ofs hV ht hd] at e3
    have q1 := swo_le P B t d
    refine s_misRead (r := 200) (B := ofsB B d) (b := t) (M2.fs fun c hc => f3 c (by omega)) hVP (B2.f78 (f3 78 (by omega))) hV.ofs (by omega) ht e3 (by omega) ⟨?_, qI (h m3 (g2.tr ⟨f3.mono fun c hc => Or.inr hc, fun i hi => by rw [f3 78 (by omega)]⟩))⟩
    cases canR P (swo P B t d) (siz P (bkd (ofsB B d) t)) <;> rfl
end MSETS
