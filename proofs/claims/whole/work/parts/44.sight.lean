/-! ===== what is SEEN, WORTH ===== -/
/-- the class's sight of the bills -/
def ES (m : Nat → Nat → Int32) (s : Nat) (P : PT) (B : BT) : Prop := (∀ c, c % 16 < pn P 0 → c / 16 < pn P 1 → m (s + 1) c = tI (top P B c)) ∧ ∀ i, i < 20 → m (s + 2) i = nI (seen P B i) ∧ m (s + 3) i = nI (met P B i)
theorem ES.fr {m m' : Nat → Nat → Int32} {s : Nat} {P : PT} {B : BT} (h : ES m s P B) (e : ∀ c, s + 1 ≤ c → c ≤ s + 3 → m' c = m c) : ES m' s P B := by
  unfold ES at h ⊢
  rw [e (s + 1) (by omega) (by omega), e (s + 2) (by omega) (by omega), e (s + 3) (by omega) (by omega)]
  exact h
theorem seen_le (P : PT) (B : BT) (i : Nat) : seen P B i ≤ 128 := by
  have := sm_bd (n := 128) (c := 1) (f := fun c => if top P B c = i + 1 then 1 else 0) (fun k _ => ite_1)
  unfold seen; omega
theorem met_le {P : PT} (hVP : VP P) (B : BT) (i : Nat) : met P B i ≤ 128 * 99 := by
  refine sm_bd (n := 128) (c := 99) fun k _ => ?_
  have := hVP.2.2.2.2.2.2.2.1 (k % 16) (by omega)
  split <;> omega
theorem siz_le {P : PT} (hVP : VP P) {k : Nat} (hk : k < pn P 6) : siz P k ≤ 128 := by
  obtain ⟨hw, hh⟩ := (hVP.2.2.2.2.2.2.2.2 k hk).2
  have h0 := hVP.1.2
  have h1 := hVP.2.1.2
  have := Nat.mul_le_mul (show pwd P k ≤ 16 by omega) (show phg P k ≤ 8 by omega)
  exact this
section SIGHT
variable {X : a_X} {m : Nat → Nat → Int32} {P : PT} {B : BT} {b s : Nat}
theorem s_lookAt (hs : sSight s) (hb : sBills b) (hd : s + 5 < b ∨ b + 7 < s) (h7 : 7 ≤ s) (hP : EP m P) (hVP : VP P) (hE : EB m b P B) (hV : VB P B) {Q : (Nat → Nat → Int32) → Prop} (h : ∀ m', Fr (fun c => s + 1 ≤ c ∧ c ≤ s + 3) m m' → ES m' s P B → Q m') : CallV X mX7_lookAt [.ref s, .ref b] m Q := by
  have h0 := hVP.1.2
  have h1 := hVP.2.1.2
  refine eX7_lookAt_0 hs hb (s_fill hs.2.2.1 (by omega) fun m1 f1 g1 => s_fill hs.2.2.2.1 (by omega) fun m2 f2 g2 => ?_)
  have F2 : Fr (fun c => s + 1 ≤ c ∧ c ≤ s + 3) m m2 := (f1.mono fun c hc => by omega).tr (f2.mono fun c hc => by omega)
  refine rect (x0 := 0) (x1 := pn P 0) (y0 := 0) (y1 := pn P 1) (by omega) (by omega) (by omega) (by omega)
    (I := fun v m' => Fr (fun c => s + 1 ≤ c ∧ c ≤ s + 3) m m' ∧ (∀ c, v c = true → m' (s + 1) c = tI (top P B c)) ∧ ∀ i, i < 20 → m' (s + 2) i = nI (smv v (fun c => if top P B c = i + 1 then 1 else 0)) ∧ m' (s + 3) i = nI (smv v (fun c => if top P B c = i + 1 then pps P (c % 16) else 0)))
    (Wo := fun l v m' => Wp X mX7_lookAt 18 [some (.ref s), some (.ref b), some (.int (nI l)), none, none, none] [] m' (QV Q))
    (Wi := fun l q v m' => Wp X mX7_lookAt 31 [some (.ref s), some (.ref b), some (.int (nI l)), some (.int (nI q)), none, none] [] m' (QV Q)) ?_ ?_ ?_ ?_ ⟨F2, (fun c hc => by cases hc), fun i hi => ?_⟩
  · rintro l v m' hl hl2 ⟨hF, -⟩ next
    have P' : EP m' P := hP.fr fun c hc hc2 => hF c (by omega)
    refine eX7_lookAt_18 hs hb ?_
    rw [P'.1 1 (by omega)]
    exact pk_le (pn P 1) l (fun c => absurd c (by omega)) (fun _ => next)
  · rintro l v m' hl hl2 ⟨hF, -⟩ next
    have P' : EP m' P := hP.fr fun c hc hc2 => hF c (by omega)
    refine eX7_lookAt_31 hs hb ?_
    rw [P'.1 0 (by omega), nI_1]
    exact pk_le (pn P 0) (pn P 0) (fun _ => next) (fun c => absurd c (by omega))
  · rintro l q v m' hl hl2 hq hq2 hv ⟨hF, hI, hI2⟩ next
    have P' : EP m' P := hP.fr fun c hc hc2 => hF c (by omega)
    have E' : EB m' b P B := hE.fr fun c hc hc2 => hF c (by omega)
    refine eX7_lookAt_31 hs hb ?_
    rw [P'.1 0 (by omega)]
    have hc : 16 * l + q < 128 := by omega
    refine pk_le (pn P 0) q (fun c => absurd c (by omega)) (fun _ => s_cellAt (s_above hb E' hV hc ⟨pk_in (16 * l + q) 128 hc, ?_⟩))
    have hT := top_le hV (16 * l + q)
    rw [pk_cl (16 * l + q), nI_1]
    intro m5 e5
    have t5 : ∀ c, (v c || decide (c = 16 * l + q)) = true → m5 (s + 1) c = tI (top P B c) := by
      intro c hc
      rw [e5, a_up_i]
      by_cases e : c = 16 * l + q
      · rw [if_pos e, e]
      · rw [if_neg e]
        rw [decide_eq_false e, Bool.or_false] at hc
        exact hI c hc
    have F5 : Fr (fun c => s + 1 ≤ c ∧ c ≤ s + 3) m m5 := e5 ▸ Fr.up hF (by omega)
    have k5 : ∀ c, c ≠ s + 1 → m5 c = m' c := fun c hc => by rw [e5, a_up_c _ _ hc]
    refine ⟨fun d => ?_, fun d => ?_⟩
    · rw [tI_0 _ (by omega)] at d
      refine next m5 ⟨F5, t5, fun i hi => ?_⟩
      rw [smv_1 hc hv, smv_1 hc hv, if_neg (by omega), if_neg (by omega), k5 _ (by omega), k5 _ (by omega)]
      simp only [Nat.add_zero]
      exact hI2 i hi
    · rw [tI_0 _ (by omega)] at d
      rw [tI_s _ d]
      have ht : top P B (16 * l + q) - 1 < 20 := by omega
      refine ⟨pk_in (top P B (16 * l + q) - 1) 20 ht, pk_in (top P B (16 * l + q) - 1) 20 ht, ?_⟩
      rw [pk_cl (top P B (16 * l + q) - 1), pk_cl q]
      intro m6 e6
      refine ⟨pk_in (top P B (16 * l + q) - 1) 20 ht, pk_in q 16 (by omega), pk_in (top P B (16 * l + q) - 1) 20 ht, fun m7 e7 => ?_⟩
      have k6 : ∀ c, c ≠ s + 2 → m6 c = m5 c := fun c hc => by rw [e6, a_up_c _ _ hc]
      have k7 : ∀ c, c ≠ s + 3 → m7 c = m6 c := fun c hc => by rw [e7, a_up_c _ _ hc]
      have hpp : m6 2 q = nI (pps P q) := by
        rw [k6 _ (by omega), F5 2 (by omega)]
        exact hP.2.1 q (by omega)
      refine next m7 ⟨?_, fun c hc => ?_, fun i hi => ?_⟩
      · rw [e7, e6]
        exact Fr.up (Fr.up F5 (by omega)) (by omega)
      · rw [k7 _ (by omega), k6 _ (by omega)]; exact t5 c hc
      · obtain ⟨i1, i2⟩ := hI2 i hi
        rw [smv_1 hc hv, smv_1 hc hv, k7 (s + 2) (by omega), e7, e6, a_up_i, a_up_i]
        rw [← e6, k6 (s + 3) (by omega), k5 (s + 3) (by omega), k5 (s + 2) (by omega), hpp]
        by_cases e : i = top P B (16 * l + q) - 1
        · rw [if_pos e, if_pos e, if_pos (by omega), if_pos (by omega), ← e, i1, i2, nI_1, nI_add, show (16 * l + q) % 16 = q by omega]
          exact ⟨rfl, rfl⟩
        · rw [if_neg e, if_neg e, if_neg (by omega), if_neg (by omega), i1, i2]
          simp only [Nat.add_zero]
          exact ⟨trivial, trivial⟩
  · rintro m' ⟨hF, hI, hI2⟩
    have P' : EP m' P := hP.fr fun c hc hc2 => hF c (by omega)
    refine eX7_lookAt_18 hs hb ?_
    rw [P'.1 1 (by omega)]
    refine pk_le (pn P 1) (pn P 1) (fun _ => qV (h m' hF ⟨fun c c1 c2 => hI c (decide_eq_true (by omega)), fun i hi => ?_⟩)) (fun c => absurd c (by omega))
    obtain ⟨i1, i2⟩ := hI2 i hi
    have out : ∀ c, c < 128 → rec4 0 (pn P 0) 0 (pn P 1) c = false → top P B c = 0 := fun c _ hr => top_out hV (by
      have := of_decide_eq_false hr
      omega)
    rw [i1, i2, smv_all (fun c hc hr => if_neg (by rw [out c hc hr]; omega)), smv_all (fun c hc hr => if_neg (by rw [out c hc hr]; omega))]
    exact ⟨rfl, rfl⟩
  · rw [smv_0, smv_0]
    exact ⟨by rw [f2 _ (by omega)]; exact g1 i hi, g2 i hi⟩
theorem s_worthOf {Q : Int32 → (Nat → Nat → Int32) → Prop} (hs : sSight s) (hb : sBills b) (hP : EP m P) (hVP : VP P) (hE : EB m b P B) (hV : VB P B) (hS : ES m s P B) {t : Nat} (ht : t < bn B) (h : Q (nI (wob P B t)) m) : CallI X mX7_worthOf [.ref s, .ref b, .int (nI t)] m Q := by
  have h6 := hVP.2.2.2.2.2.2.1
  have hn := hV.1
  obtain ⟨hk, -⟩ := hV.2 t ht
  obtain ⟨i1, i2⟩ := hS.2 t (by omega)
  have q1 := seen_le P B t
  have q2 := siz_le hVP hk
  refine eX7_worthOf_0 hs hb ⟨pk_in t 20 (by omega), s_allCells hb hP (by omega) h6 hk (hE.2.2.2.2.1 t ht).1 ?_⟩
  rw [pk_cl t, i1]
  refine s_canRead hP hVP (by omega) (by omega) ?_
  rw [i2]
  unfold wob red at h
  refine ⟨fun z => ?_, fun z => ⟨pk_in t 20 (by omega), ?_⟩⟩
  · rw [bI_0] at z
    rw [z, if_neg (by decide)] at h
    exact qI h
  · rw [bI_n0] at z
    rw [z, if_pos rfl] at h
    exact qI h
theorem s_worthOfOwner {Q : Int32 → (Nat → Nat → Int32) → Prop} (hs : sSight s) (hb : sBills b) (hP : EP m P) (hVP : VP P) (hE : EB m b P B) (hV : VB P B) (hS : ES m s P B) {o : Nat} (ho : o < 6) (h : Q (nI (wor P B o)) m) : CallI X mX7_worthOfOwner [.ref s, .ref b, .int (nI o)] m Q := by
  have h6 := hVP.2.2.2.2.2.2.1
  have hn := hV.1
  refine eX7_worthOfOwner_0 hs hb ?_
  refine lpf (a := 0) (b := bn B) (by omega) (I := fun i m' => m' = m) (W := fun i m' => Wp X mX7_worthOfOwner 5 [some (.ref s), some (.ref b), some (.int (nI o)), some (.int (nI (sm (fun b => if pow P (bkd B b) = o then wob P B b else 0) i))), some (.int (nI i))] [] m' (QI Q)) ?_ ?_ rfl
  · rintro i - hi _ rfl next
    have nx := next _ rfl
    obtain ⟨hk, -⟩ := hV.2 i hi
    have ho2 := (hVP.2.2.2.2.2.2.2.2 _ hk).1
    refine eX7_worthOfOwner_5 hs hb ?_
    rw [hE.1]
    refine pk_le (bn B) i (fun c => absurd c (by omega)) (fun _ => s_ownerOf hb hP (by omega) h6 hk (hE.2.2.2.2.1 i hi).1 ?_)
    rw [sm_s] at nx
    rw [nI_1]
    refine (pk_eq (pow P (bkd B i)) o (fun c => s_worthOf hs hb hP hVP hE hV hS hi ?_) (fun c => ?_)).symm
    · rw [if_pos c] at nx
      rw [nI_add]; exact nx
    · rw [if_neg c] at nx; exact nx
  · rintro _ rfl
    refine eX7_worthOfOwner_5 hs hb ?_
    rw [hE.1]
    exact pk_le (bn B) (bn B) (fun _ => qI h) (fun c => absurd c (by omega))
end SIGHT
