/-! ===== taking off ===== -/
theorem tI_0 (T : Nat) (h : T < 1000) : tI T = -1 ↔ T = 0 := by
  unfold tI
  by_cases e : T = 0
  · simp [e]
  · rw [if_neg e]
    refine ⟨fun q => ?_, fun q => absurd q e⟩
    have : ¬ nI (T - 1) < 0 := nI_pos (by omega)
    rw [q] at this
    exact absurd (by decide +kernel) this
theorem tI_t (T t : Nat) (h : T < 1000) (h2 : t < 1000) : tI T = nI t ↔ T = t + 1 := by
  unfold tI
  by_cases e : T = 0
  · rw [if_pos e]
    refine ⟨fun q => ?_, fun q => by omega⟩
    have : ¬ nI t < 0 := nI_pos (by omega)
    rw [← q] at this
    exact absurd (by decide +kernel) this
  · rw [if_neg e, nI_eq (by omega) (by omega)]
    omega
theorem smv_all {v : Nat → Bool} {f : Nat → Nat} (h : ∀ c, c < 128 → v c = false → f c = 0) : smv v f = sm f 128 := sm_cong fun c hc => by
  cases e : v c with
  | true => rfl
  | false => exact (h c hc e).symm
theorem ite_1 {p : Prop} [Decidable p] : (if p then 1 else 0 : Nat) ≤ 1 := by split <;> omega
def offB (B : BT) (t : Nat) : BT := (bn B, bty B, bkd B, bco B, bro B, bdy B, up1 (bon B) t false, btn B, bfi B, bsd B)
theorem lie_off {P : PT} {B : BT} {t i c : Nat} : lie P (offB B t) i c = (lie P B i c && !decide (i = t)) ∧ hasB P (offB B t) i c = (hasB P B i c && !decide (i = t)) := by
  unfold lie hasB
  by_cases e : i = t
  · have : bon (offB B t) i = false := by rw [e]; exact up1_s _ _ _
    rw [this, decide_eq_true e]; simp
  · have : bon (offB B t) i = bon B i := up1_n _ _ e
    rw [this, decide_eq_false e]
    simp only [Bool.not_false, Bool.and_true]
    exact ⟨rfl, rfl⟩
theorem VB.off {P : PT} {B : BT} {t : Nat} (hV : VB P B) : VB P (offB B t) := hV
/-- at how many another comes to be ABOVE in its stead -/
def unc (P : PT) (B : BT) (t : Nat) : Nat := sm (fun c => if top P B c = t + 1 ∧ top P (offB B t) c ≠ 0 then 1 else 0) 128
theorem top_has {P : PT} {B : BT} {c t : Nat} (h : top P B c = t + 1) : t < bn B ∧ lie P B t c = true := ⟨(tp_has h).1, (tp_has h).2.1⟩
theorem top_le {P : PT} {B : BT} (hV : VB P B) (c : Nat) : top P B c ≤ 20 := Nat.le_trans (tp_le _ _) hV.1
theorem lie_rch {P : PT} {B : BT} {c t : Nat} (h : lie P B t c = true) : rch P (bkd B t) (bco B t) (bro B t) c = true ∧ bon B t = true ∧ btn B t c = false := by
  unfold lie hasB at h
  simp only [Bool.and_eq_true, Bool.not_eq_true'] at h
  exact ⟨h.1.2, h.1.1, h.2⟩
section OFF
variable {X : a_X} {m : Nat → Nat → Int32} {P : PT} {B : BT} {b : Nat}
theorem s_takeOff {Q : Int32 → (Nat → Nat → Int32) → Prop} (hb : sBills b) (h7 : 7 ≤ b) (hP : EP m P) (hVP : VP P) (hE : EB m b P B) (hV : VB P B) {t : Nat} (ht : t < bn B) (h : ∀ m', Fr (fun c => b ≤ c ∧ c ≤ b + 7) m m' → EB m' b P (offB B t) → Q (nI (unc P B t)) m') : CallI X mX0_takeOff [.ref b, .int (nI t)] m Q := by
  obtain ⟨E1, E2, E3, E9, EA, EF, EC⟩ := hE
  have h0 := hVP.1.2
  have h1 := hVP.2.1.2
  have h6 := hVP.2.2.2.2.2.2.1
  have hn := hV.1
  obtain ⟨hk, hx, hy, -⟩ := hV.2 t ht
  obtain ⟨hw, hh⟩ := (hVP.2.2.2.2.2.2.2.2 _ hk).2
  obtain ⟨a1, a2, a3, -⟩ := EA t ht
  refine eX0_takeOff_0 hb ⟨pk_in t 20 (by omega), ?_⟩
  rw [pk_cl t, a3]
  generalize hf : (fun c => if top P B c = t + 1 ∧ top P (offB B t) c ≠ 0 then 1 else 0 : Nat → Nat) = f
  have hu : unc P B t = sm f 128 := by rw [← hf]; rfl
  generalize ek : bkd B t = k at *
  generalize ex : bco B t = x at *
  generalize ey : bro B t = y at *
  have hf2 : ∀ c, c < 128 → rec4 x (x + pwd P k) y (y + phg P k) c = false → f c = 0 := by
    intro c hc hr
    rw [← hf]
    dsimp only
    rw [if_neg]
    rintro ⟨q, -⟩
    have := (lie_rch (top_has q).2).1
    rw [ek, ex, ey, rch_rec, hr] at this
    cases this
  have key := rect (x0 := x) (x1 := x + pwd P k) (y0 := y) (y1 := y + phg P k) (by omega) (by omega) (by omega) (by omega) (m := m)
    (I := fun v m' => Fr (fun c => c = b + 6 ∨ c = b + 7) m m' ∧ ∀ c, c < 128 → isS (m' (b + 6) c) (fun i => (decide (i < bn B) && lie P B i c) && !(decide (i = t) && v c)) ∧ isS (m' (b + 7) c) (fun i => (decide (i < bn B) && (hasB P B i c && btn B i c)) && !(decide (i = t) && v c)))
    (Wo := fun l v m' => Wp X mX0_takeOff 9 [some (.ref b), some (.int (nI t)), some (.int (nI (smv v f))), some (.int (nI l)), none, none, none] [] m' (QI Q))
    (Wi := fun l q v m' => Wp X mX0_takeOff 26 [some (.ref b), some (.int (nI t)), some (.int (nI (smv v f))), some (.int (nI l)), some (.int (nI q)), none, none] [] m' (QI Q)) ?_ ?_ ?_ ?_ ⟨Fr.rf, fun c hc => ?_⟩
  · rw [smv_0] at key; exact key
  · rintro l v m' hl hl2 ⟨hF, -⟩ next
    have P' : EP m' P := hP.fr fun c hc hc2 => hF c (by omega)
    refine eX0_takeOff_9 hb (s_bottom hb P' (by omega) h6 hk (by rw [hF _ (by omega), a1]) (by rw [hF _ (by omega), a3]) ?_)
    refine pk_le (y + phg P k) l (fun c => absurd c (by omega)) (fun _ => ⟨pk_in t 20 (by omega), ?_⟩)
    rw [pk_cl t, hF _ (by omega), a2]
    exact next
  · rintro l v m' hl hl2 ⟨hF, -⟩ next
    have P' : EP m' P := hP.fr fun c hc hc2 => hF c (by omega)
    refine eX0_takeOff_26 hb (s_right hb P' (by omega) h6 hk (by rw [hF _ (by omega), a1]) (by rw [hF _ (by omega), a2]) ?_)
    rw [nI_1]
    exact pk_le (x + pwd P k) (x + pwd P k) (fun _ => next) (fun c => absurd c (by omega))
  · rintro l q v m' hl hl2 hq hq2 hv ⟨hF, hI⟩ next
    have P' : EP m' P := hP.fr fun c hc hc2 => hF c (by omega)
    refine eX0_takeOff_26 hb (s_right hb P' (by omega) h6 hk (by rw [hF _ (by omega), a1]) (by rw [hF _ (by omega), a2]) ?_)
    refine pk_le (x + pwd P k) q (fun c => absurd c (by omega)) (fun _ => s_cellAt ?_)
    have hc : 16 * l + q < 128 := by omega
    obtain ⟨i1, i2⟩ := hI _ hc
    rw [hv] at i1 i2
    have j1 := i1.and (isS_one (k := t) (by omega)).not
    have j2 := i2.and (isS_one (k := t) (by omega)).not
    refine s_topAt hb hc i1 (fun i hi _ => by rw [decide_eq_false (by omega : ¬ i < bn B)]; simp) ?_
    have eT : tp (fun i => (decide (i < bn B) && lie P B i (16 * l + q)) && !(decide (i = t) && false)) 20 = top P B (16 * l + q) := by
      rw [← top_20 P B hn]
      refine tp_cong fun i _ => by simp
    rw [eT]
    have eT2 : tp (fun i => ((decide (i < bn B) && lie P B i (16 * l + q)) && !(decide (i = t) && false)) && !decide (i = t)) 20 = top P (offB B t) (16 * l + q) := by
      rw [← top_20 P (offB B t) hn]
      refine tp_cong fun i _ => ?_
      show _ = (decide (i < bn B) && lie P (offB B t) i (16 * l + q))
      rw [lie_off.1, Bool.and_false, Bool.not_false, Bool.and_true, Bool.and_assoc]
    have hT := top_le hV (16 * l + q)
    have hT2 := top_le (VB.off (t := t) hV) (16 * l + q)
    have hs := smv_1 (f := f) hc hv
    have main : ∀ m2, m2 = a_up (a_up m' (b + 6) (16 * l + q) (m' (b + 6) (16 * l + q) &&& ((1 <<< (nI t &&& 31)) ^^^ (-1)))) (b + 7) (16 * l + q) (m' (b + 7) (16 * l + q) &&& ((1 <<< (nI t &&& 31)) ^^^ (-1))) → Wp X mX0_takeOff 26 [some (.ref b), some (.int (nI t)), some (.int (nI (smv v f + f (16 * l + q)))), some (.int (nI l)), some (.int (nI (q + 1))), none, none] [] m2 (QI Q) ∧ isS (m2 (b + 6) (16 * l + q)) (fun i => ((decide (i < bn B) && lie P B i (16 * l + q)) && !(decide (i = t) && false)) && !decide (i = t)) := by
      rintro m2 rfl
      have w1 : ∀ c, a_up (a_up m' (b + 6) (16 * l + q) (m' (b + 6) (16 * l + q) &&& ((1 <<< (nI t &&& 31)) ^^^ (-1)))) (b + 7) (16 * l + q) (m' (b + 7) (16 * l + q) &&& ((1 <<< (nI t &&& 31)) ^^^ (-1))) (b + 6) c = if c = 16 * l + q then m' (b + 6) (16 * l + q) &&& ((1 <<< (nI t &&& 31)) ^^^ (-1)) else m' (b + 6) c := fun c => by
        rw [a_up_n _ _ (Or.inl (by omega)), a_up_i]
      have w2 : ∀ c, a_up (a_up m' (b + 6) (16 * l + q) (m' (b + 6) (16 * l + q) &&& ((1 <<< (nI t &&& 31)) ^^^ (-1)))) (b + 7) (16 * l + q) (m' (b + 7) (16 * l + q) &&& ((1 <<< (nI t &&& 31)) ^^^ (-1))) (b + 7) c = if c = 16 * l + q then m' (b + 7) (16 * l + q) &&& ((1 <<< (nI t &&& 31)) ^^^ (-1)) else m' (b + 7) c := fun c => by
        rw [a_up_i, a_up_n _ _ (Or.inl (by omega))]
      refine ⟨?_, ?_⟩
      · rw [← hs]
        refine next _ ⟨Fr.up (Fr.up hF (Or.inl rfl)) (Or.inr rfl), fun c hc2 => ?_⟩
        rw [w1, w2]
        by_cases e : c = 16 * l + q
        · subst e
          rw [if_pos rfl, if_pos rfl]
          constructor
          · refine j1.cg fun i hi => ?_
            dsimp only
            rw [hv, decide_eq_true (rfl : 16 * l + q = 16 * l + q)]; simp
          · refine j2.cg fun i hi => ?_
            dsimp only
            rw [hv, decide_eq_true (rfl : 16 * l + q = 16 * l + q)]; simp
        · rw [if_neg e, if_neg e]
          dsimp only
          rw [decide_eq_false e, Bool.or_false]
          exact hI c hc2
      · rw [w1, if_pos rfl]; exact j1
    refine ⟨fun c => ?_, fun c => ?_⟩
    · rw [tI_t _ _ (by omega) (by omega)] at c
      rw [pk_cl (16 * l + q), nI_1]
      refine ⟨pk_in (16 * l + q) 128 hc, pk_in (16 * l + q) 128 hc, fun m7 e7 => ⟨pk_in (16 * l + q) 128 hc, pk_in (16 * l + q) 128 hc, fun m8 e8 => ?_⟩⟩
      subst e7
      rw [a_up_n _ _ (Or.inl (by omega))] at e8
      have := (main m8 e8).1
      rw [show f (16 * l + q) = 0 by rw [← hf]; exact if_neg fun z => c z.1, Nat.add_zero] at this
      exact this
    · rw [tI_t _ _ (by omega) (by omega)] at c
      rw [pk_cl (16 * l + q), nI_1, nI_1]
      refine ⟨pk_in (16 * l + q) 128 hc, pk_in (16 * l + q) 128 hc, fun m7 e7 => ⟨pk_in (16 * l + q) 128 hc, pk_in (16 * l + q) 128 hc, fun m8 e8 => ?_⟩⟩
      subst e7
      rw [a_up_n _ _ (Or.inl (by omega))] at e8
      obtain ⟨this, js⟩ := main m8 e8
      refine s_topAt hb hc js (fun i hi _ => by rw [decide_eq_false (by omega : ¬ i < bn B)]; simp) ?_
      rw [eT2]
      refine ⟨fun d => ?_, fun d => ?_⟩
      · rw [tI_0 _ (by omega)] at d
        rw [show f (16 * l + q) = 0 by rw [← hf]; exact if_neg fun z => z.2 d, Nat.add_zero] at this
        exact this
      · rw [tI_0 _ (by omega)] at d
        rw [show f (16 * l + q) = 1 by rw [← hf]; exact if_pos ⟨c, d⟩] at this
        exact this
  · rintro m' ⟨hF, hI⟩
    have P' : EP m' P := hP.fr fun c hc hc2 => hF c (by omega)
    refine eX0_takeOff_9 hb (s_bottom hb P' (by omega) h6 hk (by rw [hF _ (by omega), a1]) (by rw [hF _ (by omega), a3]) ?_)
    refine pk_le (y + phg P k) (y + phg P k) (fun _ m3 e3 => ?_) (fun c => absurd c (by omega))
    rw [smv_all hf2, ← hu]
    refine qI (h m3 ?_ ?_)
    · subst e3
      exact Fr.up (hF.mono fun c hc => by omega) (by omega)
    · have k6 : ∀ c, c ≠ b → m3 c = m' c := fun c hc => by rw [e3, a_up_c _ _ hc]
      have k0 : ∀ i, i ≠ 9 → m3 b i = m b i := fun i hi => by rw [e3, a_up_n _ _ (Or.inr hi), hF _ (by omega)]
      refine ⟨?_, ?_, ?_, ?_, ?_, ?_, fun c hc => ⟨?_, ?_⟩⟩
      · rw [k0 _ (by omega)]; exact E1
      · rw [k0 _ (by omega)]; exact E2
      · rw [k0 _ (by omega)]; exact E3
      · rw [e3, a_up_s, hF _ (by omega)]
        refine (E9.and (isS_one (k := t) (by omega)).not).cg fun i hi => ?_
        show _ = (decide (i < bn B) && up1 (bon B) t false i)
        by_cases e : i = t
        · rw [e, up1_s, decide_eq_true (rfl : t = t)]; simp
        · rw [up1_n _ _ e, decide_eq_false e]; simp
      · intro i hi
        rw [k6 _ (by omega), k6 _ (by omega), k6 _ (by omega), k6 _ (by omega), hF _ (by omega), hF _ (by omega), hF _ (by omega), hF _ (by omega)]
        exact EA i hi
      · intro o ho
        rw [k6 _ (by omega), hF _ (by omega)]
        exact EF o ho
      · rw [k6 _ (by omega)]
        refine (hI c hc).1.cg fun i hi => ?_
        show _ = (decide (i < bn B) && lie P (offB B t) i c)
        rw [lie_off.1]
        by_cases e : i = t
        · rw [e, decide_eq_true (rfl : t = t)]
          cases hr : rec4 x (x + pwd P k) y (y + phg P k) c with
          | true => simp
          | false =>
            cases hl : lie P B t c with
            | false => simp
            | true =>
              have := (lie_rch hl).1
              rw [ek, ex, ey, rch_rec, hr] at this
              cases this
        · rw [decide_eq_false e]; simp
      · rw [k6 _ (by omega)]
        refine (hI c hc).2.cg fun i hi => ?_
        show _ = (decide (i < bn B) && (hasB P (offB B t) i c && btn B i c))
        rw [lie_off.2]
        by_cases e : i = t
        · rw [e, decide_eq_true (rfl : t = t)]
          cases hr : rec4 x (x + pwd P k) y (y + phg P k) c with
          | true => simp
          | false =>
            have : hasB P B t c = false := by
              unfold hasB
              rw [ek, ex, ey, rch_rec, hr, Bool.and_false]
            rw [this]; simp
        · rw [decide_eq_false e]; simp
  · refine ⟨(EC c hc).1.cg fun i hi => ?_, (EC c hc).2.cg fun i hi => ?_⟩ <;> simp
end OFF
