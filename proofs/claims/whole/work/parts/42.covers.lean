/-! ===== OVER, TO FREE ===== -/
section COV
variable {X : a_X} {m : Nat → Nat → Int32} {P : PT} {B : BT} {b : Nat} {Q : Int32 → (Nat → Nat → Int32) → Prop}
theorem s_laterThan {x : Int32} {t : Nat} (h : Q ((x >>> ((nI t + 1) &&& 31)) <<< ((nI t + 1) &&& 31)) m) : CallI X mX0_laterThan [.int x, .int (nI t)] m Q := eX0_laterThan_0 (qI h)
theorem s_coversOf (hb : sBills b) (hP : EP m P) (hVP : VP P) (hE : EB m b P B) (hV : VB P B) {t : Nat} (ht : t < bn B) (h : ∀ a, isS a (cov P B t) → Q a m) : CallI X mX0_coversOf [.ref b, .int (nI t)] m Q := by
  obtain ⟨E1, E2, E3, E9, EA, EF, EC⟩ := hE
  have h0 := hVP.1.2
  have h1 := hVP.2.1.2
  have h6 := hVP.2.2.2.2.2.2.1
  have hn := hV.1
  obtain ⟨hk, hx, hy, -⟩ := hV.2 t ht
  obtain ⟨a1, a2, a3, -⟩ := EA t ht
  refine eX0_coversOf_0 hb ⟨pk_in t 20 (by omega), ?_⟩
  rw [pk_cl t, a3]
  have hR : ∀ c, lie P B t c = true → rec4 (bco B t) (bco B t + pwd P (bkd B t)) (bro B t) (bro B t + phg P (bkd B t)) c = true := fun c hc => (lie_rch hc).1
  generalize ek : bkd B t = k at *
  generalize exx : bco B t = x at *
  generalize ey : bro B t = y at *
  have key := rect (x0 := x) (x1 := x + pwd P k) (y0 := y) (y1 := y + phg P k) (by omega) (by omega) (by omega) (by omega) (m := m)
    (I := fun v m' => m' = m)
    (Wo := fun l v m' => ∀ a, isS a (fun j => decide (j < bn B) && ex (fun c => v c && (lie P B t c && lie P B j c)) 128) → Wp X mX0_coversOf 9 [some (.ref b), some (.int (nI t)), some (.int a), some (.int (nI l)), none, none] [] m' (QI Q))
    (Wi := fun l q v m' => ∀ a, isS a (fun j => decide (j < bn B) && ex (fun c => v c && (lie P B t c && lie P B j c)) 128) → Wp X mX0_coversOf 26 [some (.ref b), some (.int (nI t)), some (.int a), some (.int (nI l)), some (.int (nI q)), none] [] m' (QI Q)) ?_ ?_ ?_ ?_ rfl
  · exact key 0 (isS_0.cg fun i hi => by
      rw [ex_f.mpr fun c hc => by rw [Bool.false_and], Bool.and_false])
  · rintro l v _ hl hl2 rfl next a ha
    refine eX0_coversOf_9 hb (s_bottom hb hP (by omega) h6 hk a1 a3 ?_)
    refine pk_le (y + phg P k) l (fun c => absurd c (by omega)) (fun _ => ⟨pk_in t 20 (by omega), ?_⟩)
    rw [pk_cl t, a2]
    exact next a ha
  · rintro l v _ hl hl2 rfl next a ha
    refine eX0_coversOf_26 hb (s_right hb hP (by omega) h6 hk a1 a2 ?_)
    rw [nI_1]
    exact pk_le (x + pwd P k) (x + pwd P k) (fun _ => next a ha) (fun c => absurd c (by omega))
  · rintro l q v _ hl hl2 hq hq2 hv rfl next a ha
    refine eX0_coversOf_26 hb (s_right hb hP (by omega) h6 hk a1 a2 ?_)
    refine pk_le (x + pwd P k) q (fun c => absurd c (by omega)) (fun _ => s_cellAt ⟨pk_in (16 * l + q) 128 (by omega), ?_⟩)
    have hc : 16 * l + q < 128 := by omega
    rw [pk_cl (16 * l + q), nI_1]
    refine s_isIn (by omega) ?_
    rw [(EC _ hc).1.nth (by omega) ht rfl]
    refine ⟨fun z => ?_, fun z => ?_⟩
    · rw [bI_0] at z
      refine next _ rfl a (ha.cg fun j hj => ?_)
      rw [ex_1 hc, z, Bool.false_and, Bool.or_false]
    · rw [bI_n0] at z
      refine next _ rfl _ ((ha.or (EC _ hc).1).cg fun j hj => ?_)
      rw [ex_1 hc, z, Bool.true_and, ← Bool.and_or_distrib_left]
  · rintro _ rfl a ha
    refine eX0_coversOf_9 hb (s_bottom hb hP (by omega) h6 hk a1 a3 ?_)
    refine pk_le (y + phg P k) (y + phg P k) (fun _ => s_laterThan (qI (h _ ?_))) (fun c => absurd c (by omega))
    refine (ha.later (by omega)).cg fun j hj => ?_
    unfold cov
    rw [Bool.decide_and, Bool.and_assoc]
    congr 2
    refine ex_cong fun c _ => ?_
    cases hl : lie P B t c with
    | false => simp
    | true => rw [hR c hl]; simp
theorem s_toFree (hb : sBills b) (hP : EP m P) (hVP : VP P) (hE : EB m b P B) (hV : VB P B) {t : Nat} (ht : t < bn B) (h : ∀ a, isS a (fre P B t) → Q a m) : CallI X mX0_toFree [.ref b, .int (nI t)] m Q := by
  have hn := hV.1
  refine eX0_toFree_0 hb (s_coversOf hb hP hVP hE hV ht fun a ha => ?_)
  rw [nI_1]
  refine lpf (a := t + 1) (b := bn B) (by omega) (I := fun i m' => m' = m) (W := fun i m' => ∀ a, isS a (frN P B t (i - (t + 1))) → Wp X mX0_toFree 10 [some (.ref b), none, some (.int a), some (.int (nI i))] [] m' (QI Q)) ?_ ?_ rfl a (by rw [Nat.sub_self]; exact ha)
  · rintro i hi hi2 _ rfl next a ha
    refine eX0_toFree_10 hb ?_
    rw [hE.1]
    refine pk_le (bn B) i (fun c => absurd c (by omega)) (fun _ => s_isIn (by omega) ?_)
    have e : i + 1 - (t + 1) = (i - (t + 1)) + 1 := by omega
    have e2 : t + 1 + (i - (t + 1)) = i := by omega
    rw [ha i (by omega), nI_1]
    refine ⟨fun z => ?_, fun z => s_coversOf hb hP hVP hE hV hi2 fun a2 ha2 => ?_⟩
    · rw [bI_0] at z
      refine next _ rfl a (ha.cg fun j hj => ?_)
      rw [e]
      show _ = (frN P B t (i - (t + 1)) j || (frN P B t (i - (t + 1)) (t + 1 + (i - (t + 1))) && cov P B (t + 1 + (i - (t + 1))) j))
      rw [e2, z, Bool.false_and, Bool.or_false]
    · rw [bI_n0] at z
      refine next _ rfl _ ((ha.or ha2).cg fun j hj => ?_)
      rw [e]
      show _ = (frN P B t (i - (t + 1)) j || (frN P B t (i - (t + 1)) (t + 1 + (i - (t + 1))) && cov P B (t + 1 + (i - (t + 1))) j))
      rw [e2, z, Bool.true_and]
  · rintro _ rfl a ha
    refine eX0_toFree_10 hb ?_
    rw [hE.1]
    exact pk_le (bn B) (bn B) (fun _ => qI (h a ha)) (fun c => absurd c (by omega))
end COV
