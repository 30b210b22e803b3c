/-! ===== the model's calls, second part ===== -/
theorem GV.mi {m m' : Nat → Nat → Int32} {S : ST} (h : MI m S) (hV : VS S) (g : GV m m') : MI m' S := h.scr hV (fun c hc => g.1 c (by omega)) (fun i hi => by rw [g.1 77 (by omega)]) g.2
theorem rvN_le {P : PT} {B : BT} {t v s : Nat} : ∀ i, rvN P B t v i = some s → s ≤ v
  | 0, h => by cases h
  | i + 1, h => by
    rw [rvN_s] at h
    unfold rvs at h
    split at h
    · cases h; exact dep_le _ _ _
    · exact rvN_le i h
section MPUB2
variable {X : a_X} {m : Nat → Nat → Int32} {S : ST} {Q : Int32 → (Nat → Nat → Int32) → Prop}
theorem m_over (hC : MI m S) (hV : VS S) {b : Int32} (h : Q (aOver S b) m) : CallI X mX9_over [.ref 77, .int b] m Q := by
  obtain ⟨hP, hB, -⟩ := hC
  have hn := hV.2.1.1
  unfold aOver at h
  refine eX9_over_0 (s_isBill hB hn (s_hasB hn (fun e => ?_) fun j hj hx e => ?_))
  · rw [e, if_neg (by decide)] at h
    exact qI h
  · subst hx
    rw [e, if_pos rfl, cl_nI (by omega)] at h
    exact s_moverOf hP hV.1 hB hV.2.1 hj (qI h)
theorem on_c {j : Nat} (hC : MI m S) (hV : VS S) (hj : j < bn (qB S)) : m 78 (Int32.toNatClampNeg (80 + nI j)) = bI (bon (qB S) j) ∧ vp_in (80 + nI j) 800 := by
  have hn := hV.2.1.1
  have := (hC.2.1.2.2.2.1 j hj).2.2.2.2.1
  rw [show 0 + 80 + j = 80 + j by omega] at this
  rw [show (80 : Int32) = nI 80 from rfl, nI_add, nI_clamp (n := 80 + j) (by omega)]
  exact ⟨this, pk_in (80 + j) 800 (by omega)⟩
theorem m_free (hC : MI m S) (hV : VS S) {b : Int32} (h : Q (aFree S b) m) : CallI X mX9_free [.ref 77, .int b] m Q := by
  obtain ⟨hP, hB, -⟩ := id hC
  have hn := hV.2.1.1
  unfold aFree at h
  refine eX9_free_0 (s_isBill hB hn (s_hasB hn (fun e => ?_) fun j hj hx e => ?_).symm)
  · rw [e, if_neg (by decide)] at h
    exact qI h
  · subst hx
    rw [e, if_pos rfl, cl_nI (by omega)] at h
    obtain ⟨o1, o2⟩ := on_c hC hV hj
    rw [o1]
    refine ⟨o2, fun z => ?_, fun z => ?_⟩
    · rw [bI_1, Bool.not_eq_true] at z
      rw [z, if_neg (by decide)] at h; exact qI h
    · rw [bI_1] at z
      rw [z, if_pos rfl] at h
      exact s_mfreeOf hP hV.1 hB hV.2.1 hj (qI h)
theorem m_reveal (hC : MI m S) (hV : VS S) {b : Int32} (h : ∀ m', Fr (fun c => 77 ≤ c) m m' → MI m' S → Q (aReveal S b) m') : CallI X mX9_reveal [.ref 77, .int b] m Q := by
  obtain ⟨hP, hB, -⟩ := id hC
  have vP := hV.1
  have vB := hV.2.1
  have hn := vB.1
  unfold aReveal at h
  have h0 := h m Fr.rf hC
  refine eX9_reveal_0 (s_isBill hB hn (s_hasB hn (fun e => ?_) fun j hj hx e => ?_).symm)
  · rw [e, if_neg (by decide)] at h0
    exact qI h0
  · subst hx
    rw [e, if_pos rfl, cl_nI (by omega)] at h h0
    obtain ⟨o1, o2⟩ := on_c hC hV hj
    refine s_mfreeOf hP vP hB vB hj ?_
    rw [o1]
    refine ⟨o2, fun z => ?_, fun z => ?_⟩
    · rw [bI_0] at z
      rw [z, if_neg (by decide)] at h0; exact qI h0
    · rw [bI_n0] at z
      rw [z, if_pos rfl] at h h0
      have v20 := frv_20 (t := j) vB (P := qP S)
      have vbit : (frv (qP S) (qB S) j).testBit j = false := by
        cases q : (frv (qP S) (qB S) j).testBit j with
        | false => rfl
        | true => have := (frv_bit q).1; omega
      have pl : pcn 32 (frv (qP S) (qB S) j) ≤ 32 := by rw [pcn_cnt]; exact cnt_le _ _
      refine s_ones v20 (pk_le (pcn 32 (frv (qP S) (qB S) j)) 12 (fun c => ?_) (fun c => ?_))
      · rw [if_pos c] at h
        generalize frv (qP S) (qB S) j = v at *
        refine lpf (a := 0) (b := bn (qB S)) (m := m) (by omega) (I := fun i m' => Fr (fun c => c = 90) m m' ∧ ∀ a, a < i → m' 90 a = nI (ovr (qP S) (qB S) a)) (W := fun i m' => Wp X mX9_reveal 43 [some (.ref 77), some (.int (nI j)), some (.int (nI v)), some (.int (nI i)), none, none] [] m' (QI Q)) ?_ ?_ ⟨Fr.rf, fun a ha => by omega⟩
        · rintro i - hi m1 ⟨f1, I1⟩ next
          have B1 : MB m1 0 (qB S) := hB.f78 (f1 78 (by omega))
          refine eX9_reveal_43 ?_
          rw [show Int32.toNatClampNeg 180 = 180 from rfl, show m1 78 180 = nI (bn (qB S)) from B1.1]
          refine ⟨pk_in 180 800 (by omega), pk_le (bn (qB S)) i (fun c => absurd c (by omega)) (fun _ => s_moverOf (hP.fs fun c hc => f1 c (by omega)) vP B1 vB hi ?_)⟩
          rw [nI_clamp (n := i) (by omega), nI_1]
          refine ⟨pk_in i 20 (by omega), fun m3 e3 => next m3 ⟨e3 ▸ Fr.up f1 rfl, fun a ha => ?_⟩⟩
          rw [e3, a_up_i]
          by_cases e : a = i
          · rw [if_pos e, e]
          · rw [if_neg e]; exact I1 a (by omega)
        · rintro m1 ⟨f1, I1⟩
          have C1 : MI m1 S := hC.see hV (f1.mono fun c hc => by omega)
          refine eX9_reveal_43 ?_
          rw [show Int32.toNatClampNeg 180 = 180 from rfl, show m1 78 180 = nI (bn (qB S)) from C1.2.1.1]
          refine ⟨pk_in 180 800 (by omega), pk_le (bn (qB S)) (bn (qB S)) (fun _ => ?_) (fun c => absurd c (by omega))⟩
          have fin := fun i => dep_fin 32 v i (by omega)
          have h2 : 0 < 2 ^ pcn 32 v := Nat.two_pow_pos _
          generalize 2 ^ pcn 32 v = N at *
          have key := lpf (a := 0) (b := N) (m := m1) (by omega) (I := fun i m' => GV m1 m') (W := fun i m' => Wp X mX9_reveal 80 [some (.ref 77), some (.int (nI j)), some (.int (nI v)), some (.int (rvI (rvN (qP S) (qB S) j v i))), some (.int (nI (dep 32 v i))), some (.int (bI (decide (i < N))))] [] m' (QI Q)) ?_ ?_ GV.rf
          · rw [dep_0, decide_eq_true h2] at key
            exact key
          · rintro i - hi m2 g2 next
            have C2 : MI m2 S := GV.mi C1 hV g2
            rw [rvN_s] at next
            have dl := dep_le 32 v i
            have ul : ∀ s, rvN (qP S) (qB S) j v i = some s → s ≤ v := fun s hs => rvN_le i hs
            have dj : (dep 32 v i).testBit j = false := by
              cases q : (dep 32 v i).testBit j with
              | false => rfl
              | true => rw [dep_bit _ _ _ _ q] at vbit; cases vbit
            have iff := fin i hi
            rw [← dep_m (by omega) i] at next
            generalize dep 32 v i = d at *
            generalize rvN (qP S) (qB S) j v i = u at *
            have p20 : pcn 32 d ≤ 20 := by rw [pcn_20 (by omega)]; exact cnt_le _ _
            have O2 : ∀ a, a < bn (qB S) → m2 90 a = nI (ovr (qP S) (qB S) a) := fun a ha => by rw [g2.1 90 (by omega)]; exact I1 a ha
            rw [decide_eq_true hi]
            have cont : ∀ (u2 : Option Nat), rvs (qP S) (qB S) j d u = u2 → ∀ m', GV m1 m' → (nI d = nI v → Wp X mX9_reveal 80 [some (.ref 77), some (.int (nI j)), some (.int (nI v)), some (.int (rvI u2)), some (.int (((nI d ||| (nI v ^^^ (-1))) + 1) &&& nI v)), some (.int 0)] [] m' (QI Q)) ∧ (¬ nI d = nI v → Wp X mX9_reveal 80 [some (.ref 77), some (.int (nI j)), some (.int (nI v)), some (.int (rvI u2)), some (.int (((nI d ||| (nI v ^^^ (-1))) + 1) &&& nI v)), some (.int 1)] [] m' (QI Q)) := by
              intro u2 e2 m' g
              have nx := next m' g
              rw [e2] at nx
              rw [nI_eq (by omega) (by omega)]
              refine ⟨fun z => ?_, fun z => ?_⟩
              · have := iff.mp z
                rw [decide_eq_false (by omega)] at nx
                exact nx
              · have : i + 1 < N := by
                  by_cases y : i + 1 = N
                  · exact absurd (iff.mpr y) z
                  · omega
                rw [decide_eq_true this] at nx
                exact nx
            -- what follows once the size is small enough
            have sml : pcn 32 d < few u → CallI X mX9_isWhole [.ref 77, .int (nI d)] m2 (fun v2 m1' => (v2 = 0 → (nI d = nI v → Wp X mX9_reveal 80 [some (.ref 77), some (.int (nI j)), some (.int (nI v)), some (.int (rvI u)), some (.int (((nI d ||| (nI v ^^^ (-1))) + 1) &&& nI v)), some (.int 0)] [] m1' (QI Q)) ∧ (¬ nI d = nI v → Wp X mX9_reveal 80 [some (.ref 77), some (.int (nI j)), some (.int (nI v)), some (.int (rvI u)), some (.int (((nI d ||| (nI v ^^^ (-1))) + 1) &&& nI v)), some (.int 1)] [] m1' (QI Q))) ∧ (¬ v2 = 0 → CallI X mX9_isReadWithout [.ref 77, .int (nI j), .int (nI d)] m1' (fun v4 m3 => (v4 = 0 → (nI d = nI v → Wp X mX9_reveal 80 [some (.ref 77), some (.int (nI j)), some (.int (nI v)), some (.int (rvI u)), some (.int (((nI d ||| (nI v ^^^ (-1))) + 1) &&& nI v)), some (.int 0)] [] m3 (QI Q)) ∧ (¬ nI d = nI v → Wp X mX9_reveal 80 [some (.ref 77), some (.int (nI j)), some (.int (nI v)), some (.int (rvI u)), some (.int (((nI d ||| (nI v ^^^ (-1))) + 1) &&& nI v)), some (.int 1)] [] m3 (QI Q))) ∧ (¬ v4 = 0 → (nI d = nI v → Wp X mX9_reveal 80 [some (.ref 77), some (.int (nI j)), some (.int (nI v)), some (.int (nI d)), some (.int (((nI d ||| (nI v ^^^ (-1))) + 1) &&& nI v)), some (.int 0)] [] m3 (QI Q)) ∧ (¬ nI d = nI v → Wp X mX9_reveal 80 [some (.ref 77), some (.int (nI j)), some (.int (nI v)), some (.int (nI d)), some (.int (((nI d ||| (nI v ^^^ (-1))) + 1) &&& nI v)), some (.int 1)] [] m3 (QI Q)))))) := by
              intro sm
              refine s_isWhole C2.2.1 hn O2 ⟨fun y => cont u ?_ m2 g2, fun y => s_isReadWithout C2.1 vP C2.2.1 vB hj dj fun m3 g3 => ⟨fun w => cont u ?_ m3 (g2.tr g3), fun w => cont (some d) ?_ m3 (g2.tr g3)⟩⟩
              · rw [bI_0] at y
                exact if_neg fun q => by rw [y] at q; cases q.2.1
              · rw [bI_0] at w
                exact if_neg fun q => by rw [w] at q; cases q.2.2
              · rw [bI_n0] at y w
                exact if_pos ⟨sm, y, w⟩
            refine eX9_reveal_80 ⟨fun q => absurd q (by decide), fun _ => ?_⟩
            cases u with
            | none =>
              refine ⟨fun _ => sml ?_, fun q => absurd (show (-1 : Int32) < 0 by decide) q⟩
              show pcn 32 d < 21
              omega
            | some s =>
              have sl := ul s rfl
              have s20 : pcn 32 s ≤ 20 := by rw [pcn_20 (by omega)]; exact cnt_le _ _
              refine ⟨fun q => absurd q (nI_pos (by omega)), fun _ => s_ones (by omega) (s_ones (by omega) ?_)⟩
              exact pk_le (pcn 32 s) (pcn 32 d) (fun q => cont (some s) (if_neg fun z => by have : pcn 32 d < pcn 32 s := z.1; omega) m2 g2) (fun q => sml q)
          · rintro m2 g2
            rw [decide_eq_false (by omega : ¬ N < N)]
            have G : MI m2 S := GV.mi C1 hV g2
            refine eX9_reveal_80 ⟨fun _ => qI (h m2 ?_ G), fun q => absurd rfl q⟩
            exact (f1.mono fun c hc => by omega : Fr (fun c => 77 ≤ c) m m1).tr (g2.1.mono fun c hc => by omega)
      · rw [if_neg (by omega)] at h0
        exact qI h0
def onB (B : BT) (f : Nat → Bool) : BT := (bn B, bty B, bkd B, bco B, bro B, bdy B, f, btn B, bfi B, bsd B)
theorem MB.on {r b : Nat} {B : BT} {f : Nat → Bool} {v : Int32} {m' : Nat → Nat → Int32} (hB : MB m r B) (hn : bn B ≤ 20) (hb : b < bn B) (e : m' = a_up m 78 (r + 80 + b) v) (eo : ∀ i, i < bn B → (if i = b then v else bI (bon B i)) = bI (f i)) : MB m' r (onB B f) := by
  obtain ⟨b1, b2, b3, b4, b5⟩ := hB
  have z : ∀ i, i ≠ r + 80 + b → m' 78 i = m 78 i := fun i hi => by rw [e, a_up_n _ _ (Or.inr hi)]
  refine ⟨by rw [z _ (by omega)]; exact b1, by rw [z _ (by omega)]; exact b2, by rw [z _ (by omega)]; exact b3, fun i hi => ?_, fun o ho => by rw [z _ (by omega)]; exact b5 o ho⟩
  have hi : i < bn B := hi
  obtain ⟨a1, a2, a3, a4, a5, a6⟩ := b4 i hi
  refine ⟨by rw [z _ (by omega)]; exact a1, by rw [z _ (by omega)]; exact a2, by rw [z _ (by omega)]; exact a3, by rw [z _ (by omega)]; exact a4, ?_, fun c hc => by rw [z _ (by omega)]; exact a6 c hc⟩
  show _ = bI (f i)
  rw [← eo i hi, e, a_up_i]
  by_cases q : i = b
  · rw [if_pos (by omega), if_pos q]
  · rw [if_neg (by omega), if_neg q]; exact a5
theorem m_peel (hC : MI m S) (hV : VS S) {b : Int32} (h : ∀ m', Fr (fun c => 77 ≤ c) m m' → MI m' (nPeel S b) → Q (aPeel S b) m') : CallI X mX9_peel [.ref 77, .int b] m Q := by
  obtain ⟨hP, hB, -⟩ := id hC
  have vP := hV.1
  have vB := hV.2.1
  have hn := vB.1
  unfold aPeel nPeel at h
  refine eX9_peel_0 (s_isBill hB hn (s_hasB hn (fun e => ?_) fun j hj hx e => ?_).symm)
  · rw [e, if_neg (by decide), if_neg (by decide)] at h
    exact qI (h m Fr.rf hC)
  · subst hx
    rw [e, if_pos rfl, if_pos rfl, cl_nI (by omega)] at h
    obtain ⟨o1, o2⟩ := on_c hC hV hj
    rw [o1]
    refine ⟨o2, fun z => ?_, fun z => ?_⟩
    · rw [bI_0] at z
      rw [z, if_neg (by decide), if_neg (by decide)] at h
      exact qI (h m Fr.rf hC)
    · rw [bI_n0] at z
      rw [z, if_pos rfl, if_pos rfl] at h
      refine s_moverOf hP vP hB vB hj ?_
      have lo : ovr (qP S) (qB S) j < 2 ^ 32 := (ofB_t _ 32).1
      have iff : nI (ovr (qP S) (qB S) j) = 0 ↔ ovr (qP S) (qB S) j = 0 := by
        rw [show (0 : Int32) = nI 0 from rfl]
        constructor
        · intro q
          have := congrArg (fun z : Int32 => z.toBitVec.toNat) q
          rw [pk_tn lo, pk_tn (by omega)] at this
          exact this
        · intro q; rw [q]
      refine ⟨fun y => ?_, fun y => ?_⟩
      · rw [if_pos (iff.mp y), if_pos (iff.mp y)] at h
        obtain ⟨f, hf⟩ : ∃ f : Nat → Nat, ∀ c, f c = if top (qP S) (qB S) c = j + 1 ∧ top (qP S) (offB (qB S) j) c ≠ 0 then 1 else 0 := ⟨_, fun _ => rfl⟩
        have hu : sm f 128 = unc (qP S) (qB S) j := sm_cong fun c _ => hf c
        have offM : ∀ {m1 m4 : Nat → Nat → Int32}, MB m1 0 (qB S) → m4 = a_up m1 78 (80 + j) 0 → MB m4 0 (offB (qB S) j) := fun b e => MB.on (b := j) (f := up1 (bon (qB S)) j false) b hn hj (by rw [show 0 + 80 + j = 80 + j by omega]; exact e) fun i hi => by
          show _ = bI (if i = j then false else bon (qB S) i)
          by_cases q : i = j
          · rw [if_pos q, if_pos q]; rfl
          · rw [if_neg q, if_neg q]
        have onM : ∀ {m1 m4 : Nat → Nat → Int32}, MB m1 0 (offB (qB S) j) → m4 = a_up m1 78 (80 + j) 1 → MB m4 0 (qB S) := fun b e => MB.on (B := offB (qB S) j) (b := j) (f := bon (qB S)) b hn hj (by rw [show 0 + 80 + j = 80 + j by omega]; exact e) fun i hi => by
          show (if i = j then 1 else bI (if i = j then false else bon (qB S) i)) = _
          by_cases q : i = j
          · rw [if_pos q, q, z]; rfl
          · rw [if_neg q, if_neg q]
        refine lpf (a := 0) (b := 128) (m := m) (by omega) (I := fun c m' => (Fr (fun c => c = 78) m m' ∧ ∀ i, 400 ≤ i → m' 78 i = m 78 i) ∧ MB m' 0 (qB S)) (W := fun c m' => Wp X mX9_peel 38 [some (.ref 77), some (.int (nI j)), some (.int (nI (sm f c))), some (.int (nI c))] [] m' (QI Q)) ?_ ?_ ⟨⟨Fr.rf, fun _ _ => rfl⟩, hB⟩
        · rintro c - hc m1 ⟨⟨f1, k1⟩, B1⟩ next
          have M1 : MP m1 (qP S) := hP.fs fun d hd => f1 d (by omega)
          rw [sm_s, ← nI_add, hf c] at next
          have hT := top_le vB c
          have hT2 := top_le (VB.off (t := j) vB) c
          refine eX9_peel_38 (pk_le 128 c (fun d => absurd d (by omega)) (fun _ => s_mtop (r := 0) M1 vP B1 vB (by omega) hc ?_))
          rw [nI_1, tI_t _ _ (by omega) (by omega)]
          refine ⟨fun q => ?_, fun q => ⟨o2, fun m4 e4 => ?_⟩⟩
          · rw [if_neg fun y => q y.1, show nI 0 = 0 from rfl, Int32.add_zero] at next
            exact next m1 ⟨⟨f1, k1⟩, B1⟩
          · have e4 : m4 = a_up m1 78 (80 + j) 0 := by
              rw [e4, show (80 : Int32) = nI 80 from rfl, nI_add, nI_clamp (n := 80 + j) (by omega)]
            have B4 := offM B1 e4
            have M4 : MP m4 (qP S) := M1.fs fun d hd => by rw [e4, a_up_c _ _ (by omega)]
            refine s_mtop (r := 0) M4 vP B4 vB.off (by omega) hc ?_
            have back : ∀ m9, m9 = a_up m4 78 (Int32.toNatClampNeg (80 + nI j)) 1 → (Fr (fun c => c = 78) m m9 ∧ ∀ i, 400 ≤ i → m9 78 i = m 78 i) ∧ MB m9 0 (qB S) := fun m9 e9 => by
              have e9 : m9 = a_up m4 78 (80 + j) 1 := by
                rw [e9, show (80 : Int32) = nI 80 from rfl, nI_add, nI_clamp (n := 80 + j) (by omega)]
              exact ⟨⟨by rw [e9, e4]; exact Fr.up (Fr.up f1 rfl) rfl, fun i hi => by rw [e9, a_up_n _ _ (Or.inr (by omega)), e4, a_up_n _ _ (Or.inr (by omega))]; exact k1 i hi⟩, onM B4 e9⟩
            rcases Nat.eq_zero_or_pos (top (qP S) (offB (qB S) j) c) with t0 | t0
            · rw [if_neg fun y => y.2 t0] at next
              rw [t0]
              exact ⟨fun _ => s_one (b := false) ⟨o2, fun m9 e9 => next m9 (back m9 e9)⟩, fun d => absurd (show (-1 : Int32) < 0 by decide) d⟩
            · rw [if_pos ⟨q, by omega⟩] at next
              rw [tI_s _ (by omega)]
              exact ⟨fun d => absurd d (nI_pos (by omega)), fun _ => s_one (b := true) ⟨o2, fun m9 e9 => next m9 (back m9 e9)⟩⟩
        · rintro m1 ⟨⟨f1, k1⟩, B1⟩
          rw [hu]
          refine eX9_peel_38 (pk_le 128 128 (fun _ => ⟨o2, fun m4 e4 => ?_⟩) (fun d => absurd d (by omega)))
          have e4 : m4 = a_up m1 78 (80 + j) 0 := by
            rw [e4, show (80 : Int32) = nI 80 from rfl, nI_add, nI_clamp (n := 80 + j) (by omega)]
          refine qI (h m4 ?_ (hC.bills hV (fun c hc => by rw [e4, a_up_c _ _ (by omega), f1 c (by omega)]) (fun i hi => by rw [e4, a_up_c _ _ (by omega), f1 77 (by omega)]) (fun i hi => by rw [e4, a_up_n _ _ (Or.inr (by omega))]; exact k1 i hi) (offM B1 e4)))
          rw [e4]; exact Fr.up (f1.mono fun c hc => by omega) (by omega)
      · rw [if_neg (fun q => y (iff.mpr q)), if_neg (fun q => y (iff.mpr q))] at h
        exact qI (h m Fr.rf hC)
end MPUB2
