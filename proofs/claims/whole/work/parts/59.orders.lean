/-! ===== ORDERS, the class's ===== -/
section ORD
variable {X : a_X} {m : Nat → Nat → Int32} {P : PT} {F : FT}
theorem s_countOrders {Q : Int32 → (Nat → Nat → Int32) → Prop} (hE : EF m P F) (hV : VF P F) (h : ∀ m', Fr (fun c => c = 74 ∨ c = 76) m m' → Q (nI (ordF P F)) m') : CallI X mX3_countOrders [.ref 71] m Q := by
  have hn := hV.1
  unfold ordF at h
  refine eX3_countOrders_0 (s_relate hE hV fun m1 f1 b1 => ⟨fun z => ⟨pk_in 0 1024 (by omega), fun m3 e3 => ?_⟩, fun z => ?_⟩)
  · rw [bI_n0] at z
    rw [if_pos z] at h
    have b1 := b1 z
    rw [show (0 : Int32).toNatClampNeg = 0 from rfl] at e3
    have F3 : Fr (fun c => c = 74 ∨ c = 76) m m3 := e3 ▸ Fr.up (f1.mono fun c hc => Or.inl hc) (Or.inr rfl)
    rw [f1 71 (by omega), hE.1, shl_1 _ (by omega)]
    have h2 : 2 ^ fn F ≤ 2 ^ 10 := Nat.pow_le_pow_right (by omega) hn
    have h3 : 1 ≤ 2 ^ fn F := Nat.two_pow_pos _
    generalize hN : 2 ^ fn F = N at *
    generalize hR : blw P F = R at *
    refine lpf (a := 1) (b := N) (by omega) (I := fun s m' => Fr (fun c => c = 74 ∨ c = 76) m m' ∧ (∀ a, a < fn F → isS (m' 74 a) (R a)) ∧ ∀ i, i < s → m' 76 i = nI (wy R (fn F) i)) (W := fun s m' => Wp X mX3_countOrders 25 [some (.ref 71), some (.int (nI N)), some (.int (nI s)), none, none] [] m' (QI Q)) ?_ ?_ ⟨F3, fun a ha => by rw [e3, a_up_c _ _ (by omega)]; exact b1 a ha, fun i hi => by
      rw [show i = 0 by omega, e3, a_up_s, wy_0]; rfl⟩
    · rintro s hs1 hs m4 ⟨F4, B4, W4⟩ next
      have S1024 : vp_in (nI s) 1024 := pk_in s 1024 (by omega)
      refine eX3_countOrders_25 (pk_le N s (fun c => absurd c (by omega)) (fun _ => ⟨S1024, fun m5 e5 => ?_⟩))
      rw [nI_clamp (n := s) (by omega)] at e5
      refine lpf (a := 0) (b := fn F) (by omega) (I := fun b m' => Fr (fun c => c = 74 ∨ c = 76) m m' ∧ (∀ a, a < fn F → isS (m' 74 a) (R a)) ∧ (∀ i, i < s → m' 76 i = nI (wy R (fn F) i)) ∧ m' 76 s = nI (sm (wyT R (fn F) s) b)) (W := fun b m' => Wp X mX3_countOrders 39 [some (.ref 71), some (.int (nI N)), some (.int (nI s)), some (.int (nI b)), none] [] m' (QI Q)) ?_ ?_ ⟨e5 ▸ Fr.up F4 (Or.inr rfl), fun a ha => by rw [e5, a_up_c _ _ (by omega)]; exact B4 a ha, fun i hi => by rw [e5, a_up_n _ _ (Or.inr (by omega))]; exact W4 i hi, by rw [e5, a_up_s]; rfl⟩
      · rintro b - hb m6 ⟨F6, B6, W6, T6⟩ next2
        have g6 : m6 71 1 = nI (fn F) := by rw [F6 71 (by omega)]; exact hE.1
        refine eX3_countOrders_39 ?_
        rw [g6, nI_rmv (by omega), nI_1, nI_1, nI_clamp (n := s) (by omega), nI_clamp (n := b) (by omega)]
        refine pk_le (fn F) b (fun c => absurd c (by omega)) (fun _ => ?_)
        have hs32 : s < 2 ^ 32 := by omega
        cases tb : s.testBit b with
        | false =>
          rw [rmv_eq hs32 tb]
          refine ⟨fun _ => next2 m6 ⟨F6, B6, W6, ?_⟩, fun c => absurd rfl c⟩
          rw [sm_s, T6]
          have : wyT R (fn F) s b = 0 := if_neg fun q => by rw [tb] at q; cases q.1
          rw [this]; rfl
        | true =>
          have l := rmv_lt hs32 tb
          refine ⟨fun c => absurd ((nI_eq (by omega) (by omega)).mp c) (by omega), fun _ => ⟨pk_in b 10 (by omega), fun q => next2 m6 ⟨F6, B6, W6, ?_⟩, fun q => ⟨S1024, pk_in (rmv s b) 1024 (by omega), S1024, fun m7 e7 => ?_⟩⟩⟩
          · rw [z_sbt (B6 b hb)] at q
            rw [sm_s, T6]
            have : wyT R (fn F) s b = 0 := if_neg fun r => q r.2
            rw [this]; rfl
          · rw [z_sbt (B6 b hb)] at q
            rw [nI_clamp (n := rmv s b) (by omega), T6, W6 _ l, nI_add] at e7
            refine next2 m7 ⟨e7 ▸ Fr.up F6 (Or.inr rfl), fun a ha => by rw [e7, a_up_c _ _ (by omega)]; exact B6 a ha, fun i hi => by rw [e7, a_up_n _ _ (Or.inr (by omega))]; exact W6 i hi, ?_⟩
            rw [e7, a_up_s, sm_s]
            have : wyT R (fn F) s b = wy R (fn F) (rmv s b) := if_pos ⟨tb, q⟩
            rw [this]
      · rintro m6 ⟨F6, B6, W6, T6⟩
        have g6 : m6 71 1 = nI (fn F) := by rw [F6 71 (by omega)]; exact hE.1
        refine eX3_countOrders_39 ?_
        rw [g6, nI_1]
        refine pk_le (fn F) (fn F) (fun _ => next m6 ⟨F6, B6, fun i hi => ?_⟩) (fun c => absurd c (by omega))
        by_cases e : i = s
        · rw [e, T6, wy_s (by omega) (by omega)]
        · exact W6 i (by omega)
    · rintro m4 ⟨F4, B4, W4⟩
      refine eX3_countOrders_25 (pk_le N N (fun _ => ?_) (fun c => absurd c (by omega)))
      rw [show nI N - 1 = nI (N - 1) by rw [show N = N - 1 + 1 by omega, nI_pred, Nat.add_sub_cancel]]
      refine ⟨pk_in (N - 1) 1024 (by omega), ?_⟩
      rw [nI_clamp (n := N - 1) (by omega), W4 _ (by omega)]
      exact qI (h m4 F4)
  · rw [bI_0] at z
    rw [if_neg (by rw [z]; decide)] at h
    exact qI (h m1 (f1.mono fun c hc => Or.inl hc))
theorem s_least {Q : Int32 → (Nat → Nat → Int32) → Prop} {R : Nat → Nat → Bool} {n s : Nat} (hn : n ≤ 10) (hE : m 71 1 = nI n) (hB : ∀ a, a < n → isS (m 74 a) (R a)) (h : Q (if gB R n s < n then nI (gB R n s) else -1) m) : CallI X mX3_leastThatCanStand [.ref 71, .int (nI s)] m Q := by
  refine eX3_leastThatCanStand_0 ?_
  refine lpf (a := 0) (b := n) (by omega) (I := fun i m' => m' = m ∧ ∀ c, c < i → (!s.testBit c && sbt (R c) s) = false) (W := fun i m' => Wp X mX3_leastThatCanStand 2 [some (.ref 71), some (.int (nI s)), some (.int (nI i))] [] m' (QI Q)) ?_ ?_ ⟨rfl, fun c hc => by omega⟩
  · rintro i - hi m' ⟨hm, hI⟩ next
    subst m'
    have go : (!s.testBit i && sbt (R i) s) = false → Wp X mX3_leastThatCanStand 2 [some (.ref 71), some (.int (nI s)), some (.int (nI (i + 1)))] [] m (QI Q) := fun z => next m ⟨rfl, fun c hc => by
      by_cases e : c = i
      · rw [e]; exact z
      · exact hI c (by omega)⟩
    refine eX3_leastThatCanStand_2 ?_
    rw [hE]
    refine pk_le n i (fun c => absurd c (by omega)) (fun _ => s_isIn (by omega) ?_)
    rw [b_nI (by omega), nI_1, nI_clamp (n := i) (by omega)]
    refine ⟨fun z => ?_, fun z => ⟨pk_in i 10 (by omega), fun q => ?_, fun q => ?_⟩⟩
    · rw [bI_n0] at z
      exact go (by rw [z]; rfl)
    · rw [z_sbt (hB i hi), Bool.not_eq_true] at q
      exact go (by rw [q, Bool.and_false])
    · rw [bI_0] at z
      rw [z_sbt (hB i hi)] at q
      have : gB R n s = i := fL_of hi (by rw [z, q]; rfl) hI
      rw [this, if_pos hi] at h
      exact qI h
  · rintro _ ⟨rfl, hI⟩
    refine eX3_leastThatCanStand_2 ?_
    rw [hE]
    refine pk_le n n (fun _ => qI ?_) (fun c => absurd c (by omega))
    have : gB R n s = n := fL_no hI
    rw [this, if_neg (by omega)] at h
    exact h
theorem s_hasOrder {Q : Int32 → (Nat → Nat → Int32) → Prop} (hE : EF m P F) (hV : VF P F) (h : ∀ m', Fr (fun c => c = 74 ∨ c = 75) m m' → (canF P F = true → (∀ a, a < fn F → isS (m' 74 a) (blw P F a)) ∧ ∀ i, i < fn F → fo (blw P F) (fn F) i < fn F ∧ m' 75 i = nI (fo (blw P F) (fn F) i)) → Q (bI (canF P F)) m') : CallI X mX3_hasOrder [.ref 71] m Q := by
  have hn := hV.1
  refine eX3_hasOrder_0 (s_relate hE hV fun m1 f1 b1 => ⟨fun z => ?_, fun z => ?_⟩)
  · rw [bI_n0] at z
    have b1 := b1 z
    have e : canF P F = hso (blw P F) (fn F) := by unfold canF; rw [z]; rfl
    rw [e] at h
    generalize blw P F = R at *
    refine lpf (a := 0) (b := fn F) (by omega) (I := fun i m' => Fr (fun c => c = 74 ∨ c = 75) m m' ∧ (∀ a, a < fn F → isS (m' 74 a) (R a)) ∧ ∀ j, j < i → fo R (fn F) j < fn F ∧ m' 75 j = nI (fo R (fn F) j)) (W := fun i m' => Wp X mX3_hasOrder 13 [some (.ref 71), some (.int (nI (gS R (fn F) i))), some (.int (nI i)), none] [] m' (QI Q)) ?_ ?_ ⟨f1.mono fun c hc => Or.inl hc, b1, fun j hj => by omega⟩
    · rintro i - hi m2 ⟨F2, B2, I2⟩ next
      have g2 : m2 71 1 = nI (fn F) := by rw [F2 71 (by omega)]; exact hE.1
      refine eX3_hasOrder_13 ?_
      rw [g2]
      refine pk_le (fn F) i (fun c => absurd c (by omega)) (fun _ => s_least hn g2 B2 ?_)
      rw [show gB R (fn F) (gS R (fn F) i) = fo R (fn F) i from rfl]
      by_cases hf : fo R (fn F) i < fn F
      · rw [if_pos hf]
        refine ⟨fun _ => ⟨pk_in i 10 (by omega), fun m3 e3 => ?_⟩, fun c => absurd c fun q => ?_⟩
        · rw [nI_clamp (n := i) (by omega)] at e3
          rw [nI_ins (by omega), nI_1]
          refine next m3 ⟨e3 ▸ Fr.up F2 (Or.inr rfl), fun a ha => by rw [e3, a_up_c _ _ (by omega)]; exact B2 a ha, fun j hj => ?_⟩
          rw [e3, a_up_i]
          by_cases ej : j = i
          · rw [if_pos ej, ej]; exact ⟨hf, rfl⟩
          · rw [if_neg ej]; exact I2 j (by omega)
        · have : ¬ nI (fo R (fn F) i) < 0 := nI_pos (by omega)
          rw [q] at this
          exact this (by decide)
      · rw [if_neg hf]
        refine ⟨fun c => absurd rfl c, fun _ => ?_⟩
        have : hso R (fn F) = false := by
          unfold hso
          rw [ex_t.mpr ⟨i, hi, decide_eq_true (by omega : fn F ≤ fo R (fn F) i)⟩]; rfl
        rw [this] at h
        exact qI (h m2 F2 fun q => by cases q)
    · rintro m2 ⟨F2, B2, I2⟩
      have g2 : m2 71 1 = nI (fn F) := by rw [F2 71 (by omega)]; exact hE.1
      refine eX3_hasOrder_13 ?_
      rw [g2]
      refine pk_le (fn F) (fn F) (fun _ => ?_) (fun c => absurd c (by omega))
      have : hso R (fn F) = true := by
        unfold hso
        rw [ex_f.mpr fun i hi => decide_eq_false (by have := (I2 i hi).1; omega : ¬ fn F ≤ fo R (fn F) i)]; rfl
      rw [this] at h
      exact qI (h m2 F2 fun _ => ⟨B2, I2⟩)
  · rw [bI_0] at z
    have e : canF P F = false := by unfold canF; rw [z]; rfl
    rw [e] at h
    exact qI (h m1 (f1.mono fun c hc => Or.inl hc) fun q => by cases q)
theorem s_firstOrderAt {Q : Int32 → (Nat → Nat → Int32) → Prop} (hE : EF m P F) (hV : VF P F) {i : Nat} (hi : i < 2 ^ 31) (h : ∀ m', Fr (fun c => c = 74 ∨ c = 75) m m' → Q (fstF P F i) m') : CallI X mX3_firstOrderAt [.ref 71, .int (nI i)] m Q := by
  have hn := hV.1
  unfold fstF at h
  refine eX3_firstOrderAt_0 ?_
  rw [hE.1]
  refine pk_le (fn F) i (fun c => ?_) (fun c => s_hasOrder hE hV fun m1 f1 q1 => ⟨fun z => ?_, fun z => ⟨pk_in i 10 (by omega), ?_⟩⟩)
  · rw [if_neg fun q => by omega] at h
    exact qI (h m Fr.rf)
  · rw [bI_0] at z
    rw [if_neg fun q => by rw [z] at q; cases q.2] at h
    exact qI (h m1 f1)
  · rw [bI_n0] at z
    rw [if_pos ⟨c, z⟩] at h
    rw [nI_clamp (n := i) (by omega), ((q1 z).2 i c).2]
    exact qI (h m1 f1)
theorem s_liesOver {Q : Int32 → (Nat → Nat → Int32) → Prop} (hE : EF m P F) (hV : VF P F) {a b : Nat} (ha : a < fn F) (hb : b < fn F) (h : ∀ m', Fr (fun c => c = 74 ∨ c = 75) m m' → Q (bI (surF P F a b)) m') : CallI X mX3_liesOver [.ref 71, .int (nI a), .int (nI b)] m Q := by
  have hn := hV.1
  unfold surF at h
  refine eX3_liesOver_0 (s_hasOrder hE hV fun m1 f1 q1 => ⟨fun z => ⟨pk_in a 10 (by omega), ?_⟩, fun z => ?_⟩)
  · rw [bI_n0] at z
    rw [z, Bool.true_and] at h
    obtain ⟨B1, I1⟩ := q1 z
    rw [nI_clamp (n := a) (by omega), f1 71 (by omega), hE.1]
    generalize blw P F = R at *
    refine lpf (a := 0) (b := fn F) (by omega) (I := fun d m' => m' = m1) (W := fun d m' => ∀ s, isS s (lvS R (fn F) a d) → Wp X mX3_liesOver 24 [some (.ref 71), none, some (.int (nI b)), some (.int s), some (.int (nI (fn F - d) - 1))] [] m' (QI Q)) ?_ ?_ rfl _ (B1 a ha)
    · rintro d - hd _ rfl next s hs
      obtain ⟨f2, e2⟩ := I1 (fn F - 1 - d) (by omega)
      rw [show nI (fn F - d) - 1 = nI (fn F - 1 - d) by rw [show fn F - d = fn F - 1 - d + 1 by omega, nI_pred]]
      have J10 : vp_in (nI (fn F - 1 - d)) 10 := pk_in (fn F - 1 - d) 10 (by omega)
      refine eX3_liesOver_24 ⟨fun c => absurd c (nI_pos (by omega)), fun _ => ⟨J10, ?_⟩⟩
      rw [nI_clamp (n := fn F - 1 - d) (by omega), e2]
      have en : nI (fn F - 1 - d) + (-1) = nI (fn F - (d + 1)) - 1 := by
        rw [show fn F - (d + 1) = fn F - 1 - d by omega]
        exact (Int32.sub_eq_add_neg ..).symm
      rw [en]
      refine s_isIn (by omega) ⟨fun y => ?_, fun y => ⟨J10, by rw [e2]; exact pk_in (fo R (fn F) (fn F - 1 - d)) 10 (by omega), ?_⟩⟩
      · rw [hs _ (by omega), bI_0] at y
        exact next _ rfl s (hs.cg fun j hj => by
          show _ = (lvS R (fn F) a d j || (lvS R (fn F) a d (fo R (fn F) (fn F - 1 - d)) && R (fo R (fn F) (fn F - 1 - d)) j))
          rw [y, Bool.false_and, Bool.or_false])
      · rw [hs _ (by omega), bI_n0] at y
        rw [e2, nI_clamp (n := fo R (fn F) (fn F - 1 - d)) (by omega)]
        exact next _ rfl _ ((hs.or (B1 _ f2)).cg fun j hj => by
          show _ = (lvS R (fn F) a d j || (lvS R (fn F) a d (fo R (fn F) (fn F - 1 - d)) && R (fo R (fn F) (fn F - 1 - d)) j))
          rw [y, Bool.true_and])
    · rintro _ rfl s hs
      refine eX3_liesOver_24 ⟨fun _ => s_isIn (by omega) ⟨?_, ?_⟩, fun c => absurd ?_ c⟩
      · cases bt s b <;> rfl
      · rw [hs b (by omega)]
        exact qI (h _ f1)
      · rw [Nat.sub_self]; decide
  · rw [bI_0] at z
    rw [z, Bool.false_and] at h
    exact qI (h m1 f1)
end ORD
