/-! ===== the model's wall ===== -/
section MWALL
variable {X : a_X} {m : Nat → Nat → Int32} {S : ST}
theorem s_untold {Q : Int32 → (Nat → Nat → Int32) → Prop} {k : Nat} (hk : k < 5) (h : Q (nI (unt k)) m) : CallI X mX9_untold [.int (nI k)] m Q := by
  have ne : ∀ j : Nat, j < 10 → (nI k = nI j ↔ k = j) := fun j hj => nI_eq (by omega) (by omega)
  refine eX9_untold_0 ⟨fun n0 => ⟨fun n1 => ⟨fun n2 => ⟨fun n3 => ?_, fun y => ?_⟩, fun y => ?_⟩, fun y => ?_⟩, fun y => ?_⟩
  · have a0 : k ≠ 0 := fun z => n0 ((ne 0 (by omega)).mpr z)
    have a1 : k ≠ 1 := fun z => n1 ((ne 1 (by omega)).mpr z)
    have a2 : k ≠ 2 := fun z => n2 ((ne 2 (by omega)).mpr z)
    have a3 : k ≠ 3 := fun z => n3 ((ne 3 (by omega)).mpr z)
    rw [show k = 4 by omega] at h
    exact qI h
  · rw [(ne 3 (by omega)).mp y] at h
    exact qI h
  · rw [(ne 2 (by omega)).mp y] at h
    exact qI h
  · rw [(ne 1 (by omega)).mp y] at h
    exact qI h
  · rw [(ne 0 (by omega)).mp y] at h
    exact qI h
theorem m_wall {Q : Int32 → (Nat → Nat → Int32) → Prop} (hC : MI m S) (hV : VS S) (h : ∀ m', Fr (fun c => 77 ≤ c) m m' → MI m' (nWall S) → Q (aWall S) m') : CallI X mX9_wall [.ref 77] m Q := by
  obtain ⟨a1, a2, a3, a4, a5, ⟨t1, t2, t3⟩⟩ := id hC
  have hL := hV.2.2.2.2.2.1
  have hT : TXn m (qT S) (qL S) := ⟨hL, fun i hi => ⟨t2 i hi, hV.2.2.2.2.2.2 i hi⟩⟩
  unfold aWall nWall at h
  refine eX9_wall_0 fun m1 e1 m2 e2 m3 e3 m4 e4 m5 e5 m6 e6 m7 e7 m8 e8 => ?_
  have g8 : GW m m8 := (((((((GW.rf.up e1 (by omega)).up e2 (by omega)).up e3 (by omega)).up e4 (by omega)).up e5 (by omega)).up e6 (by omega)).up e7 (by omega)).up e8 (by omega)
  have w8 : ∀ i, m8 77 i = if i = 11 then 0 else if i = 10 then 0 else if i = 21 then 0 else if i = 20 then 0 else if i = 19 then 0 else if i = 18 then -1 else if i = 17 then 0 else if i = 14 then 0 else m 77 i := fun i => by
    rw [e8, a_up_i, e7, a_up_i, e6, a_up_i, e5, a_up_i, e4, a_up_i, e3, a_up_i, e2, a_up_i, e1, a_up_i]
  clear e1 e2 e3 e4 e5 e6 e7 e8
  refine lpf (a := 0) (b := 5) (m := m8) (by omega) (I := fun i m' => GW m m' ∧ Fr (fun c => c = 80) m8 m' ∧ ∀ j, j < i → m' 80 (5 + j) = nI (unt j)) (W := fun i m' => Wp X mX9_wall 42 [some (.ref 77), some (.int (nI i)), none] [] m' (QI Q)) ?_ ?_ ⟨g8, Fr.rf, fun j hj => by omega⟩
  · rintro i - hi m9 ⟨g9, f9, I9⟩ next
    refine eX9_wall_42 (pk_le 5 i (fun c => absurd c (by omega)) (fun _ => s_untold hi ?_))
    rw [show (5 : Int32) = nI 5 from rfl, nI_add, nI_clamp (n := 5 + i) (by omega), nI_1]
    refine ⟨pk_in (5 + i) 10 (by omega), fun m10 e10 => next m10 ⟨g9.up e10 (by omega), e10 ▸ Fr.up f9 rfl, fun j hj => ?_⟩⟩
    rw [e10, a_up_i]
    by_cases z : j = i
    · rw [if_pos (by omega), z]
    · rw [if_neg (by omega)]; exact I9 j (by omega)
  rintro m9 ⟨g9, f9, I9⟩
  refine eX9_wall_42 (pk_le 5 5 (fun _ => ?_) (fun c => absurd c (by omega)))
  refine lpf (a := 0) (b := 16) (m := m9) (by omega) (I := fun i m' => GW m m' ∧ Fr (fun c => c = 81) m9 m' ∧ ∀ j, j < i → m' 81 (16 + j) = 1) (W := fun i m' => Wp X mX9_wall 67 [some (.ref 77), some (.int (nI i)), none] [] m' (QI Q)) ?_ ?_ ⟨g9, Fr.rf, fun j hj => by omega⟩
  · rintro i - hi m10 ⟨g10, f10, I10⟩ next
    refine eX9_wall_67 (pk_le 16 i (fun c => absurd c (by omega)) (fun _ => ?_))
    rw [show (16 : Int32) = nI 16 from rfl, nI_add, nI_clamp (n := 16 + i) (by omega), nI_1]
    refine ⟨pk_in (16 + i) 32 (by omega), fun m11 e11 => next m11 ⟨g10.up e11 (by omega), e11 ▸ Fr.up f10 rfl, fun j hj => ?_⟩⟩
    rw [e11, a_up_i]
    by_cases z : j = i
    · rw [if_pos (by omega)]
    · rw [if_neg (by omega)]; exact I10 j (by omega)
  rintro m10 ⟨g10, f10, I10⟩
  refine eX9_wall_67 (pk_le 16 16 (fun _ => ?_) (fun c => absurd c (by omega)))
  refine lpf (a := 0) (b := 128) (m := m10) (by omega) (I := fun i m' => GW m m' ∧ Fr (fun c => c = 82) m10 m' ∧ ∀ j, j < i → m' 82 (128 + j) = 0) (W := fun i m' => Wp X mX9_wall 91 [some (.ref 77), some (.int (nI i)), none] [] m' (QI Q)) ?_ ?_ ⟨g10, Fr.rf, fun j hj => by omega⟩
  · rintro i - hi m11 ⟨g11, f11, I11⟩ next
    refine eX9_wall_91 (pk_le 128 i (fun c => absurd c (by omega)) (fun _ => ?_))
    rw [show (128 : Int32) = nI 128 from rfl, nI_add, nI_clamp (n := 128 + i) (by omega), nI_1, show vp_nar .boolean 0 = 0 by decide]
    refine ⟨pk_in (128 + i) 256 (by omega), fun m12 e12 => next m12 ⟨g11.up e12 (by omega), e12 ▸ Fr.up f11 rfl, fun j hj => ?_⟩⟩
    rw [e12, a_up_i]
    by_cases z : j = i
    · rw [if_pos (by omega)]
    · rw [if_neg (by omega)]; exact I11 j (by omega)
  rintro m11 ⟨g11, f11, I11⟩
  refine eX9_wall_91 (pk_le 128 128 (fun _ => ?_) (fun c => absurd c (by omega)))
  have k77 : ∀ i, m11 77 i = m8 77 i := fun i => by rw [f11 77 (by omega), f10 77 (by omega), f9 77 (by omega)]
  have K11 : KM m11 (qL S) (.ok 0) := ⟨by rw [k77, w8, if_neg (by omega), if_neg (by omega), if_neg (by omega), if_neg (by omega), if_neg (by omega), if_neg (by omega), if_neg (by omega), if_neg (by omega)]; exact t1, by rw [k77, w8]; rfl, Nat.zero_le _, by rw [k77, w8]; rfl, by rw [k77, w8]; rfl⟩
  have TK11 : TK m11 0 := ⟨fun i hi => by rw [k77, w8, if_neg (by omega), if_neg (by omega), if_neg (by omega), if_neg (by omega), if_pos rfl, b_0, Nat.zero_testBit], by rw [k77, w8]; rfl⟩
  have E11 : EPn m11 untP := ⟨fun i hi => by rw [f11 80 (by omega), f10 80 (by omega)]; exact I9 i hi, by rw [k77, w8]; rfl, by rw [k77, w8]; rfl, fun x hx => by rw [f11 81 (by omega), I10 x hx]; rfl, fun c hc => I11 c hc, fun k hk => absurd hk (Nat.not_lt_zero k)⟩
  have V11 : VC (sk (qT S) (qL S) 0, 0, 0, untP) := ⟨vp_unt, fun _ => rfl, by show 0 < 2 ^ 32; decide, by show 0 < 2 ^ 32; decide⟩
  refine s_clauses 300 0 0 0 untP m11 (hT.w g11) K11 TK11 (by rw [k77, w8]; rfl) E11 V11 (by omega) fun m12 g12 R12 m13 e13 => ?_
  have g13 : GW m m13 := (g11.tr g12).up e13 (by omega)
  have z13 : m13 77 13 = 0 := by rw [e13, a_up_s]
  have o13 : ∀ i, i ≠ 13 → m13 77 i = m12 77 i := fun i hi => by rw [e13, a_up_n _ _ (Or.inr hi)]
  have keep : ∀ m', Fr (fun c => 77 ≤ c ∧ c ≤ 85 ∨ c = 94) m13 m' → Fr (fun c => 77 ≤ c) m m' := fun m' f => (g13.1.mono fun c hc => by omega : Fr (fun c => 77 ≤ c) m m13).tr (f.mono fun c hc => by omega)
  unfold prs at h
  cases ep : prsF (qT S) (qL S) 300 (sk (qT S) (qL S) 0, 0, 0, untP) with
  | error w =>
    rw [ep] at R12 h
    obtain ⟨k1, k2, k3, k4⟩ := R12
    rw [o13 17 (by omega), k3]
    refine ⟨fun d => ?_, fun _ => qI (h m13 (keep m13 Fr.rf) ⟨a1.gw hV.1 g13, a2.f78 (g13.1 78 (by omega)), a3.fr hV.2.2.1 (g13.1 79 (by omega)) (fun j _ => by rw [g13.1 78 (by omega)]), a4.fr hV.2.2.2.1 (g13.1 79 (by omega)) (fun j _ => by rw [g13.1 78 (by omega)]), a5.fr (g13.2.1 26 (by omega)) (fun c hc => g13.1 c (by omega)), z13, fun i hi => absurd hi (Nat.not_lt_zero i), ?_⟩)⟩
    · have := (nI_leI (b := 0) (by omega) (by omega)).mp d
      omega
    · rw [o13 18 (by omega)]; exact k4
  | ok P =>
    rw [ep] at R12 h
    obtain ⟨⟨p, K12⟩, E12, VP12⟩ := R12
    have h6 := VP12.2.2.2.2.2.2.1
    have E13 : EPn m13 P := E12.fr ⟨o13 10 (by omega), o13 11 (by omega)⟩ fun c c1 c2 => by rw [e13, a_up_c _ _ (by omega)]
    obtain ⟨d1, d2, d3, d4, d5, d6⟩ := E13
    have s17 : m13 77 17 = 0 := by rw [o13 17 (by omega)]; exact K12.2.2.2.1
    have s18 : m13 77 18 = -1 := by rw [o13 18 (by omega)]; exact K12.2.2.2.2
    rw [s17]
    refine ⟨fun _ => ?_, fun d => absurd (by decide) d⟩
    refine lpf (a := 0) (b := 5) (m := m13) (by omega) (I := fun i m' => Fr (fun c => c = 80) m13 m' ∧ (∀ j, 5 ≤ j → m' 80 j = m13 80 j) ∧ ∀ j, j < i → m' 80 j = nI (pn P j)) (W := fun i m' => Wp X mX9_wall 158 [some (.ref 77), some (.int (nI i)), none] [] m' (QI Q)) ?_ ?_ ⟨Fr.rf, fun _ _ => rfl, fun j hj => by omega⟩
    · rintro i - hi m14 ⟨f14, k14, I14⟩ next
      refine eX9_wall_158 (pk_le 5 i (fun c => absurd c (by omega)) (fun _ => ?_))
      rw [show (5 : Int32) = nI 5 from rfl, nI_add, nI_clamp (n := 5 + i) (by omega), nI_clamp (n := i) (by omega), nI_1, k14 (5 + i) (by omega), d1 i hi]
      refine ⟨pk_in (5 + i) 10 (by omega), pk_in i 10 (by omega), fun m15 e15 => next m15 ⟨e15 ▸ Fr.up f14 rfl, (fun j hj => by rw [e15, a_up_n _ _ (Or.inr (by omega))]; exact k14 j hj), fun j hj => ?_⟩⟩
      rw [e15, a_up_i]
      by_cases z : j = i
      · rw [if_pos z, z]
      · rw [if_neg z]; exact I14 j (by omega)
    rintro m14 ⟨f14, k14, I14⟩
    refine eX9_wall_158 (pk_le 5 5 (fun _ => ?_) (fun c => absurd c (by omega)))
    refine lpf (a := 0) (b := 16) (m := m14) (by omega) (I := fun i m' => Fr (fun c => c = 81) m14 m' ∧ (∀ j, 16 ≤ j → m' 81 j = m13 81 j) ∧ ∀ j, j < i → m' 81 j = nI (pps P j)) (W := fun i m' => Wp X mX9_wall 185 [some (.ref 77), some (.int (nI i)), none] [] m' (QI Q)) ?_ ?_ ⟨Fr.rf, fun j _ => by rw [f14 81 (by omega)], fun j hj => by omega⟩
    · rintro i - hi m15 ⟨f15, k15, I15⟩ next
      refine eX9_wall_185 (pk_le 16 i (fun c => absurd c (by omega)) (fun _ => ?_))
      rw [show (16 : Int32) = nI 16 from rfl, nI_add, nI_clamp (n := 16 + i) (by omega), nI_clamp (n := i) (by omega), nI_1, k15 (16 + i) (by omega), d4 i hi]
      refine ⟨pk_in (16 + i) 32 (by omega), pk_in i 32 (by omega), fun m16 e16 => next m16 ⟨e16 ▸ Fr.up f15 rfl, (fun j hj => by rw [e16, a_up_n _ _ (Or.inr (by omega))]; exact k15 j hj), fun j hj => ?_⟩⟩
      rw [e16, a_up_i]
      by_cases z : j = i
      · rw [if_pos z, z]
      · rw [if_neg z]; exact I15 j (by omega)
    rintro m15 ⟨f15, k15, I15⟩
    refine eX9_wall_185 (pk_le 16 16 (fun _ => ?_) (fun c => absurd c (by omega)))
    refine lpf (a := 0) (b := 128) (m := m15) (by omega) (I := fun i m' => Fr (fun c => c = 82) m15 m' ∧ (∀ j, 128 ≤ j → m' 82 j = m13 82 j) ∧ ∀ j, j < i → m' 82 j = bI (pbr P j)) (W := fun i m' => Wp X mX9_wall 214 [some (.ref 77), some (.int (nI i)), none] [] m' (QI Q)) ?_ ?_ ⟨Fr.rf, fun j _ => by rw [f15 82 (by omega), f14 82 (by omega)], fun j hj => by omega⟩
    · rintro i - hi m16 ⟨f16, k16, I16⟩ next
      refine eX9_wall_214 (pk_le 128 i (fun c => absurd c (by omega)) (fun _ => ?_))
      rw [show (128 : Int32) = nI 128 from rfl, nI_add, nI_clamp (n := 128 + i) (by omega), nI_clamp (n := i) (by omega), nI_1, k16 (128 + i) (by omega), d5 i hi, show vp_nar .boolean (bI (pbr P i)) = bI (pbr P i) by cases pbr P i <;> decide]
      refine ⟨pk_in (128 + i) 256 (by omega), pk_in i 256 (by omega), fun m17 e17 => next m17 ⟨e17 ▸ Fr.up f16 rfl, (fun j hj => by rw [e17, a_up_n _ _ (Or.inr (by omega))]; exact k16 j hj), fun j hj => ?_⟩⟩
      rw [e17, a_up_i]
      by_cases z : j = i
      · rw [if_pos z, z]
      · rw [if_neg z]; exact I16 j (by omega)
    rintro m16 ⟨f16, k16, I16⟩
    refine eX9_wall_214 (pk_le 128 128 (fun _ => ?_) (fun c => absurd c (by omega)))
    have e83 : ∀ c, 83 ≤ c → m16 c = m13 c := fun c hc => by rw [f16 c (by omega), f15 c (by omega), f14 c (by omega)]
    refine lpf (a := 0) (b := 12) (m := m16) (by omega) (I := fun i m' => Fr (fun c => c = 83 ∨ c = 84 ∨ c = 85) m16 m' ∧ (∀ j, 12 ≤ j → m' 83 j = m13 83 j ∧ m' 84 j = m13 84 j ∧ m' 85 j = m13 85 j) ∧ ∀ j, j < i → m' 83 j = m13 83 (12 + j) ∧ m' 84 j = m13 84 (12 + j) ∧ m' 85 j = m13 85 (12 + j)) (W := fun i m' => Wp X mX9_wall 245 [some (.ref 77), some (.int (nI i)), none] [] m' (QI Q)) ?_ ?_ ⟨Fr.rf, fun j _ => by rw [e83 83 (by omega), e83 84 (by omega), e83 85 (by omega)]; exact ⟨rfl, rfl, rfl⟩, fun j hj => by omega⟩
    · rintro i - hi m17 ⟨f17, k17, I17⟩ next
      have V1 : vp_in (nI (12 + i)) 24 := pk_in (12 + i) 24 (by omega)
      have V2 : vp_in (nI i) 24 := pk_in i 24 (by omega)
      refine eX9_wall_245 (pk_le 12 i (fun c => absurd c (by omega)) (fun _ => ?_))
      rw [show (12 : Int32) = nI 12 from rfl, nI_add, nI_clamp (n := 12 + i) (by omega), nI_clamp (n := i) (by omega), nI_1]
      refine ⟨V1, V2, fun m18 e18 => ⟨V1, V2, fun m19 e19 => ⟨V1, V2, fun m20 e20 => next m20 ⟨?_, fun j hj => ?_, fun j hj => ?_⟩⟩⟩⟩
      · rw [e20, e19, e18]; exact Fr.up (Fr.up (Fr.up f17 (Or.inl rfl)) (Or.inr (Or.inl rfl))) (Or.inr (Or.inr rfl))
      · obtain ⟨x1, x2, x3⟩ := k17 j hj
        refine ⟨?_, ?_, ?_⟩
        · rw [e20, a_up_c _ _ (by omega), e19, a_up_c _ _ (by omega), e18, a_up_n _ _ (Or.inr (by omega))]; exact x1
        · rw [e20, a_up_c _ _ (by omega), e19, a_up_n _ _ (Or.inr (by omega)), e18, a_up_c _ _ (by omega)]; exact x2
        · rw [e20, a_up_n _ _ (Or.inr (by omega)), e19, a_up_c _ _ (by omega), e18, a_up_c _ _ (by omega)]; exact x3
      · obtain ⟨x1, x2, x3⟩ := k17 (12 + i) (by omega)
        have q1 : m20 83 j = if j = i then m13 83 (12 + i) else m17 83 j := by rw [e20, a_up_c _ _ (by omega), e19, a_up_c _ _ (by omega), e18, a_up_i, x1]
        have q2 : m20 84 j = if j = i then m13 84 (12 + i) else m17 84 j := by rw [e20, a_up_c _ _ (by omega), e19, a_up_i, e18, a_up_c _ _ (by omega), x2]
        have q3 : m20 85 j = if j = i then m13 85 (12 + i) else m17 85 j := by rw [e20, a_up_i, e19, a_up_c _ _ (by omega), e18, a_up_c _ _ (by omega), x3]
        rw [q1, q2, q3]
        by_cases z : j = i
        · rw [if_pos z, if_pos z, if_pos z, z]; exact ⟨rfl, rfl, rfl⟩
        · rw [if_neg z, if_neg z, if_neg z]; exact I17 j (by omega)
    rintro m17 ⟨f17, k17, I17⟩
    have r77 : ∀ i, m17 77 i = m13 77 i := fun i => by rw [f17 77 (by omega), f16 77 (by omega), f15 77 (by omega), f14 77 (by omega)]
    have r78 : ∀ i, m17 78 i = m 78 i := fun i => by rw [f17 78 (by omega), f16 78 (by omega), f15 78 (by omega), f14 78 (by omega), g13.1 78 (by omega)]
    refine eX9_wall_245 (pk_le 12 12 (fun _ m18 e18 m19 e19 => ⟨pk_in 190 800 (by omega), ?_⟩) (fun c => absurd c (by omega)))
    have q19 : ∀ c, c ≠ 77 → m19 c = m17 c := fun c hc => by rw [e19, a_up_c _ _ hc, e18, a_up_c _ _ hc]
    have w19 : ∀ i, m19 77 i = if i = 9 then nI (pn P 6) else if i = 5 then nI (pn P 5) else m13 77 i := fun i => by
      rw [e19, a_up_i, e18, a_up_n (k' := 11) _ _ (Or.inr (by omega)), a_up_i, r77 11, r77 10, r77 i, d3, d2]
    rw [show Int32.toNatClampNeg 190 = 190 from rfl, q19 78 (by omega), r78, show m 78 190 = bsd (qB S) from a2.2.2.1]
    refine lpf (a := 0) (b := 200) (m := m19) (by omega) (I := fun i m' => Fr (fun c => c = 78) m19 m' ∧ ∀ j, j < i → m' 78 j = 0) (W := fun i m' => Wp X mX9_wall 329 [some (.ref 77), some (.int (bsd (qB S))), some (.int (nI i))] [] m' (QI Q)) ?_ ?_ ⟨Fr.rf, fun j hj => by omega⟩
    · rintro i - hi m20 ⟨f20, I20⟩ next
      refine eX9_wall_329 (pk_le 200 i (fun c => absurd c (by omega)) (fun _ => ⟨pk_in i 800 (by omega), fun m21 e21 => ?_⟩))
      rw [nI_clamp (n := i) (by omega)] at e21
      rw [nI_1]
      refine next m21 ⟨e21 ▸ Fr.up f20 rfl, fun j hj => ?_⟩
      rw [e21, a_up_i]
      by_cases z : j = i
      · rw [if_pos z]
      · rw [if_neg z]; exact I20 j (by omega)
    rintro m20 ⟨f20, I20⟩
    refine eX9_wall_329 (pk_le 200 200 (fun _ => ⟨pk_in 190 800 (by omega), fun m21 e21 => ⟨pk_in 0 2 (by omega), fun m22 e22 => ⟨pk_in 1 2 (by omega), fun m23 e23 => ?_⟩⟩⟩) (fun c => absurd c (by omega)))
    rw [show vp_nar .boolean 0 = 0 by decide] at e22 e23
    rw [show Int32.toNatClampNeg 0 = 0 from rfl] at e22
    rw [show Int32.toNatClampNeg 1 = 1 from rfl] at e23
    rw [show Int32.toNatClampNeg 190 = 190 from rfl] at e21
    have q23 : ∀ c, c ≠ 77 → c ≠ 78 → c ≠ 79 → m23 c = m17 c := fun c h1 h2 h3 => by rw [e23, a_up_c _ _ h3, e22, a_up_c _ _ h3, e21, a_up_c _ _ h2, f20 c h2, q19 c h1]
    have w23 : ∀ i, m23 77 i = m19 77 i := fun i => by rw [e23, a_up_c _ _ (by omega), e22, a_up_c _ _ (by omega), e21, a_up_c _ _ (by omega), f20 77 (by omega)]
    have b23 : ∀ i, i < 200 → m23 78 i = if i = 190 then bsd (qB S) else 0 := fun i hi => by
      rw [e23, a_up_c _ _ (by omega), e22, a_up_c _ _ (by omega), e21, a_up_i]
      by_cases z : i = 190
      · rw [if_pos z, if_pos z]
      · rw [if_neg z, if_neg z]; exact I20 i hi
    have n26 : m23 77 26 = nI (fn (qF S)) := by
      rw [w23, w19, if_neg (by omega), if_neg (by omega), g13.2.1 26 (by omega)]; exact a5.1
    refine s_mburn (F := qF S) hV.2.2.2.2.1.1 n26 fun m24 f24 k24 z1 z2 => ?_
    have q24 : ∀ i, i ≠ 26 → m24 77 i = if i = 9 then nI (pn P 6) else if i = 5 then nI (pn P 5) else m13 77 i := fun i hi => by rw [k24 i hi, w23, w19]
    rw [q24 9 (by omega), if_pos rfl]
    have p24 : ∀ c, c ≠ 77 → c ≠ 78 → c ≠ 79 → c ≠ 94 → m24 c = m17 c := fun c h1 h2 h3 h4 => by rw [f24 c (by omega), q23 c h1 h2 h3]
    have b24 : ∀ i, i < 200 → m24 78 i = if i = 190 then bsd (qB S) else 0 := fun i hi => by rw [f24 78 (by omega)]; exact b23 i hi
    refine qI (h m24 ?_ ⟨⟨fun i hi => ?_, ?_, ?_, fun x hx => ?_, fun c hc => ?_, fun k hk => ?_⟩, ⟨?_, ?_, ?_, fun i hi => absurd hi (Nat.not_lt_zero i), fun o ho => ?_⟩, ⟨?_, fun q => by cases q⟩, ⟨?_, fun q => by cases q⟩, ⟨z1, fun i hi => absurd hi (Nat.not_lt_zero i), fun c hc => z2 c hc⟩, ?_, fun i hi => absurd hi (Nat.not_lt_zero i), ?_⟩)
    · refine keep m24 fun c hc => ?_
      rw [p24 c (by omega) (by omega) (by omega) (by omega), f17 c (by omega), f16 c (by omega), f15 c (by omega), f14 c (by omega)]
    · rw [p24 80 (by omega) (by omega) (by omega) (by omega), f17 80 (by omega), f16 80 (by omega), f15 80 (by omega)]; exact I14 i hi
    · rw [q24 5 (by omega), if_neg (by omega), if_pos rfl]
    · rw [q24 9 (by omega), if_pos rfl]
    · rw [p24 81 (by omega) (by omega) (by omega) (by omega), f17 81 (by omega), f16 81 (by omega)]; exact I15 x hx
    · rw [p24 82 (by omega) (by omega) (by omega) (by omega), f17 82 (by omega)]; exact I16 c hc
    · have hk : k < pn P 6 := hk
      rw [p24 83 (by omega) (by omega) (by omega) (by omega), p24 84 (by omega) (by omega) (by omega) (by omega), p24 85 (by omega) (by omega) (by omega) (by omega)]
      obtain ⟨x1, x2, x3⟩ := I17 k (by omega)
      rw [x1, x2, x3]
      exact d6 k hk
    · rw [b24 _ (by omega), if_neg (by omega)]; rfl
    · rw [b24 _ (by omega), if_neg (by omega)]; rfl
    · rw [b24 _ (by omega), if_pos (by omega)]; rfl
    · rw [b24 _ (by omega), if_neg (by omega)]; rfl
    · rw [f24 79 (by omega), e23, a_up_n _ _ (Or.inr (by omega)), e22, a_up_s]; rfl
    · rw [f24 79 (by omega), e23, a_up_s]; rfl
    · rw [q24 13 (by omega), if_neg (by omega), if_neg (by omega)]; exact z13
    · rw [q24 18 (by omega), if_neg (by omega), if_neg (by omega)]; exact s18
end MWALL
