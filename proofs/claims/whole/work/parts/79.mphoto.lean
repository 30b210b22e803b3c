/-! ===== the model's photograph ===== -/
section MPHOTO
variable {X : a_X} {m : Nat → Nat → Int32} {S : ST} {P : PT} {F : FT} {Q : Int32 → (Nat → Nat → Int32) → Prop}
theorem MI.foto {m' : Nat → Nat → Int32} {F' : FT} (h : MI m S) (hV : VS S) (e : ∀ c, 78 ≤ c ∧ c ≤ 90 → m' c = m c) (e7 : ∀ i, i ≠ 26 → m' 77 i = m 77 i) (hF : MF m' F') : MI m' (wF S F') := by
  obtain ⟨a1, a2, a3, a4, a5, a6⟩ := h
  refine ⟨a1.fr ⟨e7 5 (by omega), e7 9 (by omega)⟩ fun c h1 h2 => e c (by omega), a2.f78 (e 78 (by omega)), a3.fr hV.2.2.1 (e 79 (by omega)) (fun j hj => by rw [e 78 (by omega)]), a4.fr hV.2.2.2.1 (e 79 (by omega)) (fun j hj => by rw [e 78 (by omega)]), hF, ?_⟩
  show m' 77 13 = nI (qL S) ∧ (∀ i, i < qL S → m' 86 i = nI (qT S i)) ∧ m' 77 18 = qW S
  rw [e7 13 (by omega), e7 18 (by omega), e 86 (by omega)]; exact a6
theorem m_show (hC : MI m S) (hV : VS S) {k x y : Int32} (h : ∀ m', Fr (fun c => 77 ≤ c) m m' → MI m' (nShow S k x y) → Q (aShow S k x y) m') : CallI X mX9_show [.ref 77, .int k, .int x, .int y] m Q := by
  obtain ⟨hP, -, -, -, ⟨f1, f2, f3⟩, -⟩ := id hC
  have vP := hV.1
  have vF := hV.2.2.2.2.1
  have hn := vF.1
  unfold aShow nShow at h
  refine eX9_show_0 (s_isKind hP vP (k_cases vP (fun e => ?_) fun j hj hj2 hx e => ?_).symm)
  · rw [e, if_neg (by decide), if_neg (by decide)] at h
    exact qI (h m Fr.rf hC)
  · subst hx
    rw [e, if_pos rfl, if_pos rfl, cl_nI (by omega)] at h
    refine s_isWithin hP vP hj ?_
    cases ef : fit (qP S) j x y with
    | false =>
      rw [ef, if_neg (by decide), if_neg (by decide)] at h
      exact ⟨fun c => absurd rfl c, fun _ => qI (h m Fr.rf hC)⟩
    | true =>
      rw [ef, if_pos rfl, if_pos rfl] at h
      obtain ⟨a, b, rfl, rfl, ha, hb, ha2, hb2⟩ := fit_t vP hj ef
      rw [cl_nI (by omega), cl_nI (by omega)] at h
      rw [f1]
      refine ⟨fun _ => (pk_eq (fn (qF S)) 10 (fun c => ?_) (fun c => ⟨pk_in (fn (qF S)) 10 (by omega), fun m5 e5 => ?_⟩)).symm, fun c => absurd c (by decide)⟩
      · rw [if_neg (by omega), if_neg (by omega)] at h
        exact qI (h m Fr.rf hC)
      · rw [nI_clamp (n := fn (qF S)) (by omega)] at e5
        have n5 : m5 77 26 = nI (fn (qF S)) := by rw [e5, a_up_c _ _ (by omega)]; exact f1
        rw [n5]
        refine ⟨pk_in (fn (qF S)) 10 (by omega), fun m6 e6 => ?_⟩
        rw [nI_clamp (n := fn (qF S)) (by omega)] at e6
        have n6 : m6 77 26 = nI (fn (qF S)) := by rw [e6, a_up_c _ _ (by omega)]; exact n5
        rw [n6]
        refine ⟨pk_in (fn (qF S)) 10 (by omega), fun m7 e7 m8 e8 => ?_⟩
        rw [nI_clamp (n := fn (qF S)) (by omega)] at e7
        have n7 : m7 77 26 = nI (fn (qF S)) := by rw [e7, a_up_c _ _ (by omega)]; exact n6
        rw [n7, nI_1] at e8
        rw [if_pos (by omega), if_pos (by omega)] at h
        have n8 : m8 77 26 = nI (fn (qF S) + 1) := by rw [e8, a_up_s]
        rw [n8, nI_pred]
        refine qI (h m8 ?_ (hC.foto hV (fun c hc => by rw [e8, a_up_c _ _ (by omega), e7, a_up_c _ _ (by omega), e6, a_up_c _ _ (by omega), e5, a_up_c _ _ (by omega)]) (fun i hi => by rw [e8, a_up_n _ _ (Or.inr hi), e7, a_up_c _ _ (by omega), e6, a_up_c _ _ (by omega), e5, a_up_c _ _ (by omega)]) ⟨n8, fun i hi => ?_, fun c hc => ?_⟩))
        · rw [e8, e7, e6, e5]
          exact Fr.up (Fr.up (Fr.up (Fr.up Fr.rf (by omega)) (by omega)) (by omega)) (by omega)
        · have hi : i < fn (qF S) + 1 := hi
          have q1 : m8 91 i = if i = fn (qF S) then nI j else m 91 i := by rw [e8, a_up_c _ _ (by omega), e7, a_up_c _ _ (by omega), e6, a_up_c _ _ (by omega), e5, a_up_i]
          have q2 : m8 92 i = if i = fn (qF S) then nI a else m 92 i := by rw [e8, a_up_c _ _ (by omega), e7, a_up_c _ _ (by omega), e6, a_up_i, e5, a_up_c _ _ (by omega)]
          have q3 : m8 93 i = if i = fn (qF S) then nI b else m 93 i := by rw [e8, a_up_c _ _ (by omega), e7, a_up_i, e6, a_up_c _ _ (by omega), e5, a_up_c _ _ (by omega)]
          rw [q1, q2, q3]
          show _ = nI (up1 (fkd (qF S)) (fn (qF S)) j i) ∧ _ = nI (up1 (fco (qF S)) (fn (qF S)) a i) ∧ _ = nI (up1 (fro (qF S)) (fn (qF S)) b i)
          by_cases z : i = fn (qF S)
          · rw [if_pos z, if_pos z, if_pos z, z, up1_s, up1_s, up1_s]; exact ⟨rfl, rfl, rfl⟩
          · rw [if_neg z, if_neg z, if_neg z, up1_n _ _ z, up1_n _ _ z, up1_n _ _ z]; exact f2 i (by omega)
        · rw [e8, a_up_c _ _ (by omega), e7, a_up_c _ _ (by omega), e6, a_up_c _ _ (by omega), e5, a_up_c _ _ (by omega)]; exact f3 c hc
theorem m_look (hC : MI m S) (hV : VS S) {x y b : Int32} (h : ∀ m', Fr (fun c => 77 ≤ c) m m' → MI m' (nLook S x y b) → Q (aLook S x y b) m') : CallI X mX9_look [.ref 77, .int x, .int y, .int b] m Q := by
  obtain ⟨hP, -, -, -, ⟨f1, f2, f3⟩, -⟩ := id hC
  have vF := hV.2.2.2.2.1
  have hn := vF.1
  unfold aLook nLook at h
  have cell : (b = -1 ∨ ink b (fn (qF S)) = true) → 2 + b = nI (lkI b) → CallI X mX9_isCell [.ref 77, .int x, .int y] m (fun v2 m1 => (¬ v2 = 0 → vp_in ((16 * y) + x) 128 ∧ ∀ m3, m3 = a_up m1 94 (Int32.toNatClampNeg ((16 * y) + x)) (2 + b) → (QI Q) (some (.int 1)) m3) ∧ (v2 = 0 → (QI Q) (some (.int (-100000002))) m1)) := by
    intro hb eb
    rw [if_pos hb, if_pos hb] at h
    refine s_isCell hP hV.1 ?_
    rcases isC_cases hV.1 x y with e | ⟨i, j, hi, hj, hi2, hj2, rfl, rfl, e, ec, hc⟩
    · rw [e, if_neg (by decide), if_neg (by decide)] at h
      rw [e]
      exact ⟨fun c => absurd rfl c, fun _ => qI (h m Fr.rf hC)⟩
    · rw [e, if_pos rfl, if_pos rfl, ec] at h
      rw [e, show (16 : Int32) = nI 16 from rfl, pk_mul, nI_add, nI_clamp (n := 16 * j + i) (by omega), eb]
      refine ⟨fun _ => ⟨pk_in (16 * j + i) 128 hc, fun m3 e3 => ?_⟩, fun c => absurd c (by decide)⟩
      refine qI (h m3 (e3 ▸ Fr.up Fr.rf (by omega)) (hC.foto hV (fun c hc => by rw [e3, a_up_c _ _ (by omega)]) (fun i hi => by rw [e3, a_up_c _ _ (by omega)]) ⟨by rw [e3, a_up_c _ _ (by omega)]; exact f1, fun i hi => by rw [e3, a_up_c _ _ (by omega), a_up_c _ _ (by omega), a_up_c _ _ (by omega)]; exact f2 i hi, fun c hc2 => ?_⟩))
      rw [e3, a_up_i]
      show _ = nI (if c = 16 * j + i then lkI b else flk (qF S) c)
      by_cases z : c = 16 * j + i
      · rw [if_pos z, if_pos z]
      · rw [if_neg z, if_neg z]; exact f3 c hc2
  refine eX9_look_0 ⟨fun c => ?_, fun c => ?_⟩
  · refine cell (Or.inl c) ?_
    rw [c]
    decide
  · rw [f1]
    refine s_in (lo := 0) rfl rfl ?_
    rw [in_ink (by omega)]
    rcases ink_cases b (show fn (qF S) < 2 ^ 31 by omega) with e | ⟨j, hj, hx, e⟩
    · rw [if_neg (fun q => q.elim c (fun q => by rw [e] at q; cases q)), if_neg (fun q => q.elim c (fun q => by rw [e] at q; cases q))] at h
      rw [e]
      exact ⟨fun c => absurd rfl c, fun _ => qI (h m Fr.rf hC)⟩
    · have cc := cell (Or.inr e) (by
        rw [hx] at c ⊢
        unfold lkI
        rw [if_neg c, cl_nI (by omega), show (2 : Int32) = nI 2 from rfl, nI_add, Nat.add_comm])
      rw [e]
      exact ⟨fun _ => cc, fun c => absurd c (by decide)⟩
theorem s_mburn (hn : fn F ≤ 10) (h1 : m 77 26 = nI (fn F)) (h : ∀ m', Fr (fun c => c = 77 ∨ c = 94) m m' → (∀ i, i ≠ 26 → m' 77 i = m 77 i) → m' 77 26 = 0 → (∀ c, c < 128 → m' 94 c = 0) → Q (nI (fn F)) m') : CallI X mX9_burn [.ref 77] m Q := by
  refine eX9_burn_0 fun m1 e1 => ?_
  rw [h1]
  refine lpf (a := 0) (b := 128) (m := m1) (by omega) (I := fun c m' => (Fr (fun c => c = 77 ∨ c = 94) m m' ∧ m' 77 = m1 77) ∧ ∀ d, d < c → m' 94 d = 0) (W := fun c m' => Wp X mX9_burn 12 [some (.ref 77), some (.int (nI (fn F))), some (.int (nI c))] [] m' (QI Q)) ?_ ?_ ⟨⟨e1 ▸ Fr.up Fr.rf (Or.inl rfl), rfl⟩, fun d hd => by omega⟩
  · rintro c - hc m2 ⟨⟨f2, k2⟩, I2⟩ next
    refine eX9_burn_12 (pk_le 128 c (fun d => absurd d (by omega)) (fun _ => ⟨pk_in c 128 hc, fun m3 e3 => ?_⟩))
    rw [nI_clamp (n := c) (by omega)] at e3
    rw [nI_1]
    refine next m3 ⟨⟨by rw [e3]; exact Fr.up f2 (Or.inr rfl), by rw [e3, a_up_c _ _ (by omega)]; exact k2⟩, fun d hd => ?_⟩
    rw [e3, a_up_i]
    by_cases e : d = c
    · rw [if_pos e]
    · rw [if_neg e]; exact I2 d (by omega)
  · rintro m2 ⟨⟨f2, k2⟩, I2⟩
    refine eX9_burn_12 (pk_le 128 128 (fun _ => qI (h m2 f2 (fun i hi => ?_) ?_ I2)) (fun d => absurd d (by omega)))
    · rw [k2, e1, a_up_n _ _ (Or.inr hi)]
    · rw [k2, e1, a_up_s]
theorem m_burn (hC : MI m S) (hV : VS S) (h : ∀ m', Fr (fun c => 77 ≤ c) m m' → MI m' (wF S eF) → Q (nI (fn (qF S))) m') : CallI X mX9_burn [.ref 77] m Q := by
  obtain ⟨f1, f2, f3⟩ := hC.2.2.2.2.1
  refine s_mburn hV.2.2.2.2.1.1 f1 fun m' f k z1 z2 => h m' (f.mono fun c hc => by omega) (hC.foto hV (fun c hc => f c (by omega)) k ⟨z1, fun i hi => absurd hi (Nat.not_lt_zero i), fun c hc => z2 c hc⟩)
theorem s_mhasCell {b c : Nat} (hM : MP m P) (hVP : VP P) (hF : MF m F) (hVF : VF P F) (hb : b < fn F) (hc : c < 128) (h : Q (bI (fha P F b c)) m) : CallI X mX9_hasCell [.ref 77, .int (nI b), .int (nI c)] m Q := by
  have h0 := hVP.1
  have h1 := hVP.2.1
  have hn := hVF.1
  obtain ⟨hk, hx, hy⟩ := hVF.2.1 b hb
  obtain ⟨e1, e2, e3⟩ := hF.2.1 b hb
  have B10 : vp_in (nI b) 10 := pk_in b 10 (by omega)
  refine eX9_hasCell_0 ⟨B10, B10, B10, ?_⟩
  rw [nI_clamp (n := b) (by omega), e1, e2, e3]
  refine s_reaches hM hVP hk (by omega) (by omega) hc ⟨?_, qI h⟩
  cases rch P (fkd F b) (fco F b) (fro F b) c <;> rfl
theorem s_findBelow (hM : MP m P) (hVP : VP P) (hF : MF m F) (hVF : VF P F) (h : ∀ m', Fr (fun c => c = 95) m m' → (∀ a, a < fn F → isS (m' 95 a) (blw P F a)) → Q (bI (psb P F)) m') : CallI X mX9_findBelow [.ref 77] m Q := by
  have hn := hVF.1
  have f1 := hF.1
  refine eX9_findBelow_0 ?_
  refine lpf (a := 0) (b := fn F) (m := m) (by omega) (I := fun b m' => Fr (fun c => c = 95) m m' ∧ ∀ a, a < b → m' 95 a = 0) (W := fun b m' => Wp X mX9_findBelow 4 [some (.ref 77), some (.int 1), some (.int (nI b)), none, none, none] [] m' (QI Q)) ?_ ?_ ⟨Fr.rf, fun a ha => by omega⟩
  · rintro b - hb m1 ⟨g1, I1⟩ next
    refine eX9_findBelow_4 ?_
    rw [g1 77 (by omega), f1, nI_1]
    refine pk_le (fn F) b (fun c => absurd c (by omega)) (fun _ => ⟨pk_in b 10 (by omega), fun m2 e2 => ?_⟩)
    rw [nI_clamp (n := b) (by omega)] at e2
    refine next m2 ⟨e2 ▸ Fr.up g1 rfl, fun a ha => ?_⟩
    rw [e2, a_up_i]
    by_cases e : a = b
    · rw [if_pos e]
    · rw [if_neg e]; exact I1 a (by omega)
  · rintro m1 ⟨g1, I1⟩
    refine eX9_findBelow_4 ?_
    rw [g1 77 (by omega), f1]
    refine pk_le (fn F) (fn F) (fun _ => ?_) (fun c => absurd c (by omega))
    refine lpf (a := 0) (b := 128) (m := m1) (by omega) (I := fun c m' => Fr (fun c => c = 95) m m' ∧ ∀ a, a < fn F → isS (m' 95 a) (fun j => ex (bwc P F a j) c)) (W := fun c m' => Wp X mX9_findBelow 27 [some (.ref 77), some (.int (bI (!ex (bad P F) c))), some (.int (nI c)), none, none, none] [] m' (QI Q)) ?_ ?_ ⟨g1, fun a ha => by rw [I1 a ha]; exact isS_0⟩
    · rintro c - hc m2 ⟨g2, I2⟩ next
      have M2 : MP m2 P := hM.fs fun d hd => g2 d (by omega)
      have F2 : MF m2 F := hF.fr (by rw [g2 77 (by omega)]) fun d hd => g2 d (by omega)
      have lc := F2.2.2 c hc
      have hlt := hVF.2.2 c hc
      have C128 : vp_in (nI c) 128 := pk_in c 128 hc
      -- the bills of a cell
      have inner : ∀ (e1 : Bool) (t : Int32), e1 = (!ex (bad P F) c && !(decide (2 ≤ flk F c) && !fha P F (flk F c - 2) c)) → t = nI (flk F c) - 2 → Wp X mX9_findBelow 69 [some (.ref 77), some (.int (bI e1)), some (.int (nI c)), some (.int t), some (.int 0), none] [] m2 (QI Q) := by
        intro e1 t ee et
        have bk : ∀ m' : Nat → Nat → Int32, Fr (fun c => c = 95) m m' → MP m' P ∧ MF m' F := fun m' g => ⟨hM.fs fun d hd => g d (by omega), hF.fr (by rw [g 77 (by omega)]) fun d hd => g d (by omega)⟩
        have key := lpf (a := 0) (b := fn F) (m := m2) (by omega) (I := fun b m' => Fr (fun c => c = 95) m m' ∧ ∀ a, a < fn F → isS (m' 95 a) (fun j => ex (bwc P F a j) c || (decide (flk F c = a + 2) && (decide (j < b) && fha P F j c && !decide (j = a))))) (W := fun b m' => Wp X mX9_findBelow 69 [some (.ref 77), some (.int (bI (e1 && !(decide (flk F c = 1) && ex (fun i => fha P F i c) b)))), some (.int (nI c)), some (.int t), some (.int (nI b)), none] [] m' (QI Q)) ?_ ?_ ⟨g2, fun a ha => (I2 a ha).cg fun j hj => by rw [decide_eq_false (Nat.not_lt_zero j)]; simp⟩
        · have z : (e1 && !(decide (flk F c = 1) && ex (fun i => fha P F i c) 0)) = e1 := by
            rw [show ex (fun i => fha P F i c) 0 = false from rfl]; simp
          rw [z] at key
          exact key
        · rintro b - hb m3 ⟨g3, I3⟩ nxt
          obtain ⟨M3, F3⟩ := bk m3 g3
          rw [ex_s] at nxt
          generalize ex (fun i => fha P F i c) b = eb at *
          refine eX9_findBelow_69 ?_
          rw [F3.1]
          refine pk_le (fn F) b (fun d => absurd d (by omega)) (fun _ => s_mhasCell M3 hVP F3 hVF hb hc ?_)
          rw [nI_clamp (n := c) (by omega), F3.2.2 c hc, nI_1]
          have chunk : ∀ kb : Bool, (e1 && !(decide (flk F c = 1) && (fha P F b c || eb))) = kb → (t < 0 → Wp X mX9_findBelow 69 [some (.ref 77), some (.int (bI kb)), some (.int (nI c)), some (.int t), some (.int (nI (b + 1))), none] [] m3 (QI Q)) ∧ (¬ t < 0 → (bI (fha P F b c) = 0 → Wp X mX9_findBelow 69 [some (.ref 77), some (.int (bI kb)), some (.int (nI c)), some (.int t), some (.int (nI (b + 1))), none] [] m3 (QI Q)) ∧ (¬ bI (fha P F b c) = 0 → (nI b = t → Wp X mX9_findBelow 69 [some (.ref 77), some (.int (bI kb)), some (.int (nI c)), some (.int t), some (.int (nI (b + 1))), none] [] m3 (QI Q)) ∧ (¬ nI b = t → vp_in t 10 ∧ vp_in t 10 ∧ ∀ m4, m4 = a_up m3 95 (Int32.toNatClampNeg t) ((m3 95 (Int32.toNatClampNeg t)) ||| (1 <<< (nI b &&& 31))) → Wp X mX9_findBelow 69 [some (.ref 77), some (.int (bI kb)), some (.int (nI c)), some (.int t), some (.int (nI (b + 1))), none] [] m4 (QI Q)))) := by
            intro kb ek
            rw [ek] at nxt
            have keep : (∀ a, a < fn F → flk F c = a + 2 → (fha P F b c = true → b = a)) → Wp X mX9_findBelow 69 [some (.ref 77), some (.int (bI kb)), some (.int (nI c)), some (.int t), some (.int (nI (b + 1))), none] [] m3 (QI Q) := fun hk => nxt m3 ⟨g3, fun a ha => (I3 a ha).cg fun j hj => by
              congr 1
              by_cases q : flk F c = a + 2
              · rw [decide_eq_true q, Bool.true_and, Bool.true_and]
                by_cases jb : j = b
                · subst jb
                  rw [decide_eq_false (by omega : ¬ j < j), decide_eq_true (by omega : j < j + 1)]
                  cases hf : fha P F j c with
                  | false => rfl
                  | true => rw [decide_eq_true (hk a ha q hf)]; rfl
                · rw [show decide (j < b) = decide (j < b + 1) from decide_eq_decide.mpr (by omega)]
              · rw [decide_eq_false q, Bool.false_and, Bool.false_and]⟩
            rcases (by omega : flk F c < 2 ∨ 2 ≤ flk F c) with lo | hi
            · have tn : t < 0 := by
                rw [et]
                rcases (by omega : flk F c = 0 ∨ flk F c = 1) with q | q <;> rw [q] <;> decide
              exact ⟨fun _ => keep fun a ha q => by omega, fun d => absurd tn d⟩
            · have tt : t = nI (flk F c - 2) := by rw [et, show (2 : Int32) = nI 2 from rfl, pk_sub hi]
              rw [tt]
              generalize hs : flk F c - 2 = s at *
              refine ⟨fun d => absurd d (nI_pos (by omega)), fun _ => ⟨fun d => ?_, fun d => ?_⟩⟩
              · rw [bI_0] at d
                rw [← tt]
                exact keep fun a ha q hf => by rw [d] at hf; cases hf
              · rw [bI_n0] at d
                rw [nI_clamp (n := s) (by omega)]
                refine pk_eq b s (fun q => ?_) (fun q => ⟨pk_in s 10 (by omega), pk_in s 10 (by omega), fun m4 e4 => ?_⟩)
                · rw [← tt]
                  exact keep fun a ha q2 _ => by omega
                · rw [← tt]
                  refine nxt m4 ⟨e4 ▸ Fr.up g3 rfl, fun a ha => ?_⟩
                  rw [e4, a_up_i]
                  by_cases as : a = s
                  · subst as
                    rw [if_pos rfl]
                    refine ((I3 a ha).or (isS_one (k := b) (by omega))).cg fun j hj => ?_
                    rw [decide_eq_true (by omega : flk F c = a + 2), Bool.true_and, Bool.true_and, Bool.or_assoc]
                    congr 1
                    by_cases jb : j = b
                    · subst jb
                      rw [decide_eq_true (rfl : j = j), decide_eq_true (by omega : j < j + 1), d, decide_eq_false q]; simp
                    · rw [decide_eq_false jb, Bool.or_false, show decide (j < b) = decide (j < b + 1) from decide_eq_decide.mpr (by omega)]
                  · rw [if_neg as]
                    refine (I3 a ha).cg fun j hj => ?_
                    rw [decide_eq_false (by omega : ¬ flk F c = a + 2), Bool.false_and, Bool.false_and]
          refine ⟨fun z => chunk false ?c1, fun z => ⟨C128, (pk_eq (flk F c) 1 (fun w => ⟨fun y => chunk false ?c2, fun y => chunk true ?c3⟩) (fun w => chunk true ?c4)).symm⟩⟩
          case c1 =>
            rw [bI_0, Bool.and_eq_false_iff] at z
            rcases z with z | z
            · rw [z]; rfl
            · rw [Bool.not_eq_false'] at z
              rw [Bool.and_eq_true] at z
              rw [z.1, z.2]; simp
          case c2 =>
            rw [bI_n0] at y
            rw [decide_eq_true w, y]; simp
          case c3 =>
            rw [bI_0] at y
            rw [bI_n0] at z
            rw [y, Bool.false_or]; exact z
          case c4 =>
            rw [bI_n0, Bool.and_eq_true] at z
            rw [z.1, decide_eq_false w]; rfl
        · rintro m3 ⟨g3, I3⟩
          obtain ⟨M3, F3⟩ := bk m3 g3
          refine eX9_findBelow_69 ?_
          rw [F3.1, nI_1]
          refine pk_le (fn F) (fn F) (fun _ => ?_) (fun d => absurd d (by omega))
          have ez : (e1 && !(decide (flk F c = 1) && ex (fun i => fha P F i c) (fn F))) = !ex (bad P F) (c + 1) := by
            rw [ex_s, ee]
            generalize ex (bad P F) c = g
            unfold bad
            cases g <;> cases decide (flk F c = 1) <;> cases decide (2 ≤ flk F c) <;> cases fha P F (flk F c - 2) c <;> cases ex (fun i => fha P F i c) (fn F) <;> rfl
          rw [ez]
          refine next m3 ⟨g3, fun a ha => (I3 a ha).cg fun j hj => ?_⟩
          rw [ex_s, Bool.or_comm]
          unfold bwc
          rw [Bool.and_assoc]
      refine eX9_findBelow_27 (pk_le 128 c (fun d => absurd d (by omega)) (fun _ => ⟨C128, ?_⟩))
      rw [nI_clamp (n := c) (by omega), lc]
      refine ⟨fun z => inner false _ ?_ rfl, fun z => ?_⟩
      · rw [bI_0] at z
        rw [z]; rfl
      · rw [bI_n0] at z
        rcases (by omega : flk F c < 2 ∨ 2 ≤ flk F c) with lo | hi
        · have tn : nI (flk F c) - 2 < 0 := by
            rcases (by omega : flk F c = 0 ∨ flk F c = 1) with q | q <;> rw [q] <;> decide
          exact ⟨fun _ => inner true _ (by rw [z, decide_eq_false (by omega)]; rfl) rfl, fun d => absurd tn d⟩
        · have tt : nI (flk F c) - 2 = nI (flk F c - 2) := by rw [show (2 : Int32) = nI 2 from rfl, pk_sub hi]
          have i1 := fun e1 h1 => inner e1 _ h1 rfl
          rw [tt] at i1 ⊢
          refine ⟨fun d => absurd d (nI_pos (by omega)), fun _ => s_mhasCell M2 hVP F2 hVF (by omega) hc ⟨fun y => i1 false ?_, fun y => i1 true ?_⟩⟩
          · rw [bI_0] at y
            rw [y, decide_eq_true hi]; simp
          · rw [bI_n0] at y
            rw [y, z]; simp
    · rintro m2 ⟨g2, I2⟩
      refine eX9_findBelow_27 (pk_le 128 128 (fun _ => ⟨?_, qI (h m2 g2 I2)⟩) (fun d => absurd d (by omega)))
      cases ex (bad P F) 128 <;> rfl
end MPHOTO
