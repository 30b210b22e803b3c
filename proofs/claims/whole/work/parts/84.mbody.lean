/-! ===== the model's clauses, one by one ===== -/
theorem KM.c {m m' : Nat → Nat → Int32} {L : Nat} {e : Rs Nat} {c i : Nat} {v : Int32} (h : KM m L e) (z : m' = a_up m c i v) (hc : c ≠ 77 ∨ (i ≠ 13 ∧ i ≠ 14 ∧ i ≠ 17 ∧ i ≠ 18)) : KM m' L e := h.fr fun j hj => by rw [z, a_up_n _ _ (by omega)]
theorem TK.c {m m' : Nat → Nat → Int32} {tk c i : Nat} {v : Int32} (h : TK m tk) (z : m' = a_up m c i v) (hc : c ≠ 77 ∨ (i ≠ 19 ∧ i ≠ 21)) : TK m' tk := h.fr (by rw [z, a_up_n _ _ (by omega)]) (by rw [z, a_up_n _ _ (by omega)])
theorem EPn.set {m m' : Nat → Nat → Int32} {P : PT} {i v : Nat} (hE : EPn m P) (hi : i < 5) (e : m' = a_up m 80 (5 + i) (nI v)) : EPn m' (setN P i v) := by
  obtain ⟨h1, h2, h3, h4, h5, h6⟩ := hE
  have k : ∀ c, c ≠ 80 → m' c = m c := fun c hc => by rw [e, a_up_c _ _ hc]
  have e5 : pn (setN P i v) 5 = pn P 5 := up1_n _ _ (by omega)
  have e6 : pn (setN P i v) 6 = pn P 6 := up1_n _ _ (by omega)
  refine ⟨fun j hj => ?_, by rw [k 77 (by omega), e5]; exact h2, by rw [k 77 (by omega), e6]; exact h3, by rw [k 81 (by omega)]; exact h4, by rw [k 82 (by omega)]; exact h5, fun q hq => ?_⟩
  · rw [e, a_up_i]
    show _ = nI (up1 (pn P) i v j)
    by_cases z : j = i
    · rw [if_pos (by omega), z, up1_s]
    · rw [if_neg (by omega), up1_n _ _ z]; exact h1 j hj
  · rw [k 83 (by omega), k 84 (by omega), k 85 (by omega)]
    rw [e6] at hq
    exact h6 q hq
section MBODY
variable {X : a_X} {m : Nat → Nat → Int32} {t : TX} {L : Nat} {P : PT} {Q : (Nat → Nat → Int32) → Prop} {q e tk tc : Nat}
theorem cnm_0 : cnm t L 0 e tc P = bnd (nmb t L 1 16 e) fun a => bnd (nmb t L 1 8 a.2) fun b => .ok (b.2, tc, setN (setN P 0 a.1) 1 b.1) := if_pos rfl
theorem s_takeSize (hT : TXn m t L) (hK : KM m L (.ok e)) (hk : TK m tk) (ht : tk < 2 ^ 32) (hc : m 77 20 = nI tc) (hE : EPn m P) (h : ∀ m', GW m m' → RB m' L 0 tk (cbd t L 0 q e tk tc P) → Q m') : CallV X mX9_takeSize [.ref 77, .int (nI q)] m Q := by
  refine eX9_takeSize_0 ?_
  rw [hk.2]
  unfold cbd at h
  refine ⟨fun z => ?_, fun z => ?_⟩
  · rw [bI_n0] at z
    rw [if_pos ⟨rfl, z⟩] at h
    exact s_want (g := false) (f := 1) (w := q) rfl rfl (by omega) hK (fun d => by cases d) (fun _ m1 g1 o1 K1 => ⟨fun _ => qV (h m1 g1.w K1), fun d => absurd rfl d⟩)
  · rw [bI_0] at z
    rw [if_neg (fun y => by rw [z] at y; cases y.2)] at h
    refine s_want (g := true) (f := 1) (w := q) rfl rfl (by omega) hK (fun _ => ⟨fun d => absurd d (show ¬ (1 : Int32) = 0 by decide), fun _ => ?_⟩) (fun d => by cases d)
    refine s_once (k := 0) (by omega) hK hk ht rfl (fun hb m3 e3 k3 K3 => ⟨fun d => absurd d (show ¬ (1 : Int32) = 0 by decide), fun _ => ?_⟩) (fun hb m3 g3 K3 => ⟨fun _ => ?_, fun d => absurd rfl d⟩)
    · rw [if_neg (show ¬ tld 0 tk P = true by show ¬ tk.testBit 0 = true; rw [hb]; decide), cnm_0] at h
      have g3 : GW m m3 := GW.rf.up e3 (by omega)
      have T3 := hT.w g3
      have E3 : EPn m3 P := hE.fr ⟨by rw [e3, a_up_n _ _ (Or.inr (by omega))], by rw [e3, a_up_n _ _ (Or.inr (by omega))]⟩ fun c h1 h2 => by rw [e3, a_up_c _ _ (by omega)]
      refine s_mnumK 1 16 T3 K3 rfl rfl (by omega) (by omega) (fun r m5 er g5 _ K5 => ⟨pk_in 5 10 (by omega), fun m7 e7 => ?_⟩) (fun w v m5 er g5 K5 => ⟨pk_in 5 10 (by omega), fun m7 e7 => ?_⟩)
      · rw [er, bnd_ok] at h
        have K7 := K5.c e7 (Or.inl (by omega))
        have g7 : GW m m7 := (g3.tr g5.w).up e7 (by rw [show Int32.toNatClampNeg 5 = 5 from rfl]; omega)
        refine s_mnumK 1 8 (hT.w g7) K7 rfl rfl (by omega) (by omega) (fun s m8 es g8 _ K8 => ⟨pk_in 6 10 (by omega), fun m10 e10 => ?_⟩) (fun w v m8 es g8 K8 => ⟨pk_in 6 10 (by omega), fun m10 e10 => ?_⟩)
        · rw [es] at h
          refine qV (h m10 ((g7.tr g8.w).up e10 (by rw [show Int32.toNatClampNeg 6 = 6 from rfl]; omega)) ⟨K8.c e10 (Or.inl (by omega)), ((((k3.g g5).c e7 (Or.inl (by omega))).g g8).c e10 (Or.inl (by omega))), ?_, ?_⟩)
          · rw [e10, a_up_c _ _ (by omega), g8.2 20 (by omega), e7, a_up_c _ _ (by omega), g5.2 20 (by omega), e3, a_up_n _ _ (Or.inr (by omega))]; exact hc
          · exact (((E3.g g5).set (i := 0) (by omega) e7).g g8).set (i := 1) (by omega) e10
        · rw [es] at h
          exact qV (h m10 ((g7.tr g8.w).up e10 (by rw [show Int32.toNatClampNeg 6 = 6 from rfl]; omega)) (KM.c (e := .error w) K8 e10 (Or.inl (by omega))))
      · rw [er, bnd_er] at h
        have K7 := K5.c e7 (Or.inl (by omega))
        have g7 : GW m m7 := (g3.tr g5.w).up e7 (by rw [show Int32.toNatClampNeg 5 = 5 from rfl]; omega)
        exact s_mnumE K7 ⟨pk_in 6 10 (by omega), fun m10 e10 => qV (h m10 (g7.up e10 (by rw [show Int32.toNatClampNeg 6 = 6 from rfl]; omega)) (KM.c (e := .error w) K7 e10 (Or.inl (by omega))))⟩
    · rw [if_pos (show tld 0 tk P = true from hb)] at h
      exact qV (h m3 g3 K3)
theorem cnm_4 : cnm t L 4 e tc P = bnd (nmb t L 0 (pn P 0 - 1) e) fun a => bnd (nmb t L 0 (pn P 1 - 1) a.2) fun b => bnd (nmb t L 1 (pn P 0 - a.1) b.2) fun c => bnd (nmb t L 1 (pn P 1 - b.1) c.2) fun d => .ok (d.2, tc, addS P a.1 b.1 c.1 d.1) := rfl
theorem cnm_5 : cnm t L 5 e tc P = bnd (nmb t L 0 (pn P 0 - 1) e) fun a => if tc.testBit a.1 = true then .error (4, sk t L e) else bnd (nmb t L 0 99 a.2) fun b => .ok (b.2, ins tc a.1, setP P a.1 b.1) := rfl
theorem cnm_6 : cnm t L 6 e tc P = bnd (nmb t L 0 5 e) fun a => bnd (nmb t L 1 (pn P 0) a.2) fun b => bnd (nmb t L 1 (pn P 1) b.2) fun c => .ok (c.2, tc, addK P a.1 b.1 c.1) := rfl
/-- the loop over cells behind a strip's numbers, once there is a FAULT -/
theorem s_bareE {w : Nat × Nat} {x2 x3 x4 x5 : Int32} (hK : KM m L (.error w)) (h : ∀ m', GW m m' → KM m' L (.error w) → Q m') : Wp X mX9_takeBare 91 [some (.ref 77), none, some (.int x2), some (.int x3), some (.int x4), some (.int x5), some (.int 0), none] [] m (QV Q) := by
  have fin : ∀ m1, m1 = a_up m 77 10 ((m 77 10) + 1) → (QV Q) none m1 := fun m1 e1 => qV (h m1 (GW.rf.up e1 (by omega)) (KM.c (e := .error w) hK e1 (Or.inr (by omega))))
  exact eX9_takeBare_91 ⟨fun _ => fin, fun _ => ⟨fun _ => fin, fun d => absurd d hK.e17.1⟩⟩
theorem s_bareK {p x y w h0 : Nat} (hK : KM m L (.ok p)) (hE : EPn m P) (hx : x ≤ 16) (hy : y ≤ 8) (hw : w ≤ 16) (hh : h0 ≤ 8) (h : ∀ m', GW m m' → KM m' L (.ok p) → (∀ i, i ≠ 10 → m' 77 i = m 77 i) → EPn m' (addS P x y w h0) → Q m') : Wp X mX9_takeBare 91 [some (.ref 77), none, some (.int (nI x)), some (.int (nI y)), some (.int (nI w)), some (.int (nI h0)), some (.int 0), none] [] m (QV Q) := by
  obtain ⟨E1, E2, E3, E4, E5, E6⟩ := hE
  refine lpf (a := 0) (b := 128) (m := m) (by omega) (I := fun c m' => GW m m' ∧ Fr (fun c => c = 82) m m' ∧ ∀ d, d < 128 → m' 82 (128 + d) = bI (pbr P d || (decide (d < c) && decide (x ≤ d % 16 ∧ d % 16 < x + w ∧ y ≤ d / 16 ∧ d / 16 < y + h0)))) (W := fun c m' => Wp X mX9_takeBare 91 [some (.ref 77), none, some (.int (nI x)), some (.int (nI y)), some (.int (nI w)), some (.int (nI h0)), some (.int (nI c)), none] [] m' (QV Q)) ?_ ?_ ⟨GW.rf, Fr.rf, fun d hd => by rw [decide_eq_false (Nat.not_lt_zero d), Bool.false_and, Bool.or_false]; exact E5 d hd⟩
  · rintro c - hc m1 ⟨g1, f1, I1⟩ next
    have old := I1 c hc
    rw [decide_eq_false (by omega : ¬ c < c), Bool.false_and, Bool.or_false] at old
    have B256 : vp_in (nI (128 + c)) 256 := pk_in (128 + c) 256 (by omega)
    have z17 : m1 77 17 = 0 := by rw [f1 77 (by omega)]; exact hK.2.2.2.1
    have n1 : vp_nar .boolean 1 = 1 := by decide
    have n0 : vp_nar .boolean 0 = 0 := by decide
    have go : ∀ v : Bool, v = (pbr P c || decide (x ≤ c % 16 ∧ c % 16 < x + w ∧ y ≤ c / 16 ∧ c / 16 < y + h0)) → ∀ m5, m5 = a_up m1 82 (128 + c) (bI v) → Wp X mX9_takeBare 91 [some (.ref 77), none, some (.int (nI x)), some (.int (nI y)), some (.int (nI w)), some (.int (nI h0)), some (.int (nI (c + 1))), none] [] m5 (QV Q) := fun v ev m5 e5 => next m5 ⟨g1.up e5 (by omega), by rw [e5]; exact Fr.up f1 rfl, fun d hd => by
      rw [e5, a_up_i]
      by_cases z : d = c
      · rw [if_pos (by omega), ev, z, decide_eq_true (by omega : c < c + 1), Bool.true_and]
      · rw [if_neg (by omega), I1 d hd, show decide (d < c) = decide (d < c + 1) from decide_eq_decide.mpr (by omega)]⟩
    refine eX9_takeBare_91 (pk_le 128 c (fun d => absurd d (by omega)) (fun _ => ⟨fun d => absurd z17 d, fun _ => ?_⟩))
    rw [show (16 : Int32) = nI 16 from rfl, show (128 : Int32) = nI 128 from rfl, rem_nI (by omega) (by omega) (by omega), pk_div (by omega) (by omega) (by omega), nI_add, nI_add, nI_add, nI_clamp (n := 128 + c) (by omega), n1, n0, nI_1]
    refine s_in rfl rfl ?_
    rw [in_nat (by omega) (by omega) (by omega)]
    have spl : decide (x ≤ c % 16 ∧ c % 16 < x + w ∧ y ≤ c / 16 ∧ c / 16 < y + h0) = (decide (x ≤ c % 16 ∧ c % 16 < x + w) && decide (y ≤ c / 16 ∧ c / 16 < y + h0)) := by
      rw [← Bool.decide_and]
      exact decide_eq_decide.mpr (by omega)
    rw [spl] at go
    rw [old]
    refine ⟨fun z => ⟨B256, fun v => ⟨B256, go true ?_⟩, fun v => ⟨B256, go false ?_⟩⟩, fun z => ?_⟩
    · rw [bI_n0] at v
      rw [v]; rfl
    · rw [bI_0] at v z
      rw [v, z]; rfl
    · refine s_in rfl rfl ?_
      rw [in_nat (by omega) (by omega) (by omega), old]
      rw [bI_n0] at z
      rw [z, Bool.true_and] at go
      refine ⟨fun z2 => ⟨B256, fun v => ⟨B256, go true ?_⟩, fun v => ⟨B256, go false ?_⟩⟩, fun z2 => ⟨B256, fun v => ⟨B256, go true ?_⟩, fun v => ⟨B256, go true ?_⟩⟩⟩
      · rw [bI_n0] at v
        rw [v]; rfl
      · rw [bI_0] at v z2
        rw [v, z2]; rfl
      · rw [bI_n0] at v
        rw [v]; rfl
      · rw [bI_n0] at z2
        rw [z2, Bool.or_true]
  · rintro m1 ⟨g1, f1, I1⟩
    refine eX9_takeBare_91 (pk_le 128 128 (fun _ m2 e2 => ?_) (fun d => absurd d (by omega)))
    rw [f1 77 (by omega), E2, nI_1] at e2
    have K1 : KM m1 L (.ok p) := hK.fr fun i hi => by rw [f1 77 (by omega)]
    refine qV (h m2 (g1.up e2 (by omega)) (K1.c e2 (Or.inr (by omega))) (fun i hi => by rw [e2, a_up_n _ _ (Or.inr hi), f1 77 (by omega)]) ?_)
    have k2 : ∀ c, c ≠ 77 → c ≠ 82 → m2 c = m c := fun c h1 h2 => by rw [e2, a_up_c _ _ h1, f1 c h2]
    refine ⟨(fun i hi => by rw [k2 80 (by omega) (by omega), show pn (addS P x y w h0) i = pn P i from up1_n _ _ (by omega)]; exact E1 i hi), by rw [e2, a_up_s]; rfl, by rw [e2, a_up_n _ _ (Or.inr (by omega)), f1 77 (by omega)]; exact E3, fun i hi => by rw [k2 81 (by omega) (by omega)]; exact E4 i hi, fun d hd => ?_, fun k hk => by rw [k2 83 (by omega) (by omega), k2 84 (by omega) (by omega), k2 85 (by omega) (by omega)]; exact E6 k hk⟩
    rw [e2, a_up_c _ _ (by omega), I1 d hd, decide_eq_true hd, Bool.true_and]
    rfl
theorem s_takeBare (hT : TXn m t L) (hK : KM m L (.ok e)) (hk : TK m tk) (ht : tk < 2 ^ 32) (hc : m 77 20 = nI tc) (hE : EPn m P) (hV : VP P) (h : ∀ m', GW m m' → RB m' L 4 tk (cbd t L 4 q e tk tc P) → Q m') : CallV X mX9_takeBare [.ref 77, .int (nI q)] m Q := by
  have he := hK.2.2.1
  have h0 := hV.1
  have h1 := hV.2.1
  have h5 := hV.2.2.2.2.2.1
  refine eX9_takeBare_0 fun m1 e1 => ?_
  have g1 : GW m m1 := GW.rf.up e1 (by omega)
  have K1 := hK.c e1 (Or.inr (by omega))
  have T1 := hT.w g1
  have E1 : EPn m1 P := hE.fr ⟨by rw [e1, a_up_n _ _ (Or.inr (by omega))], by rw [e1, a_up_n _ _ (Or.inr (by omega))]⟩ fun c h1 h2 => by rw [e1, a_up_c _ _ (by omega)]
  have k1 : TK m1 (ins tk 4) := hk.ins4 ht (by omega) (by rw [e1, a_up_n _ _ (Or.inr (by omega))]) (by rw [e1, a_up_s])
  have c1 : m1 77 20 = nI tc := by rw [e1, a_up_n _ _ (Or.inr (by omega))]; exact hc
  unfold cbd at h
  rw [if_neg (fun y => absurd y.1 (by decide))] at h
  rw [E1.2.1]
  refine pk_le 8 (pn P 5) (fun c => ?_) (fun c => ?_)
  · rw [if_pos (show tld 4 tk P = true from decide_eq_true c)] at h
    exact s_want (g := false) (f := 3) (w := q) rfl rfl (by omega) K1 (fun d => by cases d) (fun _ m2 g2 o2 K2 => ⟨fun _ => qV (h m2 (g1.tr g2.w) K2), fun d => absurd rfl d⟩)
  · rw [if_neg (show ¬ tld 4 tk P = true by show ¬ decide (8 ≤ pn P 5) = true; rw [decide_eq_true_iff]; omega), cnm_4] at h
    refine s_want (g := true) (f := 3) (w := q) rfl rfl (by omega) K1 (fun _ => ⟨fun d => absurd d (show ¬ (1 : Int32) = 0 by decide), fun _ => ⟨pk_in 5 10 (by omega), ?_⟩⟩) (fun d => by cases d)
    rw [show Int32.toNatClampNeg 5 = 5 + 0 from rfl, show Int32.toNatClampNeg 6 = 5 + 1 from rfl]
    refine s_mnumK 0 (pn P 0 - 1) T1 K1 rfl (by rw [E1.1 0 (by omega)]; exact pk_sub (b := 1) h0.1) (by omega) (by omega) (fun a m4 ea g4 _ K4 => ⟨pk_in 6 10 (by omega), ?_⟩) (fun w v m4 ea g4 K4 => ⟨pk_in 6 10 (by omega), ?_⟩)
    · have b1 := nmb_ok ea he
      rw [ea, bnd_ok] at h
      have g14 := g1.tr g4.w
      refine s_mnumK 0 (pn P 1 - 1) (hT.w g14) K4 rfl (by rw [(E1.g g4).1 1 (by omega)]; exact pk_sub (b := 1) h1.1) (by omega) (by omega) (fun b m6 eb g6 _ K6 => ⟨pk_in 5 10 (by omega), ?_⟩) (fun w v m6 eb g6 K6 => ⟨pk_in 5 10 (by omega), ?_⟩)
      · have b2 := nmb_ok eb b1.2.2.2
        rw [eb, bnd_ok] at h
        have g46 := g4.tr g6
        refine s_mnumK 1 (pn P 0 - a.1) (T1.g g46) K6 rfl (by rw [(E1.g g46).1 0 (by omega), pk_sub (by omega)]) (by omega) (by omega) (fun c m8 ec g8 _ K8 => ⟨pk_in 6 10 (by omega), ?_⟩) (fun w v m8 ec g8 K8 => ⟨pk_in 6 10 (by omega), ?_⟩)
        · have b3 := nmb_ok ec b2.2.2.2
          rw [ec, bnd_ok] at h
          have g48 := g46.tr g8
          refine s_mnumK 1 (pn P 1 - b.1) (T1.g g48) K8 rfl (by rw [(E1.g g48).1 1 (by omega), pk_sub (by omega)]) (by omega) (by omega) (fun d m10 ed g10 _ K10 => ?_) (fun w v m10 ed g10 K10 => ?_)
          · have b4 := nmb_ok ed b3.2.2.2
            rw [ed] at h
            have g410 := g48.tr g10
            exact s_bareK K10 (E1.g g410) (by omega) (by omega) (by omega) (by omega) fun m11 g11 K11 o11 E11 => h m11 ((g1.tr g410.w).tr g11) ⟨K11, (k1.g g410).fr (o11 19 (by omega)) (o11 21 (by omega)), by rw [o11 20 (by omega), g410.2 20 (by omega)]; exact c1, E11⟩
          · rw [ed] at h
            exact s_bareE K10 fun m11 g11 K11 => h m11 ((g1.tr (g48.tr g10).w).tr g11) K11
        · rw [ec, bnd_er] at h
          exact s_mnumE K8 (s_bareE K8 fun m11 g11 K11 => h m11 ((g1.tr (g46.tr g8).w).tr g11) K11)
      · rw [eb, bnd_er] at h
        exact s_mnumE K6 ⟨pk_in 6 10 (by omega), s_mnumE K6 (s_bareE K6 fun m11 g11 K11 => h m11 ((g1.tr (g4.tr g6).w).tr g11) K11)⟩
    · rw [ea, bnd_er] at h
      exact s_mnumE K4 ⟨pk_in 5 10 (by omega), s_mnumE K4 ⟨pk_in 6 10 (by omega), s_mnumE K4 (s_bareE K4 fun m11 g11 K11 => h m11 ((g1.tr g4.w).tr g11) K11)⟩⟩
theorem s_takePass (hT : TXn m t L) (hK : KM m L (.ok e)) (hk : TK m tk) (ht : tk < 2 ^ 32) (hc : m 77 20 = nI tc) (hE : EPn m P) (hV : VP P) (h : ∀ m', GW m m' → RB m' L 5 tk (cbd t L 5 q e tk tc P) → Q m') : CallV X mX9_takePass [.ref 77] m Q := by
  have he := hK.2.2.1
  have h0 := hV.1
  refine eX9_takePass_0 fun m1 e1 => ⟨pk_in 5 10 (by omega), ?_⟩
  have g1 : GW m m1 := GW.rf.up e1 (by omega)
  have K1 := hK.c e1 (Or.inr (by omega))
  have T1 := hT.w g1
  have E1 : EPn m1 P := hE.fr ⟨by rw [e1, a_up_n _ _ (Or.inr (by omega))], by rw [e1, a_up_n _ _ (Or.inr (by omega))]⟩ fun c h1 h2 => by rw [e1, a_up_c _ _ (by omega)]
  have k1 : TK m1 (ins tk 5) := hk.ins4 ht (by omega) (by rw [e1, a_up_n _ _ (Or.inr (by omega))]) (by rw [e1, a_up_s])
  have c1 : m1 77 20 = nI tc := by rw [e1, a_up_n _ _ (Or.inr (by omega))]; exact hc
  unfold cbd at h
  rw [if_neg (fun y => absurd y.1 (by decide)), if_neg (show ¬ tld 5 tk P = true by show ¬ false = true; decide), cnm_5] at h
  rw [show Int32.toNatClampNeg 5 = 5 + 0 from rfl]
  refine s_mnumK 0 (pn P 0 - 1) T1 K1 rfl (by rw [E1.1 0 (by omega)]; exact pk_sub (b := 1) h0.1) (by omega) (by omega) (fun a m2 ea g2 f2 K2 => ⟨fun d => absurd K2.2.2.2.1 d, fun _ => ?_⟩) (fun w v m2 ea g2 K2 => ⟨fun _ => ?_, fun d => absurd d K2.e17.1⟩)
  · have b1 := nmb_ok ea he
    rw [ea, bnd_ok] at h
    have c2 : m2 77 20 = nI tc := by rw [g2.2 20 (by omega)]; exact c1
    rw [c2]
    refine s_mhas (by omega) ?_
    rw [b_nI (by omega)]
    refine ⟨fun z => ?_, fun z => ?_⟩
    · rw [bI_n0] at z
      rw [if_pos z] at h
      exact s_want (g := false) (f := 4) (w := sk t L e) rfl f2 (by omega) K2 (fun d => by cases d) (fun _ m6 g6 o6 K6 => ⟨fun _ => qV (h m6 (g1.tr (g2.tr g6).w) K6), fun d => absurd rfl d⟩)
    · rw [bI_0] at z
      rw [if_neg (by rw [z]; decide)] at h
      refine s_want (g := true) (f := 4) (w := sk t L e) rfl f2 (by omega) K2 (fun _ => ⟨fun d => absurd d (show ¬ (1 : Int32) = 0 by decide), fun _ m14 e14 => ?_⟩) (fun d => by cases d)
      rw [c2, nI_ins (by omega)] at e14
      have K14 := K2.c e14 (Or.inr (by omega))
      have g14 : GW m m14 := (g1.tr g2.w).up e14 (by omega)
      rw [show (16 : Int32) = nI 16 from rfl, nI_add, nI_clamp (n := 16 + a.1) (by omega)]
      refine s_mnumK 0 99 (hT.w g14) K14 rfl rfl (by omega) (by omega) (fun b m15 eb g15 _ K15 => ⟨pk_in (16 + a.1) 32 (by omega), fun m17 e17 => ?_⟩) (fun w v m15 eb g15 K15 => ⟨pk_in (16 + a.1) 32 (by omega), fun m17 e17 => ?_⟩)
      · rw [eb] at h
        refine qV (h m17 ((g14.tr g15.w).up e17 (by omega)) ⟨K15.c e17 (Or.inl (by omega)), ((((k1.g g2).c e14 (Or.inr (by omega))).g g15).c e17 (Or.inl (by omega))), ?_, ?_⟩)
        · rw [e17, a_up_c _ _ (by omega), g15.2 20 (by omega), e14, a_up_s]
        · have E14 : EPn m14 P := (E1.g g2).fr ⟨by rw [e14, a_up_n _ _ (Or.inr (by omega))], by rw [e14, a_up_n _ _ (Or.inr (by omega))]⟩ fun c h1 h2 => by rw [e14, a_up_c _ _ (by omega)]
          obtain ⟨d1, d2, d3, d4, d5, d6⟩ := E14.g g15
          have k : ∀ c, c ≠ 81 → m17 c = m15 c := fun c hc => by rw [e17, a_up_c _ _ hc]
          refine ⟨fun i hi => by rw [k 80 (by omega)]; exact d1 i hi, by rw [k 77 (by omega)]; exact d2, by rw [k 77 (by omega)]; exact d3, fun i hi => ?_, fun i hi => by rw [k 82 (by omega)]; exact d5 i hi, fun i hi => by rw [k 83 (by omega), k 84 (by omega), k 85 (by omega)]; exact d6 i hi⟩
          rw [e17, a_up_i]
          show _ = nI (up1 (pps P) a.1 b.1 i)
          by_cases y : i = a.1
          · rw [if_pos (by omega), y, up1_s]
          · rw [if_neg (by omega), up1_n _ _ y]; exact d4 i hi
      · rw [eb] at h
        exact qV (h m17 ((g14.tr g15.w).up e17 (by omega)) (KM.c (e := .error w) K15 e17 (Or.inl (by omega))))
  · rw [ea, bnd_er] at h
    exact qV (h m2 (g1.tr g2.w) K2)
theorem s_takeKind (hT : TXn m t L) (hK : KM m L (.ok e)) (hk : TK m tk) (ht : tk < 2 ^ 32) (hc : m 77 20 = nI tc) (hE : EPn m P) (hV : VP P) (h : ∀ m', GW m m' → RB m' L 6 tk (cbd t L 6 q e tk tc P) → Q m') : CallV X mX9_takeKind [.ref 77, .int (nI q)] m Q := by
  have he := hK.2.2.1
  have h0 := hV.1
  have h1 := hV.2.1
  have h6 := hV.2.2.2.2.2.2.1
  refine eX9_takeKind_0 fun m1 e1 => ?_
  have g1 : GW m m1 := GW.rf.up e1 (by omega)
  have K1 := hK.c e1 (Or.inr (by omega))
  have T1 := hT.w g1
  have E1 : EPn m1 P := hE.fr ⟨by rw [e1, a_up_n _ _ (Or.inr (by omega))], by rw [e1, a_up_n _ _ (Or.inr (by omega))]⟩ fun c h1 h2 => by rw [e1, a_up_c _ _ (by omega)]
  have k1 : TK m1 (ins tk 6) := hk.ins4 ht (by omega) (by rw [e1, a_up_n _ _ (Or.inr (by omega))]) (by rw [e1, a_up_s])
  have c1 : m1 77 20 = nI tc := by rw [e1, a_up_n _ _ (Or.inr (by omega))]; exact hc
  have n1 := E1.2.2.1
  unfold cbd at h
  rw [if_neg (fun y => absurd y.1 (by decide))] at h
  rw [n1]
  refine pk_le 12 (pn P 6) (fun c => ?_) (fun c => ?_)
  · rw [if_pos (show tld 6 tk P = true from decide_eq_true c)] at h
    exact s_want (g := false) (f := 3) (w := q) rfl rfl (by omega) K1 (fun d => by cases d) (fun _ m2 g2 o2 K2 => ⟨fun _ => qV (h m2 (g1.tr g2.w) K2), fun d => absurd rfl d⟩)
  · rw [if_neg (show ¬ tld 6 tk P = true by show ¬ decide (12 ≤ pn P 6) = true; rw [decide_eq_true_iff]; omega), cnm_6] at h
    refine s_want (g := true) (f := 3) (w := q) rfl rfl (by omega) K1 (fun _ => ⟨fun d => absurd d (show ¬ (1 : Int32) = 0 by decide), fun _ => ?_⟩) (fun d => by cases d)
    have V24 : vp_in (nI (12 + pn P 6)) 24 := pk_in (12 + pn P 6) 24 (by omega)
    rw [n1, show (12 : Int32) = nI 12 from rfl, nI_add, nI_clamp (n := 12 + pn P 6) (by omega)]
    -- behind the third number, whatever it was
    have last : ∀ {m7 m9 : Nat → Nat → Int32} {w : Nat × Nat} {v8 : Int32}, m7 77 11 = nI (pn P 6) → GW m m7 → KM m7 L (.error w) → (∀ m', GW m m' → RB m' L 6 tk (.error w) → Q m') → m9 = a_up m7 84 (12 + pn P 6) v8 → vp_in 6 10 ∧ CallI X mX9_takeNumber [.ref 77, .int 1, .int (m9 80 (Int32.toNatClampNeg 6))] m9 (fun v11 m10 => vp_in (nI 12 + (m9 77 11)) 24 ∧ ∀ m12, m12 = (a_up m10 85 (Int32.toNatClampNeg (nI 12 + (m9 77 11))) v11) → ∀ m13, m13 = (a_up m12 77 11 ((m12 77 11) + 1)) → (QV Q) none m13) := by
      intro m7 m9 w v8 n7 g7 K7 hq e9
      have n9 : m9 77 11 = nI (pn P 6) := by rw [e9, a_up_c _ _ (by omega)]; exact n7
      have K9 := KM.c (e := .error w) K7 e9 (Or.inl (by omega))
      rw [n9, nI_add, nI_clamp (n := 12 + pn P 6) (by omega)]
      refine ⟨pk_in 6 10 (by omega), s_mnumE K9 ⟨V24, fun m12 e12 m13 e13 => qV (hq m13 (((g7.up e9 (by omega)).up e12 (by omega)).up e13 (by omega)) (KM.c (e := .error w) (KM.c (e := .error w) K9 e12 (Or.inl (by omega))) e13 (Or.inr (by omega))))⟩⟩
    refine s_mnumK 0 5 T1 K1 rfl rfl (by omega) (by omega) (fun a m4 ea g4 _ K4 => ⟨V24, fun m6 e6 => ⟨pk_in 5 10 (by omega), ?_⟩⟩) (fun w v m4 ea g4 K4 => ⟨V24, fun m6 e6 => ⟨pk_in 5 10 (by omega), ?_⟩⟩)
    · have b1 := nmb_ok ea he
      rw [ea, bnd_ok] at h
      have n6 : m6 77 11 = nI (pn P 6) := by rw [e6, a_up_c _ _ (by omega), g4.2 11 (by omega)]; exact n1
      have K6 := K4.c e6 (Or.inl (by omega))
      have g6 : GW m m6 := (g1.tr g4.w).up e6 (by omega)
      rw [n6, nI_add, nI_clamp (n := 12 + pn P 6) (by omega)]
      have w5 : m6 80 (Int32.toNatClampNeg 5) = nI (pn P 0) := by
        rw [show Int32.toNatClampNeg 5 = 5 + 0 from rfl, e6, a_up_c _ _ (by omega)]; exact (E1.g g4).1 0 (by omega)
      rw [w5]
      refine s_mnumK 1 (pn P 0) (hT.w g6) K6 rfl rfl (by omega) (by omega) (fun b m7 eb g7 _ K7 => ⟨V24, fun m9 e9 => ?_⟩) (fun w v m7 eb g7 K7 => ⟨V24, fun m9 e9 => ?_⟩)
      · have b2 := nmb_ok eb b1.2.2.2
        rw [eb, bnd_ok] at h
        have n9 : m9 77 11 = nI (pn P 6) := by rw [e9, a_up_c _ _ (by omega), g7.2 11 (by omega)]; exact n6
        have K9 := K7.c e9 (Or.inl (by omega))
        have g9 : GW m m9 := (g6.tr g7.w).up e9 (by omega)
        have w6 : m9 80 (Int32.toNatClampNeg 6) = nI (pn P 1) := by
          rw [show Int32.toNatClampNeg 6 = 5 + 1 from rfl, e9, a_up_c _ _ (by omega), g7.1 80 (by omega), e6, a_up_c _ _ (by omega)]; exact (E1.g g4).1 1 (by omega)
        rw [n9, nI_add, nI_clamp (n := 12 + pn P 6) (by omega), w6]
        refine ⟨pk_in 6 10 (by omega), s_mnumK 1 (pn P 1) (hT.w g9) K9 rfl rfl (by omega) (by omega) (fun d m10 ed g10 _ K10 => ⟨V24, fun m12 e12 m13 e13 => ?_⟩) (fun w v m10 ed g10 K10 => ⟨V24, fun m12 e12 m13 e13 => ?_⟩)⟩
        · rw [ed] at h
          have n12 : m12 77 11 = nI (pn P 6) := by rw [e12, a_up_c _ _ (by omega), g10.2 11 (by omega)]; exact n9
          rw [n12, nI_1] at e13
          have c13 : m13 77 20 = nI tc := by rw [e13, a_up_n _ _ (Or.inr (by omega)), e12, a_up_c _ _ (by omega), g10.2 20 (by omega), e9, a_up_c _ _ (by omega), g7.2 20 (by omega), e6, a_up_c _ _ (by omega), g4.2 20 (by omega)]; exact c1
          have kk : TK m13 (ins tk 6) := ((((((k1.g g4).c e6 (Or.inl (by omega))).g g7).c e9 (Or.inl (by omega))).g g10).c e12 (Or.inl (by omega))).c e13 (Or.inr (by omega))
          refine qV (h m13 (((g9.tr g10.w).up e12 (by omega)).up e13 (by omega)) ⟨(K10.c e12 (Or.inl (by omega))).c e13 (Or.inr (by omega)), kk, c13, ?_⟩)
          obtain ⟨d1, d2, d3, d4, d5, d6⟩ := E1
          have kc : ∀ c, c ≠ 77 → c ≠ 83 → c ≠ 84 → c ≠ 85 → m13 c = m1 c := fun c x1 x2 x3 x4 => by rw [e13, a_up_c _ _ x1, e12, a_up_c _ _ x4, g10.1 c x1, e9, a_up_c _ _ x3, g7.1 c x1, e6, a_up_c _ _ x2, g4.1 c x1]
          have q83 : ∀ i, m13 83 i = if i = 12 + pn P 6 then nI a.1 else m1 83 i := fun i => by rw [e13, a_up_c _ _ (by omega), e12, a_up_c _ _ (by omega), g10.1 83 (by omega), e9, a_up_c _ _ (by omega), g7.1 83 (by omega), e6, a_up_i, g4.1 83 (by omega)]
          have q84 : ∀ i, m13 84 i = if i = 12 + pn P 6 then nI b.1 else m1 84 i := fun i => by rw [e13, a_up_c _ _ (by omega), e12, a_up_c _ _ (by omega), g10.1 84 (by omega), e9, a_up_i, g7.1 84 (by omega), e6, a_up_c _ _ (by omega), g4.1 84 (by omega)]
          have q85 : ∀ i, m13 85 i = if i = 12 + pn P 6 then nI d.1 else m1 85 i := fun i => by rw [e13, a_up_c _ _ (by omega), e12, a_up_i, g10.1 85 (by omega), e9, a_up_c _ _ (by omega), g7.1 85 (by omega), e6, a_up_c _ _ (by omega), g4.1 85 (by omega)]
          refine ⟨(fun i hi => by rw [kc 80 (by omega) (by omega) (by omega) (by omega)]; rw [show pn (d.2, tc, addK P a.1 b.1 d.1).2.2 i = pn P i from up1_n _ _ (by omega)]; exact d1 i hi), ?_, by rw [e13, a_up_s]; rfl, fun i hi => by rw [kc 81 (by omega) (by omega) (by omega) (by omega)]; exact d4 i hi, fun i hi => by rw [kc 82 (by omega) (by omega) (by omega) (by omega)]; exact d5 i hi, fun k hk => ?_⟩
          · rw [e13, a_up_n _ _ (Or.inr (by omega)), e12, a_up_c _ _ (by omega), g10.2 10 (by omega), e9, a_up_c _ _ (by omega), g7.2 10 (by omega), e6, a_up_c _ _ (by omega), g4.2 10 (by omega)]; exact d2
          · have hk : k < pn P 6 + 1 := hk
            rw [q83, q84, q85]
            show _ = nI (up1 (pow P) (pn P 6) a.1 k) ∧ _ = nI (up1 (pwd P) (pn P 6) b.1 k) ∧ _ = nI (up1 (phg P) (pn P 6) d.1 k)
            by_cases z : k = pn P 6
            · rw [if_pos (by omega), if_pos (by omega), if_pos (by omega), z, up1_s, up1_s, up1_s]; exact ⟨rfl, rfl, rfl⟩
            · rw [if_neg (by omega), if_neg (by omega), if_neg (by omega), up1_n _ _ z, up1_n _ _ z, up1_n _ _ z]; exact d6 k (by omega)
        · rw [ed] at h
          exact qV (h m13 (((g9.tr g10.w).up e12 (by omega)).up e13 (by omega)) (KM.c (e := .error w) (KM.c (e := .error w) K10 e12 (Or.inl (by omega))) e13 (Or.inr (by omega))))
      · rw [eb, bnd_er] at h
        exact last (by rw [g7.2 11 (by omega)]; exact n6) (g6.tr g7.w) K7 h e9
    · rw [ea, bnd_er] at h
      have n6 : m6 77 11 = nI (pn P 6) := by rw [e6, a_up_c _ _ (by omega), g4.2 11 (by omega)]; exact n1
      have K6 := KM.c (e := .error w) K4 e6 (Or.inl (by omega))
      have g6 : GW m m6 := (g1.tr g4.w).up e6 (by omega)
      rw [n6, nI_add, nI_clamp (n := 12 + pn P 6) (by omega)]
      exact s_mnumE K6 ⟨V24, fun m9 e9 => last n6 g6 K6 h e9⟩
end MBODY
