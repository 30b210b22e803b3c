/-! ===== clauses ===== -/
abbrev D13 (c : Nat) : Prop := c = 13 ∨ (7 ≤ c ∧ c ≤ 12)
def RN (m : Nat → Nat → Int32) (L : Nat) : Rs (Nat × Nat × PT) → Prop
  | .ok r => KS m L (.ok r.1) ∧ m 13 7 = nI r.2.1 ∧ EPd m r.2.2
  | .error w => KS m L (.error w)
theorem G13.d {m m' : Nat → Nat → Int32} (g : G13 m m') : Fr D13 m m' := g.1.mono fun _ h => Or.inl h
section CLAUSE
variable {X : a_X} {m : Nat → Nat → Int32} {t : TX} {L : Nat} {P : PT}
theorem EPd.set {m' : Nat → Nat → Int32} {i v : Nat} (hE : EPd m P) (hi : i < 6) (e : m' = a_up m 7 i (nI v)) : EPd m' (setN P i v) := by
  obtain ⟨h1, h2, h3, h4⟩ := hE
  have k : ∀ c, c ≠ 7 → m' c = m c := fun c hc => by rw [e, a_up_c _ _ hc]
  have e6 : pn (setN P i v) 6 = pn P 6 := up1_n _ _ (by omega)
  refine ⟨fun j hj => ?_, fun x hx => ?_, fun y hy => ?_, fun q hq => ?_⟩
  · rw [e, a_up_i]
    show _ = nI (up1 (pn P) i v j)
    by_cases z : j = i
    · rw [if_pos z, z, up1_s]
    · rw [if_neg z, up1_n _ _ z]; exact h1 j hj
  · rw [k _ (by omega)]; exact h2 x hx
  · rw [k _ (by omega)]; exact h3 y hy
  · rw [k _ (by omega), k _ (by omega), k _ (by omega)]
    rw [e6] at hq
    exact h4 q hq
theorem s_addStrip {Q : (Nat → Nat → Int32) → Prop} (hE : EPd m P) {x y w h : Nat} (hx : x < 16) (hw : w < 17) (hxw : x + w ≤ 16) (hyh : y + h ≤ 8) (hq : ∀ m', Fr (fun c => 7 ≤ c ∧ c ≤ 12) m m' → EPd m' (addS P x y w h) → Q m') : CallV X mX5_addStrip [.ref 7, .int (nI x), .int (nI y), .int (nI w), .int (nI h)] m Q := by
  obtain ⟨h1, h2, h3, h4⟩ := hE
  refine eX5_addStrip_0 ?_
  generalize ea : ((1 <<< (nI w &&& 31)) - 1) <<< (nI x &&& 31) = a
  have ha : isS a (fun i => decide (x ≤ i ∧ i < x + w)) := ea ▸ s_across hw (by omega)
  refine lpf (a := y) (b := y + h) (by omega) (I := fun l m' => Fr (fun c => c = 9) m m' ∧ ∀ r, r < 8 → isS (m' 9 r) (fun i => decide (i < 16) && (pbr P (16 * r + i) || decide (x ≤ i ∧ i < x + w ∧ y ≤ r ∧ r < l)))) (W := fun l m' => Wp X mX5_addStrip 12 [some (.ref 7), none, some (.int (nI y)), none, some (.int (nI h)), some (.int a), some (.int (nI l))] [] m' (QV Q)) ?_ ?_ ⟨Fr.rf, fun r hr => (h3 r hr).cg fun i hi => by
    rw [decide_eq_false (by omega : ¬ (x ≤ i ∧ i < x + w ∧ y ≤ r ∧ r < y)), Bool.or_false]⟩
  · rintro l hl hl2 m2 ⟨hF, hI⟩ next
    refine eX5_addStrip_12 ?_
    rw [nI_add, nI_1, nI_clamp (n := l) (by omega)]
    refine pk_le (y + h) l (fun c => absurd c (by omega)) (fun _ => pk_le 8 l (fun c => absurd c (by omega)) (fun _ => ⟨pk_in l 8 (by omega), pk_in l 8 (by omega), fun m3 e3 => next m3 ⟨e3 ▸ Fr.up hF rfl, fun r hr => ?_⟩⟩))
    rw [e3, a_up_i]
    by_cases z : r = l
    · rw [if_pos z, z]
      refine ((hI l (by omega)).or ha).cg fun i hi => ?_
      rw [decide_eq_false (by omega : ¬ (x ≤ i ∧ i < x + w ∧ y ≤ l ∧ l < l)), Bool.or_false]
      by_cases z2 : x ≤ i ∧ i < x + w
      · rw [decide_eq_true z2, decide_eq_true (by omega : i < 16), decide_eq_true (by omega : x ≤ i ∧ i < x + w ∧ y ≤ l ∧ l < l + 1)]
        simp
      · rw [decide_eq_false z2, decide_eq_false (by omega : ¬ (x ≤ i ∧ i < x + w ∧ y ≤ l ∧ l < l + 1))]
        simp
    · rw [if_neg z]
      refine (hI r hr).cg fun i hi => ?_
      congr 2
      exact decide_eq_decide.mpr (by omega)
  · rintro m2 ⟨hF, hI⟩
    refine eX5_addStrip_12 ?_
    rw [nI_add]
    refine pk_le (y + h) (y + h) (fun _ m3 e3 => qV (hq m3 ?_ ⟨fun i hi => ?_, fun i hi => ?_, fun r hr => ?_, fun k hk => ?_⟩)) (fun c => absurd c (by omega))
    · rw [e3]; exact Fr.up (hF.mono fun c hc => by omega) (by omega)
    · rw [e3, a_up_i, hF 7 (by omega)]
      show _ = nI (up1 (pn P) 5 (pn P 5 + 1) i)
      by_cases z : i = 5
      · rw [if_pos z, z, up1_s, h1 5 (by omega), nI_1]
      · rw [if_neg z, up1_n _ _ z]; exact h1 i hi
    · rw [e3, a_up_c _ _ (by omega), hF 8 (by omega)]; exact h2 i hi
    · rw [e3, a_up_c _ _ (by omega)]
      refine (hI r hr).cg fun i hi => ?_
      by_cases z : i < 16
      · show _ = (decide (i < 16) && (pbr P (16 * r + i) || decide (x ≤ (16 * r + i) % 16 ∧ (16 * r + i) % 16 < x + w ∧ y ≤ (16 * r + i) / 16 ∧ (16 * r + i) / 16 < y + h)))
        rw [show (16 * r + i) % 16 = i by omega, show (16 * r + i) / 16 = r by omega]
      · show _ = (decide (i < 16) && _)
        rw [decide_eq_false z]; simp
    · rw [e3, a_up_c _ _ (by omega), a_up_c _ _ (by omega), a_up_c _ _ (by omega), hF 10 (by omega), hF 11 (by omega), hF 12 (by omega)]
      have hk : k < up1 (pn P) 5 (pn P 5 + 1) 6 := hk
      rw [up1_n _ _ (by omega)] at hk
      exact h4 k hk
theorem s_addKind {Q : (Nat → Nat → Int32) → Prop} (hE : EPd m P) (hn : pn P 6 < 12) {o w h : Nat} (hq : ∀ m', Fr (fun c => 7 ≤ c ∧ c ≤ 12) m m' → EPd m' (addK P o w h) → Q m') : CallV X mX5_addKind [.ref 7, .int (nI o), .int (nI w), .int (nI h)] m Q := by
  obtain ⟨h1, h2, h3, h4⟩ := hE
  have n0 := h1 6 (by omega)
  refine eX5_addKind_0 ?_
  rw [n0, nI_clamp (n := pn P 6) (by omega)]
  refine pk_le 12 (pn P 6) (fun c => absurd c (by omega)) (fun _ => ⟨pk_in (pn P 6) 12 hn, fun m1 e1 => ?_⟩)
  have n1 : m1 7 6 = nI (pn P 6) := by rw [e1, a_up_c _ _ (by omega)]; exact n0
  rw [n1, nI_clamp (n := pn P 6) (by omega)]
  refine ⟨pk_in (pn P 6) 12 hn, fun m2 e2 => ?_⟩
  have n2 : m2 7 6 = nI (pn P 6) := by rw [e2, a_up_c _ _ (by omega)]; exact n1
  rw [n2, nI_clamp (n := pn P 6) (by omega)]
  refine ⟨pk_in (pn P 6) 12 hn, fun m3 e3 m4 e4 => ?_⟩
  have n3 : m3 7 6 = nI (pn P 6) := by rw [e3, a_up_c _ _ (by omega)]; exact n2
  rw [n3, nI_1] at e4
  refine qV (hq m4 ?_ ⟨fun i hi => ?_, fun i hi => ?_, fun r hr => ?_, fun k hk => ?_⟩)
  · rw [e4, e3, e2, e1]
    exact Fr.up (Fr.up (Fr.up (Fr.up Fr.rf (by omega)) (by omega)) (by omega)) (by omega)
  · rw [e4, a_up_i, e3, a_up_c _ _ (by omega), e2, a_up_c _ _ (by omega), e1, a_up_c _ _ (by omega)]
    show _ = nI (up1 (pn P) 6 (pn P 6 + 1) i)
    by_cases z : i = 6
    · rw [if_pos z, z, up1_s]
    · rw [if_neg z, up1_n _ _ z]; exact h1 i hi
  · rw [e4, a_up_c _ _ (by omega), e3, a_up_c _ _ (by omega), e2, a_up_c _ _ (by omega), e1, a_up_c _ _ (by omega)]; exact h2 i hi
  · rw [e4, a_up_c _ _ (by omega), e3, a_up_c _ _ (by omega), e2, a_up_c _ _ (by omega), e1, a_up_c _ _ (by omega)]; exact h3 r hr
  · have hk : k < up1 (pn P) 6 (pn P 6 + 1) 6 := hk
    rw [up1_s] at hk
    have q10 : m4 10 k = if k = pn P 6 then nI o else m 10 k := by rw [e4, a_up_c _ _ (by omega), e3, a_up_c _ _ (by omega), e2, a_up_c _ _ (by omega), e1, a_up_i]
    have q11 : m4 11 k = if k = pn P 6 then nI w else m 11 k := by rw [e4, a_up_c _ _ (by omega), e3, a_up_c _ _ (by omega), e2, a_up_i, e1, a_up_c _ _ (by omega)]
    have q12 : m4 12 k = if k = pn P 6 then nI h else m 12 k := by rw [e4, a_up_c _ _ (by omega), e3, a_up_i, e2, a_up_c _ _ (by omega), e1, a_up_c _ _ (by omega)]
    rw [q10, q11, q12]
    show _ = nI (up1 (pow P) (pn P 6) o k) ∧ _ = nI (up1 (pwd P) (pn P 6) w k) ∧ _ = nI (up1 (phg P) (pn P 6) h k)
    by_cases z : k = pn P 6
    · rw [if_pos z, if_pos z, if_pos z, z, up1_s, up1_s, up1_s]; exact ⟨rfl, rfl, rfl⟩
    · rw [if_neg z, if_neg z, if_neg z, up1_n _ _ z, up1_n _ _ z, up1_n _ _ z]
      exact h4 k (by omega)
theorem bnd_ok {α β : Type} (a : α) (f : α → Rs β) : bnd (.ok a) f = f a := rfl
theorem bnd_er {α β : Type} (w : Nat × Nat) (f : α → Rs β) : bnd (.error w) f = .error w := rfl
theorem s_readNumbers {Q : (Nat → Nat → Int32) → Prop} {w p tc : Nat} (hw : w < 7) (hT : TXm m t L) (hK : KS m L (.ok p)) (hE : EPd m P) (hV : VP P) (hn : w = 6 → pn P 6 < 12) (hc : m 13 7 = nI tc) (htc : tc < 2 ^ 32) (h : ∀ m', Fr D13 m m' → m' 13 6 = m 13 6 → RN m' L (cnm t L w p tc P) → Q m') : CallV X mX6_readNumbers [.ref 13, .ref 7, .int (nI w)] m Q := by
  have hp := hK.2.2.1
  have h0 := hV.1
  have h1 := hV.2.1
  have eq : ∀ k : Nat, k < 7 → nI w = nI k → w = k := fun k hk c => (nI_eq (by omega) (by omega)).mp c
  have st : ∀ {m1 m2 : Nat → Nat → Int32} {i v : Nat} {e : Rs Nat}, KS m1 L e → m2 = a_up m1 7 i (nI v) → KS m2 L e := fun k e => k.fr (by rw [e, a_up_c _ _ (by omega)])
  have one : ∀ lo hi i (el : Int32) (eh : Int32), el = nI lo → eh = nI hi → lo ≤ 1000 → hi ≤ 1000 → i < 6 → (bnd (nmb t L lo hi p) fun a => .ok (a.2, tc, setN P i a.1)) = cnm t L w p tc P → CallI X mX6_readNumber [.ref 13, .int el, .int eh] m (fun v8 m7 => ∀ m9, m9 = a_up m7 7 i v8 → (QV Q) none m9) := by
    intro lo hi i el eh e1 e2 l1 l2 hi6 ec
    rw [← ec] at h
    refine s_numK lo hi hT hK e1 e2 l1 l2 (fun r m1 er g _ K m9 e9 => qV (h m9 ?_ ?_ ?_)) (fun z m1 er g _ K m9 e9 => qV (h m9 ?_ ?_ ?_))
    · rw [e9]; exact Fr.up g.d (by omega)
    · rw [e9, a_up_c _ _ (by omega)]; exact g.2 6 (by omega)
    · rw [er]
      exact ⟨st K e9, by rw [e9, a_up_c _ _ (by omega), g.2 7 (by omega)]; exact hc, (hE.g g).set hi6 e9⟩
    · rw [e9]; exact Fr.up g.d (by omega)
    · rw [e9, a_up_c _ _ (by omega)]; exact g.2 6 (by omega)
    · rw [er]
      rw [e1] at e9
      exact st K e9
  refine eX6_readNumbers_0 ⟨fun c => ?_, fun c => ?_, fun c => ?_, fun c => ?_, fun c => ?_, fun c => ?_, fun c => ?_⟩
  · have ew := eq 0 (by omega) c
    unfold cnm at h
    rw [if_pos ew] at h
    refine s_numK 1 16 hT hK rfl rfl (by omega) (by omega) (fun r m1 er g _ K m3 e3 => ?_) (fun z m1 er g _ K m3 e3 => ?_)
    · rw [er, bnd_ok] at h
      have K3 := st K e3
      have T3 := (hT.g g).fr (m' := m3) (by rw [e3, a_up_c _ _ (by omega)])
      refine s_numK 1 8 T3 K3 rfl rfl (by omega) (by omega) (fun s m4 es g4 _ K4 m6 e6 => qV (h m6 ?_ ?_ ?_)) (fun z m4 es g4 _ K4 m6 e6 => qV (h m6 ?_ ?_ ?_))
      · rw [e6]; exact Fr.up ((by rw [e3]; exact Fr.up g.d (by omega) : Fr D13 m m3).tr g4.d) (by omega)
      · rw [e6, a_up_c _ _ (by omega), g4.2 6 (by omega), e3, a_up_c _ _ (by omega)]; exact g.2 6 (by omega)
      · rw [es]
        exact ⟨st K4 e6, by rw [e6, a_up_c _ _ (by omega), g4.2 7 (by omega), e3, a_up_c _ _ (by omega), g.2 7 (by omega)]; exact hc, (((hE.g g).set (by omega) e3).g g4).set (by omega) e6⟩
      · rw [e6]; exact Fr.up ((by rw [e3]; exact Fr.up g.d (by omega) : Fr D13 m m3).tr g4.d) (by omega)
      · rw [e6, a_up_c _ _ (by omega), g4.2 6 (by omega), e3, a_up_c _ _ (by omega)]; exact g.2 6 (by omega)
      · rw [es]; exact K4.fr (by rw [e6, a_up_c _ _ (by omega)])
    · rw [er, bnd_er] at h
      have K3 : KS m3 L (.error z) := K.fr (by rw [e3, a_up_c _ _ (by omega)])
      have T3 := (hT.g g).fr (m' := m3) (by rw [e3, a_up_c _ _ (by omega)])
      refine s_numE T3 K3 fun m4 g4 K4 m6 e6 => qV (h m6 ?_ ?_ ?_)
      · rw [e6]; exact Fr.up ((by rw [e3]; exact Fr.up g.d (by omega) : Fr D13 m m3).tr g4.d) (by omega)
      · rw [e6, a_up_c _ _ (by omega), g4.2 6 (by omega), e3, a_up_c _ _ (by omega)]; exact g.2 6 (by omega)
      · exact K4.fr (by rw [e6, a_up_c _ _ (by omega)])
  · have ew := eq 1 (by omega) c
    exact one 0 99 2 0 99 rfl rfl (by omega) (by omega) (by omega) (by unfold cnm; rw [if_neg (by omega), if_pos ew])
  · have ew := eq 2 (by omega) c
    exact one 0 999 3 0 999 rfl rfl (by omega) (by omega) (by omega) (by unfold cnm; rw [if_neg (by omega), if_neg (by omega), if_pos ew])
  · have ew := eq 3 (by omega) c
    exact one 1 100 4 1 100 rfl rfl (by omega) (by omega) (by omega) (by unfold cnm; rw [if_neg (by omega), if_neg (by omega), if_neg (by omega), if_pos ew])
  · have ew := eq 4 (by omega) c
    unfold cnm at h
    rw [if_neg (by omega), if_neg (by omega), if_neg (by omega), if_neg (by omega), if_pos ew] at h
    show CallV X mX6_readStrip [.ref 13, .ref 7] m (fun m16 => (QV Q) none m16)
    refine eX6_readStrip_0 ?_
    refine s_numK 0 (pn P 0 - 1) hT hK rfl (by rw [hE.1 0 (by omega)]; exact pk_sub (b := 1) h0.1) (by omega) (by omega) (fun a m1 ea g1 _ K1 => ?_) (fun z m1 ea g1 _ K1 => ?_)
    · have b1 := nmb_ok ea hp
      rw [ea, bnd_ok] at h
      have T1 := hT.g g1
      refine s_numK 0 (pn P 1 - 1) T1 K1 rfl (by rw [g1.1 7 (by omega), hE.1 1 (by omega)]; exact pk_sub (b := 1) h1.1) (by omega) (by omega) (fun b m3 eb g3 _ K3 => ?_) (fun z m3 eb g3 _ K3 => ?_)
      · have b2 := nmb_ok eb b1.2.2.2
        rw [eb, bnd_ok] at h
        have g13 := g1.tr g3
        have T3 := hT.g g13
        refine s_numK 1 (pn P 0 - a.1) T3 K3 rfl (by rw [g13.1 7 (by omega), hE.1 0 (by omega), pk_sub (by omega)]) (by omega) (by omega) (fun d m5 ed g5 _ K5 => ?_) (fun z m5 ed g5 _ K5 => ?_)
        · have b3 := nmb_ok ed b2.2.2.2
          rw [ed, bnd_ok] at h
          have g15 := g13.tr g5
          have T5 := hT.g g15
          refine s_numK 1 (pn P 1 - b.1) T5 K5 rfl (by rw [g15.1 7 (by omega), hE.1 1 (by omega), pk_sub (by omega)]) (by omega) (by omega) (fun f m7 ef g7 _ K7 => ?_) (fun z m7 ef g7 _ K7 => ?_)
          · have b4 := nmb_ok ef b3.2.2.2
            rw [ef, bnd_ok] at h
            have g17 := g15.tr g7
            refine s_isFaultless K7 ⟨fun c => absurd c (show ¬ (1 : Int32) = 0 by decide), fun _ => s_addStrip (hE.g g17) (by omega) (by omega) (by omega) (by omega) fun m9 f9 E9 => qV (qV (h m9 ?_ ?_ ?_))⟩
            · exact g17.d.tr (f9.mono fun c hc => Or.inr hc)
            · rw [f9 13 (by omega)]; exact g17.2 6 (by omega)
            · exact ⟨K7.fr (f9 13 (by omega)), by rw [f9 13 (by omega), g17.2 7 (by omega)]; exact hc, E9⟩
          · rw [ef, bnd_er] at h
            have g17 := g15.tr g7
            exact s_isFaultless K7 ⟨fun _ => qV (qV (h m7 g17.d (g17.2 6 (by omega)) K7)), fun c => absurd rfl c⟩
        · rw [ed, bnd_er] at h
          have g15 := g13.tr g5
          refine s_numE (hT.g g15) K5 fun m7 g7 K7 => ?_
          have g17 := g15.tr g7
          exact s_isFaultless K7 ⟨fun _ => qV (qV (h m7 g17.d (g17.2 6 (by omega)) K7)), fun c => absurd rfl c⟩
      · rw [eb, bnd_er] at h
        have g13 := g1.tr g3
        refine s_numE (hT.g g13) K3 fun m5 g5 K5 => s_numE (hT.g (g13.tr g5)) K5 fun m7 g7 K7 => ?_
        have g17 := (g13.tr g5).tr g7
        exact s_isFaultless K7 ⟨fun _ => qV (qV (h m7 g17.d (g17.2 6 (by omega)) K7)), fun c => absurd rfl c⟩
    · rw [ea, bnd_er] at h
      refine s_numE (hT.g g1) K1 fun m3 g3 K3 => s_numE (hT.g (g1.tr g3)) K3 fun m5 g5 K5 => s_numE (hT.g ((g1.tr g3).tr g5)) K5 fun m7 g7 K7 => ?_
      have g17 := ((g1.tr g3).tr g5).tr g7
      exact s_isFaultless K7 ⟨fun _ => qV (qV (h m7 g17.d (g17.2 6 (by omega)) K7)), fun c => absurd rfl c⟩
  · have ew := eq 5 (by omega) c
    unfold cnm at h
    rw [if_neg (by omega), if_neg (by omega), if_neg (by omega), if_neg (by omega), if_neg (by omega), if_pos ew] at h
    show CallV X mX6_readPassers [.ref 13, .ref 7] m (fun m16 => (QV Q) none m16)
    refine eX6_readPassers_0 ?_
    refine s_numK 0 (pn P 0 - 1) hT hK rfl (by rw [hE.1 0 (by omega)]; exact pk_sub (b := 1) h0.1) (by omega) (by omega) (fun a m1 ea g1 n1 K1 => ?_) (fun z m1 ea g1 _ K1 => ?_)
    · have b1 := nmb_ok ea hp
      rw [ea, bnd_ok] at h
      have T1 := hT.g g1
      rw [g1.2 7 (by omega), hc]
      refine s_isIn (by omega) ?_
      rw [b_nI (by omega)]
      refine ⟨fun z => ?_, fun z => ?_⟩
      · rw [bI_0] at z
        rw [if_neg (by rw [z]; decide)] at h
        refine s_numK 0 99 T1 K1 rfl rfl (by omega) (by omega) (fun b m5 eb g5 _ K5 => ?_) (fun y m5 eb g5 _ K5 => ?_)
        · rw [eb, bnd_ok] at h
          have g15 := g1.tr g5
          refine s_isFaultless K5 ⟨fun c => absurd c (show ¬ (1 : Int32) = 0 by decide), fun _ => ⟨pk_in a.1 16 (by omega), fun m9 e9 m10 e10 => ?_⟩⟩
          rw [nI_clamp (n := a.1) (by omega)] at e9
          have q7 : m9 13 7 = nI tc := by rw [e9, a_up_c _ _ (by omega), g15.2 7 (by omega)]; exact hc
          rw [q7, nI_ins (by omega)] at e10
          have k10 : ∀ i, i ≠ 7 → m10 13 i = m5 13 i := fun i hi => by rw [e10, a_up_n _ _ (Or.inr hi), e9, a_up_c _ _ (by omega)]
          refine qV (qV (h m10 ?_ ?_ ⟨?_, by rw [e10, a_up_s], ?_⟩))
          · rw [e10, e9]; exact Fr.up (Fr.up g15.d (by omega)) (by omega)
          · rw [k10 6 (by omega)]; exact g15.2 6 (by omega)
          · obtain ⟨k1, k2, k3, k4, k5⟩ := K5
            exact ⟨by rw [k10 1 (by omega)]; exact k1, by rw [k10 2 (by omega)]; exact k2, k3, by rw [k10 4 (by omega)]; exact k4, by rw [k10 5 (by omega)]; exact k5⟩
          · obtain ⟨d1, d2, d3, d4⟩ := hE.g g15
            have k : ∀ c, c ≠ 8 → c ≠ 13 → m10 c = m5 c := fun c h1 h2 => by rw [e10, a_up_c _ _ h2, e9, a_up_c _ _ h1]
            refine ⟨fun i hi => ?_, fun i hi => ?_, fun i hi => ?_, fun i hi => ?_⟩
            · rw [k 7 (by omega) (by omega)]; exact d1 i hi
            · rw [e10, a_up_c _ _ (by omega), e9, a_up_i]
              show _ = nI (up1 (pps P) a.1 b.1 i)
              by_cases zz : i = a.1
              · rw [if_pos zz, zz, up1_s]
              · rw [if_neg zz, up1_n _ _ zz]; exact d2 i hi
            · rw [k 9 (by omega) (by omega)]; exact d3 i hi
            · rw [k 10 (by omega) (by omega), k 11 (by omega) (by omega), k 12 (by omega) (by omega)]; exact d4 i hi
        · rw [eb, bnd_er] at h
          have g15 := g1.tr g5
          exact s_isFaultless K5 ⟨fun _ => qV (qV (h m5 g15.d (g15.2 6 (by omega)) K5)), fun c => absurd rfl c⟩
      · rw [bI_n0] at z
        rw [if_pos z] at h
        rw [n1]
        refine s_fail K1 (f := 4) (by omega) fun m11 g11 _ _ K11 => s_numE ((hT.g g1).g g11) K11 fun m12 g12 K12 => ?_
        have g := (g1.tr g11).tr g12
        exact s_isFaultless K12 ⟨fun _ => qV (qV (h m12 g.d (g.2 6 (by omega)) K12)), fun c => absurd rfl c⟩
    · rw [ea, bnd_er] at h
      have fin : ∀ m5, G13 m m5 → KS m5 L (.error z) → CallI X mX6_readNumber [.ref 13, .int 0, .int 99] m5 (fun v6 m5 => CallI X mX6_isFaultless [.ref 13] m5 (fun v8 m7 => (v8 = 0 → (QV fun m16 => (QV Q) none m16) none m7) ∧ (¬ v8 = 0 → vp_in 0 16 ∧ ∀ m9, m9 = (a_up m7 8 (Int32.toNatClampNeg 0) v6) → ∀ m10, m10 = (a_up m9 13 7 ((m9 13 7) ||| (1 <<< ((0 : Int32) &&& 31)))) → (QV fun m16 => (QV Q) none m16) none m10))) := fun m5 g5 K5 => s_numE (hT.g g5) K5 fun m7 g7 K7 => s_isFaultless K7 ⟨fun _ => qV (qV (h m7 (g5.tr g7).d ((g5.tr g7).2 6 (by omega)) K7)), fun c => absurd rfl c⟩
      refine s_isIn (k := 0) (by omega) ⟨fun _ => fin m1 g1 K1, fun _ => ?_⟩
      obtain ⟨kk1, q, hq, k2⟩ := K1.at
      cases K1 with
      | intro a1 a2 =>
        obtain ⟨a2, a3, a4, a5⟩ := a2
        refine eX6_fail_0 ⟨fun _ => ⟨rfl, fin m1 g1 ⟨a1, a2, a3, a4, a5⟩⟩, fun c => ?_⟩
        rw [a4] at c
        exact absurd ((nI_eq (b := 0) (by omega) (by omega)).mp c) (by omega)
  · rw [nI_toInt (by omega)] at c
    have ew : w = 6 := by omega
    unfold cnm at h
    rw [if_neg (by omega), if_neg (by omega), if_neg (by omega), if_neg (by omega), if_neg (by omega), if_neg (by omega)] at h
    show CallV X mX6_readKind [.ref 13, .ref 7] m (fun m16 => (QV Q) none m16)
    refine eX6_readKind_0 ?_
    refine s_numK 0 5 hT hK rfl rfl (by omega) (by omega) (fun a m1 ea g1 _ K1 => ?_) (fun z m1 ea g1 _ K1 => ?_)
    · rw [ea, bnd_ok] at h
      refine s_numK 1 (pn P 0) (hT.g g1) K1 rfl (by rw [g1.1 7 (by omega), hE.1 0 (by omega)]) (by omega) (by omega) (fun b m3 eb g3 _ K3 => ?_) (fun z m3 eb g3 _ K3 => ?_)
      · rw [eb, bnd_ok] at h
        have g13 := g1.tr g3
        refine s_numK 1 (pn P 1) (hT.g g13) K3 rfl (by rw [g13.1 7 (by omega), hE.1 1 (by omega)]) (by omega) (by omega) (fun d m5 ed g5 _ K5 => ?_) (fun z m5 ed g5 _ K5 => ?_)
        · rw [ed, bnd_ok] at h
          have g15 := g13.tr g5
          refine s_isFaultless K5 ⟨fun c => absurd c (show ¬ (1 : Int32) = 0 by decide), fun _ => s_addKind (hE.g g15) (hn ew) fun m9 f9 E9 => qV (qV (h m9 ?_ ?_ ?_))⟩
          · exact g15.d.tr (f9.mono fun c hc => Or.inr hc)
          · rw [f9 13 (by omega)]; exact g15.2 6 (by omega)
          · exact ⟨K5.fr (f9 13 (by omega)), by rw [f9 13 (by omega), g15.2 7 (by omega)]; exact hc, E9⟩
        · rw [ed, bnd_er] at h
          have g15 := g13.tr g5
          exact s_isFaultless K5 ⟨fun _ => qV (qV (h m5 g15.d (g15.2 6 (by omega)) K5)), fun c => absurd rfl c⟩
      · rw [eb, bnd_er] at h
        have g13 := g1.tr g3
        refine s_numE (hT.g g13) K3 fun m5 g5 K5 => ?_
        have g15 := g13.tr g5
        exact s_isFaultless K5 ⟨fun _ => qV (qV (h m5 g15.d (g15.2 6 (by omega)) K5)), fun c => absurd rfl c⟩
    · rw [ea, bnd_er] at h
      refine s_numE (hT.g g1) K1 fun m3 g3 K3 => s_numE (hT.g (g1.tr g3)) K3 fun m5 g5 K5 => ?_
      have g15 := (g1.tr g3).tr g5
      exact s_isFaultless K5 ⟨fun _ => qV (qV (h m5 g15.d (g15.2 6 (by omega)) K5)), fun c => absurd rfl c⟩
end CLAUSE
