/-! ===== the model reads all of THE TEXT ===== -/
def RM (m : Nat → Nat → Int32) (L : Nat) : Rs CT → Prop
  | .ok D => KM m L (.ok D.1) ∧ TK m D.2.1 ∧ m 77 20 = nI D.2.2.1 ∧ EPn m D.2.2.2
  | .error w => KM m L (.error w)
theorem cls_cbd {t : TX} {L q tk tc w : Nat} {P : PT} (hw : wrd t q (rn (isL t) L q) = w) (h7 : w < 7) : cls t L (q, tk, tc, P) = bnd (cbd t L w q (rn (isL t) L q) tk tc P) fun r => bnd (endc t L r.1) fun p => .ok (p, ins tk w, r.2.1, r.2.2) := by
  unfold cls cbd
  dsimp only
  rw [hw]
  by_cases a : w = 0 ∧ late tk = true
  · rw [if_pos (Or.inr a), if_pos a]; rfl
  · rw [if_neg (fun z => z.elim (fun y => by omega) a), if_neg a]
    split
    · rfl
    · rfl
theorem MP.gw {m m' : Nat → Nat → Int32} {P : PT} (h : MP m P) (hV : VP P) (g : GW m m') : MP m' P := by
  have h6 := hV.2.2.2.2.2.2.1
  obtain ⟨h1, h2, h3, h4, h5, hk⟩ := h
  refine ⟨fun i hi => by rw [g.2.2.1 i hi]; exact h1 i hi, by rw [g.2.1 5 (by omega)]; exact h2, by rw [g.2.1 9 (by omega)]; exact h3, fun i hi => by rw [g.2.2.2.1 i hi]; exact h4 i hi, fun i hi => by rw [g.2.2.2.2.1 i hi]; exact h5 i hi, fun k hk2 => ?_⟩
  obtain ⟨a, b, c⟩ := g.2.2.2.2.2 k (by omega)
  rw [a, b, c]; exact hk k hk2
section MTEXT
variable {X : a_X} {m : Nat → Nat → Int32} {t : TX} {L : Nat} {P : PT}
theorem s_three {T : (Nat → Nat → Int32) → Prop} {q e tk tc : Nat} (k lo hi : Nat) {el eh ix : Int32} (hk0 : 1 ≤ k ∧ k < 4) (e1 : el = nI lo) (e2 : eh = nI hi) (l1 : lo ≤ 1000) (l2 : hi ≤ 1000) (ex : ix = nI (5 + (k + 1))) (hT : TXn m t L) (hK : KM m L (.ok e)) (hk : TK m tk) (ht : tk < 2 ^ 32) (hc : m 77 20 = nI tc) (hE : EPn m P) (ec : cnm t L k e tc P = bnd (nmb t L lo hi e) fun a => .ok (a.2, tc, setN P (k + 1) a.1)) (h : ∀ m', GW m m' → RB m' L k tk (cbd t L k q e tk tc P) → T m') : CallI X mX9_once [.ref 77, .int (nI k), .int (nI q)] m (fun v98 m97 => (v98 = 0 → vp_in ix 10 ∧ ∀ m99, m99 = (a_up m97 80 (Int32.toNatClampNeg ix) 0) → T m99) ∧ (¬ v98 = 0 → CallI X mX9_takeNumber [.ref 77, .int el, .int eh] m97 (fun v109 m108 => vp_in ix 10 ∧ ∀ m110, m110 = (a_up m108 80 (Int32.toNatClampNeg ix) v109) → T m110))) := by
  have I10 : vp_in ix 10 := by rw [ex]; exact pk_in (5 + (k + 1)) 10 (by omega)
  have ci : Int32.toNatClampNeg ix = 5 + (k + 1) := by rw [ex]; exact nI_clamp (by omega)
  have et : tld k tk P = tk.testBit k := by
    unfold tld
    rw [if_neg (by omega), if_neg (by omega), if_neg (by omega)]
  unfold cbd at h
  rw [if_neg (fun z => by omega), et, ec] at h
  rw [ci]
  refine s_once (by omega) hK hk ht rfl (fun hb m3 e3 k3 K3 => ⟨fun d => absurd d (show ¬ (1 : Int32) = 0 by decide), fun _ => ?_⟩) (fun hb m3 g3 K3 => ⟨fun _ => ⟨I10, fun m99 e99 => ?_⟩, fun d => absurd rfl d⟩)
  · rw [if_neg (by rw [hb]; decide)] at h
    have g3 : GW m m3 := GW.rf.up e3 (by omega)
    have E3 : EPn m3 P := hE.fr ⟨by rw [e3, a_up_n _ _ (Or.inr (by omega))], by rw [e3, a_up_n _ _ (Or.inr (by omega))]⟩ fun c h1 h2 => by rw [e3, a_up_c _ _ (by omega)]
    refine s_mnumK lo hi (hT.w g3) K3 e1 e2 l1 l2 (fun r m5 er g5 _ K5 => ⟨I10, fun m7 e7 => ?_⟩) (fun w v m5 er g5 K5 => ⟨I10, fun m7 e7 => ?_⟩)
    · rw [er] at h
      refine h m7 ((g3.tr g5.w).up e7 (by omega)) ⟨K5.c e7 (Or.inl (by omega)), (k3.g g5).c e7 (Or.inl (by omega)), ?_, (E3.g g5).set (by omega) e7⟩
      rw [e7, a_up_c _ _ (by omega), g5.2 20 (by omega), e3, a_up_n _ _ (Or.inr (by omega))]; exact hc
    · rw [er] at h
      exact h m7 ((g3.tr g5.w).up e7 (by omega)) (KM.c (e := .error w) K5 e7 (Or.inl (by omega)))
  · rw [if_pos hb] at h
    exact h m99 (g3.up e99 (by omega)) (KM.c (e := .error (3, q)) K3 e99 (Or.inl (by omega)))
theorem s_takeClause {Q : (Nat → Nat → Int32) → Prop} {C : CT} (hT : TXn m t L) (hR : RM m L (.ok C)) (hV : VC C) (hq : sk t L C.1 = C.1) (h : ∀ m', GW m m' → RM m' L (cls t L C) → Q m') : CallV X mX9_takeClause [.ref 77] m Q := by
  obtain ⟨q, tk, tc, P⟩ := C
  obtain ⟨K, k19, k20, E⟩ := hR
  obtain ⟨v1, v2, v3, v4⟩ := hV
  dsimp only at K k19 k20 E v1 v2 v3 v4 hq
  refine eX9_takeClause_0 (s_takeWord hT K hq fun m1 g1 K1 f15 f16 => ?_)
  have T1 := hT.g g1
  have E1 := E.g g1
  have k1 := k19.g g1
  have c1 : m1 77 20 = nI tc := by rw [g1.2 20 (by omega)]; exact k20
  have hcls := fun w (hw : wrd t q (rn (isL t) L q) = w) h7 => cls_cbd (tk := tk) (tc := tc) (P := P) hw h7
  have r2 := K1.2.2.1
  have f7 : wrd t q (rn (isL t) L q) = 7 → cls t L (q, tk, tc, P) = .error (1, q) := fun hw => by
    unfold cls
    dsimp only
    rw [hw]
    exact if_pos (Or.inl rfl)
  generalize he : rn (isL t) L q = e at *
  rw [f15]
  have w0 : ∀ w, w < 7 → spl t q e w = true → (∀ j, j < w → spl t q e j = false) → wrd t q e = w := fun w hw a b => fL_of hw a b
  -- what is left once a clause has been read
  have fin : ∀ w, w < 7 → wrd t q e = w → ∀ m', GW m1 m' → RB m' L w tk (cbd t L w q e tk tc P) → (¬ (m' 77 17) = 0 → (QV Q) none m') ∧ ((m' 77 17) = 0 → CallI X mX9_here [.ref 77] m' (fun v19 m18 => (¬ v19 = 59 → CallI X mX9_want [.ref 77, .int 0, .int 1, .int (m18 77 14)] m18 (fun v21 m20 => (v21 = 0 → (QV Q) none m20) ∧ (¬ v21 = 0 → ∀ m22, m22 = (a_up m20 77 14 ((m20 77 14) + 1)) → (QV Q) none m22))) ∧ (v19 = 59 → CallI X mX9_want [.ref 77, .int 1, .int 1, .int (m18 77 14)] m18 (fun v24 m23 => (v24 = 0 → (QV Q) none m23) ∧ (¬ v24 = 0 → ∀ m25, m25 = (a_up m23 77 14 ((m23 77 14) + 1)) → (QV Q) none m25))))) := by
    intro w h7 hw m' g' R'
    have ec := hcls w hw h7
    rw [ec] at h
    cases er : cbd t L w q e tk tc P with
    | error z =>
      rw [er] at R' h
      exact s_tailE R' (qV (h m' (g1.w.tr g') R'))
    | ok r =>
      rw [er, bnd_ok] at h
      rw [er] at R'
      obtain ⟨K', k', c', E'⟩ := R'
      refine s_tailK (T1.w g') K' fun m2 g2 K2 => qV (h m2 ((g1.w.tr g').tr g2.w) ?_)
      cases en : endc t L r.1 with
      | error z => rw [en] at K2; exact K2
      | ok p =>
        rw [en] at K2
        exact ⟨K2, k'.g g2, by rw [g2.2 20 (by omega)]; exact c', E'.g g2⟩
  refine s_isWord 0 (by omega) T1 f15 f16 r2 rfl rfl rfl rfl rfl (fun d => absurd d (by decide)) ⟨fun z0 => ?_, fun z0 => ?_⟩
  · rw [bI_0] at z0
    refine s_isWord 1 (by omega) T1 f15 f16 r2 rfl rfl rfl rfl rfl (fun _ => rfl) ⟨fun z1 => ?_, fun z1 => ?_⟩
    · rw [bI_0] at z1
      refine s_isWord 2 (by omega) T1 f15 f16 r2 rfl rfl rfl rfl rfl (fun d => absurd d (by decide)) ⟨fun z2 => ?_, fun z2 => ?_⟩
      · rw [bI_0] at z2
        refine s_isWord 3 (by omega) T1 f15 f16 r2 rfl rfl rfl rfl rfl (fun d => absurd d (by decide)) ⟨fun z3 => ?_, fun z3 => ?_⟩
        · rw [bI_0] at z3
          refine s_isWord 4 (by omega) T1 f15 f16 r2 rfl rfl rfl rfl rfl (fun d => absurd d (by decide)) ⟨fun z4 => ?_, fun z4 => ?_⟩
          · rw [bI_0] at z4
            refine s_isWord 5 (by omega) T1 f15 f16 r2 rfl rfl rfl rfl rfl (fun d => absurd d (by decide)) ⟨fun z5 => ?_, fun z5 => ?_⟩
            · rw [bI_0] at z5
              refine s_isWord 6 (by omega) T1 f15 f16 r2 rfl rfl rfl rfl rfl (fun d => absurd d (by decide)) ?_
              refine s_want (f := 1) (w := q) rfl rfl (by omega) K1 (fun z6 => ⟨fun d => absurd d (show ¬ (1 : Int32) = 0 by decide), fun _ => ?_⟩) (fun z6 m16 g16 o16 K16 => ⟨fun _ => ?_, fun d => absurd rfl d⟩)
              · have hw := w0 6 (by omega) z6 (fun j hj => by
                  rcases (by omega : j = 0 ∨ j = 1 ∨ j = 2 ∨ j = 3 ∨ j = 4 ∨ j = 5) with y | y | y | y | y | y <;> subst y <;> assumption)
                exact s_takeKind T1 K1 k1 v3 c1 E1 v1 (fin 6 (by omega) hw)
              · have hw : wrd t q e = 7 := fL_no fun j hj => by
                  rcases (by omega : j = 0 ∨ j = 1 ∨ j = 2 ∨ j = 3 ∨ j = 4 ∨ j = 5 ∨ j = 6) with y | y | y | y | y | y | y <;> subst y <;> assumption
                rw [f7 hw] at h
                exact s_tailE (Q := QV Q) K16 (qV (h m16 (g1.tr g16).w K16))
            · rw [bI_n0] at z5
              have hw := w0 5 (by omega) z5 (fun j hj => by
                rcases (by omega : j = 0 ∨ j = 1 ∨ j = 2 ∨ j = 3 ∨ j = 4) with y | y | y | y | y <;> subst y <;> assumption)
              exact s_takePass T1 K1 k1 v3 c1 E1 v1 (fin 5 (by omega) hw)
          · rw [bI_n0] at z4
            have hw := w0 4 (by omega) z4 (fun j hj => by
              rcases (by omega : j = 0 ∨ j = 1 ∨ j = 2 ∨ j = 3) with y | y | y | y <;> subst y <;> assumption)
            exact s_takeBare T1 K1 k1 v3 c1 E1 v1 (fin 4 (by omega) hw)
        · rw [bI_n0] at z3
          have hw := w0 3 (by omega) z3 (fun j hj => by
            rcases (by omega : j = 0 ∨ j = 1 ∨ j = 2) with y | y | y <;> subst y <;> assumption)
          exact s_three 3 1 100 (by omega) rfl rfl (by omega) (by omega) rfl T1 K1 k1 v3 c1 E1 rfl (fin 3 (by omega) hw)
      · rw [bI_n0] at z2
        have hw := w0 2 (by omega) z2 (fun j hj => by
          rcases (by omega : j = 0 ∨ j = 1) with y | y <;> subst y <;> assumption)
        exact s_three 2 0 999 (by omega) rfl rfl (by omega) (by omega) rfl T1 K1 k1 v3 c1 E1 rfl (fin 2 (by omega) hw)
    · rw [bI_n0] at z1
      have hw := w0 1 (by omega) z1 (fun j hj => by
        have y : j = 0 := by omega
        subst y; assumption)
      exact s_three 1 0 99 (by omega) rfl rfl (by omega) (by omega) rfl T1 K1 k1 v3 c1 E1 rfl (fin 1 (by omega) hw)
  · rw [bI_n0] at z0
    have hw := w0 0 (by omega) z0 (fun j hj => absurd hj (Nat.not_lt_zero j))
    exact s_takeSize T1 K1 k1 v3 c1 E1 (fin 0 (by omega) hw)
def RE (m : Nat → Nat → Int32) (L : Nat) : Rs PT → Prop
  | .ok P => (∃ p, KM m L (.ok p)) ∧ EPn m P ∧ VP P
  | .error w => KM m L (.error w)
theorem s_clauses {Q : Option Value → (Nat → Nat → Int32) → Prop} : ∀ f p tk tc P m, TXn m t L → KM m L (.ok p) → TK m tk → m 77 20 = nI tc → EPn m P → VC (sk t L p, tk, tc, P) → L - sk t L p ≤ f → (∀ m', GW m m' → RE m' L (prsF t L f (sk t L p, tk, tc, P)) → ∀ m1, m1 = (a_up m' 77 13 0) → ((m1 77 17) ≤ 0 → Wp X mX9_wall 158 [some (.ref 77), some (.int 0), none] [] m1 Q) ∧ (¬ (m1 77 17) ≤ 0 → Q (some (.int ((-10) - (m1 77 17)))) m1)) → Wp X mX9_wall 115 [some (.ref 77), none, none] [] m Q := by
  intro f
  induction f with
  | zero =>
    intro p tk tc P m hT K k c E V hf h
    refine eX9_wall_115 ⟨fun d => absurd K.2.2.2.1 d, fun _ => s_here hT K fun m2 g2 o2 K2 => ?_⟩
    have hl := K2.2.2.1
    rw [if_neg (by omega)]
    exact ⟨fun _ m4 e4 => h m2 g2.w ⟨⟨_, K2⟩, E.g g2, V.1⟩ m4 e4, fun d => absurd (show (-1 : Int32) < 0 by decide) d⟩
  | succ f ih =>
    intro p tk tc P m hT K k c E V hf h
    refine eX9_wall_115 ⟨fun d => absurd K.2.2.2.1 d, fun _ => s_here hT K fun m2 g2 o2 K2 => ?_⟩
    have hl := K2.2.2.1
    by_cases hlt : sk t L p < L
    · rw [if_pos hlt]
      have un : prsF t L (f + 1) (sk t L p, tk, tc, P) = bnd (cls t L (sk t L p, tk, tc, P)) fun D => prsF t L f (sk t L D.1, D.2) := if_pos hlt
      rw [un] at h
      have T2 := hT.g g2
      obtain ⟨-, c2⟩ := hT.2 _ hlt
      refine ⟨fun d => absurd d (nI_pos (by omega)), fun _ => s_takeClause (C := (sk t L p, tk, tc, P)) T2 ⟨K2, k.g g2, by rw [g2.2 20 (by omega)]; exact c, E.g g2⟩ V (sk_sk t L p) fun m5 g5 R5 => ?_⟩
      cases er : cls t L (sk t L p, tk, tc, P) with
      | error w =>
        rw [er] at R5 h
        exact eX9_wall_115 ⟨fun _ m1 e1 => h m5 (g2.w.tr g5) R5 m1 e1, fun d => absurd d (KM.e17 (w := w) R5).1⟩
      | ok D =>
        rw [er, bnd_ok] at h
        rw [er] at R5
        obtain ⟨K5, k5, c5, E5⟩ := R5
        obtain ⟨VD, d1, d2⟩ := cls_v er hl V
        have sg := rn_ge (isB t) L D.1
        have d1 : sk t L p < D.1 := d1
        refine ih D.1 D.2.1 D.2.2.1 D.2.2.2 m5 (T2.w g5) K5 k5 c5 E5 VD (by unfold sk at *; omega) fun m' g' R' => h m' ((g2.w.tr g5).tr g') R'
    · rw [if_neg hlt]
      rw [prsF_stop (L := L) (f := f + 1) (C := (sk t L p, tk, tc, P)) (show L ≤ sk t L p by omega)] at h
      exact ⟨fun _ m4 e4 => h m2 g2.w ⟨⟨_, K2⟩, E.g g2, V.1⟩ m4 e4, fun d => absurd (show (-1 : Int32) < 0 by decide) d⟩
end MTEXT
