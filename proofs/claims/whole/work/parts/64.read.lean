/-! ===== all of THE TEXT ===== -/
theorem bnd_inv {α β : Type} {e : Rs α} {f : α → Rs β} {r : β} (h : bnd e f = .ok r) : ∃ a, e = .ok a ∧ f a = .ok r := by
  cases e with
  | ok a => exact ⟨a, rfl, h⟩
  | error w => cases h
theorem pn_set (P : PT) (j v i : Nat) : pn (setN P j v) i = if i = j then v else pn P i := rfl
theorem vp_set {P : PT} {i v : Nat} (hV : VP P) (hi : i = 2 ∧ v ≤ 99 ∨ i = 3 ∧ v ≤ 999 ∨ i = 4 ∧ 1 ≤ v ∧ v ≤ 100) : VP (setN P i v) := by
  obtain ⟨a0, a1, a2, a3, a4, a5, a6, a7, a8⟩ := hV
  have e0 : ∀ j, j ≠ i → pn (setN P i v) j = pn P j := fun j hj => if_neg hj
  have ei : pn (setN P i v) i = v := if_pos rfl
  refine ⟨?_, ?_, ?_, ?_, ?_, ?_, ?_, a7, ?_⟩
  · rw [e0 0 (by omega)]; exact a0
  · rw [e0 1 (by omega)]; exact a1
  · rw [pn_set]; split <;> omega
  · rw [pn_set]; split <;> omega
  · rw [pn_set]; split <;> omega
  · rw [e0 5 (by omega)]; exact a5
  · rw [e0 6 (by omega)]; exact a6
  · rw [e0 6 (by omega), e0 0 (by omega), e0 1 (by omega)]; exact a8
theorem vp_size {P : PT} {a b : Nat} (hV : VP P) (h6 : pn P 6 = 0) (ha : 1 ≤ a ∧ a ≤ 16) (hb : 1 ≤ b ∧ b ≤ 8) : VP (setN (setN P 0 a) 1 b) := by
  obtain ⟨a0, a1, a2, a3, a4, a5, a6, a7, a8⟩ := hV
  refine ⟨ha, hb, a2, a3, a4, a5, a6, a7, fun k hk => ?_⟩
  have hk : k < pn P 6 := hk
  omega
theorem vp_strip {P : PT} {x y w h : Nat} (hV : VP P) (h5 : pn P 5 < 8) : VP (addS P x y w h) := by
  obtain ⟨a0, a1, a2, a3, a4, a5, a6, a7, a8⟩ := hV
  exact ⟨a0, a1, a2, a3, a4, h5, a6, a7, a8⟩
theorem vp_pass {P : PT} {x v : Nat} (hV : VP P) (hv : v ≤ 99) : VP (setP P x v) := by
  obtain ⟨a0, a1, a2, a3, a4, a5, a6, a7, a8⟩ := hV
  refine ⟨a0, a1, a2, a3, a4, a5, a6, fun i hi => ?_, a8⟩
  show (if i = x then v else pps P i) ≤ 99
  split
  · exact hv
  · exact a7 i hi
theorem vp_kind {P : PT} {o w h : Nat} (hV : VP P) (h6 : pn P 6 < 12) (ho : o < 6) (hw : 1 ≤ w ∧ w ≤ pn P 0) (hh : 1 ≤ h ∧ h ≤ pn P 1) : VP (addK P o w h) := by
  obtain ⟨a0, a1, a2, a3, a4, a5, a6, a7, a8⟩ := hV
  refine ⟨a0, a1, a2, a3, a4, a5, h6, a7, fun k hk => ?_⟩
  have hk : k < pn P 6 + 1 := hk
  show (if k = pn P 6 then o else pow P k) < 6 ∧ (1 ≤ (if k = pn P 6 then w else pwd P k) ∧ (if k = pn P 6 then w else pwd P k) ≤ pn P 0) ∧ (1 ≤ (if k = pn P 6 then h else phg P k) ∧ (if k = pn P 6 then h else phg P k) ≤ pn P 1)
  by_cases z : k = pn P 6
  · rw [if_pos z, if_pos z, if_pos z]; exact ⟨ho, hw, hh⟩
  · rw [if_neg z, if_neg z, if_neg z]; exact a8 k (by omega)
theorem vp_unt : VP untP := ⟨by decide, by decide, by decide, by decide, by decide, by decide, by decide, fun _ _ => by show 1 ≤ 99; decide, fun k hk => absurd hk (Nat.not_lt_zero k)⟩
theorem cnm_v {t : TX} {L w p tc : Nat} {P : PT} {r : Nat × Nat × PT} (h : cnm t L w p tc P = .ok r) (hV : VP P) (hp : p ≤ L) (hw : w < 7) (htc : tc < 2 ^ 32) (h0 : w = 0 → pn P 6 = 0) (h4 : w = 4 → pn P 5 < 8) (h6 : w = 6 → pn P 6 < 12) : VP r.2.2 ∧ r.2.1 < 2 ^ 32 ∧ p < r.1 ∧ r.1 ≤ L ∧ (w ≠ 6 → pn r.2.2 6 = pn P 6) := by
  unfold cnm at h
  by_cases w0 : w = 0
  · rw [if_pos w0] at h
    obtain ⟨a, ea, h⟩ := bnd_inv h
    obtain ⟨b, eb, h⟩ := bnd_inv h
    have na := nmb_ok ea hp
    have nb := nmb_ok eb na.2.2.2
    cases h
    exact ⟨vp_size hV (h0 w0) ⟨by omega, by omega⟩ ⟨by omega, by omega⟩, htc, by omega, nb.2.2.2, fun _ => rfl⟩
  rw [if_neg w0] at h
  by_cases w1 : w = 1
  · rw [if_pos w1] at h
    obtain ⟨a, ea, h⟩ := bnd_inv h
    have na := nmb_ok ea hp
    cases h
    exact ⟨vp_set hV (by omega), htc, na.2.2.1, na.2.2.2, fun _ => rfl⟩
  rw [if_neg w1] at h
  by_cases w2 : w = 2
  · rw [if_pos w2] at h
    obtain ⟨a, ea, h⟩ := bnd_inv h
    have na := nmb_ok ea hp
    cases h
    exact ⟨vp_set hV (by omega), htc, na.2.2.1, na.2.2.2, fun _ => rfl⟩
  rw [if_neg w2] at h
  by_cases w3 : w = 3
  · rw [if_pos w3] at h
    obtain ⟨a, ea, h⟩ := bnd_inv h
    have na := nmb_ok ea hp
    cases h
    exact ⟨vp_set hV (by omega), htc, na.2.2.1, na.2.2.2, fun _ => rfl⟩
  rw [if_neg w3] at h
  by_cases w4 : w = 4
  · rw [if_pos w4] at h
    obtain ⟨a, ea, h⟩ := bnd_inv h
    obtain ⟨b, eb, h⟩ := bnd_inv h
    obtain ⟨c, ec, h⟩ := bnd_inv h
    obtain ⟨d, ed, h⟩ := bnd_inv h
    have na := nmb_ok ea hp
    have nb := nmb_ok eb na.2.2.2
    have nc := nmb_ok ec nb.2.2.2
    have nd := nmb_ok ed nc.2.2.2
    cases h
    exact ⟨vp_strip hV (h4 w4), htc, by omega, nd.2.2.2, fun _ => rfl⟩
  rw [if_neg w4] at h
  by_cases w5 : w = 5
  · rw [if_pos w5] at h
    obtain ⟨a, ea, h⟩ := bnd_inv h
    have na := nmb_ok ea hp
    split at h
    · cases h
    · obtain ⟨b, eb, h⟩ := bnd_inv h
      have nb := nmb_ok eb na.2.2.2
      cases h
      exact ⟨vp_pass hV nb.2.1, ins_32 _ _, by omega, nb.2.2.2, fun _ => rfl⟩
  rw [if_neg w5] at h
  obtain ⟨a, ea, h⟩ := bnd_inv h
  obtain ⟨b, eb, h⟩ := bnd_inv h
  obtain ⟨c, ec, h⟩ := bnd_inv h
  have na := nmb_ok ea hp
  have nb := nmb_ok eb na.2.2.2
  have nc := nmb_ok ec nb.2.2.2
  cases h
  exact ⟨vp_kind hV (h6 (by omega)) (by omega) ⟨nb.1, nb.2.1⟩ ⟨nc.1, nc.2.1⟩, htc, by omega, nc.2.2.2, fun q => absurd (by omega) q⟩
def VC (C : CT) : Prop := VP C.2.2.2 ∧ (C.2.1.testBit 6 = false → pn C.2.2.2 6 = 0) ∧ C.2.1 < 2 ^ 32 ∧ C.2.2.1 < 2 ^ 32
theorem endc_ok {t : TX} {L p q : Nat} (h : endc t L p = .ok q) : p < q ∧ q ≤ L := by
  unfold endc at h
  split at h
  · cases h
    have := rn_ge (isB t) L p
    unfold sk at *
    omega
  · cases h
theorem late_f {tk : Nat} (h : ¬ late tk = true) : tk.testBit 6 = false := by
  unfold late at h
  simp only [Bool.or_eq_true, not_or, Bool.not_eq_true] at h
  exact h.2
theorem tld_f {w tk : Nat} {P : PT} (h : ¬ tld w tk P = true) : (w = 4 → pn P 5 < 8) ∧ (w = 6 → pn P 6 < 12) := by
  unfold tld at h
  refine ⟨fun e => ?_, fun e => ?_⟩
  · rw [if_pos e, decide_eq_true_iff] at h; omega
  · rw [if_neg (by omega), if_neg (by omega), if_pos e, decide_eq_true_iff] at h; omega
theorem cls_v {t : TX} {L : Nat} {C D : CT} (h : cls t L C = .ok D) (hp : C.1 ≤ L) (hV : VC C) : VC D ∧ C.1 < D.1 ∧ D.1 ≤ L := by
  obtain ⟨v1, v2, v3, v4⟩ := hV
  unfold cls at h
  have r1 := rn_ge (isL t) L C.1
  have r2 : rn (isL t) L C.1 ≤ L := rn_le hp
  have wl := wrd_le t C.1 (rn (isL t) L C.1)
  generalize rn (isL t) L C.1 = e at *
  generalize wrd t C.1 e = w at *
  split at h
  · cases h
  · next c1 =>
    split at h
    · cases h
    · next c2 =>
      obtain ⟨t4, t6⟩ := tld_f c2
      obtain ⟨r, er, h⟩ := bnd_inv h
      obtain ⟨q, eq, h⟩ := bnd_inv h
      have w7 : w < 7 := by omega
      have := cnm_v er v1 r2 w7 v4 (fun e0 => v2 (late_f fun l => c1 (Or.inr ⟨e0, l⟩))) t4 t6
      have e2 := endc_ok eq
      cases h
      refine ⟨⟨this.1, fun hb => ?_, ins_32 _ _, this.2.1⟩, by show C.1 < q; omega, e2.2⟩
      have hb : (ins C.2.1 w).testBit 6 = false := hb
      rw [tb_ins v3 (by omega), Bool.or_eq_false_iff] at hb
      show pn r.2.2 6 = 0
      rw [this.2.2.2.2 (fun z => by rw [z] at hb; cases hb.2)]
      exact v2 hb.1
def RS (m : Nat → Nat → Int32) (L : Nat) : Rs CT → Prop
  | .ok D => KS m L (.ok D.1) ∧ m 13 6 = nI D.2.1 ∧ m 13 7 = nI D.2.2.1 ∧ EPd m D.2.2.2
  | .error w => KS m L (.error w)
section READ
variable {X : a_X} {m : Nat → Nat → Int32} {t : TX} {L : Nat}
theorem TXm.d {m' : Nat → Nat → Int32} (h : TXm m t L) (e : Fr D13 m m') : TXm m' t L := h.fr (e 14 (by omega))
theorem s_readClause {Q : (Nat → Nat → Int32) → Prop} {C : CT} (hT : TXm m t L) (hR : RS m L (.ok C)) (hV : VC C) (h : ∀ m', Fr D13 m m' → RS m' L (cls t L C) → Q m') : CallV X mX6_readClause [.ref 13, .ref 7] m Q := by
  obtain ⟨p, tk, tc, P⟩ := C
  obtain ⟨K, k6, k7, E⟩ := hR
  obtain ⟨v1, v2, v3, v4⟩ := hV
  dsimp only at K k6 k7 E v1 v2 v3 v4
  have hp := K.2.2.1
  have h2 := K.2.1
  refine eX6_readClause_0 (s_readWord hT K fun m1 g1 K1 => ?_)
  unfold cls at h
  dsimp only at h
  have r2 : rn (isL t) L p ≤ L := rn_le hp
  have wl := wrd_le t p (rn (isL t) L p)
  generalize rn (isL t) L p = e at *
  generalize wrd t p e = w at *
  rw [h2]
  by_cases w7 : w = 7
  · rw [if_pos (Or.inl w7)] at h
    rw [if_pos w7]
    exact ⟨fun _ => s_fail K1 (f := 1) (by omega) fun m3 g3 _ _ K3 => qV (h m3 (g1.tr g3).d K3), fun c => absurd rfl c⟩
  · rw [if_neg w7]
    have hw : w < 7 := by omega
    have nm1 : ¬ nI w = -1 := fun q => by
      have : ¬ nI w < 0 := nI_pos (by omega)
      rw [q] at this
      exact this (by decide)
    have k6' : m1 13 6 = nI tk := by rw [g1.2 6 (by omega)]; exact k6
    have E1 := E.g g1
    have rest : ¬ (w = 7 ∨ w = 0 ∧ late tk = true) → CallI X mX6_isTold [.ref 13, .ref 7, .int (nI w)] m1 (fun v5 m4 => (v5 = 0 → ∀ m6, m6 = a_up m4 13 6 ((m4 13 6) ||| (1 <<< (nI w &&& 31))) → CallV X mX6_readNumbers [.ref 13, .ref 7, .int (nI w)] m6 (fun m7 => CallV X mX6_readEnd [.ref 13] m7 (fun m8 => (QV Q) none m8))) ∧ (¬ v5 = 0 → CallV X mX6_fail [.ref 13, .int 3, .int (nI p)] m4 (fun m9 => (QV Q) none m9))) := by
      intro c1
      rw [if_neg c1] at h
      refine s_isTold hw E1 v1.2.2.2.2.2.1 v1.2.2.2.2.2.2.1 k6' ⟨fun z m6 e6 => ?_, fun z => ?_⟩
      · rw [bI_0] at z
        have nt : ¬ tld w tk P = true := by rw [z]; decide
        rw [if_neg nt] at h
        obtain ⟨t4, t6⟩ := tld_f nt
        rw [k6', nI_ins (by omega)] at e6
        have o6 : ∀ i, i ≠ 6 → m6 13 i = m1 13 i := fun i hi => by rw [e6, a_up_n _ _ (Or.inr hi)]
        have F6 : Fr D13 m m6 := e6 ▸ Fr.up g1.d (Or.inl rfl)
        have T6 := hT.d F6
        have K6 : KS m6 L (.ok e) := by
          obtain ⟨a1, a2, a3, a4, a5⟩ := K1
          exact ⟨by rw [o6 1 (by omega)]; exact a1, by rw [o6 2 (by omega)]; exact a2, a3, by rw [o6 4 (by omega)]; exact a4, by rw [o6 5 (by omega)]; exact a5⟩
        have E6 : EPd m6 P := E1.fr fun c c1 c2 => by rw [e6, a_up_c _ _ (by omega)]
        refine s_readNumbers hw T6 K6 E6 v1 t6 (by rw [o6 7 (by omega), g1.2 7 (by omega)]; exact k7) v4 fun m7 f7 n7 R7 => ?_
        have F7 := F6.tr f7
        have T7 := hT.d F7
        cases er : cnm t L w e tc P with
        | error z => 
          rw [er] at R7 h
          exact s_readEndE T7 R7 fun m8 g8 K8 => qV (h m8 (F7.tr g8.d) K8)
        | ok r =>
          rw [er] at R7 h
          obtain ⟨K7, q7, E7⟩ := R7
          refine s_readEnd T7 K7 fun m8 g8 K8 => qV (h m8 (F7.tr g8.d) ?_)
          rw [bnd_ok]
          cases en : endc t L r.1 with
          | error z => rw [en] at K8; exact K8
          | ok q =>
            rw [en] at K8
            exact ⟨K8, by rw [g8.2 6 (by omega), n7, e6, a_up_s], by rw [g8.2 7 (by omega)]; exact q7, E7.g g8⟩
      · rw [bI_n0] at z
        rw [if_pos z] at h
        exact s_fail K1 (f := 3) (by omega) fun m3 g3 _ _ K3 => qV (h m3 (g1.tr g3).d K3)
    refine ⟨fun c => absurd c nm1, fun _ => ⟨fun c => rest ?_, fun c => s_isLate k6' ⟨fun z => rest ?_, fun z => ?_⟩⟩⟩
    · rintro (q | q)
      · exact w7 q
      · exact c (by rw [q.1]; rfl)
    · rw [bI_0] at z
      rintro (q | q)
      · exact w7 q
      · rw [z] at q; cases q.2
    · rw [bI_n0] at z
      have w0 : w = 0 := (nI_eq (b := 0) (by omega) (by omega)).mp c
      rw [if_pos (Or.inr ⟨w0, z⟩)] at h
      exact s_fail K1 (f := 1) (by omega) fun m3 g3 _ _ K3 => qV (h m3 (g1.tr g3).d K3)
theorem s_untell {Q : (Nat → Nat → Int32) → Prop} (h : ∀ m', Fr (fun c => 7 ≤ c ∧ c ≤ 12) m m' → EPd m' untP → Q m') : CallV X mX5_untell [.ref 7] m Q := by
  refine eX5_untell_0 fun m1 e1 m2 e2 m3 e3 m4 e4 m5 e5 m6 e6 m7 e7 => s_fill sh8 (by omega) fun m8 f8 g8 => s_fill sh9 (by omega) fun m9 f9 g9 => qV (h m9 ?_ ⟨fun i hi => ?_, fun x hx => ?_, fun y hy => ?_, fun k hk => absurd hk (Nat.not_lt_zero k)⟩)
  · intro c hc
    rw [f9 c (by omega), f8 c (by omega), e7, a_up_c _ _ (by omega), e6, a_up_c _ _ (by omega), e5, a_up_c _ _ (by omega), e4, a_up_c _ _ (by omega), e3, a_up_c _ _ (by omega), e2, a_up_c _ _ (by omega), e1, a_up_c _ _ (by omega)]
  · rw [f9 7 (by omega), f8 7 (by omega)]
    have w : m7 7 i = if i = 6 then 0 else if i = 5 then 0 else if i = 4 then 60 else if i = 3 then 10 else if i = 2 then 3 else if i = 1 then 8 else if i = 0 then 16 else m 7 i := by
      rw [e7, a_up_i, e6, a_up_i, e5, a_up_i, e4, a_up_i, e3, a_up_i, e2, a_up_i, e1, a_up_i]
    rw [w]
    rcases (by omega : i = 0 ∨ i = 1 ∨ i = 2 ∨ i = 3 ∨ i = 4 ∨ i = 5 ∨ i = 6) with q | q | q | q | q | q | q <;> subst q <;> rfl
  · rw [f9 8 (by omega), g8 x hx]; rfl
  · rw [g9 y hy]
    exact isS_0.cg fun i _ => by
      show false = (_ && false)
      rw [Bool.and_false]
theorem prsF_stop {f : Nat} {C : CT} (h : L ≤ C.1) : prsF t L f C = .ok C.2.2.2 := by
  cases f with
  | zero => rfl
  | succ f => exact if_neg (by omega)
theorem s_readInto {Q : Int32 → (Nat → Nat → Int32) → Prop} (hT : TXm m t L) (h1 : m 13 1 = nI L) (h : ∀ m', Fr D13 m m' → (∃ p, KS m' L (bnd (prs t L) fun _ => .ok p)) → (∀ P, prs t L = .ok P → EPd m' P ∧ VP P) → Q (match prs t L with | .ok _ => 1 | .error _ => 0) m') : CallI X mX6_readInto [.ref 13, .ref 7] m Q := by
  have hL := hT.1
  refine eX6_readInto_0 fun m1 e1 m2 e2 m3 e3 m4 e4 m5 e5 => s_untell fun m6 f6 E6 => ?_
  have F5 : Fr D13 m m5 := by rw [e5, e4, e3, e2, e1]; exact Fr.up (Fr.up (Fr.up (Fr.up (Fr.up Fr.rf (Or.inl rfl)) (Or.inl rfl)) (Or.inl rfl)) (Or.inl rfl)) (Or.inl rfl)
  have F6 : Fr D13 m m6 := F5.tr (f6.mono fun c hc => Or.inr hc)
  have k6 : m6 13 = m5 13 := f6 13 (by omega)
  have K6 : KS m6 L (.ok 0) := by
    refine ⟨?_, ?_, Nat.zero_le _, ?_, ?_⟩
    · rw [k6, e5, a_up_n _ _ (Or.inr (by omega)), e4, a_up_n _ _ (Or.inr (by omega)), e3, a_up_n _ _ (Or.inr (by omega)), e2, a_up_n _ _ (Or.inr (by omega)), e1, a_up_n _ _ (Or.inr (by omega))]; exact h1
    · rw [k6, e5, a_up_n _ _ (Or.inr (by omega)), e4, a_up_n _ _ (Or.inr (by omega)), e3, a_up_n _ _ (Or.inr (by omega)), e2, a_up_n _ _ (Or.inr (by omega)), e1, a_up_s]; rfl
    · rw [k6, e5, a_up_n _ _ (Or.inr (by omega)), e4, a_up_n _ _ (Or.inr (by omega)), e3, a_up_n _ _ (Or.inr (by omega)), e2, a_up_s]
    · rw [k6, e5, a_up_n _ _ (Or.inr (by omega)), e4, a_up_n _ _ (Or.inr (by omega)), e3, a_up_s]
  have q6 : m6 13 6 = 0 := by rw [k6, e5, a_up_n _ _ (Or.inr (by omega)), e4, a_up_s]
  have q7 : m6 13 7 = 0 := by rw [k6, e5, a_up_s]
  refine s_skipB (hT.d F6) K6 fun m7 g7 _ K7 => ?_
  have F7 := F6.tr g7.d
  let C0 : CT := (sk t L 0, 0, 0, untP)
  have V0 : VC C0 := ⟨vp_unt, fun _ => rfl, by show 0 < 2 ^ 32; decide, by show 0 < 2 ^ 32; decide⟩
  refine lpf (a := 0) (b := 301) (by omega) (I := fun i m' => Fr D13 m m' ∧ i ≤ 300 ∧ ((∃ C, RS m' L (.ok C) ∧ VC C ∧ i ≤ C.1 ∧ prsF t L (300 - i) C = prs t L) ∨ ∃ w, RS m' L (.error w) ∧ prs t L = .error w)) (W := fun i m' => Wp X mX6_readInto 35 [some (.ref 13), some (.ref 7), some (.int (nI i))] [] m' (QI Q)) ?_ ?_ ⟨F7, by omega, Or.inl ⟨C0, ⟨K7, by rw [g7.2 6 (by omega)]; exact q6, by rw [g7.2 7 (by omega)]; exact q7, E6.g g7⟩, V0, Nat.zero_le _, rfl⟩⟩
  · rintro i - hi m8 ⟨F8, hi3, hI⟩ next
    have T8 := hT.d F8
    have finOk : ∀ C, RS m8 L (.ok C) → VC C → prs t L = .ok C.2.2.2 → CallI X mX6_isFaultless [.ref 13] m8 (fun v2 m1 => a_fit .boolean v2 = true ∧ (QI Q) (some (.int v2)) m1) := fun C R V e => by
      have h := h m8 F8 ⟨C.1, by rw [e]; exact R.1⟩ fun P hP => by rw [e] at hP; cases hP; exact ⟨R.2.2.2, V.1⟩
      rw [e] at h
      exact s_isFaultless R.1 ⟨rfl, qI h⟩
    have finEr : ∀ w, RS m8 L (.error w) → prs t L = .error w → CallI X mX6_isFaultless [.ref 13] m8 (fun v2 m1 => a_fit .boolean v2 = true ∧ (QI Q) (some (.int v2)) m1) := fun w R e => by
      have h := h m8 F8 ⟨0, by rw [e]; exact R⟩ fun P hP => by rw [e] at hP; cases hP
      rw [e] at h
      exact s_isFaultless (e := .error w) R ⟨rfl, qI h⟩
    rcases hI with ⟨C, R, V, hiC, eP⟩ | ⟨w, R, eP⟩
    · have stop : L ≤ C.1 → prs t L = .ok C.2.2.2 := fun hl => by rw [← eP]; exact prsF_stop hl
      refine eX6_readInto_35 (pk_le 300 i (fun c => finOk C R V (stop (by omega))) (fun c => ?_))
      rw [R.1.1, R.1.2.1]
      have hCL := R.1.2.2.1
      refine pk_le L C.1 (fun c2 => finOk C R V (stop c2)) (fun c2 => s_isFaultless R.1 ⟨fun c3 => absurd c3 (show ¬ (1 : Int32) = 0 by decide), fun _ => s_readClause T8 R V fun m9 f9 R9 => ?_⟩)
      have F9 := F8.tr f9
      have e300 : 300 - i = (300 - (i + 1)) + 1 := by omega
      have un : prsF t L (300 - i) C = bnd (cls t L C) fun D => prsF t L (300 - (i + 1)) (sk t L D.1, D.2) := by rw [e300]; exact if_pos c2
      rw [un] at eP
      rw [nI_1]
      cases er : cls t L C with
      | error w =>
        rw [er] at R9 eP
        refine s_skipB (e := .error w) (hT.d F9) R9 fun m10 g10 _ K10 => next m10 ⟨F9.tr g10.d, by omega, Or.inr ⟨w, K10, eP.symm⟩⟩
      | ok D =>
        rw [er] at R9 eP
        obtain ⟨K9, n6, n7, E9⟩ := R9
        obtain ⟨VD, d1, d2⟩ := cls_v er (by omega) V
        have sg := rn_ge (isB t) L D.1
        refine s_skipB (hT.d F9) K9 fun m10 g10 _ K10 => next m10 ⟨F9.tr g10.d, by omega, Or.inl ⟨(sk t L D.1, D.2), ⟨K10, by rw [g10.2 6 (by omega)]; exact n6, by rw [g10.2 7 (by omega)]; exact n7, E9.g g10⟩, VD, ?_, eP⟩⟩
        show i + 1 ≤ sk t L D.1
        unfold sk
        omega
    · obtain ⟨k1, p, hp, k2⟩ := KS.at (e := .error w) R
      refine eX6_readInto_35 (pk_le 300 i (fun c => finEr w R eP) (fun c => ?_))
      rw [k1, k2]
      refine pk_le L p (fun c2 => finEr w R eP) (fun c2 => s_isFaultless (e := .error w) R ⟨fun _ => finEr w R eP, fun c => absurd rfl c⟩)
  · rintro m8 ⟨F8, hi3, hI⟩
    omega
theorem s_planCopy {Q : (Nat → Nat → Int32) → Prop} {P : PT} (hE : EPd m P) (hV : VP P) (h : ∀ m', Fr (fun c => 1 ≤ c ∧ c ≤ 6) m m' → EP m' P → Q m') : CallV X mX5_copyFrom [.ref 1, .ref 7] m Q := by
  have h6 := hV.2.2.2.2.2.2.1
  obtain ⟨d1, d2, d3, d4⟩ := hE
  refine eX5_copyFrom_0 fun m1 e1 m2 e2 m3 e3 m4 e4 m5 e5 m6 e6 m7 e7 m8 e8 m9 e9 m10 e10 m11 e11 m12 e12 => qV (h m12 ?_ ⟨fun i hi => ?_, fun x hx => ?_, fun y hy => ?_, fun k hk => ?_⟩)
  · intro c hc
    rw [e12, a_row_n _ _ (by omega), e11, a_row_n _ _ (by omega), e10, a_row_n _ _ (by omega), e9, a_row_n _ _ (by omega), e8, a_row_n _ _ (by omega), e7, a_up_c _ _ (by omega), e6, a_up_c _ _ (by omega), e5, a_up_c _ _ (by omega), e4, a_up_c _ _ (by omega), e3, a_up_c _ _ (by omega), e2, a_up_c _ _ (by omega), e1, a_up_c _ _ (by omega)]
  · have o : ∀ j, m6 7 j = m 7 j ∧ m5 7 j = m 7 j ∧ m4 7 j = m 7 j ∧ m3 7 j = m 7 j ∧ m2 7 j = m 7 j ∧ m1 7 j = m 7 j := fun j => by
      have a1 : m1 7 j = m 7 j := by rw [e1, a_up_c _ _ (by omega)]
      have a2 : m2 7 j = m 7 j := by rw [e2, a_up_c _ _ (by omega), a1]
      have a3 : m3 7 j = m 7 j := by rw [e3, a_up_c _ _ (by omega), a2]
      have a4 : m4 7 j = m 7 j := by rw [e4, a_up_c _ _ (by omega), a3]
      have a5 : m5 7 j = m 7 j := by rw [e5, a_up_c _ _ (by omega), a4]
      have a6 : m6 7 j = m 7 j := by rw [e6, a_up_c _ _ (by omega), a5]
      exact ⟨a6, a5, a4, a3, a2, a1⟩
    have w : m12 1 i = if i = 6 then m 7 6 else if i = 5 then m 7 5 else if i = 4 then m 7 4 else if i = 3 then m 7 3 else if i = 2 then m 7 2 else if i = 1 then m 7 1 else if i = 0 then m 7 0 else m 1 i := by
      rw [e12, a_row_n _ _ (by omega), e11, a_row_n _ _ (by omega), e10, a_row_n _ _ (by omega), e9, a_row_n _ _ (by omega), e8, a_row_n _ _ (by omega)]
      rw [e7, a_up_i, (o 6).1, e6, a_up_i, (o 5).2.1, e5, a_up_i, (o 4).2.2.1, e4, a_up_i, (o 3).2.2.2.1, e3, a_up_i, (o 2).2.2.2.2.1, e2, a_up_i, (o 1).2.2.2.2.2, e1, a_up_i]
    rw [w]
    rcases (by omega : i = 0 ∨ i = 1 ∨ i = 2 ∨ i = 3 ∨ i = 4 ∨ i = 5 ∨ i = 6) with q | q | q | q | q | q | q <;> subst q
    · exact d1 0 (by omega)
    · exact d1 1 (by omega)
    · exact d1 2 (by omega)
    · exact d1 3 (by omega)
    · exact d1 4 (by omega)
    · exact d1 5 (by omega)
    · exact d1 6 (by omega)
  · rw [e12, a_row_n _ _ (by omega), e11, a_row_n _ _ (by omega), e10, a_row_n _ _ (by omega), e9, a_row_n _ _ (by omega), e8, a_row_s, pk_cpy_in (by omega) (by omega), Nat.sub_zero, Nat.zero_add]
    rw [e7, a_up_c _ _ (by omega), e6, a_up_c _ _ (by omega), e5, a_up_c _ _ (by omega), e4, a_up_c _ _ (by omega), e3, a_up_c _ _ (by omega), e2, a_up_c _ _ (by omega), e1, a_up_c _ _ (by omega)]
    exact d2 x hx
  · rw [e12, a_row_n _ _ (by omega), e11, a_row_n _ _ (by omega), e10, a_row_n _ _ (by omega), e9, a_row_s, pk_cpy_in (by omega) (by omega), Nat.sub_zero, Nat.zero_add]
    rw [e8, a_row_n _ _ (by omega), e7, a_up_c _ _ (by omega), e6, a_up_c _ _ (by omega), e5, a_up_c _ _ (by omega), e4, a_up_c _ _ (by omega), e3, a_up_c _ _ (by omega), e2, a_up_c _ _ (by omega), e1, a_up_c _ _ (by omega)]
    exact d3 y hy
  · have q4 : m12 4 k = m 10 k := by
      rw [e12, a_row_n _ _ (by omega), e11, a_row_n _ _ (by omega), e10, a_row_s, pk_cpy_in (by omega) (by omega), Nat.sub_zero, Nat.zero_add]
      rw [e9, a_row_n _ _ (by omega), e8, a_row_n _ _ (by omega), e7, a_up_c _ _ (by omega), e6, a_up_c _ _ (by omega), e5, a_up_c _ _ (by omega), e4, a_up_c _ _ (by omega), e3, a_up_c _ _ (by omega), e2, a_up_c _ _ (by omega), e1, a_up_c _ _ (by omega)]
    have q5 : m12 5 k = m 11 k := by
      rw [e12, a_row_n _ _ (by omega), e11, a_row_s, pk_cpy_in (by omega) (by omega), Nat.sub_zero, Nat.zero_add]
      rw [e10, a_row_n _ _ (by omega), e9, a_row_n _ _ (by omega), e8, a_row_n _ _ (by omega), e7, a_up_c _ _ (by omega), e6, a_up_c _ _ (by omega), e5, a_up_c _ _ (by omega), e4, a_up_c _ _ (by omega), e3, a_up_c _ _ (by omega), e2, a_up_c _ _ (by omega), e1, a_up_c _ _ (by omega)]
    have q6 : m12 6 k = m 12 k := by
      rw [e12, a_row_s, pk_cpy_in (by omega) (by omega), Nat.sub_zero, Nat.zero_add]
      rw [e11, a_row_n _ _ (by omega), e10, a_row_n _ _ (by omega), e9, a_row_n _ _ (by omega), e8, a_row_n _ _ (by omega), e7, a_up_c _ _ (by omega), e6, a_up_c _ _ (by omega), e5, a_up_c _ _ (by omega), e4, a_up_c _ _ (by omega), e3, a_up_c _ _ (by omega), e2, a_up_c _ _ (by omega), e1, a_up_c _ _ (by omega)]
    rw [q4, q5, q6]
    exact d4 k hk
end READ
