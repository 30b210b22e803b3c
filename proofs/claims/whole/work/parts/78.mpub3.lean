/-! ===== the model's calls: tearing, rain, images, feed ===== -/
section MPUB3
variable {X : a_X} {m : Nat → Nat → Int32} {S : ST} {P : PT} {B : BT} {Q : Int32 → (Nat → Nat → Int32) → Prop}
/-- only 78 below 200 has changed -/
def G0 (m m' : Nat → Nat → Int32) : Prop := Fr (fun c => c = 78) m m' ∧ ∀ i, 200 ≤ i → m' 78 i = m 78 i
theorem s_tearAt {c : Nat} (hM : MP m P) (hVP : VP P) (hB : MB m 0 B) (hV : VB P B) (hc : c < 128) (h : ∀ m', G0 m m' → MB m' 0 (tearB P B c) → Q (tI (top P B c)) m') : CallI X mX9_tearAt [.ref 77, .int (nI c)] m Q := by
  have hn := hV.1
  have hT := top_le hV c
  refine eX9_tearAt_0 (s_mtop (r := 0) hM hVP hB hV (by omega) hc ?_)
  unfold tearB at h
  by_cases t0 : top P B c = 0
  · rw [if_pos t0] at h
    rw [t0] at h ⊢
    exact ⟨fun _ => qI (h m ⟨Fr.rf, fun _ _ => rfl⟩ hB), fun d => absurd (show (-1 : Int32) < 0 by decide) d⟩
  · rw [if_neg t0] at h
    have hl := top_has (P := P) (B := B) (c := c) (t := top P B c - 1) (by omega)
    rw [tI_s _ t0] at h ⊢
    generalize top P B c - 1 = t at *
    refine ⟨fun d => absurd d (nI_pos (by omega)), fun _ => ?_⟩
    rw [show (100 : Int32) = nI 100 from rfl, show (4 : Int32) = nI 4 from rfl, show (32 : Int32) = nI 32 from rfl, pk_mul, pk_div (by omega) (by omega) (by omega), nI_add, nI_add, rem_nI (by omega) (by omega) (by omega), nI_clamp (n := 100 + 4 * t + c / 32) (by omega)]
    refine ⟨pk_in (100 + 4 * t + c / 32) 800 (by omega), pk_in (100 + 4 * t + c / 32) 800 (by omega), fun m3 e3 => qI (h m3 ⟨e3 ▸ Fr.up Fr.rf rfl, fun i hi => by rw [e3, a_up_n _ _ (Or.inr (by omega))]⟩ ?_)⟩
    have z : ∀ i, i ≠ 100 + 4 * t + c / 32 → m3 78 i = m 78 i := fun i hi => by rw [e3, a_up_n _ _ (Or.inr hi)]
    obtain ⟨b1, b2, b3, b4, b5⟩ := hB
    refine ⟨by rw [z _ (by omega)]; exact b1, by rw [z _ (by omega)]; exact b2, by rw [z _ (by omega)]; exact b3, fun i hi => ?_, fun o ho => by rw [z _ (by omega)]; exact b5 o ho⟩
    have hi : i < bn B := hi
    obtain ⟨a1, a2, a3, a4, a5, a6⟩ := b4 i hi
    refine ⟨by rw [z _ (by omega)]; exact a1, by rw [z _ (by omega)]; exact a2, by rw [z _ (by omega)]; exact a3, by rw [z _ (by omega)]; exact a4, by rw [z _ (by omega)]; exact a5, fun d hd => ?_⟩
    rw [btn_tor, ← a6 d hd]
    by_cases q : 0 + 100 + 4 * i + d / 32 = 100 + 4 * t + c / 32
    · have e1 : i = t := by omega
      have e2 : d / 32 = c / 32 := by omega
      rw [q, e3, a_up_s, b_or, b_one (by omega) (by omega), decide_eq_true e1, Bool.true_and]
      congr 1
      exact decide_eq_decide.mpr ⟨fun r => by omega, fun r => by omega⟩
    · have r : (decide (i = t) && decide (d = c)) = false := by
        rw [← Bool.decide_and]
        exact decide_eq_false fun r => q (by rw [r.1, r.2, Nat.zero_add])
      rw [z _ q, r, Bool.or_false]
theorem MI.g0 {m' : Nat → Nat → Int32} {B2 : BT} (hC : MI m S) (hV : VS S) (g : G0 m m') (hB : MB m' 0 B2) : MI m' (wB S B2) := hC.bills hV (fun c hc => g.1 c (by omega)) (fun i hi => by rw [g.1 77 (by omega)]) (fun j hj => g.2 j (by omega)) hB
theorem m_tear (hC : MI m S) (hV : VS S) {x y : Int32} (h : ∀ m', Fr (fun c => 77 ≤ c) m m' → MI m' (nTear S x y) → Q (aAbove S x y) m') : CallI X mX9_tear [.ref 77, .int x, .int y] m Q := by
  obtain ⟨hP, hB, -⟩ := id hC
  unfold aAbove nTear at h
  refine eX9_tear_0 (s_isCell hP hV.1 ?_)
  rcases isC_cases hV.1 x y with e | ⟨i, j, hi, hj, hi2, hj2, rfl, rfl, e, ec, hc⟩
  · rw [e, if_neg (by decide), if_neg (by decide)] at h
    rw [e]
    exact ⟨fun _ => qI (h m Fr.rf hC), fun c => absurd rfl c⟩
  · rw [e, if_pos rfl, if_pos rfl, ec] at h
    rw [e, show (16 : Int32) = nI 16 from rfl, pk_mul, nI_add]
    exact ⟨fun c => absurd c (by decide), fun _ => s_tearAt hP hV.1 hB hV.2.1 hc fun m' g B' => qI (h m' (g.1.mono fun c hc => by omega) (hC.g0 hV g B'))⟩
theorem m_rain (hC : MI m S) (hV : VS S) {k : Int32} (h : ∀ m', Fr (fun c => 77 ≤ c) m m' → MI m' (nRain S k) → Q (aRain S k) m') : CallI X mX9_rain [.ref 77, .int k] m Q := by
  obtain ⟨hP, hB, -⟩ := id hC
  have vP := hV.1
  have vB := hV.2.1
  unfold aRain nRain at h
  refine eX9_rain_0 (s_in (lo := 0) (hi := 100) rfl rfl ?_)
  rw [in_ink0 (hi := 100) (n := 100) (by omega) rfl]
  refine ⟨fun c => ?_, fun c => ?_⟩
  · rw [bI_n0] at c
    rw [if_pos c, if_pos c] at h
    have hv : ∀ c, VB (qP S) (rnN (qP S) k c (0, qB S)).2 := VB.rain (s := (0, qB S)) vB
    refine lpf (a := 0) (b := 128) (m := m) (by omega) (I := fun c m' => G0 m m' ∧ MB m' 0 (rnN (qP S) k c (0, qB S)).2) (W := fun c m' => Wp X mX9_rain 19 [some (.ref 77), some (.int k), some (.int (nI (rnN (qP S) k c (0, qB S)).1)), some (.int (nI c)), none] [] m' (QI Q)) ?_ ?_ ⟨⟨Fr.rf, fun _ _ => rfl⟩, hB⟩
    · rintro c - hc m1 ⟨g1, B1⟩ next
      have V1 := hv c
      have M1 : MP m1 (qP S) := hP.fs fun d hd => g1.1 d (by omega)
      rw [rnN_s] at next
      generalize rnN (qP S) k c (0, qB S) = u at *
      unfold rst at next
      have hn := V1.1
      have hT := top_le V1 c
      refine eX9_rain_19 (pk_le 128 c (fun d => absurd d (by omega)) (fun _ => s_mtop (r := 0) M1 vP B1 V1 (by omega) hc ?_))
      rw [nI_1, nI_1]
      by_cases t0 : top (qP S) u.2 c = 0
      · rw [if_pos t0] at next
        rw [t0]
        exact ⟨fun _ => next m1 ⟨g1, B1⟩, fun d => absurd (show (-1 : Int32) < 0 by decide) d⟩
      · rw [if_neg t0] at next
        rw [tI_s _ t0]
        refine ⟨fun d => absurd d (nI_pos (by omega)), fun _ => eX9_draw_0 ?_⟩
        rw [show Int32.toNatClampNeg 190 = 190 from rfl, show m1 78 190 = bsd u.2 from B1.2.2.1, nxt_e]
        refine ⟨pk_in 190 800 (by omega), pk_in 190 800 (by omega), fun m2 e2 => ⟨pk_in 190 800 (by omega), by decide, ?_⟩⟩
        have r2 : m2 78 190 = nxt (bsd u.2) := by rw [e2, a_up_s]
        have B2 : MB m2 0 (sdB u.2 (nxt (bsd u.2))) := B1.sd hn e2
        have g2 : G0 m m2 := ⟨e2 ▸ Fr.up g1.1 rfl, fun i hi => by rw [e2, a_up_n _ _ (Or.inr (by omega))]; exact g1.2 i hi⟩
        rw [r2, drw_e]
        refine ⟨_, rfl, fun q => ?_, fun q => ?_⟩
        · rw [if_pos q] at next
          exact next m2 ⟨g2, B2⟩
        · rw [if_neg q] at next
          exact s_tearAt (hP.fs fun d hd => g2.1 d (by omega)) vP B2 (V1.sd _) hc fun m3 g3 B3 => next m3 ⟨⟨g2.1.tr g3.1, fun i hi => (g3.2 i hi).trans (g2.2 i hi)⟩, B3⟩
    · rintro m1 ⟨g1, B1⟩
      exact eX9_rain_19 (pk_le 128 128 (fun _ => qI (h m1 (g1.1.mono fun c hc => by omega) (hC.g0 hV g1 B1))) (fun d => absurd d (by omega)))
  · rw [bI_0] at c
    rw [if_neg (by rw [c]; decide), if_neg (by rw [c]; decide)] at h
    exact qI (h m Fr.rf hC)
theorem MI.im {m' : Nat → Nat → Int32} (hC : MI m S) (hV : VS S) (e : ∀ c, c = 77 ∨ 80 ≤ c → m' c = m c) (e78 : ∀ j, j < 200 → m' 78 j = m 78 j) {I0 I1 : IM} (h0 : MI2 m' 0 I0) (h1 : MI2 m' 1 I1) : MI m' (qP S, qB S, I0, I1, qF S, (qL S, qT S), qW S) := by
  obtain ⟨a1, a2, a3, a4, a5, a6⟩ := hC
  refine ⟨a1.fs fun c hc => e c (by omega), a2.fr hV.2.1.1 fun j h1 h2 => e78 j (by omega), h0, h1, a5.fr (by rw [e 77 (by omega)]) fun c hc => e c (by omega), ?_⟩
  show m' 77 13 = nI (qL S) ∧ (∀ i, i < qL S → m' 86 i = nI (qT S i)) ∧ m' 77 18 = qW S
  rw [e 77 (by omega), e 86 (by omega)]; exact a6
theorem m_keep (hC : MI m S) (hV : VS S) {i : Int32} (h : ∀ m', Fr (fun c => 77 ≤ c) m m' → MI m' (nKeep S i) → Q (aKeep i) m') : CallI X mX9_keep [.ref 77, .int i] m Q := by
  have hB := hC.2.1
  have vB := hV.2.1
  unfold aKeep nKeep at h
  refine eX9_keep_0 (s_in (lo := 0) (hi := 1) rfl rfl ?_)
  rw [in_ink0 (hi := 1) (n := 1) (by omega) rfl]
  refine ⟨fun c => ?_, fun c => ?_⟩
  · rw [bI_n0] at c
    rw [if_pos c, if_pos c] at h
    obtain ⟨w, hw, rfl⟩ := ink_t (by omega) c
    rw [show (400 : Int32) = nI 400 from rfl, show (200 : Int32) = nI 200 from rfl, pk_mul, nI_add]
    refine s_copy (a := 0) (b := 400 + 200 * w) (by omega) (by omega) (by omega) fun m3 f3 k3 c3 => ⟨pk_in w 2 hw, fun m4 e4 => ?_⟩
    have B3 := c3 _ vB.1 hB
    rw [nI_clamp (n := w) (by omega), show vp_nar .boolean 1 = 1 by decide] at e4
    have k4 : ∀ j, m4 78 j = m3 78 j := fun j => by rw [e4, a_up_c _ _ (by omega)]
    have B4 : MB m4 (400 + 200 * w) (qB S) := B3.f78 (by rw [e4, a_up_c _ _ (by omega)])
    refine qI (h m4 (by rw [e4]; exact Fr.up (f3.mono fun c hc => by omega) (by omega)) ?_)
    have base : ∀ c, c = 77 ∨ 80 ≤ c → m4 c = m c := fun c hc => by rw [e4, a_up_c _ _ (by omega), f3 c (by omega)]
    rcases (by omega : w = 0 ∨ w = 1) with q | q <;> subst q
    · refine hC.im hV base (fun j hj => by rw [k4, k3 j (by omega)]) ⟨by rw [e4, a_up_s]; rfl, fun _ => B4⟩ ⟨?_, fun q => ?_⟩
      · rw [e4, a_up_n _ _ (Or.inr (by omega)), f3 79 (by omega)]; exact hC.2.2.2.1.1
      · exact (hC.2.2.2.1.2 q).fr (hV.2.2.2.1 q).1 fun j h1 h2 => by rw [k4, k3 j (by omega)]
    · refine hC.im hV base (fun j hj => by rw [k4, k3 j (by omega)]) ⟨?_, fun q => ?_⟩ ⟨by rw [e4, a_up_s]; rfl, fun _ => B4⟩
      · rw [e4, a_up_n _ _ (Or.inr (by omega)), f3 79 (by omega)]; exact hC.2.2.1.1
      · exact (hC.2.2.1.2 q).fr (hV.2.2.1 q).1 fun j h1 h2 => by rw [k4, k3 j (by omega)]
  · rw [bI_0] at c
    rw [if_neg (by rw [c]; decide), if_neg (by rw [c]; decide)] at h
    exact qI (h m Fr.rf hC)
theorem m_goBack (hC : MI m S) (hV : VS S) {i : Int32} (h : ∀ m', Fr (fun c => 77 ≤ c) m m' → MI m' (nBack S i) → Q (aBack S i) m') : CallI X mX9_goBack [.ref 77, .int i] m Q := by
  unfold aBack nBack imI at h
  refine eX9_goBack_0 (s_in (lo := 0) (hi := 1) rfl rfl ?_)
  rw [in_ink0 (hi := 1) (n := 1) (by omega) rfl]
  refine ⟨fun c => ?_, fun c => ?_⟩
  · rw [bI_n0] at c
    rw [if_pos c, if_pos c] at h
    have go : ∀ (I : IM) (w : Nat), w < 2 → MI2 m w I → VI (qP S) I → (∀ m', Fr (fun c => 77 ≤ c) m m' → MI m' (if I.1 = true then wB S I.2 else S) → Q (if I.1 = true then 1 else NOT) m') → vp_in (nI w) 2 ∧ (¬ m 79 (Int32.toNatClampNeg (nI w)) = 0 → CallV X mX9_copy [.ref 77, .int (400 + 200 * nI w), .int 0] m (fun m3 => (QI Q) (some (.int 1)) m3)) ∧ (m 79 (Int32.toNatClampNeg (nI w)) = 0 → (QI Q) (some (.int (-100000003))) m) := by
      intro I w hw hI vI h
      rw [nI_clamp (n := w) (by omega), hI.1, show (400 : Int32) = nI 400 from rfl, show (200 : Int32) = nI 200 from rfl, pk_mul, nI_add]
      refine ⟨pk_in w 2 hw, fun z => ?_, fun z => ?_⟩
      · rw [bI_n0] at z
        rw [if_pos z, if_pos z] at h
        refine s_copy (a := 400 + 200 * w) (b := 0) (by omega) (by omega) (by omega) fun m3 f3 k3 c3 => ?_
        exact qI (h m3 (f3.mono fun c hc => by omega) (hC.bills hV (fun c hc => f3 c (by omega)) (fun i hi => by rw [f3 77 (by omega)]) (fun j hj => k3 j (by omega)) (c3 _ (vI z).1 (hI.2 z))))
      · rw [bI_0] at z
        rw [if_neg (by rw [z]; decide), if_neg (by rw [z]; decide)] at h
        exact qI (h m Fr.rf hC)
    obtain ⟨w, hw, rfl⟩ := ink_t (by omega) c
    rcases (by omega : w = 0 ∨ w = 1) with q | q <;> subst q
    · exact go _ 0 (by omega) hC.2.2.1 hV.2.2.1 h
    · exact go _ 1 (by omega) hC.2.2.2.1 hV.2.2.2.1 h
  · rw [bI_0] at c
    rw [if_neg (by rw [c]; decide), if_neg (by rw [c]; decide)] at h
    exact qI (h m Fr.rf hC)
theorem feeds_in (n : Int32) : decide (1 ≤ n ∧ n ≤ 8) = feeds n := by
  have i0 := in_ink0 (x := n) (hi := 8) (n := 8) (by omega) rfl
  unfold feeds
  rw [← i0, ← decide_not, ← Bool.decide_and]
  refine decide_eq_decide.mpr ?_
  have e0 : (0 : Int32).toInt = 0 := by decide
  have e1 : (1 : Int32).toInt = 1 := by decide
  rw [Int32.le_iff_toInt_le, Int32.le_iff_toInt_le, Int32.le_iff_toInt_le, ← Int32.toInt_inj, e0, e1]
  omega
theorem m_feed (hC : MI m S) (hV : VS S) {n : Int32} {v : Int64} (h : ∀ m', Fr (fun c => 77 ≤ c) m m' → MI m' (nFeed S n v) → Q (aFeed S n v) m') : CallI X mX9_feed [.ref 77, .int n, .long v] m Q := by
  obtain ⟨a1, a2, a3, a4, a5, ⟨t1, t2, t3⟩⟩ := id hC
  have hL := hV.2.2.2.2.2.1
  unfold aFeed nFeed at h
  refine eX9_feed_0 (s_in (lo := 1) (hi := 8) rfl rfl ?_)
  rw [feeds_in]
  refine ⟨fun e => ?_, fun e => ?_⟩
  · rw [bI_n0] at e
    rw [if_pos e, if_pos e] at h
    obtain ⟨k, rfl, k1, k8, ek⟩ := feeds_t e
    rw [ek] at h
    rw [t1, nI_add]
    refine pk_le (qL S + k) 300 (fun c => ?_) (fun c => ?_)
    · rw [if_pos c, if_pos c] at h
      refine lpf (a := 0) (b := k) (m := m) (by omega) (I := fun d m' => Fr (fun c => c = 77 ∨ c = 86) m m' ∧ (∀ i, i ≠ 13 → m' 77 i = m 77 i) ∧ m' 77 13 = nI (qL S + d) ∧ (∀ i, i < qL S → m' 86 i = nI (qT S i)) ∧ ∀ i, i < d → m' 86 (qL S + i) = nI (byt v (k - 1 - i)))
        (W := fun d m' => Wp X mX9_feed 35 [some (.ref 77), none, some (.long v), none, some (.int (nI (k - d) - 1))] [] m' (QI Q)) ?_ ?_ ⟨Fr.rf, fun _ _ => rfl, t1, t2, fun i hi => by omega⟩
      · rintro d - hd m2 ⟨F2, o2, n2, x2, y2⟩ next
        refine eX9_feed_35 ?_
        rw [show nI (k - d) - 1 = nI (k - 1 - d) by rw [show k - d = k - 1 - d + 1 by omega, nI_pred], n2]
        refine ⟨fun c => absurd c (nI_pos (by omega)), fun _ => ⟨pk_in (qL S + d) 300 (by omega), fun m3 e3 m4 e4 => ?_⟩⟩
        rw [nI_clamp (n := qL S + d) (by omega), show (8 : Int32) = nI 8 from rfl, pk_mul, sshL_byt (by omega)] at e3
        have n3 : m3 77 13 = nI (qL S + d) := by rw [e3, a_up_c _ _ (by omega)]; exact n2
        rw [n3, nI_1] at e4
        have en : nI (k - 1 - d) + (-1) = nI (k - (d + 1)) - 1 := by
          rw [show k - (d + 1) = k - 1 - d by omega]
          exact (Int32.sub_eq_add_neg ..).symm
        rw [en]
        have r86 : ∀ i, m4 86 i = if i = qL S + d then nI (byt v (k - 1 - d)) else m2 86 i := fun i => by rw [e4, a_up_c _ _ (by omega), e3, a_up_i]
        refine next m4 ⟨?_, fun i hi => ?_, ?_, fun i hi => ?_, fun i hi => ?_⟩
        · rw [e4, e3]; exact Fr.up (Fr.up F2 (Or.inr rfl)) (Or.inl rfl)
        · rw [e4, a_up_n _ _ (Or.inr hi), e3, a_up_c _ _ (by omega)]; exact o2 i hi
        · rw [e4, a_up_s]; rfl
        · rw [r86, if_neg (by omega)]; exact x2 i hi
        · rw [r86]
          by_cases z : i = d
          · rw [if_pos (by omega), z]
          · rw [if_neg (by omega)]; exact y2 i (by omega)
      · rintro m2 ⟨F2, o2, n2, x2, y2⟩
        refine eX9_feed_35 ⟨fun _ => ?_, fun c => absurd ?_ c⟩
        · rw [n2]
          refine qI (h m2 (F2.mono fun c hc => by omega) ⟨a1.fr ⟨o2 5 (by omega), o2 9 (by omega)⟩ fun c h1 h2 => F2 c (by omega), a2.f78 (F2 78 (by omega)), a3.fr hV.2.2.1 (F2 79 (by omega)) (fun j hj => by rw [F2 78 (by omega)]), a4.fr hV.2.2.2.1 (F2 79 (by omega)) (fun j hj => by rw [F2 78 (by omega)]), a5.fr (o2 26 (by omega)) fun c hc => F2 c (by omega), n2, fun i hi => ?_, by rw [o2 18 (by omega)]; exact t3⟩)
          have hi : i < qL S + k := hi
          show _ = nI (if i < qL S then qT S i else byt v (k - 1 - (i - qL S)))
          by_cases z : i < qL S
          · rw [if_pos z]; exact x2 i z
          · rw [if_neg z]
            have := y2 (i - qL S) (by omega)
            rw [show qL S + (i - qL S) = i by omega] at this
            exact this
        · rw [Nat.sub_self]; decide
    · rw [if_neg (by omega), if_neg (by omega)] at h
      exact qI (h m Fr.rf hC)
  · rw [bI_0] at e
    rw [if_neg (by rw [e]; decide), if_neg (by rw [e]; decide)] at h
    exact qI (h m Fr.rf hC)
end MPUB3
