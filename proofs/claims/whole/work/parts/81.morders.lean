/-! ===== the model's ORDERS ===== -/
section MORD
variable {X : a_X} {m : Nat → Nat → Int32} {S : ST} {P : PT} {F : FT} {Q : Int32 → (Nat → Nat → Int32) → Prop}
theorem s_ordersOf (hM : MP m P) (hVP : VP P) (hF : MF m F) (hVF : VF P F) (h : ∀ m', Fr (fun c => c = 95 ∨ c = 96) m m' → (∀ a, a < fn F → isS (m' 95 a) (blw P F a)) → Q (nI (ordF P F)) m') : CallI X mX9_ordersOf [.ref 77] m Q := by
  have hn := hVF.1
  have f1 := hF.1
  unfold ordF at h
  refine eX9_ordersOf_0 (s_findBelow hM hVP hF hVF fun m1 g1 b1 => ⟨fun z => ?_, fun z => ?_⟩)
  · rw [bI_n0] at z
    rw [if_pos z] at h
    have h2 : 2 ^ fn F ≤ 2 ^ 10 := Nat.pow_le_pow_right (by omega) hn
    have h3 : 1 ≤ 2 ^ fn F := Nat.two_pow_pos _
    have sh : (1 : Int32) <<< (nI (fn F) &&& 31) = nI (2 ^ fn F) := shl_1 _ (by omega)
    generalize hN : 2 ^ fn F = N at *
    generalize hR : blw P F = R at *
    refine lpf (a := 0) (b := N) (m := m1) (by omega) (I := fun s m' => Fr (fun c => c = 95 ∨ c = 96) m m' ∧ (∀ a, a < fn F → isS (m' 95 a) (R a)) ∧ ∀ i, i < s → m' 96 i = nI (wy R (fn F) i)) (W := fun s m' => Wp X mX9_ordersOf 11 [some (.ref 77), some (.int (nI s)), none, none] [] m' (QI Q)) ?_ ?_ ⟨g1.mono fun c hc => Or.inl hc, b1, fun i hi => by omega⟩
    · rintro s - hs m2 ⟨g2, B2, W2⟩ next
      have S1024 : vp_in (nI s) 1024 := pk_in s 1024 (by omega)
      have n2 : m2 77 26 = nI (fn F) := by rw [g2 77 (by omega)]; exact f1
      refine eX9_ordersOf_11 ?_
      rw [n2, sh, nI_clamp (n := s) (by omega)]
      have go : ∀ (e : Nat), e = (if s = 0 then 1 else 0) → ∀ m3, m3 = a_up m2 96 s (nI e) → Wp X mX9_ordersOf 41 [some (.ref 77), some (.int (nI s)), some (.int 0), none] [] m3 (QI Q) := by
        intro e he m3 e3
        refine lpf (a := 0) (b := fn F) (m := m3) (by omega) (I := fun b m' => Fr (fun c => c = 95 ∨ c = 96) m m' ∧ (∀ a, a < fn F → isS (m' 95 a) (R a)) ∧ (∀ i, i < s → m' 96 i = nI (wy R (fn F) i)) ∧ m' 96 s = nI (e + sm (wyT R (fn F) s) b)) (W := fun b m' => Wp X mX9_ordersOf 41 [some (.ref 77), some (.int (nI s)), some (.int (nI b)), none] [] m' (QI Q)) ?_ ?_ ⟨e3 ▸ Fr.up g2 (Or.inr rfl), fun a ha => by rw [e3, a_up_c _ _ (by omega)]; exact B2 a ha, fun i hi => by rw [e3, a_up_n _ _ (Or.inr (by omega))]; exact W2 i hi, by rw [e3, a_up_s]; rfl⟩
        · rintro b - hb m4 ⟨g4, B4, W4, T4⟩ nxt
          have n4 : m4 77 26 = nI (fn F) := by rw [g4 77 (by omega)]; exact f1
          refine eX9_ordersOf_41 ?_
          rw [n4, nI_rmv (by omega), nI_1, nI_1, nI_clamp (n := s) (by omega), nI_clamp (n := b) (by omega), T4, Int32.add_zero]
          have hs32 : s < 2 ^ 32 := by omega
          have same : wyT R (fn F) s b = 0 → ∀ m5, m5 = a_up m4 96 s (nI (e + sm (wyT R (fn F) s) b)) → Wp X mX9_ordersOf 41 [some (.ref 77), some (.int (nI s)), some (.int (nI (b + 1))), none] [] m5 (QI Q) := fun w m5 e5 => nxt m5 ⟨e5 ▸ Fr.up g4 (Or.inr rfl), fun a ha => by rw [e5, a_up_c _ _ (by omega)]; exact B4 a ha, fun i hi => by rw [e5, a_up_n _ _ (Or.inr (by omega))]; exact W4 i hi, by rw [e5, a_up_s, sm_s, w, Nat.add_zero]⟩
          refine pk_le (fn F) b (fun c => absurd c (by omega)) (fun _ => ⟨S1024, s_mhas (by omega) ?_⟩)
          rw [b_nI (by omega)]
          cases tb : s.testBit b with
          | false => exact ⟨fun _ => ⟨S1024, same (if_neg fun q => by rw [tb] at q; cases q.1)⟩, fun c => absurd rfl c⟩
          | true =>
            have l := rmv_lt hs32 tb
            refine ⟨fun c => absurd c (by decide), fun _ => ⟨pk_in b 10 (by omega), fun q => ⟨S1024, same (if_neg fun r => ?_)⟩, fun q => ⟨pk_in (rmv s b) 1024 (by omega), S1024, fun m5 e5 => ?_⟩⟩⟩
            · rw [z_sbt (B4 b hb)] at q
              exact q r.2
            · rw [z_sbt (B4 b hb)] at q
              rw [nI_clamp (n := rmv s b) (by omega), W4 _ l, nI_add] at e5
              refine nxt m5 ⟨e5 ▸ Fr.up g4 (Or.inr rfl), fun a ha => by rw [e5, a_up_c _ _ (by omega)]; exact B4 a ha, fun i hi => by rw [e5, a_up_n _ _ (Or.inr (by omega))]; exact W4 i hi, ?_⟩
              rw [e5, a_up_s, sm_s, show wyT R (fn F) s b = wy R (fn F) (rmv s b) from if_pos ⟨tb, q⟩, Nat.add_assoc]
        · rintro m4 ⟨g4, B4, W4, T4⟩
          have n4 : m4 77 26 = nI (fn F) := by rw [g4 77 (by omega)]; exact f1
          refine eX9_ordersOf_41 ?_
          rw [n4, nI_1]
          refine pk_le (fn F) (fn F) (fun _ => next m4 ⟨g4, B4, fun i hi => ?_⟩) (fun c => absurd c (by omega))
          by_cases q : i = s
          · rw [q, T4, he]
            by_cases s0 : s = 0
            · subst s0
              have zz : sm (wyT R (fn F) 0) (fn F) = 0 := sm_0 fun b _ => if_neg fun r => by
                have r := r.1
                rw [Nat.zero_testBit] at r
                cases r
              rw [if_pos rfl, wy_0, zz]
            · rw [if_neg s0, wy_s (by omega) s0, Nat.zero_add]
          · exact W4 i (by omega)
      refine pk_le N s (fun c => absurd c (by omega)) (fun _ => (pk_eq s 0 (fun c => s_one (b := true) ⟨S1024, ?_⟩) (fun c => s_one (b := false) ⟨S1024, ?_⟩)).symm)
      · exact go 1 (by rw [if_pos c])
      · exact go 0 (by rw [if_neg c])
    · rintro m2 ⟨g2, B2, W2⟩
      have n2 : m2 77 26 = nI (fn F) := by rw [g2 77 (by omega)]; exact f1
      refine eX9_ordersOf_11 ?_
      rw [n2, sh]
      refine pk_le N N (fun _ => ?_) (fun c => absurd c (by omega))
      rw [show nI N - 1 = nI (N - 1) by rw [show N = N - 1 + 1 by omega, nI_pred, Nat.add_sub_cancel]]
      refine ⟨pk_in (N - 1) 1024 (by omega), ?_⟩
      rw [nI_clamp (n := N - 1) (by omega), W2 _ (by omega)]
      exact qI (h m2 g2 B2)
  · rw [bI_0] at z
    rw [if_neg (by rw [z]; decide)] at h
    exact qI (h m1 (g1.mono fun c hc => Or.inl hc) b1)
theorem MI.ph {m' : Nat → Nat → Int32} (h : MI m S) (hV : VS S) (f : Fr (fun c => c = 95 ∨ c = 96) m m') : MI m' S := h.scr hV (fun c hc => f c (by omega)) (fun i hi => by rw [f 77 (by omega)]) (fun j hj => by rw [f 78 (by omega)])
theorem m_orders (hC : MI m S) (hV : VS S) (h : ∀ m', Fr (fun c => 77 ≤ c) m m' → MI m' S → Q (nI (ordF (qP S) (qF S))) m') : CallI X mX9_orders [.ref 77] m Q :=
  eX9_orders_0 (s_ordersOf hC.1 hV.1 hC.2.2.2.2.1 hV.2.2.2.2.1 fun m' f _ => qI (h m' (f.mono fun c hc => by omega) (hC.ph hV f)))
theorem m_order (hC : MI m S) (hV : VS S) {i : Int32} (h : ∀ m', Fr (fun c => 77 ≤ c) m m' → MI m' S → Q (aOrder S i) m') : CallI X mX9_order [.ref 77, .int i] m Q := by
  have hF := hC.2.2.2.2.1
  have vF := hV.2.2.2.2.1
  have hn := vF.1
  unfold aOrder at h
  have h0 := h m Fr.rf hC
  have z : 0 ≤ i ↔ ¬ i < 0 := by rw [Int32.le_iff_toInt_le, Int32.lt_iff_toInt_lt]; omega
  refine eX9_order_0 ⟨fun c => ?_, fun c => ?_⟩
  · rw [z] at c
    rw [if_neg c] at h h0
    obtain ⟨j, hj, rfl⟩ := nI_of c
    rw [cl_nI hj] at h h0
    unfold fstF at h h0
    rw [hF.1]
    refine pk_le (fn (qF S)) j (fun c => ?_) (fun c => s_ordersOf hC.1 hV.1 hF vF fun m1 f1 b1 => ?_)
    · rw [if_neg fun q => by omega] at h0
      exact qI h0
    · have h := h m1 (f1.mono fun c hc => by omega) (hC.ph hV f1)
      rw [ordF_0 hn]
      refine ⟨fun y => ?_, fun y => ?_⟩
      · have y : canF (qP S) (qF S) = true := by simpa using y
        rw [if_pos ⟨c, y⟩] at h
        have hs : hso (blw (qP S) (qF S)) (fn (qF S)) = true := by
          unfold canF at y
          rw [Bool.and_eq_true] at y
          exact y.2
        have hf := hso_f.mp hs
        generalize blw (qP S) (qF S) = R at *
        have key := lpf (a := 0) (b := j + 1) (m := m1) (by omega) (I := fun n m' => m1 = m') (W := fun n m' => Wp X mX9_order 31 [some (.ref 77), some (.int (nI j)), some (.int (nI (gS R (fn (qF S)) n))), some (.int (if n = 0 then -1 else nI (fo R (fn (qF S)) (n - 1)))), some (.int (nI n))] [] m' (QI Q)) ?_ ?_ rfl
        · exact key
        · rintro n - hn2 _ rfl next
          have nx := next _ rfl
          rw [if_neg (by omega), Nat.add_sub_cancel, gS_s] at nx
          have hb := hf n (by omega)
          obtain ⟨p1, p2⟩ := fo_has hb
          have pno : ∀ b, b < fo R (fn (qF S)) n → (!(gS R (fn (qF S)) n).testBit b && sbt (R b) (gS R (fn (qF S)) n)) = false := fun b hb => fL_not hb
          refine eX9_order_31 (pk_lt j n (fun d => absurd d (by omega)) (fun _ => ?_))
          generalize hfo : fo R (fn (qF S)) n = bb at *
          generalize gS R (fn (qF S)) n = s at *
          refine lpf (a := 0) (b := bb) (m := m1) (by omega) (I := fun b m' => m1 = m') (W := fun b m' => Wp X mX9_order 39 [some (.ref 77), some (.int (nI j)), some (.int (nI s)), some (.int (nI b)), some (.int (nI n))] [] m' (QI Q)) ?_ ?_ rfl
          · rintro b - hb2 _ rfl nxt
            have nx2 := nxt _ rfl
            have pn := pno b hb2
            refine eX9_order_39 (s_mhas (by omega) ?_)
            rw [b_nI (by omega), nI_1, nI_clamp (n := b) (by omega)]
            refine ⟨fun _ => nx2, fun w => ⟨pk_in b 10 (by omega), fun v => ?_, fun _ => nx2⟩⟩
            rw [bI_0] at w
            rw [z_sbt (b1 b (by omega))] at v
            rw [w, v] at pn
            cases pn
          · rintro _ rfl
            refine eX9_order_39 (s_mhas (by omega) ?_)
            rw [b_nI (by omega), p1, nI_clamp (n := bb) (by omega), nI_ins (by omega), nI_1, nI_1]
            refine ⟨fun w => absurd rfl w, fun _ => ⟨pk_in bb 10 (by omega), fun v => nx, fun v => absurd ?_ v⟩⟩
            rw [z_sbt (b1 bb (by omega))]
            exact p2
        · rintro _ rfl
          rw [if_neg (by omega), Nat.add_sub_cancel]
          exact eX9_order_31 (pk_lt j (j + 1) (fun _ => qI h) (fun d => absurd d (by omega)))
      · rw [if_neg fun q => by rw [y] at q; cases q.2] at h
        exact qI h
  · rw [z, Decidable.not_not] at c
    rw [if_pos c] at h0
    exact qI h0
theorem m_surely (hC : MI m S) (hV : VS S) {a b : Int32} (h : ∀ m', Fr (fun c => 77 ≤ c) m m' → MI m' S → Q (aSurely S a b) m') : CallI X mX9_surely [.ref 77, .int a, .int b] m Q := by
  have hF := hC.2.2.2.2.1
  have vF := hV.2.2.2.2.1
  have hn := vF.1
  unfold aSurely at h
  have h0 := h m Fr.rf hC
  refine eX9_surely_0 ?_
  rw [hF.1]
  refine s_in (lo := 0) rfl rfl ?_
  rw [in_ink (by omega)]
  rcases ink_cases a (show fn (qF S) < 2 ^ 31 by omega) with e | ⟨i, hi, rfl, e⟩
  · rw [e]
    refine ⟨fun _ => ?_, fun c => absurd rfl c⟩
    rw [e] at h0
    by_cases c : a = b
    · rw [if_pos c] at h0; exact qI h0
    · rw [if_neg c] at h0; exact qI h0
  · rw [e]
    refine ⟨fun c => absurd c (by decide), fun _ => ?_⟩
    rw [hF.1]
    refine s_in (lo := 0) rfl rfl ?_
    rw [in_ink (by omega)]
    rcases ink_cases b (show fn (qF S) < 2 ^ 31 by omega) with f | ⟨j, hj, rfl, f⟩
    · rw [f]
      refine ⟨fun _ => ?_, fun c => absurd rfl c⟩
      rw [e, f] at h0
      by_cases c : nI i = b
      · rw [if_pos c] at h0; exact qI h0
      · rw [if_neg c] at h0; exact qI h0
    · rw [f]
      refine ⟨fun c => absurd c (by decide), fun _ => ⟨fun c => s_ordersOf hC.1 hV.1 hF vF fun m1 f1 b1 => ?_, fun c => ?_⟩⟩
      · rw [if_neg c, e, if_pos rfl, f, if_pos rfl, cl_nI (by omega), cl_nI (by omega)] at h
        have h := h m1 (f1.mono fun c hc => by omega) (hC.ph hV f1)
        have n1 : m1 77 26 = nI (fn (qF S)) := by rw [f1 77 (by omega)]; exact hF.1
        rw [ordF_0 hn]
        unfold surF at h
        refine ⟨fun y => ⟨pk_in i 10 (by omega), ?_⟩, fun y => ?_⟩
        · have y : canF (qP S) (qF S) = true := by simpa using y
          have hs : hso (blw (qP S) (qF S)) (fn (qF S)) = true := by
            unfold canF at y
            rw [Bool.and_eq_true] at y
            exact y.2
          have hR : ∀ x j, blw (qP S) (qF S) x j = true → j < fn (qF S) := fun x j => blw_lt
          rw [y, Bool.true_and] at h
          rw [nI_clamp (n := i) (by omega)]
          generalize blw (qP S) (qF S) = R at *
          rw [← prN_lvS hn hs hR hj] at h
          refine lpf (a := 0) (b := fn (qF S)) (m := m1) (by omega) (I := fun k m' => m1 = m') (W := fun k m' => ∀ s, isS s (prN R (fn (qF S)) k (R i)) → Wp X mX9_surely 59 [some (.ref 77), none, some (.int (nI j)), some (.int s), some (.int (nI k)), none] [] m' (QI Q)) ?_ ?_ rfl _ (b1 i hi)
          · rintro k - hk _ rfl next s hs2
            refine eX9_surely_59 ?_
            rw [n1]
            refine pk_le (fn (qF S)) k (fun c => absurd c (by omega)) (fun _ => ?_)
            refine lpf (a := 0) (b := fn (qF S)) (m := m1) (by omega) (I := fun c m' => m1 = m') (W := fun c m' => ∀ s, isS s (psN R c (prN R (fn (qF S)) k (R i))) → Wp X mX9_surely 71 [some (.ref 77), none, some (.int (nI j)), some (.int s), some (.int (nI k)), some (.int (nI c))] [] m' (QI Q)) ?_ ?_ rfl s hs2
            · rintro c - hc _ rfl nxt s hs3
              refine eX9_surely_71 ?_
              rw [n1]
              refine pk_le (fn (qF S)) c (fun d => absurd d (by omega)) (fun _ => s_mhas (by omega) ?_)
              rw [hs3 c (by omega), nI_clamp (n := c) (by omega), nI_1]
              refine ⟨fun w => ?_, fun w => ⟨pk_in c 10 (by omega), ?_⟩⟩
              · rw [bI_0] at w
                exact nxt _ rfl _ ((hs3.or isS_0).cg fun d hd => by
                  rw [psN_s, w, Bool.false_and])
              · rw [bI_n0] at w
                exact nxt _ rfl _ ((hs3.or (b1 c hc)).cg fun d hd => by
                  rw [psN_s, w, Bool.true_and])
            · rintro _ rfl s hs3
              refine eX9_surely_71 ?_
              rw [n1, nI_1]
              exact pk_le (fn (qF S)) (fn (qF S)) (fun _ => next _ rfl s hs3) (fun c => absurd c (by omega))
          · rintro _ rfl s hs2
            refine eX9_surely_59 ?_
            rw [n1]
            refine pk_le (fn (qF S)) (fn (qF S)) (fun _ => s_mhas (by omega) (s_one ?_)) (fun c => absurd c (by omega))
            rw [hs2 j (by omega)]
            exact qI h
        · rw [y] at h
          exact qI h
      · rw [if_pos c] at h0
        exact qI h0
end MORD
