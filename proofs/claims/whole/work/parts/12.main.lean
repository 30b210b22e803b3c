theorem a_ck0 {cn idx na : Nat} {host : String} {M : a_Mth} {ps : List (Nat × Nat)} (h : a_ckC1 cn idx 0 M na ps host = true) : ∃ p0 p1 p2 p3 : Nat × Nat, (a_has p0 (.methodLink (a_Cn cn) idx (a_y M)) && a_has p1 (.instanceMethod (a_y M)) && a_has p2 (.selects (a_y M).cls (a_y M) (a_y M)) && a_has p3 (.initialized (a_y M).cls) && a_par (a_y M) na && (match a_cl[a_cn M]? with
    | some q => decide (q.1 = (a_y M).cls)
    | none => false)) = true := by
  match ps, h with
  | [], h => exact Bool.noConfusion (show false = true from h)
  | [_], h => exact Bool.noConfusion (show false = true from h)
  | [_, _], h => exact Bool.noConfusion (show false = true from h)
  | [_, _, _], h => exact Bool.noConfusion (show false = true from h)
  | [p0, p1, p2, p3], h => exact ⟨p0, p1, p2, p3, h⟩
  | _ :: _ :: _ :: _ :: _ :: _, h => exact Bool.noConfusion (show false = true from h)
theorem a_ck1 {cn idx na : Nat} {host : String} {M : a_Mth} {ps : List (Nat × Nat)} (h : a_ckC1 cn idx 1 M na ps host = true) : ∃ p0 p1 p2 : Nat × Nat, (a_has p0 (.methodLink (a_Cn cn) idx (a_y M)) && a_has p1 (.static (a_y M)) && a_has p2 (.initialized (a_y M).cls) && a_par (a_y M) na) = true := by
  match ps, h with
  | [], h => exact Bool.noConfusion (show false = true from h)
  | [_], h => exact Bool.noConfusion (show false = true from h)
  | [_, _], h => exact Bool.noConfusion (show false = true from h)
  | [p0, p1, p2], h => exact ⟨p0, p1, p2, h⟩
  | _ :: _ :: _ :: _ :: _, h => exact Bool.noConfusion (show false = true from h)
theorem a_ck2 {cn idx na : Nat} {host : String} {M : a_Mth} {ps : List (Nat × Nat)} (h : a_ckC1 cn idx 2 M na ps host = true) : ∃ p0 p1 p2 : Nat × Nat, (a_hasN p0 (.methodLinkNest (a_Cn cn) idx (a_y M) host) && a_has p1 (.static (a_y M)) && a_has p2 (.initialized (a_y M).cls) && a_par (a_y M) na) = true := by
  match ps, h with
  | [], h => exact Bool.noConfusion (show false = true from h)
  | [_], h => exact Bool.noConfusion (show false = true from h)
  | [_, _], h => exact Bool.noConfusion (show false = true from h)
  | [p0, p1, p2], h => exact ⟨p0, p1, p2, h⟩
  | _ :: _ :: _ :: _ :: _, h => exact Bool.noConfusion (show false = true from h)
theorem a_ck3 {cn idx na : Nat} {host : String} {M : a_Mth} {ps : List (Nat × Nat)} (h : a_ckC1 cn idx 3 M na ps host = true) : ∃ p0 p1 p2 : Nat × Nat, (a_has p0 (.methodLink (a_Cn cn) idx (a_y M)) && a_has p1 (.instanceMethod (a_y M)) && a_has p2 (.initialized (a_y M).cls) && a_par (a_y M) na && decide ((a_y M).name = "<init>") && decide (a_rt M = none)) = true := by
  match ps, h with
  | [], h => exact Bool.noConfusion (show false = true from h)
  | [_], h => exact Bool.noConfusion (show false = true from h)
  | [_, _], h => exact Bool.noConfusion (show false = true from h)
  | [p0, p1, p2], h => exact ⟨p0, p1, p2, h⟩
  | _ :: _ :: _ :: _ :: _, h => exact Bool.noConfusion (show false = true from h)
theorem a_ck4 {cn idx na : Nat} {host : String} {M : a_Mth} {ps : List (Nat × Nat)} (h : a_ckC1 cn idx 4 M na ps host = true) : ∃ p0 p1 p2 : Nat × Nat, (a_hasN p0 (.methodLinkNest (a_Cn cn) idx (a_y M) host) && a_has p1 (.instanceMethod (a_y M)) && a_has p2 (.initialized (a_y M).cls) && a_par (a_y M) na && decide ((a_y M).name = "<init>") && decide (a_rt M = none)) = true := by
  match ps, h with
  | [], h => exact Bool.noConfusion (show false = true from h)
  | [_], h => exact Bool.noConfusion (show false = true from h)
  | [_, _], h => exact Bool.noConfusion (show false = true from h)
  | [p0, p1, p2], h => exact ⟨p0, p1, p2, h⟩
  | _ :: _ :: _ :: _ :: _, h => exact Bool.noConfusion (show false = true from h)
section AMAIN
variable {p : Program} {l : Launch} {e : Env} {R : Room} {s : State} {m : MethodId} {args : Array Value} {below : List Frame} {meth : Method} {c : Code} {H : Heap} {locs : List Loc} {cells slots : Nat} {Q : State → Prop}
variable {pc : Nat} {ls : Array Slot}
variable {X : a_X} {ad : Nat → Nat} {D : va_G} {cA : Nat → ClassId} {a0 : Nat} {M : a_Mth} {lv : a_LV} {st : List Value} {h : a_H}
theorem a_callW {mc ms : Nat} {r : Option Value} {h1 : a_H} {rest st0 : List Value} {a : Array Value} (hr : va_Run p l e R s m args below meth c H locs cells slots mc ms (F0 m pc ls st0) rest (a_QB ad D cA a0 r h h1 a) (a_A a0)) (hS : va_S (a_A a0) s.heap H locs)
    (kk : ∀ (ad' : Nat → Nat) (H1 : Heap) (locs1 : List Loc), va_P D a_cl (a_ws ad' cA h1) H1 → va_D (a_A a0) (a_ws ad' cA h1) → a_ag h.1.length ad ad' → (h1.1.length = h.1.length → ad' = ad) → va_S (a_A a0) s.heap H1 locs1 → W p l e R s m args below meth c H1 locs1 (cells + mc) (slots + ms) Q (F0 m (pc + 3) ls ((r.map (a_cv ad')).toList ++ rest))) : W p l e R s m args below meth c H locs cells slots Q (F0 m pc ls st0) := by
  intro T hT X
  obtain ⟨v, st₀, t, T', L, h0, X', hL, e1, e2, ⟨⟨ad', hv, hp, hdd, hag, heq⟩, hz, hk⟩, st⟩ := hr T hT X
  cases hv
  rw [h0] at hz hk
  obtain ⟨t2, a1, b1⟩ := kk ad' T'.heap (locs ++ L) (by rw [e1]; exact hp) hdd hag heq
    ⟨Nat.le_trans hS.1 (by rw [e1]; exact hz), fun q h1 h2 => by rw [e1, hk q (Nat.lt_of_lt_of_le h1 hS.1) h2]; exact hS.2.1 q h1 h2, fun q hq => by
      rcases List.mem_append.mp hq with h | h
      · exact hS.2.2 q h
      · exact hL q h⟩ T' rfl X'
  exact ⟨t2, st t2 a1, b1⟩
theorem a_blind {av : List Value} : FrameBlind (va_Pc av (a_PB X ad D cA a0 h)) := fun _ _ _ _ q => ⟨q.1, q.2.1.same rfl rfl, q.2.2.1, q.2.2.2⟩
theorem a_PB_at {U : State} (hE : a_Env X ad D cA a0 s) (hP : va_P D a_cl (a_ws ad cA h) H) (hD : va_D (a_A a0) (a_ws ad cA h)) (hS : va_S (a_A a0) s.heap H locs) (hU : U.heap = H) (hW : s.WarmedH U.vm) : a_PB X ad D cA a0 h U := by
  subst hU
  exact ⟨hE.to hW hS, hP, hD⟩
theorem a_par_ok {y : MethodName} {na : Nat} (h : a_par y na = true) : y.cls ≠ "java/lang/invoke/MethodHandle" ∧ y.cls ≠ "java/lang/invoke/VarHandle" ∧ (parseMethodDescriptor y.desc).map (fun d => d.parameters.length) = some na := by
  simp only [a_par, Bool.and_eq_true, decide_eq_true_eq] at h
  exact ⟨h.1.1, h.1.2, h.2⟩
theorem a_mws_good (hok : a_ckW M = true) : ∀ w ∈ a_mws M, w ∈ a_LT := fun w hw => (List.mem_cons.mp hw).elim (fun q => q ▸ (a_ok_W hok).1) (fun q => q)
theorem a_app_good {ws1 ws2 : List Cond} (h1 : ∀ w ∈ ws1, w ∈ a_LT) (h2 : ∀ w ∈ ws2, w ∈ a_LT) : ∀ w ∈ ws1 ++ ws2, w ∈ a_LT := fun w hw => (List.mem_append.mp hw).elim (h1 w) (h2 w)
theorem a_rooms_ok {M M' : a_Mth} {as rest : List Value} (h : a_rooms M M' as rest = true) : a_fr M' + 1 ≤ a_fr M ∧ 8 + (a_mL M' + 11) + a_lo M' ≤ a_lo M ∧ a_wt rest ≤ 8 ∧ (a_ent as).length ≤ a_mL M' := by
  simp only [a_rooms, Bool.and_eq_true, Nat.ble_eq] at h
  exact ⟨h.1.1.1, h.1.1.2, h.1.2, h.2⟩
theorem a_drop_cons {α : Type} {st rest : List α} {na : Nat} {v : α} (h : st.drop na = v :: rest) : st = st.take na ++ v :: rest ∧ (st.take na).length = na := by
  refine ⟨by rw [← h, List.take_append_drop], ?_⟩
  have : na < st.length := by
    have h2 := congrArg List.length h
    simp at h2
    omega
  simp
  omega
set_option maxHeartbeats 8000000 in
/-- a call, and what goes on behind it -/
theorem a_sim_call {i : Instr} {M' : a_Mth} {as rest : List Value} {r1 : Option Value} {h1 : a_H} (hC : a_Ctx M p R s m args meth c) (hE : a_Env X ad D cA a0 s) (hP : va_P D a_cl (a_ws ad cA h) H) (hD : va_D (a_A a0) (a_ws ad cA h)) (hS : va_S (a_A a0) s.heap H locs) (hl : a_L ad ls (a_mL M) lv)
    (hd : decode (a_b M) pc = .ok (i, a_len i 3)) (hs : a_call M i st h.1 = some (M', as, rest)) (ih : a_cn M' < 13 → (a_ent as).length ≤ a_mL M' → a_okM M' → Met l (a_y M') (a_mws M') (a_rm M' h h1) (va_Pc (as.map (a_cv ad)) (a_PB X ad D cA a0 h)) (a_QB ad D cA a0 r1 h h1) (h1.1.length - h.1.length) (a_szs h1.1 - a_szs h.1) (a_A a0))
    (hbc : cells + (h1.1.length - h.1.length) ≤ R.cells) (hbs : slots + (a_szs h1.1 - a_szs h.1) ≤ R.slots)
    (kk : ∀ (ad' : Nat → Nat) (H1 : Heap) (locs1 : List Loc), va_P D a_cl (a_ws ad' cA h1) H1 → va_D (a_A a0) (a_ws ad' cA h1) → a_ag h.1.length ad ad' → (h1.1.length = h.1.length → ad' = ad) → va_S (a_A a0) s.heap H1 locs1 → W p l e R s m args below meth c H1 locs1 (cells + (h1.1.length - h.1.length)) (slots + (a_szs h1.1 - a_szs h.1)) Q (F0 m (pc + 3) ls ((r1.map (a_cv ad')).toList ++ rest.map (a_cv ad)))) : W p l e R s m args below meth c H locs cells slots Q (F0 m pc ls (st.map (a_cv ad))) := by
  obtain ⟨hx, hb, hr, hml, hown, hts, hfr, hlo, -, -, hcn, -⟩ := hC
  unfold a_call at hs
  split at hs
  · next idx =>
    split at hs
    · next k na ps e1 =>
      split at hs
      · next N a rst eM eD =>
        split at hs
        · next ci fs eS =>
          split at hs
          · next eB =>
            simp only [Option.some.injEq, Prod.mk.injEq] at hs
            obtain ⟨hs1, hs2, hs3⟩ := hs
            subst hs1; subst hs3
            simp only [Bool.and_eq_true] at eB
            have eci := Nat.eq_of_beq_eq_true eB.1
            obtain ⟨g1, g2, g3, g4⟩ := a_rooms_ok eB.2
            obtain ⟨hst, hna⟩ := a_drop_cons eD
            have hokN := a_M_ok eM
            obtain ⟨w1, w2, w3⟩ := a_ok_W hokN.2
            have hck := a_cal_ok hcn e1
            unfold a_ckC at hck
            simp only at hck
            rw [eM] at hck
            try simp only at hck
            obtain ⟨p0, p1, p2, p3, hck⟩ := a_ck0 hck
            · simp only [Bool.and_eq_true] at hck
              obtain ⟨⟨⟨⟨⟨c0, c1⟩, c2⟩, c3⟩, c4⟩, c5⟩ := hck
              have hat := a_ws_at (ad := ad) (cA := cA) eS
              split at c5
              · next q eq =>
                have hq := of_decide_eq_true c5
                rw [← eci] at eq
                have hcn2 : a_cn N < 13 := by have := a_cl_lt eq; omega
                have hM := ih hcn2 (by rw [← hs2]; exact g4) hokN
                rw [← hs2] at hM
                have hrecv := va_recv hE.1 hP eq hat
                rw [hq] at hrecv
                refine a_callW (va_runV (As := (st.take na).reverse.map (a_cv ad)) (rest := rst.map (a_cv ad)) ⟨hx, hb, hml, hown, hts⟩ hM (cwV na hts (a_good ?_) rfl rfl rfl ⟨rfl, a_par_ok c4⟩ ⟨Nat.le_trans g1 hfr, Nat.le_trans g2 hlo⟩) ⟨a_blind, hrecv, fun U hU hW => ⟨by simp [a_cv], a_PB_at hE hP hD hS hU hW⟩⟩ rfl (by rw [List.length_map, List.length_reverse]; exact hna) hl.1 ?_ ?_ hd ⟨hbc, hbs⟩) hS kk
                · refine a_app_good (fun w hw => ?_) (a_mws_good hokN.2)
                  simp only [List.mem_cons, List.not_mem_nil, or_false] at hw
                  rcases hw with rfl | rfl | rfl | rfl
                  · exact a_has_in c0
                  · exact a_has_in c1
                  · exact a_has_in c2
                  · exact a_has_in c3
                · show st.map (a_cv ad) = _
                  conv => lhs; rw [hst]
                  simp [a_cv]
                · refine lv_room ?_
                  rw [a_cv_wt]
                  exact g3
              · cases c5
          · cases hs
        · cases hs
      · cases hs
    · cases hs
  · next idx =>
    split at hs
    · next kind k na ps e1 =>
      split at hs
      · next eK =>
        split at hs
        · next N eM =>
          split at hs
          · next eB =>
            simp only [Option.some.injEq, Prod.mk.injEq] at hs
            obtain ⟨hs1, hs2, hs3⟩ := hs
            subst hs1; subst hs3
            simp only [Bool.and_eq_true] at eB
            have hna := Nat.eq_of_beq_eq_true eB.1
            obtain ⟨g1, g2, g3, g4⟩ := a_rooms_ok eB.2
            have hokN := a_M_ok eM
            obtain ⟨w1, w2, w3⟩ := a_ok_W hokN.2
            have hcn2 : a_cn N < 13 := a_cn_lt hokN.2
            have hM := ih hcn2 (by rw [← hs2]; exact g4) hokN
            rw [← hs2] at hM
            have hck := a_cal_ok hcn e1
            have hstk : (F0 m pc ls (st.map (a_cv ad))).stack = ((st.take na).reverse.map (a_cv ad)).reverse ++ (st.drop na).map (a_cv ad) := by
              show st.map (a_cv ad) = _
              rw [← List.map_reverse, List.reverse_reverse, ← List.map_append, List.take_append_drop]
            have hroom : 2 * (F0 m pc ls (st.map (a_cv ad))).monitorRoom + (((st.drop na).map (a_cv ad)).map fun v => v.category).sum ≤ 8 := by
              refine lv_room ?_
              rw [a_cv_wt]
              exact g3
            simp only [Bool.or_eq_true] at eK
            rcases eK with eK | eK
            · have eK := Nat.eq_of_beq_eq_true eK
              subst eK
              unfold a_ckC at hck
              simp only at hck
              rw [eM] at hck
              try simp only at hck
              obtain ⟨p0, p1, p2, hck⟩ := a_ck1 hck
              · skip
                simp only [Bool.and_eq_true] at hck
                obtain ⟨⟨⟨c0, c1⟩, c2⟩, c4⟩ := hck
                refine a_callW (va_runS (As := (st.take na).reverse.map (a_cv ad)) (rest := (st.drop na).map (a_cv ad)) ⟨hx, hb, hml, hown, hts⟩ hM (va_cwS na hts (a_good ?_) rfl rfl rfl (a_par_ok c4) ⟨Nat.le_trans g1 hfr, Nat.le_trans g2 hlo⟩) ⟨a_blind, fun U hU hW => ⟨rfl, a_PB_at hE hP hD hS hU hW⟩⟩ rfl (by rw [List.length_map, List.length_reverse]; exact hna) hl.1 hstk hroom hd ⟨hbc, hbs⟩) hS kk
                refine a_app_good (fun w hw => ?_) (a_mws_good hokN.2)
                simp only [List.mem_cons, List.not_mem_nil, or_false] at hw
                rcases hw with rfl | rfl | rfl
                · exact a_has_in c0
                · exact a_has_in c1
                · exact a_has_in c2
            · have eK := Nat.eq_of_beq_eq_true eK
              subst eK
              unfold a_ckC at hck
              simp only at hck
              rw [eM] at hck
              try simp only at hck
              obtain ⟨p0, p1, p2, hck⟩ := a_ck2 hck
              · skip
                simp only [Bool.and_eq_true] at hck
                obtain ⟨⟨⟨c0, c1⟩, c2⟩, c4⟩ := hck
                exact a_callW (va_runSN (As := (st.take na).reverse.map (a_cv ad)) (rest := (st.drop na).map (a_cv ad)) ⟨hx, hb, hml, hown, hts⟩ hM ⟨va_cnB na hts (a_good (a_mws_good hokN.2)) rfl rfl rfl (hE.2.2.1 _ (a_hasN_in c0) rfl) (hts _ (a_has_in c2)) (a_par_ok c4) ⟨Nat.le_trans g1 hfr, Nat.le_trans g2 hlo⟩, hts _ (a_has_in c1), trivial⟩ ⟨a_blind, fun U hU hW => ⟨rfl, a_PB_at hE hP hD hS hU hW⟩⟩ rfl (by rw [List.length_map, List.length_reverse]; exact hna) hl.1 hstk hroom hd ⟨hbc, hbs⟩) hS kk
          · cases hs
        · cases hs
      · cases hs
    · cases hs
  · next idx =>
    split at hs
    · next kind k na ps e1 =>
      split at hs
      · next eK =>
        split at hs
        · next N a rst eM eD =>
          split at hs
          · next eB =>
            simp only [Option.some.injEq, Prod.mk.injEq] at hs
            obtain ⟨hs1, hs2, hs3⟩ := hs
            subst hs1; subst hs3
            obtain ⟨g1, g2, g3, g4⟩ := a_rooms_ok eB
            obtain ⟨hst, hna⟩ := a_drop_cons eD
            have hokN := a_M_ok eM
            obtain ⟨w1, w2, w3⟩ := a_ok_W hokN.2
            have hcn2 : a_cn N < 13 := a_cn_lt hokN.2
            have hM := ih hcn2 (by rw [← hs2]; exact g4) hokN
            rw [← hs2] at hM
            have hck := a_cal_ok hcn e1
            have hstk : (F0 m pc ls (st.map (a_cv ad))).stack = ((st.take na).reverse.map (a_cv ad)).reverse ++ .ref (ad a) :: rst.map (a_cv ad) := by
              show st.map (a_cv ad) = _
              conv => lhs; rw [hst]
              simp [a_cv]
            have hroom : 2 * (F0 m pc ls (st.map (a_cv ad))).monitorRoom + ((rst.map (a_cv ad)).map fun v => v.category).sum ≤ 8 := by
              refine lv_room ?_
              rw [a_cv_wt]
              exact g3
            simp only [Bool.or_eq_true] at eK
            rcases eK with eK | eK
            · have eK := Nat.eq_of_beq_eq_true eK
              subst eK
              unfold a_ckC at hck
              simp only at hck
              rw [eM] at hck
              try simp only at hck
              obtain ⟨p0, p1, p2, hck⟩ := a_ck3 hck
              · skip
                simp only [Bool.and_eq_true, decide_eq_true_eq] at hck
                obtain ⟨⟨⟨⟨⟨c0, c1⟩, c2⟩, c4⟩, c5⟩, c6⟩ := hck
                have hmw : a_mws N = Cond.code (a_y N) (a_b N) (a_mL N) none :: a_LT := by unfold a_mws; rw [c6]
                exact a_callW (va_runI (As := (st.take na).reverse.map (a_cv ad)) (rest := rst.map (a_cv ad)) ⟨hx, hb, hml, hown, hts⟩ hM (cwI na hts (a_good (a_mws_good hokN.2)) hmw rfl rfl (hts _ (a_has_in c2)) (hts _ (a_has_in c0)) (hts _ (a_has_in c1)) c5 (a_par_ok c4) ⟨Nat.le_trans g1 hfr, Nat.le_trans g2 hlo⟩) ⟨a_blind, fun U hU hW => ⟨by simp [a_cv], a_PB_at hE hP hD hS hU hW⟩⟩ rfl (by rw [List.length_map, List.length_reverse]; exact hna) hl.1 hstk hroom hd ⟨hbc, hbs⟩) hS kk
            · have eK := Nat.eq_of_beq_eq_true eK
              subst eK
              unfold a_ckC at hck
              simp only at hck
              rw [eM] at hck
              try simp only at hck
              obtain ⟨p0, p1, p2, hck⟩ := a_ck4 hck
              · skip
                simp only [Bool.and_eq_true, decide_eq_true_eq] at hck
                obtain ⟨⟨⟨⟨⟨c0, c1⟩, c2⟩, c4⟩, c5⟩, c6⟩ := hck
                have hmw : a_mws N = Cond.code (a_y N) (a_b N) (a_mL N) none :: a_LT := by unfold a_mws; rw [c6]
                exact a_callW (va_runIN (As := (st.take na).reverse.map (a_cv ad)) (rest := rst.map (a_cv ad)) ⟨hx, hb, hml, hown, hts⟩ hM ⟨va_cnB na hts (a_good (a_mws_good hokN.2)) hmw rfl rfl (hE.2.2.1 _ (a_hasN_in c0) rfl) (hts _ (a_has_in c2)) (a_par_ok c4) ⟨Nat.le_trans g1 hfr, Nat.le_trans g2 hlo⟩, c5, hts _ (a_has_in c1)⟩ ⟨a_blind, fun U hU hW => ⟨by simp [a_cv], a_PB_at hE hP hD hS hU hW⟩⟩ rfl (by rw [List.length_map, List.length_reverse]; exact hna) hl.1 hstk hroom hd ⟨hbc, hbs⟩) hS kk
          · cases hs
        · cases hs
      · cases hs
    · cases hs
  · cases hs
end AMAIN
