section ARUN
variable {X : a_X} {l : Launch}
theorem wl_142 : Cond.methodLink (a_Cn 6) 142 y_len ∈ a_LT := a_has_in (p := (2, 210)) (by decide +kernel)
theorem wl_146 : Cond.methodLink (a_Cn 6) 146 y_cha ∈ a_LT := a_has_in (p := (2, 220)) (by decide +kernel)
set_option maxHeartbeats 4000000 in
/-- a string's length, a sign of it -/
theorem a_sim_str {p : Program} {e : Env} {R : Room} {s : State} {m : MethodId} {args : Array Value} {below : List Frame} {meth : Method} {c : Code} {H : Heap} {locs : List Loc} {cells slots : Nat} {Q : State → Prop} {pc : Nat} {ls : Array Slot} {ad : Nat → Nat} {D : va_G} {cA : Nat → ClassId} {a0 : Nat} {M : a_Mth} {lv : a_LV} {st : List Value} {h : a_H} {x : Nat × a_LV × List Value × a_H} {idx kind : Nat} {z : Nat × Nat × List (Nat × Nat) × String} (hbc : cells ≤ R.cells) (hbs : slots ≤ R.slots) (hC : a_Ctx M p R s m args meth c) (hE : a_Env X ad D cA a0 s) (hP : va_P D a_cl (a_ws ad cA h) H) (hD : va_D (a_A a0) (a_ws ad cA h)) (hS : va_S (a_A a0) s.heap H locs) (hl : a_L ad ls (a_mL M) lv)
    (hd : decode (a_b M) pc = .ok (.invokevirtual idx, 3)) (hk : a_look (a_calT (a_cn M)) idx = some (kind, z)) (hs : a_str M kind pc lv st h = some x) (kk : a_KK p l e R s m args below meth c cells slots Q D cA a0 (a_mL M) ad h x) : W p l e R s m args below meth c H locs cells slots Q (F0 m pc ls (st.map (a_cv ad))) := by
  obtain ⟨hx, hb, hr, hml, hown, hts, hfr, hlo, -, -, hcn, -⟩ := hC
  have hck := a_cal_ok hcn hk
  unfold a_str at hs
  split at hs
  · next a r =>
    split at hs
    · next e1 =>
      cases hs
      simp only [Bool.and_eq_true, Nat.ble_eq, Nat.blt_eq] at e1
      obtain ⟨⟨⟨⟨g1, g2⟩, g3⟩, g4⟩, g5⟩ := e1
      obtain ⟨k, hk0⟩ := Nat.exists_eq_add_of_le g1
      subst hk0
      have hk7 : k < 7 := Nat.lt_of_add_lt_add_left (show 1000 + k < 1000 + 7 from g2)
      have hck2 : (decide (a_cn M = 6) && decide (idx = 142)) = true := hck
      simp only [Bool.and_eq_true, decide_eq_true_eq] at hck2
      obtain ⟨q1, rfl⟩ := hck2
      rw [q1] at hown
      obtain ⟨⟨adV, h5⟩, h6⟩ := id hE.2.2.2.2
      have ek : 1000 + k - 1000 = k := Nat.add_sub_cancel_left ..
      refine va_calli (va_runV (As := []) (rest := r.map (a_cv ad)) ⟨hx, hb, hml, hown, hts⟩ (c_len l ad a0 k hk7) (cwV 0 hts (a_good (a_app_good (fun w hw => ?_) wg_len)) rfl rfl rfl ⟨rfl, by decide, by decide, by decide +kernel⟩ ⟨by show 1 + 1 ≤ _; omega, by show 8 + (1 + 11) + 20 ≤ _; omega⟩) ⟨a_blS, vk_recv h5 hk7 hS, fun U hU hW => ⟨rfl, hE.2.2.2.2.to hW (by rw [hU]; exact hS)⟩⟩ rfl rfl hl.1 rfl (lv_room (by rw [a_cv_wt]; exact g3)) hd ⟨by omega, by omega⟩) hS (fun q _ z => z.elim) (fun q z => z.elim) (fun rr u t H1 locs1 ht hvm hw hB hz hk2 hS1 => ?_)
      · simp only [List.mem_cons, List.not_mem_nil, or_false] at hw
        rcases hw with rfl | rfl | rfl | rfl
        · exact wl_142
        · exact wi_len
        · exact ws_len
        · exact wn_S
      · subst hw
        have hP1 : va_P D a_cl (a_ws ad cA h) H1 := hP.kept (fun j q hq => hk2 q.1 ((hP j q hq).lt) (fun z => z))
        have k9 := kk.keep hP1 hD hS1 hl
        rw [ek] at k9
        exact k9
    · cases hs
  · next j a r =>
    split at hs
    · next e1 =>
      cases hs
      simp only [Bool.and_eq_true, Nat.ble_eq, Nat.blt_eq] at e1
      obtain ⟨⟨⟨⟨⟨g1, g2⟩, g3⟩, g6⟩, g4⟩, g5⟩ := e1
      obtain ⟨k, hk0⟩ := Nat.exists_eq_add_of_le g1
      subst hk0
      have hk7 : k < 7 := Nat.lt_of_add_lt_add_left (show 1000 + k < 1000 + 7 from g2)
      have ek : 1000 + k - 1000 = k := Nat.add_sub_cancel_left ..
      rw [ek] at g6
      have hs31 : a_sl.getD k 0 < 2 ^ 31 := by
        have : ∀ k, k < 7 → a_sl.getD k 0 < 2 ^ 31 := by decide +kernel
        exact this k hk7
      obtain ⟨j, hj, rfl⟩ := vp_in_of (a_in_ok g6) hs31
      have hck2 : (decide (a_cn M = 6) && decide (idx = 146)) = true := hck
      simp only [Bool.and_eq_true, decide_eq_true_eq] at hck2
      obtain ⟨q1, rfl⟩ := hck2
      rw [q1] at hown
      obtain ⟨⟨adV, h5⟩, h6⟩ := id hE.2.2.2.2
      refine va_calli (va_runV (As := [.int (nI j)]) (rest := r.map (a_cv ad)) ⟨hx, hb, hml, hown, hts⟩ (c_cha l ad a0 k j hk7 hj) (cwV 1 hts (a_good (a_app_good (fun w hw => ?_) wg_cha)) rfl rfl rfl ⟨rfl, by decide, by decide, by decide +kernel⟩ ⟨by show 3 + 1 ≤ _; omega, by show 8 + (2 + 11) + 64 ≤ _; omega⟩) ⟨a_blS, vk_recv h5 hk7 hS, fun U hU hW => ⟨rfl, hE.2.2.2.2.to hW (by rw [hU]; exact hS)⟩⟩ rfl rfl hl.1 rfl (lv_room (by rw [a_cv_wt]; exact g3)) hd ⟨by omega, by omega⟩) hS (fun q _ z => z.elim) (fun q z => z.elim) (fun rr u t H1 locs1 ht hvm hw hB hz hk2 hS1 => ?_)
      · simp only [List.mem_cons, List.not_mem_nil, or_false] at hw
        rcases hw with rfl | rfl | rfl | rfl
        · exact wl_146
        · exact wi_cha
        · exact ws_cha
        · exact wn_S
      · subst hw
        have hP1 : va_P D a_cl (a_ws ad cA h) H1 := hP.kept (fun j q hq => hk2 q.1 ((hP j q hq).lt) (fun z => z))
        have k9 := kk.keep hP1 hD hS1 hl
        rw [ek, nI_clamp (by omega)] at k9
        exact k9
    · cases hs
  · cases hs
set_option maxHeartbeats 4000000 in
theorem a_sim_heap {p : Program} {e : Env} {R : Room} {s : State} {m : MethodId} {args : Array Value} {below : List Frame} {meth : Method} {c : Code} {H : Heap} {locs : List Loc} {cells slots : Nat} {Q : State → Prop} {pc ln : Nat} {i : Instr} {ls : Array Slot} {ad : Nat → Nat} {D : va_G} {cA : Nat → ClassId} {a0 : Nat} {M : a_Mth} {lv : a_LV} {st : List Value} {h : a_H} {x : Nat × a_LV × List Value × a_H} (hC : a_Ctx M p R s m args meth c) (hE : a_Env X ad D cA a0 s) (hP : va_P D a_cl (a_ws ad cA h) H) (hD : va_D (a_A a0) (a_ws ad cA h)) (hS : va_S (a_A a0) s.heap H locs) (hl : a_L ad ls (a_mL M) lv)
    (hbc : cells + (x.2.2.2.1.length - h.1.length) ≤ R.cells) (hbs : slots + (a_szs x.2.2.2.1 - a_szs h.1) ≤ R.slots) (hd : decode (a_b M) pc = .ok (i, ln)) (hln : ln = a_len i ln) (hs : a_heap X M i pc lv st h = some x) (kk : a_KK p l e R s m args below meth c cells slots Q D cA a0 (a_mL M) ad h x) : W p l e R s m args below meth c H locs cells slots Q (F0 m pc ls (st.map (a_cv ad))) := by
  rw [hln] at hd
  have hs0 := hs
  unfold a_heap at hs
  split at hs
  · exact a_sim_getf hC hE hP hD hS hl hd hs kk
  · exact a_sim_putf hC hE hP hD hS hl hd hs kk
  · exact a_sim_ald (Or.inl ⟨rfl, rfl⟩) hC hE hP hD hS hl hd hs kk
  · exact a_sim_ald (Or.inr (Or.inl ⟨rfl, rfl⟩)) hC hE hP hD hS hl hd hs kk
  · exact a_sim_ald (Or.inr (Or.inr ⟨rfl, rfl⟩)) hC hE hP hD hS hl hd hs kk
  · exact a_sim_ast (Or.inl ⟨rfl, rfl⟩) hC hE hP hD hS hl hd hs kk
  · exact a_sim_ast (Or.inr (Or.inl ⟨rfl, rfl⟩)) hC hE hP hD hS hl hd hs kk
  · exact a_sim_ast (Or.inr (Or.inr ⟨rfl, rfl⟩)) hC hE hP hD hS hl hd hs kk
  · exact a_sim_alen hC hE hP hD hS hl hd hs0 kk
  · exact a_sim_newa hC hE hP hD hS hl hbc hbs hd hs0 kk
  · exact a_sim_new hC hE hP hD hS hl hbc hbs hd hs0 kk
  · exact a_sim_ldc (Or.inl rfl) hC hE hP hD hS hl hd hs0 kk
  · exact a_sim_ldc (Or.inr (Or.inl rfl)) hC hE hP hD hS hl hd hs0 kk
  · exact a_sim_ldc (Or.inr (Or.inr rfl)) hC hE hP hD hS hl hd hs0 kk
  · exact a_sim_obj hC hP hD hS hl hd hs0 kk
  · split at hs
    · next z ez =>
      obtain ⟨z1, z2, z3, z4⟩ := z
      exact a_sim_acopy (nL := 0) (z := (z1, z2, z4)) hC hE hP hD hS hl hd ez hs kk
    · cases hs
  · split at hs
    · next kind z ez => exact a_sim_str (by omega) (by omega) hC hE hP hD hS hl hd ez hs kk
    · cases hs
  · cases hs
set_option maxHeartbeats 4000000 in
/-- A RUN OF THE SMALL MACHINE IS A RUN OF THE MACHINE -/
theorem a_sim : ∀ (n : Nat) (M : a_Mth) (pc : Nat) (lv : a_LV) (st : List Value) (h : a_H) (r : Option Value) (h' : a_H), arun X n M pc lv st h = some (r, h') → a_Good X l M pc lv st h r h' := by
  intro n
  induction n with
  | zero => intro M pc lv st h r h' hr; cases hr
  | succ n ih =>
    intro M pc lv st h r h' hr
    intro p e R s m args below meth c H locs ls cells slots Q ad D cA a0 hC hE hP hD hS hl hbc hbs hret
    unfold arun at hr
    split at hr
    · cases hr
    · next i ln ei =>
      have hd := a_at_dec hC.2.2.2.2.2.2.2.2.2.1 ei
      split at hr
      · cases hr
      · next eln =>
        have hln := Nat.eq_of_beq_eq_true eln
        split at hr
        · split at hr
          · next v ty et =>
            split at hr
            · next ef =>
              cases hr
              rw [hln] at hd
              have k := hret .ireturn pc ls ad H locs hd (Or.inl ⟨rfl, v, ty, rfl, et, ef⟩) hP hD hS a_ag.rf (fun _ => rfl)
              simp only [Nat.sub_self, Nat.add_zero] at k
              exact k
            · cases hr
          · cases hr
        · split at hr
          · next et =>
            cases hr
            rw [hln] at hd
            have k := hret .return_ pc ls ad H locs hd (Or.inr (Or.inl ⟨rfl, rfl, et⟩)) hP hD hS a_ag.rf (fun _ => rfl)
            simp only [Nat.sub_self, Nat.add_zero] at k
            exact k
          · cases hr
        · split at hr
          · next q nm et =>
            cases hr
            rw [hln] at hd
            have k := hret .areturn pc ls ad H locs hd (Or.inr (Or.inr ⟨rfl, q, nm, rfl, et⟩)) hP hD hS a_ag.rf (fun _ => rfl)
            simp only [Nat.sub_self, Nat.add_zero] at k
            exact k
          · cases hr
        · split at hr
          · next M' as rest ec =>
            split at hr
            · cases hr
            · next r1 h1 er =>
              split at hr
              · next est =>
                have hle1 := arun_le _ _ _ _ _ _ _ _ er
                have hle2 := arun_le _ _ _ _ _ _ _ _ hr
                have ih2 := ih _ _ _ _ _ _ _ hr
                have ih1 := ih _ _ _ _ _ _ _ er
                have hd3 : decode (a_b M) pc = .ok (i, a_len i 3) := by
                  have : a_len i ln = a_len i 3 := by
                    unfold a_call at ec
                    split at ec <;> first | rfl | cases ec
                  rw [← this, ← hln]
                  exact hd
                obtain ⟨b1, b2⟩ := hle1
                obtain ⟨b3, b4⟩ := hle2
                refine a_sim_call (r1 := r1) (h1 := h1) hC hE hP hD hS hl hd3 ec (fun z1 z2 z3 => a_met z3 z1 z2 ih1 ad D cA a0) (by omega) (by omega) ?_
                intro ad' H1 locs1 hP1 hD1 hag heq hS1
                have hfit : (r1.map (a_cv ad')).toList ++ rest.map (a_cv ad) = (r1.toList ++ rest).map (a_cv ad') ∧ a_L ad' ls (a_mL M) lv := by
                  unfold a_stay at est
                  simp only [Bool.or_eq_true] at est
                  have e1 : (r1.map (a_cv ad')).toList = r1.toList.map (a_cv ad') := by cases r1 <;> rfl
                  rw [List.map_append, e1]
                  rcases est with z | z
                  · have hq := heq (Nat.eq_of_beq_eq_true z)
                    subst hq
                    exact ⟨rfl, hl⟩
                  · rw [a_wf_st z hag]
                    exact ⟨rfl, a_wf_L z hag hl⟩
                rw [hfit.1]
                refine ih2 p e R s m args below meth c H1 locs1 ls _ _ Q ad' D cA a0 hC (hE.ad (fun i hi => hag i (Or.inr hi))) hP1 hD1 hS1 hfit.2 (by omega) (by omega) ?_
                intro i2 pc2 ls2 ad2 H2 locs2 g1 g2 g3 g4 g5 g6 g7
                have k := hret i2 pc2 ls2 ad2 H2 locs2 g1 g2 g3 g4 g5 (fun i hi => (g6 i (hi.imp (fun z => Nat.lt_of_lt_of_le z b1) id)).trans (hag i hi)) (fun z => by rw [g7 (by omega), heq (by omega)])
                rw [show cells + (h1.1.length - h.1.length) + (h'.1.length - h1.1.length) = cells + (h'.1.length - h.1.length) by omega, show slots + (a_szs h1.1 - a_szs h.1) + (a_szs h'.1 - a_szs h1.1) = slots + (a_szs h'.1 - a_szs h.1) by omega]
                exact k
              · cases hr
          · split at hr
            · next pc' lv' st' ep =>
              have ih2 := ih _ _ _ _ _ _ _ hr
              refine a_sim_pure hC.1 hC.2.1 hd hln ep hl (fun ls' hl' => ?_)
              exact ih2 p e R s m args below meth c H locs ls' cells slots Q ad D cA a0 hC hE hP hD hS hl' hbc hbs hret
            · split at hr
              · next pc' lv' st' h1 eh =>
                have hle1 := a_heap_le eh
                have hle2 := arun_le _ _ _ _ _ _ _ _ hr
                have ih2 := ih _ _ _ _ _ _ _ hr
                obtain ⟨b1, b2⟩ := hle1
                obtain ⟨b3, b4⟩ := hle2
                have b1' : h.1.length ≤ h1.1.length := b1
                have b2' : a_szs h.1 ≤ a_szs h1.1 := b2
                refine a_sim_heap hC hE hP hD hS hl (by show cells + (h1.1.length - h.1.length) ≤ _; omega) (by show slots + (a_szs h1.1 - a_szs h.1) ≤ _; omega) hd hln eh ?_
                intro ad' H1 locs1 ls1 hP1 hD1 hS1 hag heq hl1
                refine ih2 p e R s m args below meth c H1 locs1 ls1 _ _ Q ad' D cA a0 hC (hE.ad (fun i hi => hag i (Or.inr hi))) hP1 hD1 hS1 hl1 (by show cells + (h1.1.length - h.1.length) + _ ≤ _; omega) (by show slots + (a_szs h1.1 - a_szs h.1) + _ ≤ _; omega) ?_
                intro i2 pc2 ls2 ad2 H2 locs2 g1 g2 g3 g4 g5 g6 g7
                have k := hret i2 pc2 ls2 ad2 H2 locs2 g1 g2 g3 g4 g5 (fun i hi => (g6 i (hi.imp (fun z => Nat.lt_of_lt_of_le z b1') id)).trans (hag i hi)) (fun z => by rw [g7 (by omega), heq (by show h1.1.length = _; omega)])
                show W p l e R s m args below meth c H2 locs2 (cells + (h1.1.length - h.1.length) + (h'.1.length - h1.1.length)) (slots + (a_szs h1.1 - a_szs h.1) + (a_szs h'.1 - a_szs h1.1)) Q _
                rw [show cells + (h1.1.length - h.1.length) + (h'.1.length - h1.1.length) = cells + (h'.1.length - h.1.length) by omega, show slots + (a_szs h1.1 - a_szs h.1) + (a_szs h'.1 - a_szs h1.1) = slots + (a_szs h'.1 - a_szs h.1) by omega]
                exact k
              · cases hr
end ARUN
