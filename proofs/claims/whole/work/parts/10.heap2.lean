section AHEAP2
variable {p : Program} {l : Launch} {e : Env} {R : Room} {s : State} {m : MethodId} {args : Array Value} {below : List Frame} {meth : Method} {c : Code} {H : Heap} {locs : List Loc} {cells slots : Nat} {Q : State → Prop}
variable {pc : Nat} {ls : Array Slot}
variable {X : a_X} {ad : Nat → Nat} {D : va_G} {cA : Nat → ClassId} {a0 : Nat} {M : a_Mth} {lv : a_LV} {st : List Value} {h : a_H} {x : Nat × a_LV × List Value × a_H}
theorem a_dflt_fv (ci : Nat) (ad ad' : Nat → Nat) (f : Nat → Int32) : (a_dflt ci).mapIdx (a_fv ad' f) = (a_dflt ci).mapIdx (a_fv ad f) := by
  apply List.ext_getElem?
  intro j
  rw [List.getElem?_mapIdx, List.getElem?_mapIdx]
  cases ej : (a_dflt ci)[j]? with
  | none => rfl
  | some o =>
    have hm := List.mem_of_getElem? ej
    unfold a_dflt at hm
    split at hm
    · obtain ⟨k, -, hk⟩ := List.mem_map.mp hm
      split at hk <;> (rw [← hk]; rfl)
    · cases hm
theorem a_clV {ci : Nat} {q : vw_C} (h : a_cl[ci]? = some q) : ∀ k, k < q.2.2 → defaultValue (a_ty ci k) = vp_V ((a_dflt ci).mapIdx (a_fv (fun _ => 0) (fun _ => 0))) k := by
  match ci, h with
  | 0, h => cases h; decide +kernel
  | 1, h => cases h; decide +kernel
  | 2, h => cases h; decide +kernel
  | 3, h => cases h; decide +kernel
  | 4, h => cases h; decide +kernel
  | 5, h => cases h; decide +kernel
  | 6, h => cases h; decide +kernel
  | 7, h => cases h; decide +kernel
  | 8, h => cases h; decide +kernel
  | 9, h => cases h; decide +kernel
  | n + 10, h => exact absurd (a_cl_lt h) (by omega)
/-- a step that makes one cell -/
theorem a_KK.push {nL pc' q : Nat} {st' : List Value} {y : a_C} {H1 : Heap} (hw : a_wf h.1 lv st' = true) (kk : a_KK p l e R s m args below meth c cells slots Q D cA a0 nL ad h (pc', lv, .ref h.1.length :: st', h.1 ++ [y], a_row h.2 h.1.length (fun _ => 0)))
    (hy : a_e (a_nad ad h.1.length q) cA (fun _ => 0) y = a_e ad cA (fun _ => 0) y) (hP : va_P D a_cl (a_ws ad cA h ++ [(q, a_e ad cA (fun _ => 0) y)]) H1) (hD : va_D (a_A a0) (a_ws ad cA h ++ [(q, a_e ad cA (fun _ => 0) y)])) (hS : va_S (a_A a0) s.heap H1 locs) (hl : a_L ad ls nL lv) :
    W p l e R s m args below meth c H1 locs (cells + 1) (slots + a_sz y) Q (F0 m pc' ls (.ref q :: st'.map (a_cv ad))) := by
  have hn := a_wf_lt hw
  have hag : a_ag h.1.length ad (a_nad ad h.1.length q) := a_nad_ag (by omega)
  have ew : a_ws (a_nad ad h.1.length q) cA (h.1 ++ [y], a_row h.2 h.1.length (fun _ => 0)) = a_ws ad cA h ++ [(q, a_e ad cA (fun _ => 0) y)] := by
    rw [a_ws_push, a_wf_ws hw hag, a_nad_s, hy]
  have k := kk (a_nad ad h.1.length q) H1 locs ls (by rw [ew]; exact hP) (by rw [ew]; exact hD) hS hag (fun z => by simp at z) (a_wf_L hw hag hl)
  have e1 : (h.1 ++ [y]).length - h.1.length = 1 := by simp
  have e2 : a_szs (h.1 ++ [y]) - a_szs h.1 = a_sz y := by rw [a_szs_push]; omega
  simp only [e1, e2] at k
  have e3 : (Value.ref h.1.length :: st').map (a_cv (a_nad ad h.1.length q)) = .ref q :: st'.map (a_cv ad) := by
    rw [List.map_cons, a_wf_st hw hag]
    simp only [a_cv, a_nad_s]
  rw [e3] at k
  exact k
set_option maxHeartbeats 4000000 in
theorem a_sim_new {idx nL : Nat} (hC : a_Ctx M p R s m args meth c) (hE : a_Env X ad D cA a0 s) (hP : va_P D a_cl (a_ws ad cA h) H) (hD : va_D (a_A a0) (a_ws ad cA h)) (hS : va_S (a_A a0) s.heap H locs) (hl : a_L ad ls nL lv)
    (hbc : cells + (x.2.2.2.1.length - h.1.length) ≤ R.cells) (hbs : slots + (a_szs x.2.2.2.1 - a_szs h.1) ≤ R.slots) (hd : decode (a_b M) pc = .ok (.new idx, 3)) (hs : a_heap X M (.new idx) pc lv st h = some x) (kk : a_KK p l e R s m args below meth c cells slots Q D cA a0 nL ad h x) : W p l e R s m args below meth c H locs cells slots Q (F0 m pc ls (st.map (a_cv ad))) := by
  obtain ⟨hx, hb, hr, hml, hown, hts, -, -, -, -, hcn, -⟩ := hC
  simp only [a_heap] at hs
  split at hs
  · next ci z e1 =>
    split at hs
    · next e2 =>
      cases hs
      simp only [Bool.and_eq_true] at e2
      have hw := e2.2
      have hck : a_ckN (a_cn M) (idx, ci, z) = true := List.all_eq_true.mp (a_new_all _ hcn) _ (a_look_mem e1)
      unfold a_ckN at hck
      simp only at hck
      split at hck
      · next q eq =>
        simp only [Bool.and_eq_true] at hck
        obtain ⟨⟨w1, w2⟩, w3⟩ := hck
        have hsz : a_sz (.inl (ci, a_dflt ci)) = q.2.2 := by
          show (match a_cl[ci]? with
            | some q => q.2.2
            | none => 0) = q.2.2
          rw [eq]
        have e3 : (h.1 ++ [Sum.inl (ci, a_dflt ci)]).length - h.1.length = 1 := by simp
        have e4 : a_szs (h.1 ++ [Sum.inl (ci, a_dflt ci)]) - a_szs h.1 = q.2.2 := by rw [a_szs_push, hsz]; omega
        simp only [e3, e4] at hbc hbs
        refine va_new (ci := ci) (fs := (a_dflt ci).mapIdx (a_fv ad (fun _ => 0))) (C := q.1) (T := q.2.1) (N := q.2.2) hx hb hts (a_clW eq) (a_ty ci) (a_clT eq) hown (hts _ (a_has_in w1)) (hts _ (a_has_in w2)) (hts _ (a_has_in w3)) hE.1 hP hD hS (fun q hq => Nat.le_trans hE.2.1 hq) eq (fun j hj => ?_) hbc hbs hd (fun a H1 hP1 hD1 hS1 => ?_)
        · rw [a_dflt_fv ci (fun _ => 0) ad]
          exact a_clV eq j hj
        · have k := kk.push (q := a) hw (by simp only [a_e]; rw [a_dflt_fv ci ad]) hP1 hD1 hS1 hl
          rw [hsz] at k
          exact k
      · cases hck
    · cases hs
  · cases hs
theorem a_K_one {tys : List (ClassId × FieldType)} {ty : FieldType} {c1 c2 : ClassId} {t : Nat} {D : va_G} {s : State} (hty : ∀ C, ty ≠ .object C) (h : va_K D a_cl (tys ++ [(c2, ty)]) s) (ht : tys[t]? = some (c1, ty)) : c2 = c1 := by
  have h1 := (h.2 t (c1, ty) (by rw [List.getElem?_append_left (List.getElem?_eq_some_iff.mp ht).1]; exact ht)).2
  have h2 := (h.2 tys.length (c2, ty) (by simp)).2
  cases ty with
  | object C => exact absurd rfl (hty C)
  | _ =>
    simp only [va_RA] at h1 h2
    rw [h1] at h2
    exact (Option.some.inj h2).symm
set_option maxHeartbeats 4000000 in
theorem a_sim_newa {t : ArrayType} {nL : Nat} (hC : a_Ctx M p R s m args meth c) (hE : a_Env X ad D cA a0 s) (hP : va_P D a_cl (a_ws ad cA h) H) (hD : va_D (a_A a0) (a_ws ad cA h)) (hS : va_S (a_A a0) s.heap H locs) (hl : a_L ad ls nL lv)
    (hbc : cells + (x.2.2.2.1.length - h.1.length) ≤ R.cells) (hbs : slots + (a_szs x.2.2.2.1 - a_szs h.1) ≤ R.slots) (hd : decode (a_b M) pc = .ok (.newarray t, 2)) (hs : a_heap X M (.newarray t) pc lv st h = some x) (kk : a_KK p l e R s m args below meth c cells slots Q D cA a0 nL ad h x) : W p l e R s m args below meth c H locs cells slots Q (F0 m pc ls (st.map (a_cv ad))) := by
  obtain ⟨hx, hb, hr, hml, hown, hts, -, -, -, -, hcn, -⟩ := hC
  simp only [a_heap] at hs
  split at hs
  · next n r tc et =>
    split at hs
    · next e2 =>
      cases hs
      simp only [Bool.and_eq_true, decide_eq_true_eq, Nat.ble_eq] at e2
      obtain ⟨⟨g1, g2⟩, hw⟩ := e2
      have g1 : ¬ n < 0 := by simpa using g1
      have e3 : (h.1 ++ [Sum.inr (tc, n.toNatClampNeg)]).length - h.1.length = 1 := by simp
      have e4 : a_szs (h.1 ++ [Sum.inr (tc, n.toNatClampNeg)]) - a_szs h.1 = n.toNatClampNeg := by
        rw [a_szs_push]
        show _ + n.toNatClampNeg - _ = _
        omega
      simp only [e3, e4] at hbc hbs
      have hA : ∀ q, s.heap.size ≤ q → a_A a0 q := fun q hq => Nat.le_trans hE.2.1 hq
      have go : ∀ (q : Nat) (c2 : ClassId) (H1 : Heap), c2 = cA tc → va_P D a_cl (a_ws ad cA h ++ [(q, .inl (c2, n.toNatClampNeg, .inl (fun _ => 0)))]) H1 → va_D (a_A a0) (a_ws ad cA h ++ [(q, .inl (c2, n.toNatClampNeg, .inl (fun _ => 0)))]) → va_S (a_A a0) s.heap H1 locs → W p l e R s m args below meth c H1 locs (cells + 1) (slots + n.toNatClampNeg) Q (F0 m (pc + 2) ls (.ref q :: r.map (a_cv ad))) := by
        intro q c2 H1 hc hP1 hD1 hS1
        subst hc
        exact kk.push (q := q) (y := .inr (tc, n.toNatClampNeg)) hw rfl hP1 hD1 hS1 hl
      cases t with
      | int =>
        cases et
        exact va_newa (atype := .int) (ty := .int) (a0 := (n.toNatClampNeg, .inl (fun _ => 0))) (N' := n.toNatClampNeg) hx hb (hts _ (a_has_in a_arr_all.1)) rfl hE.1 hP hD hS hA (fun cA => rfl) g1 rfl (by show n.toNatClampNeg * 4 ≤ _; omega) hbc hbs hd (fun q c2 H1 hK1 hP1 hD1 hS1 => go q c2 H1 (a_K_one (t := 0) (fun C z => by cases z) hK1 rfl) hP1 hD1 hS1)
      | boolean =>
        cases et
        exact va_newa (atype := .boolean) (ty := .boolean) (a0 := (n.toNatClampNeg, .inl (fun _ => 0))) (N' := n.toNatClampNeg) hx hb (hts _ (a_has_in a_arr_all.2.1)) rfl hE.1 hP hD hS hA (fun cA => rfl) g1 rfl (by show n.toNatClampNeg * 1 ≤ _; omega) hbc hbs hd (fun q c2 H1 hK1 hP1 hD1 hS1 => go q c2 H1 (a_K_one (t := 1) (fun C z => by cases z) hK1 rfl) hP1 hD1 hS1)
      | char =>
        cases et
        exact va_newa (atype := .char) (ty := .char) (a0 := (n.toNatClampNeg, .inl (fun _ => 0))) (N' := n.toNatClampNeg) hx hb (hts _ (a_has_in a_arr_all.2.2)) rfl hE.1 hP hD hS hA (fun cA => rfl) g1 rfl (by show n.toNatClampNeg * 2 ≤ _; omega) hbc hbs hd (fun q c2 H1 hK1 hP1 hD1 hS1 => go q c2 H1 (a_K_one (t := 2) (fun C z => by cases z) hK1 rfl) hP1 hD1 hS1)
      | _ => cases et
    · cases hs
  · cases hs
set_option maxHeartbeats 4000000 in
theorem a_sim_alen {nL : Nat} (hC : a_Ctx M p R s m args meth c) (hE : a_Env X ad D cA a0 s) (hP : va_P D a_cl (a_ws ad cA h) H) (hD : va_D (a_A a0) (a_ws ad cA h)) (hS : va_S (a_A a0) s.heap H locs) (hl : a_L ad ls nL lv)
    (hd : decode (a_b M) pc = .ok (.arraylength, 1)) (hs : a_heap X M .arraylength pc lv st h = some x) (kk : a_KK p l e R s m args below meth c cells slots Q D cA a0 nL ad h x) : W p l e R s m args below meth c H locs cells slots Q (F0 m pc ls (st.map (a_cv ad))) := by
  obtain ⟨hx, hb, hr, hml, hown, hts, -, -, -, -, hcn, -⟩ := hC
  simp only [a_heap] at hs
  split at hs
  · next a r =>
    split at hs
    · next t n e2 =>
      split at hs
      · next e3 =>
        cases hs
        have ht : t < 3 := by simpa using e3
        have hat := a_ws_at (ad := ad) (cA := cA) e2
        exact va_alen hx hb hE.1 hP a t hat (a_tys_at t ht) rfl hd (kk.keep hP hD hS hl)
      · cases hs
    · cases hs
    · cases X with
      | none => cases hs
      | some Y =>
        obtain ⟨L, xs⟩ := Y
        simp only at hs
        split at hs
        · next e3 =>
          cases hs
          have e5 := Nat.eq_of_beq_eq_true e3
          subst e5
          obtain ⟨g1, g2, g3⟩ := hE.2.2.2.1 L xs rfl
          exact va_slen hx hb g1 g2 (Nat.not_le.mpr g3) hS hd (kk.keep hP hD hS hl)
        · cases hs
  · cases hs
set_option maxHeartbeats 4000000 in
theorem a_sim_ldc {i : Instr} {idx nL : Nat} (hi : i = .ldc idx ∨ i = .ldc_w idx ∨ i = .ldc2_w idx) (hC : a_Ctx M p R s m args meth c) (hE : a_Env X ad D cA a0 s) (hP : va_P D a_cl (a_ws ad cA h) H) (hD : va_D (a_A a0) (a_ws ad cA h)) (hS : va_S (a_A a0) s.heap H locs) (hl : a_L ad ls nL lv)
    (hd : decode (a_b M) pc = .ok (i, a_len i 0)) (hs : a_heap X M i pc lv st h = some x) (kk : a_KK p l e R s m args below meth c cells slots Q D cA a0 nL ad h x) : W p l e R s m args below meth c H locs cells slots Q (F0 m pc ls (st.map (a_cv ad))) := by
  obtain ⟨hx, hb, hr, hml, hown, hts, -, -, -, -, hcn, -⟩ := hC
  rcases hi with rfl | rfl | rfl
  · simp only [a_heap] at hs
    split at hs
    · next v z e1 =>
      cases hs
      have hck : a_ckL (a_cn M) (idx, .inl v, z) = true := List.all_eq_true.mp (a_ldc_all _ hcn) _ (a_look_mem e1)
      exact lv_ldc hx hb hown (hts _ (a_has_in hck)) hd (kk.keep hP hD hS hl)
    · next k tx z e1 =>
      cases hs
      have hck : a_ckL (a_cn M) (idx, .inr (k, tx), z) = true := List.all_eq_true.mp (a_ldc_all _ hcn) _ (a_look_mem e1)
      unfold a_ckL at hck
      simp only [Bool.and_eq_true, decide_eq_true_eq] at hck
      have h6 := hck.2
      rw [h6] at e1 hown
      exact va_ldcS hx hb hown (hE.2.2.2.2.2.1 idx k tx z e1) hd (kk.keep hP hD hS hl)
    · cases hs
  · simp only [a_heap] at hs
    split at hs
    · next v z e1 =>
      cases hs
      have hck : a_ckL (a_cn M) (idx, .inl v, z) = true := List.all_eq_true.mp (a_ldc_all _ hcn) _ (a_look_mem e1)
      exact lv_ldcw hx hb hown (hts _ (a_has_in hck)) hd (kk.keep hP hD hS hl)
    · cases hs
  · simp only [a_heap] at hs
    split at hs
    · next v z e1 =>
      cases hs
      have hck : a_has z (.constantLong (a_Cn (a_cn M)) idx v) = true := List.all_eq_true.mp (a_ldc2_all _ hcn) (idx, v, z) (a_look_mem e1)
      exact lv_ldc2 hx hb hown (hts _ (a_has_in hck)) hd (kk.keep hP hD hS hl)
    · cases hs
set_option maxHeartbeats 4000000 in
theorem a_sim_obj {idx : Nat} (hC : a_Ctx M p R s m args meth c) (hP : va_P D a_cl (a_ws ad cA h) H) (hD : va_D (a_A a0) (a_ws ad cA h)) (hS : va_S (a_A a0) s.heap H locs) (hl : a_L ad ls (a_mL M) lv)
    (hd : decode (a_b M) pc = .ok (.invokespecial idx, 3)) (hs : a_heap X M (.invokespecial idx) pc lv st h = some x) (kk : a_KK p l e R s m args below meth c cells slots Q D cA a0 (a_mL M) ad h x) : W p l e R s m args below meth c H locs cells slots Q (F0 m pc ls (st.map (a_cv ad))) := by
  obtain ⟨hx, hb, hr, hml, hown, hts, hfr, hlo, -, -, hcn, -⟩ := hC
  simp only [a_heap] at hs
  split at hs
  · next z a r e1 =>
    split at hs
    · next e2 =>
      cases hs
      simp only [Bool.and_eq_true, Nat.ble_eq] at e2
      obtain ⟨⟨g1, g2⟩, g3⟩ := e2
      obtain ⟨z1, z2, z3, z4⟩ := z
      have hck := a_cal_ok hcn e1
      unfold a_ckC at hck
      simp only at hck
      split at hck
      · next p0 p1 p2 heq =>
        simp only [Bool.and_eq_true] at hck
        obtain ⟨⟨w1, w2⟩, w3⟩ := hck
        refine W.objInit hx hb hown (hts _ (a_has_in w1)) (hts _ (a_has_in w2)) (hts _ (a_has_in w3)) rfl (by rw [hml]; exact hl.1) rfl hd (Nat.le_trans g2 hfr) ?_ ?_
        · rw [a_cv_wt]
          show 2 * 0 + _ + 12 ≤ _
          omega
        · exact W.eq (g2 := F0 m (pc + 3) ls (r.map (a_cv ad))) rfl (kk.keep hP hD hS hl)
      · next heq => simp at heq
      · next heq => simp at heq
      · next heq => simp at heq
      · exfalso
        split at hck
        · unfold a_ckC1 at hck
          simp at hck
        · cases hck
    · cases hs
  · cases hs
end AHEAP2
