/-! the small machine's steps over cells are the machine's -/
section AHEAP
variable {p : Program} {l : Launch} {e : Env} {R : Room} {s : State} {m : MethodId} {args : Array Value} {below : List Frame} {meth : Method} {c : Code} {H : Heap} {locs : List Loc} {cells slots : Nat} {Q : State → Prop}
variable {pc : Nat} {ls : Array Slot}
/-- what a method's frame knows -/
def a_Ctx (M : a_Mth) (p : Program) (R : Room) (s : State) (m : MethodId) (args : Array Value) (meth : Method) (c : Code) : Prop :=
  p.tables.exec = Jvm.exec ∧ c.code = a_b M ∧ meth.sig.returnType = a_rt M ∧ c.maxLocals = a_mL M ∧ s.vm.findClass (a_Cn (a_cn M)) = some m.cls ∧ (∀ w ∈ a_LT, w.before args s = true) ∧ a_fr M ≤ R.frames ∧ a_lo M ≤ R.locals ∧ ((a_y M).name = "<init>" → meth.name = "<init>") ∧ a_ckI (a_b M) (a_il M) = true ∧ a_cn M < 13 ∧ meth.locks = false
theorem a_fld_ok {cn idx : Nat} {x : Nat × Nat × Nat × (Nat × Nat) × String} (hcn : cn < 13) (h : a_look (a_fldT cn) idx = some x) : a_ckF cn (idx, x) = true :=
  List.all_eq_true.mp (a_fld_all cn hcn) _ (a_look_mem h)
theorem a_cal_ok {cn idx : Nat} {x : Nat × Nat × Nat × List (Nat × Nat) × String} (hcn : cn < 13) (h : a_look (a_calT cn) idx = some x) : a_ckC cn (idx, x) = true :=
  List.all_eq_true.mp (a_cal_all cn hcn) _ (a_look_mem h)
theorem a_in_ok {i : Int32} {n : Nat} (h : a_in i n = true) : vp_in i n := by
  simp only [a_in, Bool.not_eq_true', Bool.or_eq_false_iff, decide_eq_false_iff_not] at h
  exact fun q => q.elim h.1 h.2
/-- what goes on behind such a step -/
def a_KK (p : Program) (l : Launch) (e : Env) (R : Room) (s : State) (m : MethodId) (args : Array Value) (below : List Frame) (meth : Method) (c : Code) (cells slots : Nat) (Q : State → Prop) (D : va_G) (cA : Nat → ClassId) (a0 nL : Nat) (ad : Nat → Nat) (h : a_H) (x : Nat × a_LV × List Value × a_H) : Prop :=
  ∀ (ad' : Nat → Nat) (H' : Heap) (locs' : List Loc) (ls' : Array Slot), va_P D a_cl (a_ws ad' cA x.2.2.2) H' → va_D (a_A a0) (a_ws ad' cA x.2.2.2) → va_S (a_A a0) s.heap H' locs' → a_ag h.1.length ad ad' → (x.2.2.2.1.length = h.1.length → ad' = ad) → a_L ad' ls' nL x.2.1 →
    W p l e R s m args below meth c H' locs' (cells + (x.2.2.2.1.length - h.1.length)) (slots + (a_szs x.2.2.2.1 - a_szs h.1)) Q (F0 m x.1 ls' (x.2.2.1.map (a_cv ad')))
variable {X : a_X} {ad : Nat → Nat} {D : va_G} {cA : Nat → ClassId} {a0 : Nat} {M : a_Mth} {lv : a_LV} {st : List Value} {h : a_H} {x : Nat × a_LV × List Value × a_H}
/-- a step that leaves the cells as they are -/
theorem a_KK.keep {nL : Nat} {pc' : Nat} {st' : List Value} (kk : a_KK p l e R s m args below meth c cells slots Q D cA a0 nL ad h (pc', lv, st', h)) (hP : va_P D a_cl (a_ws ad cA h) H) (hD : va_D (a_A a0) (a_ws ad cA h)) (hS : va_S (a_A a0) s.heap H locs) (hl : a_L ad ls nL lv) :
    W p l e R s m args below meth c H locs cells slots Q (F0 m pc' ls (st'.map (a_cv ad))) := by
  have k := kk ad H locs ls hP hD hS a_ag.rf (fun _ => rfl) hl
  simp only [Nat.sub_self, Nat.add_zero] at k
  exact k
/-- a step that makes no cell -/
theorem a_KK.put {nL : Nat} {pc' : Nat} {st' : List Value} {h' : a_H} {H' : Heap} {locs' : List Loc} (kk : a_KK p l e R s m args below meth c cells slots Q D cA a0 nL ad h (pc', lv, st', h')) (h1 : h'.1.length = h.1.length) (h2 : a_szs h'.1 = a_szs h.1) (hP : va_P D a_cl (a_ws ad cA h') H') (hD : va_D (a_A a0) (a_ws ad cA h')) (hS : va_S (a_A a0) s.heap H' locs') (hl : a_L ad ls nL lv) :
    W p l e R s m args below meth c H' locs' cells slots Q (F0 m pc' ls (st'.map (a_cv ad))) := by
  have k := kk ad H' locs' ls hP hD hS a_ag.rf (fun _ => rfl) hl
  simp only [h1, h2, Nat.sub_self, Nat.add_zero] at k
  exact k
set_option maxHeartbeats 4000000 in
theorem a_sim_getf {idx nL : Nat} (hC : a_Ctx M p R s m args meth c) (hE : a_Env X ad D cA a0 s) (hP : va_P D a_cl (a_ws ad cA h) H) (hD : va_D (a_A a0) (a_ws ad cA h)) (hS : va_S (a_A a0) s.heap H locs) (hl : a_L ad ls nL lv)
    (hd : decode (a_b M) pc = .ok (.getfield idx, 3)) (hs : a_getf (a_cn M) idx pc lv st h = some x) (kk : a_KK p l e R s m args below meth c cells slots Q D cA a0 nL ad h x) : W p l e R s m args below meth c H locs cells slots Q (F0 m pc ls (st.map (a_cv ad))) := by
  obtain ⟨hx, hb, hr, hml, hown, hts, -, -, -, -, hcn, -⟩ := hC
  unfold a_getf at hs
  split at hs
  · next a r =>
    split at hs
    · next ci k ns e1 =>
      split at hs
      · next cj fs e2 =>
        split at hs
        · next e3 =>
          have e3' := Nat.eq_of_beq_eq_true e3
          subst e3'
          have hck := a_fld_ok hcn e1
          unfold a_ckF at hck
          simp only at hck
          split at hck
          · next q eq =>
            simp only [Bool.and_eq_true, Nat.blt_eq] at hck
            obtain ⟨hk, hck⟩ := hck
            have hat := a_ws_at (ad := ad) (cA := cA) e2
            have go : ∀ v : Value, (fs.mapIdx (a_fv ad (h.2 a)))[k]? = some v → W p l e R s m args below meth c H locs cells slots Q (F0 m (pc + 3) ls (v :: r.map (a_cv ad))) → W p l e R s m args below meth c H locs cells slots Q (F0 m pc ls ((Value.ref a :: r).map (a_cv ad))) := by
              intro v hv kw
              split at hck
              · exact va_get (D := D) (C := q.1) (T := q.2.1) (N := q.2.2) hx hb hts (a_clW eq) hown hE.1 hP a hat eq k hk (hts _ (a_has_in hck)) (fun _ h9 => h9) hv hd kw
              · exact va_getN (D := D) (C := q.1) (T := q.2.1) (N := q.2.2) hx hb hts (a_clW eq) hown hE.1 hP a hat eq k hk (va_Nw.use rfl (hE.2.2.1 _ (a_hasN_in hck) rfl)) (fun _ h9 => h9) hv hd kw
            split at hs
            · next e4 =>
              cases hs
              exact go (.int (h.2 a k)) (by rw [List.getElem?_mapIdx, e4]; rfl) (kk.keep hP hD hS hl)
            · next q4 e4 =>
              cases hs
              exact go (.ref (ad q4)) (by rw [List.getElem?_mapIdx, e4]; rfl) (kk.keep hP hD hS hl)
            · cases hs
          · cases hck
        · cases hs
      · cases hs
    · cases hs
  · cases hs
theorem a_fit_ok {ty : FieldType} {v : Int32} (h : a_fit ty v = true) : narrow ty (.int v) = .int v ∧ fits ty (.int v) = true ∧ a_isR ty = false := by
  unfold a_fit at h
  split at h
  · exact ⟨rfl, rfl, rfl⟩
  · simp only [Bool.or_eq_true, decide_eq_true_eq] at h
    rcases h with rfl | rfl <;> exact ⟨rfl, rfl, rfl⟩
  · cases h
theorem a_isR_ok {ty : FieldType} (h : a_isR ty = true) (q : Nat) : narrow ty (.ref q) = .ref q ∧ fits ty (.ref q) = true := by
  cases ty <;> first | (cases h; done) | exact ⟨rfl, rfl⟩
set_option maxHeartbeats 4000000 in
theorem a_sim_putf {idx nL : Nat} (hC : a_Ctx M p R s m args meth c) (hE : a_Env X ad D cA a0 s) (hP : va_P D a_cl (a_ws ad cA h) H) (hD : va_D (a_A a0) (a_ws ad cA h)) (hS : va_S (a_A a0) s.heap H locs) (hl : a_L ad ls nL lv)
    (hd : decode (a_b M) pc = .ok (.putfield idx, 3)) (hs : a_putf M idx pc lv st h = some x) (kk : a_KK p l e R s m args below meth c cells slots Q D cA a0 nL ad h x) : W p l e R s m args below meth c H locs cells slots Q (F0 m pc ls (st.map (a_cv ad))) := by
  obtain ⟨hx, hb, hr, hml, hown, hts, -, -, hin, -, hcn, -⟩ := hC
  unfold a_putf at hs
  split at hs
  · next v a r =>
    split at hs
    · next ci k ns e1 =>
      split at hs
      · next cj fs e2 =>
        split at hs
        · next e3 e4 =>
          have e3' := Nat.eq_of_beq_eq_true e3
          subst e3'
          split at hs
          · next hf =>
            cases hs
            have hck := a_fld_ok hcn e1
            unfold a_ckF at hck
            simp only at hck
            split at hck
            · next q eq =>
              simp only [Bool.and_eq_true, Nat.blt_eq] at hck
              obtain ⟨hk, hck⟩ := hck
              have hat := a_ws_at (ad := ad) (cA := cA) e2
              obtain ⟨f1, f2, f3⟩ := a_fit_ok hf
              have hfin : (q.2.1 k).2.2.2 = false := by rw [← (a_clD eq k hk).1]; exact f3
              have hlen : k < (fs.mapIdx (a_fv ad (h.2 a))).length := by
                rw [List.length_mapIdx]
                exact (List.getElem?_eq_some_iff.mp e4).1
              have go : ∀ (H1 : Heap) (locs1 : List Loc), va_P D a_cl ((a_ws ad cA h).set a (ad a, .inr (cj, (fs.mapIdx (a_fv ad (h.2 a))).set k (.int v)))) H1 → va_D (a_A a0) ((a_ws ad cA h).set a (ad a, .inr (cj, (fs.mapIdx (a_fv ad (h.2 a))).set k (.int v)))) → va_S (a_A a0) s.heap H1 locs1 → W p l e R s m args below meth c H1 locs1 cells slots Q (F0 m (pc + 3) ls (r.map (a_cv ad))) := by
                intro H1 locs1 hP1 hD1 hS1
                have ew : (a_ws ad cA h).set a (ad a, .inr (cj, (fs.mapIdx (a_fv ad (h.2 a))).set k (.int v))) = a_ws ad cA (h.1, a_up h.2 a k v) := a_ws_int (S := h.1) (m := h.2) e2 e4
                rw [ew] at hP1 hD1
                exact kk.put rfl rfl hP1 hD1 hS1 hl
              split at hck
              · exact va_put (D := D) (C := q.1) (T := q.2.1) (N := q.2.2) hx hb hts (a_clW eq) (a_ty cj) (a_clT eq) (a_clN eq) hown hE.1 hP hD hS a hat eq k hk (hts _ (a_has_in hck)) (fun _ h9 => h9) hfin (a_clT eq k hk) f1 f2 hlen hd go
              · exact va_putN (D := D) (C := q.1) (T := q.2.1) (N := q.2.2) hx hb hts (a_clW eq) (a_ty cj) (a_clT eq) (a_clN eq) hown hE.1 hP hD hS a hat eq k hk (va_Nw.use rfl (hE.2.2.1 _ (a_hasN_in hck) rfl)) (fun _ h9 => h9) hfin (a_clT eq k hk) f1 f2 hlen hd go
            · cases hck
          · cases hs
        · cases hs
      · cases hs
    · cases hs
  · next b a r =>
    split at hs
    · next ci k ns w e1 =>
      split at hs
      · next cj fs e2 =>
        split at hs
        · next o e3 e4 =>
          have e3' := Nat.eq_of_beq_eq_true e3
          subst e3'
          split at hs
          · next hf =>
            cases hs
            simp only [Bool.and_eq_true, decide_eq_true_eq] at hf
            obtain ⟨⟨⟨n0, n1⟩, n2⟩, n3⟩ := hf
            have n0 := Nat.eq_of_beq_eq_true n0
            have n1 := Nat.eq_of_beq_eq_true n1
            subst n0
            have hck := a_fld_ok hcn e1
            unfold a_ckF at hck
            simp only at hck
            split at hck
            · next q eq =>
              simp only [Bool.and_eq_true, Nat.blt_eq] at hck
              obtain ⟨hk, hck⟩ := hck
              have hat := a_ws_at (ad := ad) (cA := cA) e2
              obtain ⟨d1, d2, d3⟩ := a_clD eq k hk
              obtain ⟨f1, f2⟩ := a_isR_ok n2 (ad b)
              have hfin : (q.2.1 k).2.2.2 = true := by rw [← d1]; exact n2
              have hlen : k < (fs.mapIdx (a_fv ad (h.2 a))).length := by
                rw [List.length_mapIdx]
                exact (List.getElem?_eq_some_iff.mp e4).1
              refine va_putF (D := D) (C := q.1) (T := q.2.1) (N := q.2.2) hx hb hts (a_clW eq) (a_ty cj) (a_clT eq) (a_clN eq) hown hE.1 hP hD hS a hat eq k hk (hts _ (a_has_in hck)) (fun _ h9 => h9) hfin (hin n3) (by rw [d2, ← d3, n1]) (a_clT eq k hk) f1 f2 hlen hd (fun H1 locs1 hP1 hD1 hS1 => ?_)
              have ew : (a_ws ad cA h).set a (ad a, .inr (cj, (fs.mapIdx (a_fv ad (h.2 a))).set k (a_cv ad (.ref b)))) = a_ws ad cA (h.1.set a (.inl (cj, fs.set k (some (some b)))), h.2) := a_ws_ref (S := h.1) (m := h.2) e2
              rw [ew] at hP1 hD1
              exact kk.put (List.length_set ..) (a_szs_set e2) hP1 hD1 hS1 hl
            · cases hck
          · cases hs
        · cases hs
      · cases hs
    · cases hs
  · cases hs
theorem a_tys_at {cA : Nat → ClassId} (t : Nat) (ht : t < 3) : (a_tys cA)[t]? = some (cA t, (match t with
    | 0 => FieldType.int
    | 1 => .boolean
    | _ => .char)) := by
  match t, ht with
  | 0, _ => rfl
  | 1, _ => rfl
  | 2, _ => rfl
  | n + 3, h => exact absurd h (by omega)
set_option maxHeartbeats 4000000 in
theorem a_sim_ald {tc nL : Nat} {i : Instr} (ht : (tc = 0 ∧ i = .iaload) ∨ (tc = 1 ∧ i = .baload) ∨ (tc = 2 ∧ i = .caload)) (hC : a_Ctx M p R s m args meth c) (hE : a_Env X ad D cA a0 s) (hP : va_P D a_cl (a_ws ad cA h) H) (hD : va_D (a_A a0) (a_ws ad cA h)) (hS : va_S (a_A a0) s.heap H locs) (hl : a_L ad ls nL lv)
    (hd : decode (a_b M) pc = .ok (i, 1)) (hs : a_ald X tc pc lv st h = some x) (kk : a_KK p l e R s m args below meth c cells slots Q D cA a0 nL ad h x) : W p l e R s m args below meth c H locs cells slots Q (F0 m pc ls (st.map (a_cv ad))) := by
  obtain ⟨hx, hb, hr, hml, hown, hts, -, -, -, -, hcn, -⟩ := hC
  unfold a_ald at hs
  split at hs
  · next j a r =>
    split at hs
    · next t n e2 =>
      split at hs
      · next e3 =>
        cases hs
        simp only [Bool.and_eq_true] at e3
        have e4 := Nat.eq_of_beq_eq_true e3.1
        subst e4
        have hat := a_ws_at (ad := ad) (cA := cA) e2
        have kw := kk.keep hP hD hS hl
        rcases ht with ⟨rfl, rfl⟩ | ⟨rfl, rfl⟩ | ⟨rfl, rfl⟩
        · exact va_iald hx hb hE.1 hP a 0 hat rfl (a_in_ok e3.2) hd kw
        · exact va_zald hx hb hE.1 hP a 1 hat rfl (a_in_ok e3.2) hd kw
        · exact va_cald hx hb hE.1 hP a 2 hat rfl (a_in_ok e3.2) hd kw
      · cases hs
    · cases hs
    · cases X with
      | none => cases hs
      | some Y =>
        obtain ⟨L, xs⟩ := Y
        simp only at hs
        split at hs
        · next e3 =>
          cases hs
          simp only [Bool.and_eq_true] at e3
          have e4 := Nat.eq_of_beq_eq_true e3.1.1
          have e5 := Nat.eq_of_beq_eq_true e3.1.2
          subst e4; subst e5
          obtain ⟨g1, g2, g3⟩ := hE.2.2.2.1 L xs rfl
          have kw := kk.keep hP hD hS hl
          rcases ht with ⟨-, rfl⟩ | ⟨h0, -⟩ | ⟨h0, -⟩
          · exact va_sld hx hb g1 g2 (Nat.not_le.mpr g3) hS (a_in_ok e3.2) hd kw
          · cases h0
          · cases h0
        · cases hs
  · cases hs
set_option maxHeartbeats 4000000 in
theorem a_sim_ast {tc nL : Nat} {i : Instr} (ht : (tc = 0 ∧ i = .iastore) ∨ (tc = 1 ∧ i = .bastore) ∨ (tc = 2 ∧ i = .castore)) (hC : a_Ctx M p R s m args meth c) (hE : a_Env X ad D cA a0 s) (hP : va_P D a_cl (a_ws ad cA h) H) (hD : va_D (a_A a0) (a_ws ad cA h)) (hS : va_S (a_A a0) s.heap H locs) (hl : a_L ad ls nL lv)
    (hd : decode (a_b M) pc = .ok (i, 1)) (hs : a_ast tc pc lv st h = some x) (kk : a_KK p l e R s m args below meth c cells slots Q D cA a0 nL ad h x) : W p l e R s m args below meth c H locs cells slots Q (F0 m pc ls (st.map (a_cv ad))) := by
  obtain ⟨hx, hb, hr, hml, hown, hts, -, -, -, -, hcn, -⟩ := hC
  unfold a_ast at hs
  split at hs
  · next v j a r =>
    split at hs
    · next t n e2 =>
      split at hs
      · next e3 =>
        cases hs
        simp only [Bool.and_eq_true] at e3
        have e4 := Nat.eq_of_beq_eq_true e3.1
        subst e4
        have hat := a_ws_at (ad := ad) (cA := cA) e2
        have go : ∀ (y : Int32) (H1 : Heap) (locs1 : List Loc), a_KK p l e R s m args below meth c cells slots Q D cA a0 nL ad h (pc + 1, lv, r, h.1, a_up h.2 a j.toNatClampNeg y) → va_P D a_cl ((a_ws ad cA h).set a (ad a, .inl (cA t, n, .inl (upd (h.2 a) j.toNatClampNeg y)))) H1 → va_D (a_A a0) ((a_ws ad cA h).set a (ad a, .inl (cA t, n, .inl (upd (h.2 a) j.toNatClampNeg y)))) → va_S (a_A a0) s.heap H1 locs1 → W p l e R s m args below meth c H1 locs1 cells slots Q (F0 m (pc + 1) ls (r.map (a_cv ad))) := by
          intro y H1 locs1 kk hP1 hD1 hS1
          have ew : (a_ws ad cA h).set a (ad a, .inl (cA t, n, .inl (upd (h.2 a) j.toNatClampNeg y))) = a_ws ad cA (h.1, a_up h.2 a j.toNatClampNeg y) := a_ws_row (S := h.1) (m := h.2) e2
          rw [ew] at hP1 hD1
          exact kk.put rfl rfl hP1 hD1 hS1 hl
        rcases ht with ⟨rfl, rfl⟩ | ⟨rfl, rfl⟩ | ⟨rfl, rfl⟩
        · exact va_iast hx hb hE.1 hP hD hS a 0 hat rfl (a_in_ok e3.2) hd (fun H1 locs1 hP1 hD1 hS1 => go _ H1 locs1 kk hP1 hD1 hS1)
        · exact va_zast hx hb hE.1 hP hD hS a 1 hat rfl (a_in_ok e3.2) hd (fun H1 locs1 hP1 hD1 hS1 => go _ H1 locs1 kk hP1 hD1 hS1)
        · exact va_cast hx hb hE.1 hP hD hS a 2 hat rfl (a_in_ok e3.2) hd (fun H1 locs1 hP1 hD1 hS1 => go _ H1 locs1 kk hP1 hD1 hS1)
      · cases hs
    · cases hs
  · cases hs
set_option maxHeartbeats 4000000 in
theorem a_sim_acopy {idx nL : Nat} {ps : List (Nat × Nat)} {z : Nat × Nat × String} (hC : a_Ctx M p R s m args meth c) (hE : a_Env X ad D cA a0 s) (hP : va_P D a_cl (a_ws ad cA h) H) (hD : va_D (a_A a0) (a_ws ad cA h)) (hS : va_S (a_A a0) s.heap H locs) (hl : a_L ad ls (a_mL M) lv)
    (hd : decode (a_b M) pc = .ok (.invokestatic idx, 3)) (hk : a_look (a_calT (a_cn M)) idx = some (7, z.1, z.2.1, ps, z.2.2)) (hs : a_acopy M pc lv st h = some x) (kk : a_KK p l e R s m args below meth c cells slots Q D cA a0 (a_mL M) ad h x) : W p l e R s m args below meth c H locs cells slots Q (F0 m pc ls (st.map (a_cv ad))) := by
  obtain ⟨hx, hb, hr, hml, hown, hts, hfr, hlo, -, -, hcn, -⟩ := hC
  have hck := a_cal_ok hcn hk
  unfold a_ckC at hck
  simp only at hck
  unfold a_acopy at hs
  split at hs
  · next n dp d sp a r =>
    split at hs
    · next n0 n1 e1 e2 =>
      split at hs
      · next e3 =>
        cases hs
        simp only [Bool.and_eq_true, decide_eq_true_eq, Nat.ble_eq] at e3
        obtain ⟨⟨⟨⟨⟨⟨⟨g1, g2⟩, g3⟩, g4⟩, g5⟩, g6⟩, g7⟩, g8⟩ := e3
        have hat1 := a_ws_at (ad := ad) (cA := cA) e1
        have hat2 := a_ws_at (ad := ad) (cA := cA) e2
        split at hck
        · next heq => simp at heq
        · next p0 p1 p2 p3 heq =>
          simp only [Bool.and_eq_true] at hck
          obtain ⟨⟨⟨w0, w1⟩, w2⟩, w3⟩ := hck
          refine va_copyi (ty := .int) hx hb (by rw [hml]; exact hl.1.symm) hown (hts _ (a_has_in w0)) (hts _ (a_has_in w1)) (hts _ (a_has_in w2)) (hts _ (a_has_in w3)) hE.1 hP hD hS a d 0 0 hat1 hat2 rfl rfl rfl g1 g2 g3 g4 g5 (fun _ _ => rfl) (Nat.le_trans g7 hfr) ?_ hd (fun H1 locs1 hP1 hD1 hS1 => ?_)
          · rw [a_cv_wt]
            have : nativeFrameWords "java/lang/System" "arraycopy" 5 = 7 := by decide
            omega
          · have ew : (a_ws ad cA h).set d (ad d, .inl (cA 0, n1, .inl (va_cpy (h.2 a) (h.2 d) sp.toNatClampNeg dp.toNatClampNeg n.toNatClampNeg))) = a_ws ad cA (h.1, a_row h.2 d (va_cpy (h.2 a) (h.2 d) sp.toNatClampNeg dp.toNatClampNeg n.toNatClampNeg)) := a_ws_row (S := h.1) (m := h.2) e2
            rw [ew] at hP1 hD1
            exact kk.put rfl rfl hP1 hD1 hS1 hl
        · next heq => simp at heq
        · next heq => simp at heq
        · exfalso
          split at hck
          · unfold a_ckC1 at hck
            simp at hck
          · cases hck
      · cases hs
    · cases hs
  · cases hs
end AHEAP
