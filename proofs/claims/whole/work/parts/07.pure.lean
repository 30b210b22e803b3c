/-! the small machine's steps without cells are steps of the machine -/
def a_cv (ad : Nat → Nat) (v : Value) : Value := match v with
  | .ref q => .ref (ad q)
  | v => v
theorem a_cv_cat (ad : Nat → Nat) (v : Value) : (a_cv ad v).category = v.category := by cases v <;> rfl
theorem a_cv_wt (ad : Nat → Nat) (st : List Value) : ((st.map (a_cv ad)).map fun v => v.category).sum = a_wt st := by
  unfold a_wt
  rw [List.map_map]
  congr 1
  apply List.map_congr_left
  intro v _
  exact a_cv_cat ad v
/-- the locals -/
def a_L (ad : Nat → Nat) (ls : Array Slot) (nL : Nat) (lv : a_LV) : Prop := ls.size = nL ∧ lv_wf ls ∧ lv.length = nL ∧ ∀ (i : Nat) (v : Value), a_get lv i = some v → ls[i]? = some (.val (a_cv ad v))
def a_la (ad : Nat → Nat) (lv : a_LV) : List (Nat × Value) := (List.range lv.length).filterMap (fun i => (a_get lv i).map (fun v => (i, a_cv ad v)))
theorem a_get_lt {lv : a_LV} {i : Nat} {v : Value} (h : a_get lv i = some v) : i < lv.length := by
  unfold a_get at h
  cases e : lv[i]? with
  | none => rw [e] at h; cases h
  | some o => exact (List.getElem?_eq_some_iff.mp e).1
theorem a_la_in {ad : Nat → Nat} {lv : a_LV} {i : Nat} {v : Value} (h : a_get lv i = some v) : (i, a_cv ad v) ∈ a_la ad lv :=
  List.mem_filterMap.mpr ⟨i, List.mem_range.mpr (a_get_lt h), by rw [h]; rfl⟩
theorem a_la_has {ad : Nat → Nat} {ls : Array Slot} {nL : Nat} {lv : a_LV} (h : a_L ad ls nL lv) : lv_has ls nL (a_la ad lv) := by
  refine ⟨h.1, h.2.1, fun q hq => ?_⟩
  obtain ⟨i, -, hi⟩ := List.mem_filterMap.mp hq
  cases e : a_get lv i with
  | none => rw [e] at hi; cases hi
  | some v =>
    rw [e] at hi
    cases hi
    exact h.2.2.2 i v e
theorem a_get_set {lv : a_LV} {i j : Nat} {v w : Value} (h : a_get (lv.set i (some v)) j = some w) : (j = i ∧ w = v) ∨ (j ≠ i ∧ a_get lv j = some w) := by
  unfold a_get at h ⊢
  rw [List.getElem?_set] at h
  by_cases e : i = j
  · subst e
    simp only [if_pos rfl] at h
    by_cases hl : i < lv.length
    · rw [if_pos hl] at h
      cases h
      exact Or.inl ⟨rfl, rfl⟩
    · rw [if_neg hl] at h
      cases h
  · rw [if_neg e] at h
    exact Or.inr ⟨fun q => e q.symm, h⟩
theorem a_put_ok {ad : Nat → Nat} {ls : Array Slot} {nL : Nat} {lv lv' : a_LV} {i : Nat} {v : Value} (h : a_L ad ls nL lv) (hp : a_put lv i v = some lv') :
    i < nL ∧ ∀ ls' : Array Slot, lv_has ls' nL ((i, a_cv ad v) :: (a_la ad lv).filter (fun q => !(q.1 == i) && !(q.1 + 1 == i && q.2.category == 2))) → a_L ad ls' nL lv' := by
  have h0 : i < lv.length ∧ lv' = lv.set i (some v) ∧ ∀ k, k + 1 = i → a_isL (a_get lv k) = false := by
    unfold a_put at hp
    split at hp
    · cases hp
    · next e =>
      have hlt : i < lv.length := by simpa using e
      split at hp
      · cases hp
        exact ⟨hlt, rfl, fun k hk => by omega⟩
      · next k =>
        split at hp
        · cases hp
        · next e2 =>
          cases hp
          exact ⟨hlt, rfl, fun k2 hk => by have : k2 = k := by omega
                                           rw [this]; exact e2⟩
  obtain ⟨hlt, rfl, hk⟩ := h0
  refine ⟨by rw [← h.2.2.1]; exact hlt, fun ls' h' => ⟨h'.1, h'.2.1, by rw [List.length_set]; exact h.2.2.1, fun j w hw => ?_⟩⟩
  rcases a_get_set hw with ⟨rfl, rfl⟩ | ⟨hne, hw⟩
  · exact h'.2.2 _ List.mem_cons_self
  · refine h'.2.2 (j, a_cv ad w) (List.mem_cons_of_mem _ (List.mem_filter.mpr ⟨a_la_in hw, ?_⟩))
    have h1 : (j == i) = false := by simpa using hne
    have h2 : (j + 1 == i && (a_cv ad w).category == 2) = false := by
      by_cases e : j + 1 = i
      · have := hk j e
        rw [hw] at this
        cases w <;> simp_all [a_isL, a_cv, Value.category]
      · simp [e]
    simp [h1, h2]
theorem a_iv_get {lv : a_LV} {i : Nat} {x : Int32} (h : a_iv lv i = some x) : a_get lv i = some (.int x) := by
  unfold a_iv at h
  split at h
  · next e => cases h; exact e
  · cases h
theorem a_lgv_get {lv : a_LV} {i : Nat} {x : Int64} (h : a_lgv lv i = some x) : a_get lv i = some (.long x) := by
  unfold a_lgv at h
  split at h
  · next e => cases h; exact e
  · cases h
theorem a_rv_get {lv : a_LV} {i : Nat} {x : Nat} (h : a_rv lv i = some x) : a_get lv i = some (.ref x) := by
  unfold a_rv at h
  split at h
  · next e => cases h; exact e
  · cases h
theorem a_tgt_eq {pc t : Nat} {off : Int} (h : a_tgt pc off = some t) : (pc : Int) + off = (t : Int) := by
  unfold a_tgt at h
  split at h
  · next e => cases h; exact e
  · cases h
section APURE
variable {p : Program} {l : Launch} {e : Env} {R : Room} {s : State} {m : MethodId} {args : Array Value} {below : List Frame} {meth : Method} {c : Code} {H : Heap} {locs : List Loc} {cells slots : Nat} {Q : State → Prop}
variable {cc : ByteArray} {pc : Nat} {ls : Array Slot} {rest : List Value}
set_option maxHeartbeats 4000000 in
theorem a_sim_bin (hx : p.tables.exec = Jvm.exec) (hb : c.code = cc) {i : Instr} {x y z : Int32} (hd : decode cc pc = .ok (i, a_len i 1)) (h : a_bin i x y = some z)
    (k : W p l e R s m args below meth c H locs cells slots Q (F0 m (pc + 1) ls (.int z :: rest))) : W p l e R s m args below meth c H locs cells slots Q (F0 m pc ls (.int y :: .int x :: rest)) := by
  unfold a_bin at h
  split at h
  · cases h; exact lv_iadd hx hb hd k
  · cases h; exact lv_isub hx hb hd k
  · cases h; exact lv_imul hx hb hd k
  · split at h
    · cases h
    · next hy => cases h; exact lv_idiv hx hb hd hy k
  · split at h
    · cases h
    · next hy => cases h; exact lv_irem hx hb hd hy k
  · cases h; exact lv_iand hx hb hd k
  · cases h; exact lv_ior hx hb hd k
  · cases h; exact lv_ixor hx hb hd k
  · cases h; exact lv_ishl hx hb hd k
  · cases h; exact lv_ishr hx hb hd k
  · cases h; exact lv_iushr hx hb hd rfl k
  · cases h
set_option maxHeartbeats 4000000 in
theorem a_sim_binL (hx : p.tables.exec = Jvm.exec) (hb : c.code = cc) {i : Instr} {x y : Int64} {z : Value} (hd : decode cc pc = .ok (i, a_len i 1)) (h : a_binL i x y = some z)
    (k : W p l e R s m args below meth c H locs cells slots Q (F0 m (pc + 1) ls (z :: rest))) : W p l e R s m args below meth c H locs cells slots Q (F0 m pc ls (.long y :: .long x :: rest)) := by
  unfold a_binL at h
  split at h
  · cases h; exact lv_ladd hx hb hd k
  · cases h; exact lv_lmul hx hb hd k
  · split at h
    · cases h
    · next hy => cases h; exact lv_lrem hx hb hd hy k
  · cases h; exact lv_land hx hb hd k
  · cases h; exact lv_lor hx hb hd k
  · cases h; exact W.lcmp hx hb hd k
  · cases h
theorem a_binL_nr {i : Instr} {x y : Int64} {z : Value} (h : a_binL i x y = some z) (ad : Nat → Nat) : a_cv ad z = z := by
  unfold a_binL at h
  split at h <;> first | (cases h; done) | (cases h; rfl) | (split at h <;> first | (cases h; done) | (cases h; rfl))
set_option maxHeartbeats 8000000 in
theorem a_sim_if (hx : p.tables.exec = Jvm.exec) (hb : c.code = cc) {cd : ClassFile.Cond} {off : Int} {t : Nat} {x : Int32} (hd : decode cc pc = .ok (.ifCond cd off, 3)) (ht : (pc : Int) + off = (t : Int))
    (k : W p l e R s m args below meth c H locs cells slots Q (F0 m (if a_c1 cd x then t else pc + 3) ls rest)) : W p l e R s m args below meth c H locs cells slots Q (F0 m pc ls (.int x :: rest)) := by
  cases cd
  · refine lv_if_eq hx hb hd ht (fun q => ?_) (fun q => ?_) <;> simpa [a_c1, q] using k
  · refine lv_if_ne hx hb hd ht (fun q => ?_) (fun q => ?_) <;> simpa [a_c1, q] using k
  · refine lv_if_lt hx hb hd ht (fun q => ?_) (fun q => ?_)
    · rw [if_pos (show a_c1 .lt x = true from decide_eq_true q)] at k; exact k
    · rw [if_neg (show ¬ a_c1 .lt x = true from fun z => q (of_decide_eq_true z))] at k; exact k
  · refine lv_if_ge hx hb hd ht (fun q => ?_) (fun q => ?_)
    · rw [if_pos (show a_c1 .ge x = true from decide_eq_true q)] at k; exact k
    · rw [if_neg (show ¬ a_c1 .ge x = true from fun z => q (of_decide_eq_true z))] at k; exact k
  · refine lv_if_gt hx hb hd ht (fun q => ?_) (fun q => ?_)
    · rw [if_pos (show a_c1 .gt x = true from decide_eq_true q)] at k; exact k
    · rw [if_neg (show ¬ a_c1 .gt x = true from fun z => q (of_decide_eq_true z))] at k; exact k
  · refine lv_if_le hx hb hd ht (fun q => ?_) (fun q => ?_)
    · rw [if_pos (show a_c1 .le x = true from decide_eq_true q)] at k; exact k
    · rw [if_neg (show ¬ a_c1 .le x = true from fun z => q (of_decide_eq_true z))] at k; exact k
set_option maxHeartbeats 8000000 in
theorem a_sim_icmp (hx : p.tables.exec = Jvm.exec) (hb : c.code = cc) {cd : ClassFile.Cond} {off : Int} {t : Nat} {x y : Int32} (hd : decode cc pc = .ok (.if_icmp cd off, 3)) (ht : (pc : Int) + off = (t : Int))
    (k : W p l e R s m args below meth c H locs cells slots Q (F0 m (if a_c2 cd x y then t else pc + 3) ls rest)) : W p l e R s m args below meth c H locs cells slots Q (F0 m pc ls (.int y :: .int x :: rest)) := by
  cases cd
  · refine lv_icmp_eq hx hb hd ht (fun q => ?_) (fun q => ?_)
    · rw [if_pos (show a_c2 .eq x y = true from decide_eq_true q)] at k; exact k
    · rw [if_neg (show ¬ a_c2 .eq x y = true from fun z => q (of_decide_eq_true z))] at k; exact k
  · refine lv_icmp_ne hx hb hd ht (fun q => ?_) (fun q => ?_)
    · rw [if_pos (show a_c2 .ne x y = true from decide_eq_true q)] at k; exact k
    · rw [if_neg (show ¬ a_c2 .ne x y = true from fun z => (of_decide_eq_true z : ¬ x = y) q)] at k; exact k
  · refine lv_icmp_lt hx hb hd ht (fun q => ?_) (fun q => ?_)
    · rw [if_pos (show a_c2 .lt x y = true from decide_eq_true q)] at k; exact k
    · rw [if_neg (show ¬ a_c2 .lt x y = true from fun z => q (of_decide_eq_true z))] at k; exact k
  · refine lv_icmp_ge hx hb hd ht (fun q => ?_) (fun q => ?_)
    · rw [if_pos (show a_c2 .ge x y = true from decide_eq_true q)] at k; exact k
    · rw [if_neg (show ¬ a_c2 .ge x y = true from fun z => q (of_decide_eq_true z))] at k; exact k
  · refine lv_icmp_gt hx hb hd ht (fun q => ?_) (fun q => ?_)
    · rw [if_pos (show a_c2 .gt x y = true from decide_eq_true q)] at k; exact k
    · rw [if_neg (show ¬ a_c2 .gt x y = true from fun z => q (of_decide_eq_true z))] at k; exact k
  · refine lv_icmp_le hx hb hd ht (fun q => ?_) (fun q => ?_)
    · rw [if_pos (show a_c2 .le x y = true from decide_eq_true q)] at k; exact k
    · rw [if_neg (show ¬ a_c2 .le x y = true from fun z => q (of_decide_eq_true z))] at k; exact k
set_option maxHeartbeats 16000000 in
/-- a step of a_pure -/
theorem a_sim_pure {ad : Nat → Nat} {nL : Nat} {lv lv' : a_LV} {st st' : List Value} {pc' ln : Nat} {i : Instr} (hx : p.tables.exec = Jvm.exec) (hb : c.code = cc) (hd : decode cc pc = .ok (i, ln)) (hln : ln = a_len i ln) (hs : a_pure i pc lv st = some (pc', lv', st')) (hl : a_L ad ls nL lv)
    (kk : ∀ ls' : Array Slot, a_L ad ls' nL lv' → W p l e R s m args below meth c H locs cells slots Q (F0 m pc' ls' (st'.map (a_cv ad)))) : W p l e R s m args below meth c H locs cells slots Q (F0 m pc ls (st.map (a_cv ad))) := by
  rw [hln] at hd
  unfold a_pure at hs
  split at hs
  · cases hs; exact lv_iconst hx hb hd rfl (kk _ hl)
  · cases hs; exact lv_bipush hx hb hd rfl (kk _ hl)
  · cases hs; exact lv_sipush hx hb hd rfl (kk _ hl)
  · cases hs; exact lv_lconst hx hb hd rfl (kk _ hl)
  · split at hs
    · next x ex => cases hs; exact lv_iload_n hx hb hd rfl (hl.2.2.2 _ _ (a_iv_get ex)) (kk _ hl)
    · cases hs
  · split at hs
    · next x ex => cases hs; exact lv_iload hx hb hd (hl.2.2.2 _ _ (a_iv_get ex)) (kk _ hl)
    · cases hs
  · split at hs
    · next x ex => cases hs; exact lv_lload_n hx hb hd rfl (hl.2.2.2 _ _ (a_lgv_get ex)) (kk _ hl)
    · cases hs
  · split at hs
    · next x ex => cases hs; exact lv_lload hx hb hd (hl.2.2.2 _ _ (a_lgv_get ex)) (kk _ hl)
    · cases hs
  · split at hs
    · next x ex => cases hs; exact lv_aload_n hx hb hd rfl (hl.2.2.2 _ _ (a_rv_get ex)) (kk _ hl)
    · cases hs
  · split at hs
    · next x ex => cases hs; exact lv_aload hx hb hd (hl.2.2.2 _ _ (a_rv_get ex)) (kk _ hl)
    · cases hs
  · split at hs
    · split at hs
      · next x r lv2 ep =>
        cases hs
        obtain ⟨h1, h2⟩ := a_put_ok hl ep
        exact lv_istore_n hx hb hd rfl (a_la_has hl) h1 rfl (fun ls' h' => kk ls' (h2 ls' h'))
      · cases hs
    · cases hs
  · split at hs
    · split at hs
      · next x r lv2 ep =>
        cases hs
        obtain ⟨h1, h2⟩ := a_put_ok hl ep
        exact lv_istore hx hb hd (a_la_has hl) h1 rfl (fun ls' h' => kk ls' (h2 ls' h'))
      · cases hs
    · cases hs
  · split at hs
    · split at hs
      · next x r lv2 ep =>
        cases hs
        obtain ⟨h1, h2⟩ := a_put_ok hl ep
        exact lv_astore_n hx hb hd rfl (a_la_has hl) h1 rfl (fun ls' h' => kk ls' (h2 ls' h'))
      · cases hs
    · cases hs
  · split at hs
    · next x ex =>
      split at hs
      · next lv2 ep =>
        cases hs
        obtain ⟨h1, h2⟩ := a_put_ok hl ep
        have hm := a_la_in (ad := ad) (a_iv_get ex)
        obtain ⟨k, hk⟩ := List.getElem?_of_mem hm
        exact lv_iinc hx hb hd (a_la_has hl) hk rfl h1 rfl (fun ls' h' => kk ls' (h2 ls' h'))
      · cases hs
    · cases hs
  · split at hs
    · split at hs
      · next v r ec => cases hs; exact lv_dup hx hb hd (by rw [a_cv_cat]; exact Nat.eq_of_beq_eq_true ec) (kk _ hl)
      · cases hs
    · cases hs
  · split at hs
    · split at hs
      · next v r ec => cases hs; exact lv_pop hx hb hd (by rw [a_cv_cat]; exact Nat.eq_of_beq_eq_true ec) (kk _ hl)
      · cases hs
    · cases hs
  · split at hs
    · split at hs
      · next v w r ec ec2 => cases hs; exact lv_dup2_11 hx hb hd (by rw [a_cv_cat]; exact Nat.eq_of_beq_eq_true ec) (by rw [a_cv_cat]; exact Nat.eq_of_beq_eq_true ec2) (kk _ hl)
      · cases hs
    · cases hs
  · split at hs
    · cases hs; exact lv_i2l hx hb hd rfl (kk _ hl)
    · cases hs
  · split at hs
    · cases hs; exact lv_l2i hx hb hd rfl (kk _ hl)
    · cases hs
  · split at hs
    · cases hs; exact lv_i2c hx hb hd rfl (kk _ hl)
    · cases hs
  · split at hs
    · cases hs; exact lv_lshl hx hb hd rfl (kk _ hl)
    · cases hs
  · split at hs
    · cases hs; exact lv_lshr hx hb hd rfl (kk _ hl)
    · cases hs
  · split at hs
    · cases hs; exact lv_lushr hx hb hd rfl (kk _ hl)
    · cases hs
  · split at hs
    · split at hs
      · next t et => cases hs; exact a_sim_if hx hb hd (a_tgt_eq et) (kk _ hl)
      · cases hs
    · cases hs
  · split at hs
    · split at hs
      · next t et => cases hs; exact a_sim_icmp hx hb hd (a_tgt_eq et) (kk _ hl)
      · cases hs
    · cases hs
  · split at hs
    · next t et => cases hs; exact lv_goto hx hb hd (a_tgt_eq et) (kk _ hl)
    · cases hs
  · split at hs
    · split at hs
      · next hc =>
        split at hs
        · next t et => cases hs; exact lv_tableOut hx hb hd hc (a_tgt_eq et) (kk _ hl)
        · cases hs
      · next hc =>
        split at hs
        · next off eo =>
          split at hs
          · next t et => cases hs; exact lv_tableIn hx hb hd (fun z => hc (Or.inl z)) (fun z => hc (Or.inr z)) eo (a_tgt_eq et) (kk _ hl)
          · cases hs
        · cases hs
    · cases hs
  · split at hs
    · split at hs
      · next hp =>
        split at hs
        · next t et => cases hs; exact lv_lookup hx hb hd hp rfl (a_tgt_eq et) (kk _ hl)
        · cases hs
      · cases hs
    · cases hs
  · rename_i hn hn2
    have hd1 : ∀ j : Nat, a_len i j = a_len i 1 ∨ (∃ a b c d, i = .tableswitch a b c d) ∨ ∃ a b, i = .lookupswitch a b := by
      intro j
      cases i <;> first | exact Or.inl rfl | exact Or.inr (Or.inl ⟨_, _, _, _, rfl⟩) | exact Or.inr (Or.inr ⟨_, _, rfl⟩)
    have hd2 : decode cc pc = .ok (i, a_len i 1) := by
      rcases hd1 ln with h | ⟨_, _, _, _, h⟩ | ⟨_, _, h⟩
      · rw [← h]; exact hd
      · exact absurd h (hn _ _ _ _)
      · exact absurd h (hn2 _ _)
    split at hs
    · split at hs
      · next z ez => cases hs; exact a_sim_bin hx hb hd2 ez (kk _ hl)
      · cases hs
    · split at hs
      · next z ez =>
        cases hs
        refine a_sim_binL hx hb hd2 ez ?_
        have := kk _ hl
        rw [List.map_cons, a_binL_nr ez] at this
        exact this
      · cases hs
    · cases hs
end APURE
