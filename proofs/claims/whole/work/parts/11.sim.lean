/-! runs of the small machine are runs of the machine -/
theorem a_heap_mono {X : a_X} {M : a_Mth} {i : Instr} {pc : Nat} {lv : a_LV} {st : List Value} {h : a_H} {x : Nat × a_LV × List Value × a_H} (hs : a_heap X M i pc lv st h = some x) : x.2.2.2.1 = h.1 ∨ (∃ y, x.2.2.2.1 = h.1 ++ [y]) ∨ ∃ (c ci k : Nat) (fs : List (Option (Option Nat))) (o : Option (Option Nat)), h.1[c]? = some (.inl (ci, fs)) ∧ x.2.2.2.1 = h.1.set c (.inl (ci, fs.set k o)) := by
  unfold a_heap at hs
  split at hs
  · unfold a_getf at hs
    repeat' split at hs
    all_goals first | (cases hs; done) | (cases hs; exact Or.inl rfl)
  · unfold a_putf at hs
    split at hs
    · repeat' split at hs
      all_goals first | (cases hs; done) | (cases hs; exact Or.inl rfl)
    · split at hs
      · split at hs
        · next e2 =>
          split at hs
          · split at hs
            · cases hs; exact Or.inr (Or.inr ⟨_, _, _, _, _, e2, rfl⟩)
            · cases hs
          · cases hs
        · cases hs
      · cases hs
    · cases hs
  · unfold a_ald at hs
    repeat' split at hs
    all_goals first | (cases hs; done) | (cases hs; exact Or.inl rfl)
  · unfold a_ald at hs
    repeat' split at hs
    all_goals first | (cases hs; done) | (cases hs; exact Or.inl rfl)
  · unfold a_ald at hs
    repeat' split at hs
    all_goals first | (cases hs; done) | (cases hs; exact Or.inl rfl)
  · unfold a_ast at hs
    repeat' split at hs
    all_goals first | (cases hs; done) | (cases hs; exact Or.inl rfl)
  · unfold a_ast at hs
    repeat' split at hs
    all_goals first | (cases hs; done) | (cases hs; exact Or.inl rfl)
  · unfold a_ast at hs
    repeat' split at hs
    all_goals first | (cases hs; done) | (cases hs; exact Or.inl rfl)
  · repeat' split at hs
    all_goals first | (cases hs; done) | (cases hs; exact Or.inl rfl)
  · repeat' split at hs
    all_goals first | (cases hs; done) | (cases hs; exact Or.inr (Or.inl ⟨_, rfl⟩))
  · repeat' split at hs
    all_goals first | (cases hs; done) | (cases hs; exact Or.inr (Or.inl ⟨_, rfl⟩))
  · repeat' split at hs
    all_goals first | (cases hs; done) | (cases hs; exact Or.inl rfl)
  · repeat' split at hs
    all_goals first | (cases hs; done) | (cases hs; exact Or.inl rfl)
  · repeat' split at hs
    all_goals first | (cases hs; done) | (cases hs; exact Or.inl rfl)
  · repeat' split at hs
    all_goals first | (cases hs; done) | (cases hs; exact Or.inl rfl)
  · split at hs
    · unfold a_acopy at hs
      repeat' split at hs
      all_goals first | (cases hs; done) | (cases hs; exact Or.inl rfl)
    · cases hs
  · split at hs
    · unfold a_str at hs
      repeat' split at hs
      all_goals first | (cases hs; done) | (cases hs; exact Or.inl rfl)
    · cases hs
  · cases hs
def a_le (h h' : a_H) : Prop := h.1.length ≤ h'.1.length ∧ a_szs h.1 ≤ a_szs h'.1
theorem a_le.rf {h : a_H} : a_le h h := ⟨Nat.le_refl _, Nat.le_refl _⟩
theorem a_le.tr {h h' h2 : a_H} (a : a_le h h') (b : a_le h' h2) : a_le h h2 := ⟨Nat.le_trans a.1 b.1, Nat.le_trans a.2 b.2⟩
theorem a_heap_le {X : a_X} {M : a_Mth} {i : Instr} {pc : Nat} {lv : a_LV} {st : List Value} {h : a_H} {x : Nat × a_LV × List Value × a_H} (hs : a_heap X M i pc lv st h = some x) : a_le h x.2.2.2 := by
  rcases a_heap_mono hs with e | ⟨y, e⟩ | ⟨c, ci, k, fs, o, e1, e⟩
  · exact ⟨by rw [e]; exact Nat.le_refl _, by rw [e]; exact Nat.le_refl _⟩
  · exact ⟨by rw [e]; simp, by rw [e, a_szs_push]; omega⟩
  · exact ⟨by rw [e, List.length_set]; exact Nat.le_refl _, by rw [e, a_szs_set e1]; exact Nat.le_refl _⟩
theorem arun_le {X : a_X} : ∀ (n : Nat) (M : a_Mth) (pc : Nat) (lv : a_LV) (st : List Value) (h : a_H) (r : Option Value) (h' : a_H), arun X n M pc lv st h = some (r, h') → a_le h h' := by
  intro n
  induction n with
  | zero => intro M pc lv st h r h' hr; cases hr
  | succ n ih =>
    intro M pc lv st h r h' hr
    unfold arun at hr
    split at hr
    · cases hr
    · split at hr
      · cases hr
      · split at hr
        · split at hr
          · split at hr
            · cases hr; exact a_le.rf
            · cases hr
          · cases hr
        · split at hr
          · cases hr; exact a_le.rf
          · cases hr
        · split at hr
          · cases hr; exact a_le.rf
          · cases hr
        · split at hr
          · split at hr
            · cases hr
            · next r1 h1 e1 =>
              split at hr
              · exact (ih _ _ _ _ _ _ _ e1).tr (ih _ _ _ _ _ _ _ hr)
              · cases hr
          · split at hr
            · exact ih _ _ _ _ _ _ _ hr
            · split at hr
              · next pc' lv' st' h1 e1 => exact (a_heap_le e1).tr (ih _ _ _ _ _ _ _ hr)
              · cases hr
def a_Ret (M : a_Mth) (r : Option Value) (i : Instr) : Prop := (i = .ireturn ∧ ∃ (v : Int32) (ty : FieldType), r = some (.int v) ∧ a_rt M = some ty ∧ a_fit ty v = true) ∨ (i = .return_ ∧ r = none ∧ a_rt M = none) ∨ (i = .areturn ∧ ∃ (q : Nat) (nm : String), r = some (.ref q) ∧ a_rt M = some (.object nm))
theorem a_at_dec {M : a_Mth} {pc : Nat} {i : Instr} {ln : Nat} (hck : a_ckI (a_b M) (a_il M) = true) (h : a_at M pc = some (i, ln)) : decode (a_b M) pc = .ok (i, ln) := by
  have := List.all_eq_true.mp hck _ (a_look_mem h)
  exact of_decide_eq_true this
/-! the callee's locals -/
theorem a_get_cons0 (o : Option Value) (l : a_LV) : a_get (o :: l) 0 = o := rfl
theorem a_get_cons1 (o : Option Value) (l : a_LV) (i : Nat) : a_get (o :: l) (i + 1) = a_get l i := by simp [a_get]
theorem a_ent_args (ad : Nat → Nat) : ∀ (as : List Value) (k i : Nat) (v : Value), a_get (a_ent as) i = some v → (k + i, a_cv ad v) ∈ lv_args k (as.map (a_cv ad)) := by
  intro as
  induction as with
  | nil => intro k i v h; simp [a_ent, a_get] at h
  | cons w r ih =>
    intro k i v h
    rw [List.map_cons]
    simp only [lv_args, a_cv_cat]
    simp only [a_ent] at h
    split at h
    · next e =>
      have e := Nat.eq_of_beq_eq_true e
      rw [if_pos e]
      match i, h with
      | 0, h =>
        rw [a_get_cons0] at h
        cases h
        exact List.mem_cons_self
      | 1, h =>
        rw [a_get_cons1, a_get_cons0] at h
        cases h
      | i + 2, h =>
        rw [a_get_cons1, a_get_cons1] at h
        have := ih (k + 2) i v h
        rw [show k + 2 + i = k + (i + 2) by omega] at this
        exact List.mem_cons_of_mem _ this
    · next e =>
      have e : ¬ w.category = 2 := fun z => by rw [z] at e; exact absurd e (by decide)
      rw [if_neg e]
      match i, h with
      | 0, h =>
        rw [a_get_cons0] at h
        cases h
        exact List.mem_cons_self
      | i + 1, h =>
        rw [a_get_cons1] at h
        have := ih (k + 1) i v h
        rw [show k + 1 + i = k + (i + 1) by omega] at this
        exact List.mem_cons_of_mem _ this
theorem a_ent_len (ad : Nat → Nat) : ∀ (as : List Value), (lg_sl (as.map (a_cv ad))).length = (a_ent as).length := by
  intro as
  induction as with
  | nil => rfl
  | cons w r ih =>
    have e1 : lg_sl ((w :: r).map (a_cv ad)) = (if (a_cv ad w).category = 2 then [.val (a_cv ad w), .second] else [.val (a_cv ad w)]) ++ lg_sl (r.map (a_cv ad)) := by simp [lg_sl]
    rw [e1, List.length_append, ih, a_cv_cat]
    simp only [a_ent]
    split
    · next e => simp [e]; omega
    · next e =>
      have e2 : Nat.beq w.category 2 = false := by
        cases hb : Nat.beq w.category 2 with
        | false => rfl
        | true => exact absurd (Nat.eq_of_beq_eq_true hb) e
      simp [e2, Nat.add_comm]
theorem a_get_app {l r : a_LV} {i : Nat} {v : Value} (h : a_get (l ++ r) i = some v) (hr : ∀ j, a_get r j = none) : a_get l i = some v := by
  unfold a_get at h ⊢
  by_cases hi : i < l.length
  · rw [List.getElem?_append_left hi] at h
    exact h
  · have := hr (i - l.length)
    unfold a_get at this
    rw [List.getElem?_append_right (by omega)] at h
    rw [h] at this
    cases this
theorem a_get_rep (n i : Nat) : a_get (List.replicate n none) i = none := by
  unfold a_get
  cases e : (List.replicate n (none : Option Value))[i]? with
  | none => rfl
  | some o =>
    have := List.mem_of_getElem? e
    exact (List.eq_of_mem_replicate this)
theorem a_entry {M : a_Mth} {as : List Value} {ad : Nat → Nat} (h : (a_ent as).length ≤ a_mL M) : a_L ad ((lg_sl (as.map (a_cv ad)) ++ List.replicate (a_mL M - (lg_sl (as.map (a_cv ad))).length) Slot.unset).toArray) (a_mL M) (a_loc M as) := by
  have hl := lv_entry (as.map (a_cv ad)) (n := a_mL M) (by rw [a_ent_len]; exact h)
  refine ⟨hl.1, hl.2.1, ?_, fun i v hv => ?_⟩
  · simp [a_loc]
    omega
  · have := a_ent_args ad as 0 i v (a_get_app hv (a_get_rep _))
    rw [Nat.zero_add] at this
    exact hl.2.2 _ this
def a_PB (X : a_X) (ad : Nat → Nat) (D : va_G) (cA : Nat → ClassId) (a0 : Nat) (h : a_H) : State → Prop := fun U => a_Env X ad D cA a0 U ∧ va_P D a_cl (a_ws ad cA h) U.heap ∧ va_D (a_A a0) (a_ws ad cA h)
def a_QB (ad : Nat → Nat) (D : va_G) (cA : Nat → ClassId) (a0 : Nat) (r : Option Value) (h h1 : a_H) : Array Value → State → Outcome → State → Prop := fun _ st oc t => (∃ ad' : Nat → Nat, oc = .returned (r.map (a_cv ad')) ∧ va_P D a_cl (a_ws ad' cA h1) t.heap ∧ va_D (a_A a0) (a_ws ad' cA h1) ∧ a_ag h.1.length ad ad' ∧ (h1.1.length = h.1.length → ad' = ad)) ∧ va_F (a_A a0) st t
def a_rm (M : a_Mth) (h h1 : a_H) : Room := { frames := a_fr M, cells := h1.1.length - h.1.length, slots := a_szs h1.1 - a_szs h.1, locals := a_lo M }
def a_mws (M : a_Mth) : List Cond := .code (a_y M) (a_b M) (a_mL M) (a_rt M) :: a_LT
/-- what a run of the small machine is good for -/
def a_Good (X : a_X) (l : Launch) (M : a_Mth) (pc : Nat) (lv : a_LV) (st : List Value) (h : a_H) (r : Option Value) (h' : a_H) : Prop :=
  ∀ (p : Program) (e : Env) (R : Room) (s : State) (m : MethodId) (args : Array Value) (below : List Frame) (meth : Method) (c : Code) (H : Heap) (locs : List Loc) (ls : Array Slot) (cells slots : Nat) (Q : State → Prop) (ad : Nat → Nat) (D : va_G) (cA : Nat → ClassId) (a0 : Nat),
    a_Ctx M p R s m args meth c → a_Env X ad D cA a0 s → va_P D a_cl (a_ws ad cA h) H → va_D (a_A a0) (a_ws ad cA h) → va_S (a_A a0) s.heap H locs → a_L ad ls (a_mL M) lv → cells + (h'.1.length - h.1.length) ≤ R.cells → slots + (a_szs h'.1 - a_szs h.1) ≤ R.slots →
    (∀ (i : Instr) (pc2 : Nat) (ls2 : Array Slot) (ad' : Nat → Nat) (H' : Heap) (locs' : List Loc), decode (a_b M) pc2 = .ok (i, 1) → a_Ret M r i → va_P D a_cl (a_ws ad' cA h') H' → va_D (a_A a0) (a_ws ad' cA h') → va_S (a_A a0) s.heap H' locs' → a_ag h.1.length ad ad' → (h'.1.length = h.1.length → ad' = ad) →
      W p l e R s m args below meth c H' locs' (cells + (h'.1.length - h.1.length)) (slots + (a_szs h'.1 - a_szs h.1)) Q (F0 m pc2 ls2 (r.toList.map (a_cv ad')))) →
    W p l e R s m args below meth c H locs cells slots Q (F0 m pc ls (st.map (a_cv ad)))
theorem a_ok_W {M : a_Mth} (h : a_ckW M = true) : Cond.code (a_y M) (a_b M) (a_mL M) (a_rt M) ∈ a_LT ∧ plainName (a_y M).cls = true ∧ (a_y M).cls = a_Cn (a_cn M) := by
  simp only [a_ckW, Bool.and_eq_true, decide_eq_true_eq] at h
  exact ⟨a_has_in h.1.1.1, h.1.1.2, h.1.2⟩
theorem a_cn_lt {M : a_Mth} (h : a_ckW M = true) : a_cn M < 13 := by
  simp only [a_ckW, Bool.and_eq_true, decide_eq_true_eq] at h
  simpa using h.2
set_option maxHeartbeats 4000000 in
theorem a_met {X : a_X} {l : Launch} {M : a_Mth} {as : List Value} {h h1 : a_H} {r : Option Value} (hok : a_okM M) (hcn : a_cn M < 13) (hlen : (a_ent as).length ≤ a_mL M) (ih : a_Good X l M 0 (a_loc M as) [] h r h1) (ad : Nat → Nat) (D : va_G) (cA : Nat → ClassId) (a0 : Nat) :
    Met l (a_y M) (a_mws M) (a_rm M h h1) (va_Pc (as.map (a_cv ad)) (a_PB X ad D cA a0 h)) (a_QB ad D cA a0 r h h1) (h1.1.length - h.1.length) (a_szs h1.1 - a_szs h.1) (a_A a0) := by
  obtain ⟨w1, w2, w3⟩ := a_ok_W hok.2
  refine Met.ofW (cc := a_b M) (maxL := a_mL M) (ret := a_rt M) w2 rfl ?_
  intro p e s m args below meth c s₁ B hml hv
  obtain ⟨rfl, hE, hP, hD⟩ := hv
  have hts0 := atoms_spec (ws := a_mws M) B.pre
  have hown : s.vm.findClass (a_y M).cls = some m.cls := findClass_of_methodNamed B.named
  rw [w3] at hown
  have hC : a_Ctx M p (headSpec (a_mws M) (a_rm M h h1)).room s m (as.map (a_cv ad)).toArray meth c :=
    ⟨B.exec, B.bytes, B.returns, hml, hown, fun w hw => hts0 w (List.mem_cons_of_mem _ hw), Nat.le_refl _, Nat.le_refl _, fun z => by rw [(name_of_methodNamed B.named B.method).1]; exact z, hok.1, hcn, B.notSynchronized⟩
  have hl := a_entry (ad := ad) hlen
  rw [lg_entry_eq]
  generalize ((lg_sl (as.map (a_cv ad)) ++ List.replicate (a_mL M - (lg_sl (as.map (a_cv ad))).length) Slot.unset).toArray) = ls at hl ⊢
  have hlocks := B.notSynchronized
  refine ih p e _ s m _ below meth c s.heap [] ls 0 0 _ ad D cA a0 hC hE hP hD va_S.rf hl (by rw [Nat.zero_add]; exact Nat.le_refl _) (by rw [Nat.zero_add]; exact Nat.le_refl _) ?_
  intro i pc2 ls2 ad' H' locs' hd hR hP' hD' hS' hag heq
  rw [Nat.zero_add, Nat.zero_add]
  rcases hR with ⟨rfl, v, ty, rfl, ht, hf⟩ | ⟨rfl, rfl, ht⟩ | ⟨rfl, q, nm, rfl, ht⟩
  · exact W.zret (v := v) (ty := ty) B.exec B.bytes (by rw [B.returns, ht]) (a_fit_ok hf).1 (fun t ht hW => ⟨⟨ad', rfl, by rw [ht]; exact hP', hD', hag, heq⟩, hS'.F ht⟩) hS'.2.2 hd hlocks
  · exact W.vret B.exec B.bytes (by rw [B.returns, ht]) (fun t ht hW => ⟨⟨ad', rfl, by rw [ht]; exact hP', hD', hag, heq⟩, hS'.F ht⟩) hS'.2.2 hd hlocks
  · exact W.aret (v := .ref (ad' q)) B.exec B.bytes (by rw [B.returns, ht]) (Or.inl ⟨nm, rfl⟩) (Or.inr ⟨_, rfl⟩) (fun t ht hW => ⟨⟨ad', rfl, by rw [ht]; exact hP', hD', hag, heq⟩, hS'.F ht⟩) hS'.2.2 hd hlocks
