/-! a local that is not set may as well hold an int -/
def a_lle (lv lv' : a_LV) : Prop := lv.length = lv'.length ∧ ∀ i, a_get lv' i = a_get lv i ∨ (a_get lv i = none ∧ ∃ v : Int32, a_get lv' i = some (.int v))
theorem a_lle.get {lv lv' : a_LV} (h : a_lle lv lv') {i : Nat} {v : Value} (e : a_get lv i = some v) : a_get lv' i = some v := by
  rcases h.2 i with q | ⟨q, -⟩
  · rw [q, e]
  · rw [q] at e; cases e
theorem a_lle.iv {lv lv' : a_LV} (h : a_lle lv lv') {i : Nat} {v : Int32} (e : a_iv lv i = some v) : a_iv lv' i = some v := by
  unfold a_iv; rw [h.get (a_iv_get e)]
theorem a_lle.lgv {lv lv' : a_LV} (h : a_lle lv lv') {i : Nat} {v : Int64} (e : a_lgv lv i = some v) : a_lgv lv' i = some v := by
  unfold a_lgv; rw [h.get (a_lgv_get e)]
theorem a_lle.rv {lv lv' : a_LV} (h : a_lle lv lv') {i : Nat} {v : Nat} (e : a_rv lv i = some v) : a_rv lv' i = some v := by
  unfold a_rv; rw [h.get (a_rv_get e)]
theorem a_get_set2 (lv : a_LV) (i j : Nat) (v : Value) (hi : i < lv.length) : a_get (lv.set i (some v)) j = if i = j then some v else a_get lv j := by
  unfold a_get
  rw [List.getElem?_set]
  by_cases e : i = j
  · subst e
    rw [if_pos rfl, if_pos hi, if_pos rfl]
  · rw [if_neg e, if_neg e]
theorem a_lle.put {lv lv' lv1 : a_LV} (h : a_lle lv lv') {i : Nat} {v : Value} (e : a_put lv i v = some lv1) : ∃ lv2, a_put lv' i v = some lv2 ∧ a_lle lv1 lv2 := by
  have key : i < lv.length → a_lle (lv.set i (some v)) (lv'.set i (some v)) := by
    intro hi
    refine ⟨by rw [List.length_set, List.length_set]; exact h.1, fun j => ?_⟩
    rw [a_get_set2 _ _ _ _ hi, a_get_set2 _ _ _ _ (by rw [← h.1]; exact hi)]
    by_cases ej : i = j
    · rw [if_pos ej, if_pos ej]; exact Or.inl rfl
    · rw [if_neg ej, if_neg ej]; exact h.2 j
  unfold a_put at e ⊢
  rw [← h.1]
  split at e
  · cases e
  · next hb =>
    have hi : i < lv.length := by simpa using hb
    cases i with
    | zero =>
      cases e
      exact ⟨_, rfl, key hi⟩
    | succ k =>
      simp only at e ⊢
      cases hl : a_isL (a_get lv k) with
      | true => rw [hl] at e; cases e
      | false =>
        rw [hl] at e
        cases e
        have hl2 : a_isL (a_get lv' k) = false := by
          rcases h.2 k with q | ⟨-, w, q⟩
          · rw [q]; exact hl
          · rw [q]; rfl
        rw [hl2]
        exact ⟨_, rfl, key hi⟩
theorem a_lle.pure {lv lv' lv1 : a_LV} (h : a_lle lv lv') {i : Instr} {pc pc' : Nat} {st st' : List Value} (e : a_pure i pc lv st = some (pc', lv1, st')) : ∃ lv2, a_pure i pc lv' st = some (pc', lv2, st') ∧ a_lle lv1 lv2 := by
  unfold a_pure at e ⊢
  split at e
  · cases e; exact ⟨_, rfl, h⟩
  · cases e; exact ⟨_, rfl, h⟩
  · cases e; exact ⟨_, rfl, h⟩
  · cases e; exact ⟨_, rfl, h⟩
  · split at e
    · next x ex => cases e; rw [h.iv ex]; exact ⟨_, rfl, h⟩
    · cases e
  · split at e
    · next x ex => cases e; rw [h.iv ex]; exact ⟨_, rfl, h⟩
    · cases e
  · split at e
    · next x ex => cases e; rw [h.lgv ex]; exact ⟨_, rfl, h⟩
    · cases e
  · split at e
    · next x ex => cases e; rw [h.lgv ex]; exact ⟨_, rfl, h⟩
    · cases e
  · split at e
    · next x ex => cases e; rw [h.rv ex]; exact ⟨_, rfl, h⟩
    · cases e
  · split at e
    · next x ex => cases e; rw [h.rv ex]; exact ⟨_, rfl, h⟩
    · cases e
  · split at e
    · split at e
      · next ep =>
        cases e
        obtain ⟨lv2, e2, h2⟩ := h.put ep
        simp only [e2]
        exact ⟨_, rfl, h2⟩
      · cases e
    · cases e
  · split at e
    · split at e
      · next ep =>
        cases e
        obtain ⟨lv2, e2, h2⟩ := h.put ep
        simp only [e2]
        exact ⟨_, rfl, h2⟩
      · cases e
    · cases e
  · split at e
    · split at e
      · next ep =>
        cases e
        obtain ⟨lv2, e2, h2⟩ := h.put ep
        simp only [e2]
        exact ⟨_, rfl, h2⟩
      · cases e
    · cases e
  · split at e
    · next x ex =>
      split at e
      · next ep =>
        cases e
        obtain ⟨lv2, e2, h2⟩ := h.put ep
        simp only [h.iv ex, e2]
        exact ⟨_, rfl, h2⟩
      · cases e
    · cases e
  all_goals
    repeat' split at e
    all_goals first | (cases e; done) | (cases e; exact ⟨_, rfl, h⟩) | (cases e; refine ⟨_, ?_, h⟩; simp_all; done) | (cases e; refine ⟨_, ?_, h⟩; simp_all; intro hc; omega)
def a_isH (i : Instr) : Bool := match i with
  | .getfield _ => true
  | .putfield _ => true
  | .iaload => true
  | .baload => true
  | .caload => true
  | .iastore => true
  | .bastore => true
  | .castore => true
  | .arraylength => true
  | .newarray _ => true
  | .new _ => true
  | .ldc _ => true
  | .ldc_w _ => true
  | .ldc2_w _ => true
  | .invokespecial _ => true
  | .invokestatic _ => true
  | .invokevirtual _ => true
  | _ => false
theorem a_isH_of {X : a_X} {M : a_Mth} {i : Instr} {pc : Nat} {lv : a_LV} {st : List Value} {h : a_H} {x : Nat × a_LV × List Value × a_H} (e : a_heap X M i pc lv st h = some x) : a_isH i = true := by
  unfold a_heap at e
  split at e <;> first | rfl | cases e
theorem a_isH_pure {i : Instr} (h : a_isH i = true) (pc : Nat) (lv : a_LV) (st : List Value) : a_pure i pc lv st = none := by
  have h1 : ∀ x y, a_bin i x y = none := by intro x y; cases i <;> first | (cases h; done) | rfl
  have h2 : ∀ x y, a_binL i x y = none := by intro x y; cases i <;> first | (cases h; done) | rfl
  have h3 : (match st with
    | .int y :: .int x :: r => match a_bin i x y with
      | some z => some (pc + 1, lv, .int z :: r)
      | none => none
    | .long y :: .long x :: r => match a_binL i x y with
      | some z => some (pc + 1, lv, z :: r)
      | none => none
    | _ => none : Option (Nat × a_LV × List Value)) = none := by
    split
    · rw [h1]
    · rw [h2]
    · rfl
  cases i <;> first | (cases h; done) | exact h3
theorem a_lle.wf {lv lv' : a_LV} (h : a_lle lv lv') {S : List a_C} {st : List Value} (e : a_wf S lv st = true) : a_wf S lv' st = true := by
  simp only [a_wf, Bool.and_eq_true] at e ⊢
  refine ⟨⟨e.1.1, ?_⟩, e.2⟩
  refine List.all_eq_true.mpr (fun o ho => ?_)
  obtain ⟨i, hi⟩ := List.getElem?_of_mem ho
  cases o with
  | none => rfl
  | some v =>
    have hg : a_get lv' i = some v := by unfold a_get; rw [hi]
    rcases h.2 i with q | ⟨-, w, q⟩
    · rw [hg] at q
      have hm : some v ∈ lv := by
        have q2 : a_get lv i = some v := q.symm
        unfold a_get at q2
        cases e3 : lv[i]? with
        | none => rw [e3] at q2; cases q2
        | some o =>
          rw [e3] at q2
          simp only at q2
          rw [← q2]
          exact List.mem_of_getElem? e3
      exact List.all_eq_true.mp e.1.2 _ hm
    · rw [hg] at q
      cases q
      rfl
theorem a_lle.heap {X : a_X} {M : a_Mth} {lv lv' lv1 : a_LV} (h : a_lle lv lv') {i : Instr} {pc pc' : Nat} {st st' : List Value} {hh hh' : a_H} (e : a_heap X M i pc lv st hh = some (pc', lv1, st', hh')) : lv1 = lv ∧ a_heap X M i pc lv' st hh = some (pc', lv', st', hh') := by
  unfold a_heap at e ⊢
  split at e
  · unfold a_getf at e ⊢
    repeat' split at e
    all_goals first | (cases e; done) | (cases e; simp_all; done) | (cases e; exact ⟨rfl, rfl⟩)
  · unfold a_putf at e ⊢
    repeat' split at e
    all_goals first | (cases e; done) | (cases e; simp_all; done) | (cases e; exact ⟨rfl, rfl⟩)
  · unfold a_ald at e ⊢
    repeat' split at e
    all_goals first | (cases e; done) | (cases e; simp_all; done) | (cases e; exact ⟨rfl, rfl⟩)
  · unfold a_ald at e ⊢
    repeat' split at e
    all_goals first | (cases e; done) | (cases e; simp_all; done) | (cases e; exact ⟨rfl, rfl⟩)
  · unfold a_ald at e ⊢
    repeat' split at e
    all_goals first | (cases e; done) | (cases e; simp_all; done) | (cases e; exact ⟨rfl, rfl⟩)
  · unfold a_ast at e ⊢
    repeat' split at e
    all_goals first | (cases e; done) | (cases e; simp_all; done) | (cases e; exact ⟨rfl, rfl⟩)
  · unfold a_ast at e ⊢
    repeat' split at e
    all_goals first | (cases e; done) | (cases e; simp_all; done) | (cases e; exact ⟨rfl, rfl⟩)
  · unfold a_ast at e ⊢
    repeat' split at e
    all_goals first | (cases e; done) | (cases e; simp_all; done) | (cases e; exact ⟨rfl, rfl⟩)
  · repeat' split at e
    all_goals first | (cases e; done) | (cases e; simp_all; done) | (cases e; exact ⟨rfl, rfl⟩)
  · split at e
    · next n r tc et =>
      split at e
      · next ew =>
        cases e
        simp only [Bool.and_eq_true] at ew
        have e2 : (decide (¬ n < (0 : Int32)) && Nat.ble n.toNatClampNeg 100000 && a_wf hh.1 lv' r) = true := by simp only [Bool.and_eq_true]; exact ⟨ew.1, h.wf ew.2⟩
        refine ⟨rfl, ?_⟩
        simp only [e2]
      · cases e
    · cases e
  · split at e
    · split at e
      · next ew =>
        cases e
        simp only [Bool.and_eq_true] at ew
        have := h.wf ew.2
        refine ⟨rfl, ?_⟩
        simp [ew.1, this]
      · cases e
    · cases e
  · repeat' split at e
    all_goals first | (cases e; done) | (cases e; simp_all; done) | (cases e; exact ⟨rfl, rfl⟩)
  · repeat' split at e
    all_goals first | (cases e; done) | (cases e; simp_all; done) | (cases e; exact ⟨rfl, rfl⟩)
  · repeat' split at e
    all_goals first | (cases e; done) | (cases e; simp_all; done) | (cases e; exact ⟨rfl, rfl⟩)
  · repeat' split at e
    all_goals first | (cases e; done) | (cases e; simp_all; done) | (cases e; exact ⟨rfl, rfl⟩)
  · split at e
    · unfold a_acopy at e ⊢
      repeat' split at e
      all_goals first | (cases e; done) | (cases e; simp_all; done) | (cases e; exact ⟨rfl, rfl⟩)
    · cases e
  · split at e
    · unfold a_str at e ⊢
      repeat' split at e
      all_goals first | (cases e; done) | (cases e; simp_all; done) | (cases e; exact ⟨rfl, rfl⟩)
    · cases e
  · cases e
theorem arun_forget {X : a_X} : ∀ (n : Nat) (M : a_Mth) (pc : Nat) (lv lv' : a_LV) (st : List Value) (h : a_H) (R : Option Value × a_H), a_lle lv lv' → arun X n M pc lv st h = some R → arun X n M pc lv' st h = some R := by
  intro n
  induction n with
  | zero => intro M pc lv lv' st h R _ hr; cases hr
  | succ n ih =>
    intro M pc lv lv' st h R0 hle hr0
    rw [arun_s] at hr0 ⊢
    unfold abody at hr0 ⊢
    cases ha : a_at M pc with
    | none => rw [ha] at hr0; cases hr0
    | some p =>
      obtain ⟨i, ln⟩ := p
      rw [ha] at hr0
      simp only at hr0 ⊢
      cases hb : Nat.beq ln (a_len i ln) with
      | false => rw [hb] at hr0; cases hr0
      | true =>
        rw [hb] at hr0
        simp only at hr0 ⊢
        have go : ∀ {R : Option Value × a_H}, (match a_call M i st h.1 with
          | some (M', as, rest) => match arun X n M' 0 (a_loc M' as) [] h with
            | none => none
            | some (r, h') => match a_stay h h' lv rest with
              | true => arun X n M (pc + 3) lv (r.toList ++ rest) h'
              | false => none
          | none => match a_pure i pc lv st with
            | some (pc', lv', st') => arun X n M pc' lv' st' h
            | none => match a_heap X M i pc lv st h with
              | some (pc', lv', st', h') => arun X n M pc' lv' st' h'
              | none => none) = some R → (match a_call M i st h.1 with
          | some (M', as, rest) => match arun X n M' 0 (a_loc M' as) [] h with
            | none => none
            | some (r, h') => match a_stay h h' lv' rest with
              | true => arun X n M (pc + 3) lv' (r.toList ++ rest) h'
              | false => none
          | none => match a_pure i pc lv' st with
            | some (pc', lv', st') => arun X n M pc' lv' st' h
            | none => match a_heap X M i pc lv' st h with
              | some (pc', lv', st', h') => arun X n M pc' lv' st' h'
              | none => none) = some R := by
          intro R hr
          cases hc : a_call M i st h.1 with
          | some q =>
            obtain ⟨M', as, rest⟩ := q
            rw [hc] at hr
            simp only at hr ⊢
            cases hf : arun X n M' 0 (a_loc M' as) [] h with
            | none => rw [hf] at hr; cases hr
            | some q =>
              obtain ⟨r, h'⟩ := q
              rw [hf] at hr
              simp only at hr ⊢
              cases hs : a_stay h h' lv rest with
              | false => rw [hs] at hr; cases hr
              | true =>
                rw [hs] at hr
                have hs2 : a_stay h h' lv' rest = true := by
                  unfold a_stay at hs ⊢
                  simp only [Bool.or_eq_true] at hs ⊢
                  exact hs.imp id hle.wf
                rw [hs2]
                exact ih _ _ _ _ _ _ _ hle hr
          | none =>
            rw [hc] at hr
            simp only at hr ⊢
            cases hp : a_pure i pc lv st with
            | some q =>
              obtain ⟨pc', lv1, st'⟩ := q
              rw [hp] at hr
              obtain ⟨lv2, e2, h2⟩ := hle.pure hp
              rw [e2]
              exact ih _ _ _ _ _ _ _ h2 hr
            | none =>
              rw [hp] at hr
              simp only at hr ⊢
              cases hh : a_heap X M i pc lv st h with
              | none => rw [hh] at hr; cases hr
              | some q =>
                obtain ⟨pc', lv1, st', h'⟩ := q
                rw [hh] at hr
                obtain ⟨e1, e2⟩ := hle.heap hh
                rw [a_isH_pure (a_isH_of hh), e2]
                subst e1
                exact ih _ _ _ _ _ _ _ hle hr
        cases i <;> first | exact hr0 | exact go hr0
theorem Wp.fgt {X : a_X} {M : a_Mth} {pc : Nat} {lv lv' : a_LV} {st : List Value} {m : Nat → Nat → Int32} {Q : Option Value → (Nat → Nat → Int32) → Prop} (hle : a_lle lv lv') (h : Wp X M pc lv st m Q) : Wp X M pc lv' st m Q := by
  obtain ⟨n, r, m', h1, h2⟩ := h
  exact ⟨n, r, m', arun_forget n _ _ _ _ _ _ _ hle h1, h2⟩
/-- a test of it, place by place -/
def a_lleb : a_LV → a_LV → Prop
  | [], [] => True
  | a :: r, b :: s => (b = a ∨ (a = none ∧ ∃ v : Int32, b = some (.int v))) ∧ a_lleb r s
  | _, _ => False
theorem a_lle.of : ∀ {lv lv' : a_LV}, a_lleb lv lv' → a_lle lv lv'
  | [], [], _ => ⟨rfl, fun i => Or.inl rfl⟩
  | a :: r, b :: s, h => by
    obtain ⟨h1, h2⟩ := a_lle.of h.2
    refine ⟨by simp [h1], fun i => ?_⟩
    cases i with
    | zero => exact h.1
    | succ i => rw [a_get_cons1, a_get_cons1]; exact h2 i
theorem a_lleb_e {a : Option Value} {r s : a_LV} (h : a_lleb r s) : a_lleb (a :: r) (a :: s) := ⟨Or.inl rfl, h⟩
theorem a_lleb_i {v : Int32} {r s : a_LV} (h : a_lleb r s) : a_lleb (none :: r) (some (.int v) :: s) := ⟨Or.inr ⟨rfl, v, rfl⟩, h⟩
