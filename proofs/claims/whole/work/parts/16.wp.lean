/-! runs, from behind: what a run from here comes to -/
def Wp (X : a_X) (M : a_Mth) (pc : Nat) (lv : a_LV) (st : List Value) (m : Nat → Nat → Int32) (Q : Option Value → (Nat → Nat → Int32) → Prop) : Prop := ∃ (n : Nat) (r : Option Value) (m' : Nat → Nat → Int32), arun X n M pc lv st (a_SH, m) = some (r, (a_SH, m')) ∧ Q r m'
def Call (X : a_X) (M : a_Mth) (as : List Value) (m : Nat → Nat → Int32) (Q : Option Value → (Nat → Nat → Int32) → Prop) : Prop := Wp X M 0 (a_loc M as) [] m Q
def CallI (X : a_X) (M : a_Mth) (as : List Value) (m : Nat → Nat → Int32) (Q : Int32 → (Nat → Nat → Int32) → Prop) : Prop := Call X M as m (fun r m' => ∃ v, r = some (.int v) ∧ Q v m')
def CallV (X : a_X) (M : a_Mth) (as : List Value) (m : Nat → Nat → Int32) (Q : (Nat → Nat → Int32) → Prop) : Prop := Call X M as m (fun r m' => r = none ∧ Q m')
def CallR (X : a_X) (M : a_Mth) (as : List Value) (m : Nat → Nat → Int32) (Q : Nat → (Nat → Nat → Int32) → Prop) : Prop := Call X M as m (fun r m' => ∃ v, r = some (.ref v) ∧ Q v m')
section WP
variable {X : a_X} {M : a_Mth} {pc : Nat} {lv : a_LV} {st : List Value} {m : Nat → Nat → Int32} {Q Q' : Option Value → (Nat → Nat → Int32) → Prop}
theorem Wp.mono (h : Wp X M pc lv st m Q) (hq : ∀ r m', Q r m' → Q' r m') : Wp X M pc lv st m Q' := by
  obtain ⟨n, r, m', h1, h2⟩ := h
  exact ⟨n, r, m', h1, hq _ _ h2⟩
theorem Call.mono {as : List Value} (h : Call X M as m Q) (hq : ∀ r m', Q r m' → Q' r m') : Call X M as m Q' := Wp.mono h hq
theorem CallI.mono {as : List Value} {P P' : Int32 → (Nat → Nat → Int32) → Prop} (h : CallI X M as m P) (hq : ∀ r m', P r m' → P' r m') : CallI X M as m P' := Wp.mono h (fun _ _ ⟨v, e, q⟩ => ⟨v, e, hq _ _ q⟩)
theorem CallV.mono {as : List Value} {P P' : (Nat → Nat → Int32) → Prop} (h : CallV X M as m P) (hq : ∀ m', P m' → P' m') : CallV X M as m P' := Wp.mono h (fun _ _ ⟨e, q⟩ => ⟨e, hq _ q⟩)
/-- steps over locals and stack alone, k of them -/
def a_p1 (M : a_Mth) (pc : Nat) (lv : a_LV) (st : List Value) : Option (Nat × a_LV × List Value) := match a_at M pc with
  | some (i, ln) => match Nat.beq ln (a_len i ln) with
    | true => match i with
      | .ireturn => none
      | .return_ => none
      | .areturn => none
      | .invokevirtual _ => none
      | .invokestatic _ => none
      | .invokespecial _ => none
      | i => a_pure i pc lv st
    | false => none
  | none => none
def a_pk (M : a_Mth) : Nat → Nat → a_LV → List Value → Option (Nat × a_LV × List Value)
  | 0, pc, lv, st => some (pc, lv, st)
  | k + 1, pc, lv, st => match a_p1 M pc lv st with
    | some (pc', lv', st') => a_pk M k pc' lv' st'
    | none => none
theorem Wp.p1 {pc' : Nat} {lv' : a_LV} {st' : List Value} (h : a_p1 M pc lv st = some (pc', lv', st')) (k : Wp X M pc' lv' st' m Q) : Wp X M pc lv st m Q := by
  obtain ⟨n, r, m', h1, h2⟩ := k
  refine ⟨n + 1, r, m', ?_, h2⟩
  rw [arun_s]
  unfold abody
  unfold a_p1 at h
  cases ha : a_at M pc with
  | none => rw [ha] at h; cases h
  | some p =>
    obtain ⟨i, ln⟩ := p
    rw [ha] at h
    simp only at h ⊢
    cases hb : Nat.beq ln (a_len i ln) with
    | false => rw [hb] at h; cases h
    | true =>
      rw [hb] at h
      cases i <;> first | (cases h; done) | (simp only at h; simp only [a_call, h]; exact h1)
theorem Wp.pk (k : Nat) : ∀ {pc pc' : Nat} {lv lv' : a_LV} {st st' : List Value}, a_pk M k pc lv st = some (pc', lv', st') → Wp X M pc' lv' st' m Q → Wp X M pc lv st m Q := by
  induction k with
  | zero => intro pc pc' lv lv' st st' h w; cases h; exact w
  | succ k ih =>
    intro pc pc' lv lv' st st' h w
    simp only [a_pk] at h
    split at h
    · next e => exact Wp.p1 e (ih h w)
    · cases h
def a_nr (i : Instr) : Bool := match i with
  | .ireturn => false
  | .return_ => false
  | .areturn => false
  | _ => true
/-- a step over cells -/
theorem Wp.hp {i : Instr} {ln pc' : Nat} {lv' : a_LV} {st' : List Value} {m1 : Nat → Nat → Int32} (h0 : a_at M pc = some (i, ln)) (hl : Nat.beq ln (a_len i ln) = true) (hc : a_call M i st a_SH = none) (hp : a_pure i pc lv st = none) (hr : a_nr i = true) (h : a_heap X M i pc lv st (a_SH, m) = some (pc', lv', st', (a_SH, m1))) (k : Wp X M pc' lv' st' m1 Q) : Wp X M pc lv st m Q := by
  obtain ⟨n, r, m', h1, h2⟩ := k
  refine ⟨n + 1, r, m', ?_, h2⟩
  rw [arun_s]
  unfold abody
  rw [h0]
  simp only [hl]
  cases i <;> first | (cases hr; done) | (simp only [hc, hp, h]; exact h1)
theorem a_fst (m : Nat → Nat → Int32) : ((a_SH, m) : a_H).1 = a_SH := rfl
theorem Wp.getI {idx c ci k : Nat} {z : Nat × (Nat × Nat) × String} {fs : List (Option (Option Nat))} {r : List Value} (h0 : a_at M pc = some (.getfield idx, 3)) (hf : a_look (a_fldT (a_cn M)) idx = some (ci, k, z)) (hS : a_SH[c]? = some (.inl (ci, fs))) (hk : fs[k]? = some none) (w : Wp X M (pc + 3) lv (.int (m c k) :: r) m Q) : Wp X M pc lv (.ref c :: r) m Q := by
  refine Wp.hp h0 rfl rfl (by cases r <;> rfl) rfl ?_ w
  simp only [a_heap, a_getf, hf, hS, Nat.beq_refl, hk]
theorem Wp.getR {idx c ci k q : Nat} {z : Nat × (Nat × Nat) × String} {fs : List (Option (Option Nat))} {r : List Value} (h0 : a_at M pc = some (.getfield idx, 3)) (hf : a_look (a_fldT (a_cn M)) idx = some (ci, k, z)) (hS : a_SH[c]? = some (.inl (ci, fs))) (hk : fs[k]? = some (some (some q))) (w : Wp X M (pc + 3) lv (.ref q :: r) m Q) : Wp X M pc lv (.ref c :: r) m Q := by
  refine Wp.hp h0 rfl rfl (by cases r <;> rfl) rfl ?_ w
  simp only [a_heap, a_getf, hf, hS, Nat.beq_refl, hk]
theorem Wp.putI {idx c ci k : Nat} {v : Int32} {z : Nat × (Nat × Nat) × String} {fs : List (Option (Option Nat))} {r : List Value} (h0 : a_at M pc = some (.putfield idx, 3)) (hf : a_look (a_fldT (a_cn M)) idx = some (ci, k, z)) (hS : a_SH[c]? = some (.inl (ci, fs))) (hk : fs[k]? = some none) (ht : a_fit (a_ty ci k) v = true) (w : Wp X M (pc + 3) lv r (a_up m c k v) Q) : Wp X M pc lv (.int v :: .ref c :: r) m Q := by
  refine Wp.hp h0 rfl rfl rfl rfl ?_ w
  simp only [a_heap, a_putf, hf, hS, Nat.beq_refl, hk, ht]
theorem a_in_of {i : Int32} {n : Nat} (h : vp_in i n) : a_in i n = true := by
  simp only [a_in, Bool.not_eq_true', Bool.or_eq_false_iff, decide_eq_false_iff_not]
  exact ⟨fun q => h (Or.inl q), fun q => h (Or.inr q)⟩
theorem Wp.ald {tc c n : Nat} {i : Instr} {x : Int32} {r : List Value} (ht : (tc = 0 ∧ i = .iaload) ∨ (tc = 1 ∧ i = .baload) ∨ (tc = 2 ∧ i = .caload)) (h0 : a_at M pc = some (i, 1)) (hS : a_SH[c]? = some (.inr (tc, n))) (w : vp_in x n ∧ Wp X M (pc + 1) lv (.int (m c x.toNatClampNeg) :: r) m Q) : Wp X M pc lv (.int x :: .ref c :: r) m Q := by
  rcases ht with ⟨rfl, rfl⟩ | ⟨rfl, rfl⟩ | ⟨rfl, rfl⟩
  all_goals
    refine Wp.hp h0 rfl rfl rfl rfl ?_ w.2
    simp [a_heap, a_ald, hS, a_in_of w.1]
theorem Wp.iald {c n : Nat} {x : Int32} {r : List Value} (h0 : a_at M pc = some (.iaload, 1)) (hS : a_SH[c]? = some (.inr (0, n))) (w : vp_in x n ∧ Wp X M (pc + 1) lv (.int (m c x.toNatClampNeg) :: r) m Q) : Wp X M pc lv (.int x :: .ref c :: r) m Q := Wp.ald (Or.inl ⟨rfl, rfl⟩) h0 hS w
theorem Wp.bald {c n : Nat} {x : Int32} {r : List Value} (h0 : a_at M pc = some (.baload, 1)) (hS : a_SH[c]? = some (.inr (1, n))) (w : vp_in x n ∧ Wp X M (pc + 1) lv (.int (m c x.toNatClampNeg) :: r) m Q) : Wp X M pc lv (.int x :: .ref c :: r) m Q := Wp.ald (Or.inr (Or.inl ⟨rfl, rfl⟩)) h0 hS w
theorem Wp.cald {c n : Nat} {x : Int32} {r : List Value} (h0 : a_at M pc = some (.caload, 1)) (hS : a_SH[c]? = some (.inr (2, n))) (w : vp_in x n ∧ Wp X M (pc + 1) lv (.int (m c x.toNatClampNeg) :: r) m Q) : Wp X M pc lv (.int x :: .ref c :: r) m Q := Wp.ald (Or.inr (Or.inr ⟨rfl, rfl⟩)) h0 hS w
theorem Wp.iast {c n : Nat} {v x : Int32} {r : List Value} (h0 : a_at M pc = some (.iastore, 1)) (hS : a_SH[c]? = some (.inr (0, n))) (w : vp_in x n ∧ Wp X M (pc + 1) lv r (a_up m c x.toNatClampNeg v) Q) : Wp X M pc lv (.int v :: .int x :: .ref c :: r) m Q := by
  refine Wp.hp h0 rfl rfl rfl rfl ?_ w.2
  simp [a_heap, a_ast, hS, a_in_of w.1]
theorem Wp.bast {c n : Nat} {v x : Int32} {r : List Value} (h0 : a_at M pc = some (.bastore, 1)) (hS : a_SH[c]? = some (.inr (1, n))) (w : vp_in x n ∧ Wp X M (pc + 1) lv r (a_up m c x.toNatClampNeg (vp_nar .boolean v)) Q) : Wp X M pc lv (.int v :: .int x :: .ref c :: r) m Q := by
  refine Wp.hp h0 rfl rfl rfl rfl ?_ w.2
  simp [a_heap, a_ast, hS, a_in_of w.1]
theorem Wp.cast {c n : Nat} {v x : Int32} {r : List Value} (h0 : a_at M pc = some (.castore, 1)) (hS : a_SH[c]? = some (.inr (2, n))) (w : vp_in x n ∧ Wp X M (pc + 1) lv r (a_up m c x.toNatClampNeg (vp_nar .char v)) Q) : Wp X M pc lv (.int v :: .int x :: .ref c :: r) m Q := by
  refine Wp.hp h0 rfl rfl rfl rfl ?_ w.2
  simp [a_heap, a_ast, hS, a_in_of w.1]
theorem Wp.if1 {cd : ClassFile.Cond} {off : Int} {x : Int32} {r : List Value} {t : Nat} (h0 : a_at M pc = some (.ifCond cd off, 3)) (ht : a_tgt pc off = some t) (w : (a_c1 cd x = true → Wp X M t lv r m Q) ∧ (a_c1 cd x = false → Wp X M (pc + 3) lv r m Q)) : Wp X M pc lv (.int x :: r) m Q := by
  have h1 : a_p1 M pc lv (.int x :: r) = some (if a_c1 cd x then t else pc + 3, lv, r) := by
    simp only [a_p1, h0, a_len, Nat.beq_refl, a_pure, ht]
  refine Wp.p1 h1 ?_
  cases hc : a_c1 cd x with
  | true => exact w.1 hc
  | false => exact w.2 hc
theorem Wp.if2 {cd : ClassFile.Cond} {off : Int} {x y : Int32} {r : List Value} {t : Nat} (h0 : a_at M pc = some (.if_icmp cd off, 3)) (ht : a_tgt pc off = some t) (w : (a_c2 cd x y = true → Wp X M t lv r m Q) ∧ (a_c2 cd x y = false → Wp X M (pc + 3) lv r m Q)) : Wp X M pc lv (.int y :: .int x :: r) m Q := by
  have h1 : a_p1 M pc lv (.int y :: .int x :: r) = some (if a_c2 cd x y then t else pc + 3, lv, r) := by
    simp only [a_p1, h0, a_len, Nat.beq_refl, a_pure, ht]
  refine Wp.p1 h1 ?_
  cases hc : a_c2 cd x y with
  | true => exact w.1 hc
  | false => exact w.2 hc
theorem Wp.iret {v : Int32} {ty : FieldType} (h0 : a_at M pc = some (.ireturn, 1)) (hr : a_rt M = some ty) (w : a_fit ty v = true ∧ Q (some (.int v)) m) : Wp X M pc lv [.int v] m Q := by
  refine ⟨1, some (.int v), m, ?_, w.2⟩
  rw [arun_s]
  simp only [abody, h0, a_len, Nat.beq_refl, hr, w.1]
theorem Wp.vret (h0 : a_at M pc = some (.return_, 1)) (hr : a_rt M = none) (w : Q none m) : Wp X M pc lv [] m Q := by
  refine ⟨1, none, m, ?_, w⟩
  rw [arun_s]
  simp only [abody, h0, a_len, Nat.beq_refl, hr]
theorem Wp.aret {q : Nat} {nm : String} (h0 : a_at M pc = some (.areturn, 1)) (hr : a_rt M = some (.object nm)) (w : Q (some (.ref q)) m) : Wp X M pc lv [.ref q] m Q := by
  refine ⟨1, some (.ref q), m, ?_, w⟩
  rw [arun_s]
  simp only [abody, h0, a_len, Nat.beq_refl, hr]
/-- a call -/
theorem Wp.call {i : Instr} {M' : a_Mth} {as rest : List Value} (h0 : a_at M pc = some (i, 3)) (hl : a_len i 3 = 3) (hc : a_call M i st a_SH = some (M', as, rest)) (w : Call X M' as m (fun r m1 => Wp X M (pc + 3) lv (r.toList ++ rest) m1 Q)) : Wp X M pc lv st m Q := by
  obtain ⟨n1, r1, m1, h1, n2, r2, m2, h2, hq⟩ := w
  refine ⟨max n1 n2 + 1, r2, m2, ?_, hq⟩
  have h1' := arun_mono (Nat.le_max_left n1 n2) h1
  have h2' := arun_mono (Nat.le_max_right n1 n2) h2
  rw [arun_s]
  unfold abody
  rw [h0]
  simp only [hl, Nat.beq_refl]
  have hst : a_stay (a_SH, m) (a_SH, m1) lv rest = true := by simp [a_stay]
  have hc2 : a_call M i st ((a_SH, m) : a_H).1 = some (M', as, rest) := hc
  cases i <;> first | (cases hc; done) | (simp only [hc2, h1', hst, h2'])
theorem Wp.callI {i : Instr} {M' : a_Mth} {as rest : List Value} (h0 : a_at M pc = some (i, 3)) (hl : a_len i 3 = 3) (hc : a_call M i st a_SH = some (M', as, rest)) (w : CallI X M' as m (fun v m1 => Wp X M (pc + 3) lv (.int v :: rest) m1 Q)) : Wp X M pc lv st m Q :=
  Wp.call h0 hl hc (Call.mono w (fun r m1 ⟨v, e, q⟩ => by subst e; exact q))
theorem Wp.callR {i : Instr} {M' : a_Mth} {as rest : List Value} (h0 : a_at M pc = some (i, 3)) (hl : a_len i 3 = 3) (hc : a_call M i st a_SH = some (M', as, rest)) (w : CallR X M' as m (fun v m1 => Wp X M (pc + 3) lv (.ref v :: rest) m1 Q)) : Wp X M pc lv st m Q :=
  Wp.call h0 hl hc (Call.mono w (fun r m1 ⟨v, e, q⟩ => by subst e; exact q))
theorem Wp.callV {i : Instr} {M' : a_Mth} {as rest : List Value} (h0 : a_at M pc = some (i, 3)) (hl : a_len i 3 = 3) (hc : a_call M i st a_SH = some (M', as, rest)) (w : CallV X M' as m (fun m1 => Wp X M (pc + 3) lv rest m1 Q)) : Wp X M pc lv st m Q :=
  Wp.call h0 hl hc (Call.mono w (fun r m1 ⟨e, q⟩ => by subst e; exact q))
/-- which class the receiver is of -/
theorem a_callV_at {idx k na ci : Nat} {z : List (Nat × Nat) × String} {M' : a_Mth} {c : Nat} {rest : List Value} {fs : List (Option (Option Nat))} (ht : a_look (a_calT (a_cn M)) idx = some (0, k, na, z)) (hM : a_M k = some M') (hd : st.drop na = .ref c :: rest) (hS : a_SH[c]? = some (.inl (ci, fs))) (hr : (Nat.beq ci (a_cn M') && a_rooms M M' (.ref c :: (st.take na).reverse) rest) = true) : a_call M (.invokevirtual idx) st a_SH = some (M', .ref c :: (st.take na).reverse, rest) := by
  simp only [a_call, ht, hM, hd, hS, hr]
end WP
