/-! THE CELLS behind the two constructors; runs of methods over them, from behind: Wp -/
def a_SH : List a_C := [.inl (8, [some (some 1), some (some 7), some (some 13), some (some 15), some (some 23), some (some 32), some (some 41), some (some 47), some (some 50), some (some 71)]),
  .inl (5, [none, none, none, none, none, none, none, some (some 2), some (some 3), some (some 4), some (some 5), some (some 6)]),
  .inr (0, 16),
  .inr (0, 8),
  .inr (0, 12),
  .inr (0, 12),
  .inr (0, 12),
  .inl (5, [none, none, none, none, none, none, none, some (some 8), some (some 9), some (some 10), some (some 11), some (some 12)]),
  .inr (0, 16),
  .inr (0, 8),
  .inr (0, 12),
  .inr (0, 12),
  .inr (0, 12),
  .inl (6, [some (some 14), none, none, none, none, none, none, none]),
  .inr (2, 300),
  .inl (0, [some (some 1), none, none, none, some (some 16), some (some 17), some (some 18), some (some 19), some (some 20), none, some (some 21), some (some 22)]),
  .inr (0, 20),
  .inr (0, 20),
  .inr (0, 20),
  .inr (0, 20),
  .inr (0, 6),
  .inr (0, 128),
  .inr (0, 128),
  .inl (1, [some (some 24), none]),
  .inl (0, [some (some 1), none, none, none, some (some 25), some (some 26), some (some 27), some (some 28), some (some 29), none, some (some 30), some (some 31)]),
  .inr (0, 20),
  .inr (0, 20),
  .inr (0, 20),
  .inr (0, 20),
  .inr (0, 6),
  .inr (0, 128),
  .inr (0, 128),
  .inl (1, [some (some 33), none]),
  .inl (0, [some (some 1), none, none, none, some (some 34), some (some 35), some (some 36), some (some 37), some (some 38), none, some (some 39), some (some 40)]),
  .inr (0, 20),
  .inr (0, 20),
  .inr (0, 20),
  .inr (0, 20),
  .inr (0, 6),
  .inr (0, 128),
  .inr (0, 128),
  .inl (7, [some (some 1), some (some 42), some (some 43), some (some 44), some (some 45), some (some 46), none, none]),
  .inr (0, 128),
  .inr (0, 20),
  .inr (0, 20),
  .inr (0, 20),
  .inr (0, 20),
  .inl (2, [some (some 1), some (some 48), some (some 49), none]),
  .inr (0, 20),
  .inr (0, 128),
  .inl (4, [some (some 1), some (some 51), some (some 59), some (some 65), none, none, none, none, none, none, none]),
  .inl (0, [some (some 1), none, none, none, some (some 52), some (some 53), some (some 54), some (some 55), some (some 56), none, some (some 57), some (some 58)]),
  .inr (0, 20),
  .inr (0, 20),
  .inr (0, 20),
  .inr (0, 20),
  .inr (0, 6),
  .inr (0, 128),
  .inr (0, 128),
  .inl (7, [some (some 1), some (some 60), some (some 61), some (some 62), some (some 63), some (some 64), none, none]),
  .inr (0, 128),
  .inr (0, 20),
  .inr (0, 20),
  .inr (0, 20),
  .inr (0, 20),
  .inl (7, [some (some 1), some (some 66), some (some 67), some (some 68), some (some 69), some (some 70), none, none]),
  .inr (0, 128),
  .inr (0, 20),
  .inr (0, 20),
  .inr (0, 20),
  .inr (0, 20),
  .inl (3, [some (some 1), none, some (some 72), some (some 73), some (some 74), some (some 75), some (some 76)]),
  .inr (0, 128),
  .inr (0, 128),
  .inr (0, 10),
  .inr (0, 10),
  .inr (0, 1024),
  .inl (9, [some (some 78), some (some 79), some (some 80), some (some 81), some (some 82), none, some (some 83), some (some 84), some (some 85), none, none, none, some (some 86), none, none, none, none, none, none, none, none, none, some (some 87), some (some 88), some (some 89), some (some 90), none, some (some 91), some (some 92), some (some 93), some (some 94), some (some 95), some (some 96), none, none, none]),
  .inr (0, 800),
  .inr (1, 2),
  .inr (0, 10),
  .inr (0, 32),
  .inr (1, 256),
  .inr (0, 24),
  .inr (0, 24),
  .inr (0, 24),
  .inr (0, 300),
  .inr (0, 20),
  .inr (0, 20),
  .inr (0, 20),
  .inr (0, 20),
  .inr (0, 10),
  .inr (0, 10),
  .inr (0, 10),
  .inr (0, 128),
  .inr (0, 10),
  .inr (0, 1024)]

def abody (X : a_X) (f : a_Mth → Nat → a_LV → List Value → a_H → Option (Option Value × a_H)) (M : a_Mth) (pc : Nat) (lv : a_LV) (st : List Value) (h : a_H) : Option (Option Value × a_H) := match a_at M pc with
    | none => none
    | some (i, ln) => match Nat.beq ln (a_len i ln) with
      | false => none
      | true => match i with
        | .ireturn => match st, a_rt M with
          | [.int v], some ty => match a_fit ty v with
            | true => some (some (.int v), h)
            | false => none
          | _, _ => none
        | .return_ => match st, a_rt M with
          | [], none => some (none, h)
          | _, _ => none
        | .areturn => match st, a_rt M with
          | [.ref q], some (.object _) => some (some (.ref q), h)
          | _, _ => none
        | i => match a_call M i st h.1 with
          | some (M', as, rest) => match f M' 0 (a_loc M' as) [] h with
            | none => none
            | some (r, h') => match a_stay h h' lv rest with
              | true => f M (pc + 3) lv (r.toList ++ rest) h'
              | false => none
          | none => match a_pure i pc lv st with
            | some (pc', lv', st') => f M pc' lv' st' h
            | none => match a_heap X M i pc lv st h with
              | some (pc', lv', st', h') => f M pc' lv' st' h'
              | none => none
theorem arun_s (X : a_X) (n : Nat) (M : a_Mth) (pc : Nat) (lv : a_LV) (st : List Value) (h : a_H) : arun X (n + 1) M pc lv st h = abody X (arun X n) M pc lv st h := rfl
theorem abody_mono {X : a_X} {f g : a_Mth → Nat → a_LV → List Value → a_H → Option (Option Value × a_H)} (hfg : ∀ M pc lv st h R, f M pc lv st h = some R → g M pc lv st h = some R) {M : a_Mth} {pc : Nat} {lv : a_LV} {st : List Value} {h : a_H} {R : Option Value × a_H} (hr : abody X f M pc lv st h = some R) : abody X g M pc lv st h = some R := by
  unfold abody at hr ⊢
  cases ha : a_at M pc with
  | none => rw [ha] at hr; cases hr
  | some p =>
    obtain ⟨i, ln⟩ := p
    rw [ha] at hr
    simp only at hr ⊢
    cases hb : Nat.beq ln (a_len i ln) with
    | false => rw [hb] at hr; cases hr
    | true =>
      rw [hb] at hr
      simp only at hr ⊢
      have go : ∀ {R : Option Value × a_H}, (match a_call M i st h.1 with
          | some (M', as, rest) => match f M' 0 (a_loc M' as) [] h with
            | none => none
            | some (r, h') => match a_stay h h' lv rest with
              | true => f M (pc + 3) lv (r.toList ++ rest) h'
              | false => none
          | none => match a_pure i pc lv st with
            | some (pc', lv', st') => f M pc' lv' st' h
            | none => match a_heap X M i pc lv st h with
              | some (pc', lv', st', h') => f M pc' lv' st' h'
              | none => none) = some R → (match a_call M i st h.1 with
          | some (M', as, rest) => match g M' 0 (a_loc M' as) [] h with
            | none => none
            | some (r, h') => match a_stay h h' lv rest with
              | true => g M (pc + 3) lv (r.toList ++ rest) h'
              | false => none
          | none => match a_pure i pc lv st with
            | some (pc', lv', st') => g M pc' lv' st' h
            | none => match a_heap X M i pc lv st h with
              | some (pc', lv', st', h') => g M pc' lv' st' h'
              | none => none) = some R := by
        intro R hr
        cases hc : a_call M i st h.1 with
        | some q =>
          obtain ⟨M', as, rest⟩ := q
          rw [hc] at hr
          simp only at hr ⊢
          cases hf : f M' 0 (a_loc M' as) [] h with
          | none => rw [hf] at hr; cases hr
          | some q =>
            obtain ⟨r, h'⟩ := q
            rw [hf] at hr
            rw [hfg _ _ _ _ _ _ hf]
            simp only at hr ⊢
            cases hs : a_stay h h' lv rest with
            | false => rw [hs] at hr; cases hr
            | true =>
              rw [hs] at hr
              simp only at hr ⊢
              exact hfg _ _ _ _ _ _ hr
        | none =>
          rw [hc] at hr
          simp only at hr ⊢
          cases hp : a_pure i pc lv st with
          | some q =>
            rw [hp] at hr
            exact hfg _ _ _ _ _ _ hr
          | none =>
            rw [hp] at hr
            simp only at hr ⊢
            cases hh : a_heap X M i pc lv st h with
            | none => rw [hh] at hr; cases hr
            | some q =>
              rw [hh] at hr
              exact hfg _ _ _ _ _ _ hr
      cases i <;> first | exact hr | exact go hr
theorem arun_mono1 {X : a_X} : ∀ (n : Nat) (M : a_Mth) (pc : Nat) (lv : a_LV) (st : List Value) (h : a_H) (R : Option Value × a_H), arun X n M pc lv st h = some R → arun X (n + 1) M pc lv st h = some R
  | 0, M, pc, lv, st, h, R, hr => by cases hr
  | n + 1, M, pc, lv, st, h, R, hr => by
    rw [arun_s] at hr ⊢
    exact abody_mono (fun M pc lv st h R q => arun_mono1 n M pc lv st h R q) hr
theorem arun_mono {X : a_X} {n k : Nat} (hk : n ≤ k) {M : a_Mth} {pc : Nat} {lv : a_LV} {st : List Value} {h : a_H} {R : Option Value × a_H} (hr : arun X n M pc lv st h = some R) : arun X k M pc lv st h = some R := by
  induction hk with
  | refl => exact hr
  | step _ ih => exact arun_mono1 _ _ _ _ _ _ _ ih
/-- without a script: the same with one -/
theorem a_heap_X {X : a_X} {M : a_Mth} {i : Instr} {pc : Nat} {lv : a_LV} {st : List Value} {h : a_H} {x : Nat × a_LV × List Value × a_H} (hs : a_heap none M i pc lv st h = some x) : a_heap X M i pc lv st h = some x := by
  have hald : ∀ tc, a_ald none tc pc lv st h = some x → a_ald X tc pc lv st h = some x := by
    intro tc hs
    unfold a_ald at hs ⊢
    split at hs
    · split at hs
      · exact hs
      · cases hs
      · cases hs
    · cases hs
  cases i <;> first | exact hs | exact hald _ hs | skip
  unfold a_heap at hs ⊢
  simp only at hs ⊢
  split at hs
  · split at hs
    · exact hs
    · cases hs
    · cases hs
  · cases hs
theorem arun_X {X : a_X} : ∀ (n : Nat) (M : a_Mth) (pc : Nat) (lv : a_LV) (st : List Value) (h : a_H) (R : Option Value × a_H), arun none n M pc lv st h = some R → arun X n M pc lv st h = some R := by
  intro n
  induction n with
  | zero => intro M pc lv st h R hr; cases hr
  | succ n ih =>
    intro M pc lv st h R hr
    rw [arun_s] at hr ⊢
    have h1 := abody_mono (g := arun X n) ih hr
    unfold abody at h1 ⊢
    cases ha : a_at M pc with
    | none => rw [ha] at h1; cases h1
    | some p =>
      obtain ⟨i, ln⟩ := p
      rw [ha] at h1
      simp only at h1 ⊢
      cases hb : Nat.beq ln (a_len i ln) with
      | false => rw [hb] at h1; cases h1
      | true =>
        rw [hb] at h1
        simp only at h1 ⊢
        have go : ∀ {R : Option Value × a_H}, (match a_call M i st h.1 with
          | some (M', as, rest) => match arun X n M' 0 (a_loc M' as) [] h with
            | none => none
            | some (r, h') => match a_stay h h' lv rest with
              | true => arun X n M (pc + 3) lv (r.toList ++ rest) h'
              | false => none
          | none => match a_pure i pc lv st with
            | some (pc', lv', st') => arun X n M pc' lv' st' h
            | none => match a_heap none M i pc lv st h with
              | some (pc', lv', st', h') => arun X n M pc' lv' st' h'
              | none => none) = some R → (match a_call M i st h.1 with
          | some (M', as, rest) => match arun X n M' 0 (a_loc M' as) [] h with
            | none => none
            | some (r, h') => match a_stay h h' lv rest with
              | true => arun X n M (pc + 3) lv (r.toList ++ rest) h'
              | false => none
          | none => match a_pure i pc lv st with
            | some (pc', lv', st') => arun X n M pc' lv' st' h
            | none => match a_heap X M i pc lv st h with
              | some (pc', lv', st', h') => arun X n M pc' lv' st' h'
              | none => none) = some R := by
          intro R hr
          cases hc : a_call M i st h.1 with
          | some q => rw [hc] at hr; exact hr
          | none =>
            rw [hc] at hr
            simp only at hr ⊢
            cases hp : a_pure i pc lv st with
            | some q => rw [hp] at hr; exact hr
            | none =>
              rw [hp] at hr
              simp only at hr ⊢
              cases hh : a_heap none M i pc lv st h with
              | none => rw [hh] at hr; cases hr
              | some q => rw [hh] at hr; rw [a_heap_X hh]; exact hr
        cases i <;> first | exact h1 | exact go h1

