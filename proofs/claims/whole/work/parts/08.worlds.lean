/-! the small machine's cells are cells of the heap -/
def a_fv (ad : Nat → Nat) (f : Nat → Int32) (k : Nat) (o : Option (Option Nat)) : Value := match o with
  | none => .int (f k)
  | some none => .null
  | some (some q) => .ref (ad q)
def a_e (ad : Nat → Nat) (cA : Nat → ClassId) (f : Nat → Int32) (c : a_C) : va_E := match c with
  | .inl (ci, fs) => .inr (ci, fs.mapIdx (a_fv ad f))
  | .inr (t, n) => .inl (cA t, n, .inl f)
def a_ws (ad : Nat → Nat) (cA : Nat → ClassId) (h : a_H) : va_W := h.1.mapIdx (fun i c => (ad i, a_e ad cA (h.2 i) c))
theorem a_ws_at {ad : Nat → Nat} {cA : Nat → ClassId} {h : a_H} {c : Nat} {x : a_C} (e : h.1[c]? = some x) : (a_ws ad cA h)[c]? = some (ad c, a_e ad cA (h.2 c) x) := by
  simp [a_ws, List.getElem?_mapIdx, e]
theorem a_row_s (m : Nat → Nat → Int32) (c : Nat) (f : Nat → Int32) : a_row m c f c = f := by simp [a_row]
theorem a_row_n (m : Nat → Nat → Int32) {c d : Nat} (f : Nat → Int32) (h : d ≠ c) : a_row m c f d = m d := by simp [a_row, h]
/-- one cell of it changes -/
theorem a_ws_set {ad : Nat → Nat} {cA : Nat → ClassId} {S : List a_C} {m : Nat → Nat → Int32} {c : Nat} {x x' : a_C} {g : Nat → Int32} (e : S[c]? = some x) : (a_ws ad cA (S, m)).set c (ad c, a_e ad cA g x') = a_ws ad cA (S.set c x', a_row m c g) := by
  have hlt : c < S.length := (List.getElem?_eq_some_iff.mp e).1
  apply List.ext_getElem?
  intro j
  rw [List.getElem?_set]
  by_cases h : c = j
  · subst h
    rw [if_pos rfl, if_pos (by simp [a_ws, hlt])]
    simp [a_ws, List.getElem?_mapIdx, List.getElem?_set, hlt, a_row_s]
  · rw [if_neg h]
    simp [a_ws, List.getElem?_mapIdx, List.getElem?_set, h, a_row_n m g (show j ≠ c from fun q => h q.symm)]
theorem a_set_same {α : Type} {S : List α} {c : Nat} {x : α} (e : S[c]? = some x) : S.set c x = S := by
  apply List.ext_getElem?
  intro j
  rw [List.getElem?_set]
  by_cases h : c = j
  · subst h
    have hlt : c < S.length := (List.getElem?_eq_some_iff.mp e).1
    rw [if_pos rfl, if_pos hlt, e]
  · rw [if_neg h]
theorem a_ws_row {ad : Nat → Nat} {cA : Nat → ClassId} {S : List a_C} {m : Nat → Nat → Int32} {c t n : Nat} {g : Nat → Int32} (e : S[c]? = some (.inr (t, n))) : (a_ws ad cA (S, m)).set c (ad c, .inl (cA t, n, .inl g)) = a_ws ad cA (S, a_row m c g) := by
  have h := a_ws_set (ad := ad) (cA := cA) (m := m) (x' := .inr (t, n)) (g := g) e
  rw [a_set_same e] at h
  exact h
theorem a_fvs_set {ad : Nat → Nat} {f : Nat → Int32} {fs : List (Option (Option Nat))} {k : Nat} {v : Int32} (e : fs[k]? = some none) : (fs.mapIdx (a_fv ad f)).set k (.int v) = fs.mapIdx (a_fv ad (upd f k v)) := by
  have hlt : k < fs.length := (List.getElem?_eq_some_iff.mp e).1
  apply List.ext_getElem?
  intro j
  rw [List.getElem?_set]
  by_cases h : k = j
  · subst h
    rw [if_pos rfl, if_pos (by simp [hlt])]
    simp [List.getElem?_mapIdx, e, a_fv, upd]
  · rw [if_neg h]
    rw [List.getElem?_mapIdx, List.getElem?_mapIdx]
    congr 1
    funext o
    cases o with
    | none => simp [a_fv, upd, show ¬ j = k from fun q => h q.symm]
    | some o => cases o <;> rfl
theorem a_ws_int {ad : Nat → Nat} {cA : Nat → ClassId} {S : List a_C} {m : Nat → Nat → Int32} {c ci k : Nat} {fs : List (Option (Option Nat))} {v : Int32} (e : S[c]? = some (.inl (ci, fs))) (e2 : fs[k]? = some none) : (a_ws ad cA (S, m)).set c (ad c, .inr (ci, (fs.mapIdx (a_fv ad (m c))).set k (.int v))) = a_ws ad cA (S, a_up m c k v) := by
  have h := a_ws_set (ad := ad) (cA := cA) (m := m) (x' := .inl (ci, fs)) (g := upd (m c) k v) e
  rw [a_set_same e] at h
  rw [a_fvs_set e2]
  exact h
theorem a_ws_ref {ad : Nat → Nat} {cA : Nat → ClassId} {S : List a_C} {m : Nat → Nat → Int32} {c ci k q : Nat} {fs : List (Option (Option Nat))} (e : S[c]? = some (.inl (ci, fs))) : (a_ws ad cA (S, m)).set c (ad c, .inr (ci, (fs.mapIdx (a_fv ad (m c))).set k (.ref (ad q)))) = a_ws ad cA (S.set c (.inl (ci, fs.set k (some (some q)))), m) := by
  have h := a_ws_set (ad := ad) (cA := cA) (m := m) (x' := .inl (ci, fs.set k (some (some q)))) (g := m c) e
  have h2 : a_row m c (m c) = m := by
    funext d
    by_cases hd : d = c
    · rw [hd, a_row_s]
    · rw [a_row_n m _ hd]
  rw [h2] at h
  rw [← h]
  congr 3
  refine Prod.ext rfl ?_
  show (fs.mapIdx (a_fv ad (m c))).set k (.ref (ad q)) = (fs.set k (some (some q))).mapIdx (a_fv ad (m c))
  apply List.ext_getElem?
  intro j
  rw [List.getElem?_set, List.getElem?_mapIdx, List.getElem?_mapIdx, List.getElem?_set]
  by_cases hj : k = j
  · subst hj
    rw [if_pos rfl, if_pos rfl]
    by_cases hlt : k < fs.length
    · simp [hlt, a_fv]
    · simp [hlt]
  · rw [if_neg hj, if_neg hj]
/-- addresses that agree on what is there give the same world -/
def a_ag (n : Nat) (ad ad' : Nat → Nat) : Prop := ∀ i, (i < n ∨ 1000 ≤ i) → ad' i = ad i
theorem a_ag.rf {n : Nat} {ad : Nat → Nat} : a_ag n ad ad := fun _ _ => rfl
theorem a_okv_cv {n : Nat} {ad ad' : Nat → Nat} (h : a_ag n ad ad') {v : Value} (hv : a_okv n v = true) : a_cv ad' v = a_cv ad v := by
  cases v with
  | ref q =>
    simp only [a_okv, Bool.or_eq_true, Nat.blt_eq, Nat.ble_eq] at hv
    simp only [a_cv]
    rw [h q hv]
  | _ => rfl
theorem a_wf_st {S : List a_C} {lv : a_LV} {st : List Value} {ad ad' : Nat → Nat} (hw : a_wf S lv st = true) (h : a_ag S.length ad ad') : st.map (a_cv ad') = st.map (a_cv ad) := by
  simp only [a_wf, Bool.and_eq_true] at hw
  apply List.map_congr_left
  intro v hv
  exact a_okv_cv h (List.all_eq_true.mp hw.1.1.2 v hv)
theorem a_wf_L {S : List a_C} {lv : a_LV} {st : List Value} {ad ad' : Nat → Nat} {ls : Array Slot} {nL : Nat} (hw : a_wf S lv st = true) (h : a_ag S.length ad ad') (hl : a_L ad ls nL lv) : a_L ad' ls nL lv := by
  simp only [a_wf, Bool.and_eq_true] at hw
  refine ⟨hl.1, hl.2.1, hl.2.2.1, fun i v hv => ?_⟩
  have h1 : a_okv S.length v = true := by
    have hm : some v ∈ lv := by
      unfold a_get at hv
      cases e : lv[i]? with
      | none => rw [e] at hv; cases hv
      | some o =>
        rw [e] at hv
        simp only at hv
        rw [← hv]
        exact List.mem_of_getElem? e
    exact List.all_eq_true.mp hw.1.2 _ hm
  rw [a_okv_cv h h1]
  exact hl.2.2.2 i v hv
theorem a_wf_ws {S : List a_C} {lv : a_LV} {st : List Value} {ad ad' : Nat → Nat} {cA : Nat → ClassId} {m : Nat → Nat → Int32} (hw : a_wf S lv st = true) (h : a_ag S.length ad ad') : a_ws ad' cA (S, m) = a_ws ad cA (S, m) := by
  simp only [a_wf, Bool.and_eq_true] at hw
  apply List.ext_getElem?
  intro j
  simp only [a_ws, List.getElem?_mapIdx]
  cases e : S[j]? with
  | none => rfl
  | some x =>
    have hj : j < S.length := (List.getElem?_eq_some_iff.mp e).1
    simp only [Option.map_some, Option.some.injEq, Prod.mk.injEq]
    refine ⟨h j (Or.inl hj), ?_⟩
    have hx := List.all_eq_true.mp hw.2 x (List.mem_of_getElem? e)
    cases x with
    | inr y => rfl
    | inl y =>
      obtain ⟨ci, fs⟩ := y
      simp only at hx
      simp only [a_e]
      congr 2
      apply List.ext_getElem?
      intro k
      rw [List.getElem?_mapIdx, List.getElem?_mapIdx]
      cases ek : fs[k]? with
      | none => rfl
      | some o =>
        have ho := List.all_eq_true.mp hx o (List.mem_of_getElem? ek)
        cases o with
        | none => rfl
        | some o =>
          cases o with
          | none => rfl
          | some q =>
            simp only [Bool.or_eq_true, Nat.blt_eq, Nat.ble_eq] at ho
            simp only [Option.map_some, a_fv]
            rw [h q ho]
/-- a new cell -/
theorem a_ws_push {ad : Nat → Nat} {cA : Nat → ClassId} {S : List a_C} {m : Nat → Nat → Int32} {x : a_C} : a_ws ad cA (S ++ [x], a_row m S.length (fun _ => 0)) = a_ws ad cA (S, m) ++ [(ad S.length, a_e ad cA (fun _ => 0) x)] := by
  simp only [a_ws, List.mapIdx_append]
  congr 1
  · apply List.ext_getElem?
    intro j
    rw [List.getElem?_mapIdx, List.getElem?_mapIdx]
    cases e : S[j]? with
    | none => rfl
    | some y =>
      have hj : j < S.length := (List.getElem?_eq_some_iff.mp e).1
      simp only [Option.map_some]
      rw [a_row_n m _ (Nat.ne_of_lt hj)]
  · simp [a_row_s]
def a_nad (ad : Nat → Nat) (n q : Nat) : Nat → Nat := fun i => if i = n then q else ad i
theorem a_nad_ag {ad : Nat → Nat} {n q : Nat} (hn : n < 1000) : a_ag n ad (a_nad ad n q) := fun i hi => by
  unfold a_nad
  rw [if_neg (by omega)]
theorem a_nad_s {ad : Nat → Nat} {n q : Nat} : a_nad ad n q n = q := by simp [a_nad]
theorem a_wf_lt {S : List a_C} {lv : a_LV} {st : List Value} (hw : a_wf S lv st = true) : S.length < 900 := by
  simp only [a_wf, Bool.and_eq_true] at hw
  simpa using hw.1.1.1
/-- how many slots -/
def a_sz (c : a_C) : Nat := match c with
  | .inl (ci, _) => (match a_cl[ci]? with
    | some q => q.2.2
    | none => 0)
  | .inr (_, n) => n
def a_szs (S : List a_C) : Nat := (S.map a_sz).sum
theorem a_szs_push (S : List a_C) (x : a_C) : a_szs (S ++ [x]) = a_szs S + a_sz x := by simp [a_szs]
theorem a_szs_set {S : List a_C} {c ci k : Nat} {fs : List (Option (Option Nat))} {o : Option (Option Nat)} (e : S[c]? = some (.inl (ci, fs))) : a_szs (S.set c (.inl (ci, fs.set k o))) = a_szs S := by
  unfold a_szs
  congr 1
  apply List.ext_getElem?
  intro j
  rw [List.getElem?_map, List.getElem?_map, List.getElem?_set]
  by_cases h : c = j
  · subst h
    rw [if_pos rfl, if_pos (List.getElem?_eq_some_iff.mp e).1, e]
    rfl
  · rw [if_neg h]
/-! what holds around the cells -/
def a_A (a0 : Nat) : Nat → Prop := fun q => a0 ≤ q
def a_tys (cA : Nat → ClassId) : List (ClassId × FieldType) := [(cA 0, .int), (cA 1, .boolean), (cA 2, .char)]
def a_isN (w : Cond) : Bool := match w with
  | .fieldLinkNest .. => true
  | .methodLinkNest .. => true
  | _ => false
def a_StrE (ad : Nat → Nat) (a0 : Nat) (s : State) : Prop := (∃ adV : Nat → Nat, vk_S 7 a_sl a_sc (fun k => ad (1000 + k)) adV (a_A a0) s s.heap) ∧ (∀ (idx k : Nat) (tx : String) (p : Nat × Nat), a_look (a_ldcT 6) idx = some (.inr (k, tx), p) → vk_R (a_Cn 6) idx tx (ad (1000 + k)) s) ∧ va_Z "java/lang/String" "COMPACT_STRINGS" "Z" (.int 1) (a_A a0) s s.heap ∧ va_Zq "jdk/internal/util/Preconditions" "SIOOBE_FORMATTER" "Ljava/util/function/BiFunction;" (a_A a0) s s.heap
def a_Env (X : a_X) (ad : Nat → Nat) (D : va_G) (cA : Nat → ClassId) (a0 : Nat) (s : State) : Prop := va_K D a_cl (a_tys cA) s ∧ a0 ≤ s.heap.size ∧ (∀ w ∈ lw_tbl, a_isN w = true → va_Nw w s) ∧ (∀ (L : Nat) (xs : Nat → Int32), X = some (L, xs) → va_X (ad 2000) L xs s s.heap ∧ ad 2000 < s.heap.size ∧ ad 2000 < a0) ∧ a_StrE ad a0 s
theorem a_Env.ad {X : a_X} {ad ad' : Nat → Nat} {D : va_G} {cA : Nat → ClassId} {a0 : Nat} {s : State} (h : a_Env X ad D cA a0 s) (e : ∀ i, 1000 ≤ i → ad' i = ad i) : a_Env X ad' D cA a0 s := by
  obtain ⟨h1, h2, h3, h4, h5, h6, h7, h8⟩ := h
  have e2 : ad' 2000 = ad 2000 := e _ (by omega)
  have e3 : (fun k => ad' (1000 + k)) = (fun k => ad (1000 + k)) := by
    funext k
    exact e _ (by omega)
  refine ⟨h1, h2, h3, fun L xs q => ?_, ?_, fun idx k tx p q => ?_, h7, h8⟩
  · rw [e2]; exact h4 L xs q
  · rw [e3]; exact h5
  · rw [e _ (by omega)]; exact h6 idx k tx p q
theorem a_Env.same {X : a_X} {ad : Nat → Nat} {D : va_G} {cA : Nat → ClassId} {a0 : Nat} {s U : State} (h : a_Env X ad D cA a0 s) (hv : U.vm = s.vm) (hh : U.heap = s.heap) : a_Env X ad D cA a0 U := by
  have ha : s.vm.Alike U.vm := by rw [hv]; exact Vm.Alike.refl _
  obtain ⟨h1, h2, h3, h4, ⟨adV, h5⟩, h6, h7, h8⟩ := h
  refine ⟨va_K.moved ha h1, by rw [hh]; exact h2, fun w hw hn => ?_, fun L xs q => ?_, ⟨adV, ?_⟩, fun idx k tx p q => ?_, ?_, ?_⟩
  · have h := h3 w hw hn
    cases w <;> first | (cases hn; done) | exact va_Nw.same rfl hv.symm h
  · obtain ⟨g1, g2, g3⟩ := h4 L xs q
    rw [hh]
    exact ⟨va_X.moved ha g1, g2, g3⟩
  · rw [hh]; exact vk_S.moved ha h5
  · exact vk_R.same hv (h6 idx k tx p q)
  · rw [hh]; exact va_Z.moved ha h7
  · rw [hh]; exact va_Zq.moved ha h8
theorem a_Env.to {X : a_X} {ad : Nat → Nat} {D : va_G} {cA : Nat → ClassId} {a0 : Nat} {s U : State} {locs : List Loc} (h : a_Env X ad D cA a0 s) (hW : s.WarmedH U.vm) (hS : va_S (a_A a0) s.heap U.heap locs) : a_Env X ad D cA a0 U := by
  have ha : s.vm.Alike U.vm := hW.alike
  obtain ⟨h1, h2, h3, h4, ⟨adV, h5⟩, h6, h7, h8⟩ := h
  refine ⟨va_K.moved ha h1, Nat.le_trans h2 hS.1, fun w hw hn => ?_, fun L xs q => ?_, ⟨adV, ?_⟩, fun idx k tx p q => ?_, ?_, ?_⟩
  · have h := h3 w hw hn
    cases w <;> first | (cases hn; done) | exact va_Nw.warmF hW h | exact va_Nw.warmM hW h
  · obtain ⟨g1, g2, g3⟩ := h4 L xs q
    exact ⟨va_X.moved ha (g1.kept (hS.2.1 _ g2 (Nat.not_le.mpr g3))), Nat.lt_of_lt_of_le g2 hS.1, g3⟩
  · exact vk_S.moved ha (h5.kept hS.2.1)
  · exact vk_R.warm hW (h6 idx k tx p q)
  · exact va_Z.moved ha (h7.kept hS.2.1)
  · exact va_Zq.moved ha (h8.kept hS.2.1)
/-! what the classes' tables say -/
theorem a_clW0 : ∀ ci, ci < 10 → ∀ q, a_cl[ci]? = some q → ∀ w ∈ u_ws q.1 q.2.1 q.2.2, w ∈ lw_tbl := by
  intro ci hci q hq
  match ci, hq with
  | 0, hq => cases hq; decide +kernel
  | 1, hq => cases hq; decide +kernel
  | 2, hq => cases hq; decide +kernel
  | 3, hq => cases hq; decide +kernel
  | 4, hq => cases hq; decide +kernel
  | 5, hq => cases hq; decide +kernel
  | 6, hq => cases hq; decide +kernel
  | 7, hq => cases hq; decide +kernel
  | 8, hq => cases hq; decide +kernel
  | 9, hq => cases hq; decide +kernel
  | n + 10, hq => exact absurd hci (by omega)
theorem a_cl_lt {ci : Nat} {q : vw_C} (h : a_cl[ci]? = some q) : ci < 10 := (List.getElem?_eq_some_iff.mp h).1
theorem a_clW {ci : Nat} {q : vw_C} (h : a_cl[ci]? = some q) : ∀ w ∈ u_ws q.1 q.2.1 q.2.2, w ∈ a_LT := by
  intro w hw
  refine List.mem_filter.mpr ⟨a_clW0 ci (a_cl_lt h) q h w hw, ?_⟩
  obtain ⟨k, -, rfl⟩ := List.mem_map.mp hw
  unfold u_lay
  split <;> rfl
theorem a_clT {ci : Nat} {q : vw_C} (h : a_cl[ci]? = some q) : ∀ k, k < q.2.2 → parseFieldDescriptor (q.2.1 k).2.2.1 = some (a_ty ci k) := by
  match ci, h with
  | 0, h => cases h; exact tyX0_ok
  | 1, h => cases h; exact tyX1_ok
  | 2, h => cases h; exact tyX2_ok
  | 3, h => cases h; exact tyX3_ok
  | 4, h => cases h; exact tyX4_ok
  | 5, h => cases h; exact tyX5_ok
  | 6, h => cases h; exact tyX6_ok
  | 7, h => cases h; exact tyX7_ok
  | 8, h => cases h; exact tyX8_ok
  | 9, h => cases h; exact tyX9_ok
  | n + 10, h => exact absurd (a_cl_lt h) (by omega)
theorem a_clN {ci : Nat} {q : vw_C} (h : a_cl[ci]? = some q) : ∀ a, a < q.2.2 → ∀ b, b < q.2.2 → a ≠ b → (q.2.1 a).2.1 ≠ (q.2.1 b).2.1 := by
  match ci, h with
  | 0, h => cases h; exact nmX0
  | 1, h => cases h; exact nmX1
  | 2, h => cases h; exact nmX2
  | 3, h => cases h; exact nmX3
  | 4, h => cases h; exact nmX4
  | 5, h => cases h; exact nmX5
  | 6, h => cases h; exact nmX6
  | 7, h => cases h; exact nmX7
  | 8, h => cases h; exact nmX8
  | 9, h => cases h; exact nmX9
  | n + 10, h => exact absurd (a_cl_lt h) (by omega)
/-- the references are final and the class's own, the others aren't final -/
theorem a_clD {ci : Nat} {q : vw_C} (h : a_cl[ci]? = some q) : ∀ k, k < q.2.2 → (a_isR (a_ty ci k) = (q.2.1 k).2.2.2 ∧ (q.2.1 k).1 = q.1 ∧ a_Cn ci = q.1) := by
  match ci, h with
  | 0, h => cases h; decide +kernel
  | 1, h => cases h; decide +kernel
  | 2, h => cases h; decide +kernel
  | 3, h => cases h; decide +kernel
  | 4, h => cases h; decide +kernel
  | 5, h => cases h; decide +kernel
  | 6, h => cases h; decide +kernel
  | 7, h => cases h; decide +kernel
  | 8, h => cases h; decide +kernel
  | 9, h => cases h; decide +kernel
  | n + 10, h => exact absurd (a_cl_lt h) (by omega)
