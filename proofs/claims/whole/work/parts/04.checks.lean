/-! the tables of part 02 hold against the Statement's own words and code -/
def a_LT : List Cond := lw_tbl.filter goodWord
def a_tb (p : Nat × Nat) : Option Cond := match p.1 with
  | 1 => tables_1_1[p.2]?
  | 2 => tables_1_2[p.2]?
  | 3 => tables_1_3[p.2]?
  | 4 => tables_1_4[p.2]?
  | 5 => tables_1_5[p.2]?
  | 6 => tables_1_6[p.2]?
  | 7 => (k2_sels lw_privs_1)[p.2]?
  | 8 => (k2_sels lw_privs_2)[p.2]?
  | 9 => (k2_sels lw_privs_3)[p.2]?
  | 10 => (k2_sels lw_privs_4)[p.2]?
  | 11 => (k2_sels lw_privs_5)[p.2]?
  | _ => none
theorem a_sels_app (a b : List (MethodName × Nat)) : k2_sels (a ++ b) = k2_sels a ++ k2_sels b := by simp [k2_sels]
theorem a_tb_in {p : Nat × Nat} {w : Cond} (h : a_tb p = some w) : w ∈ lw_tbl := by
  have hT : ∀ l : List Cond, l[p.2]? = some w → w ∈ l := fun l q => List.mem_of_getElem? q
  unfold lw_tbl
  rw [lw_privs, tables_1, a_sels_app, a_sels_app, a_sels_app, a_sels_app]
  simp only [List.mem_append]
  unfold a_tb at h
  split at h
  · exact Or.inr (Or.inl (hT _ h))
  · exact Or.inr (Or.inr (Or.inl (hT _ h)))
  · exact Or.inr (Or.inr (Or.inr (Or.inl (hT _ h))))
  · exact Or.inr (Or.inr (Or.inr (Or.inr (Or.inl (hT _ h)))))
  · exact Or.inr (Or.inr (Or.inr (Or.inr (Or.inr (Or.inl (hT _ h))))))
  · exact Or.inr (Or.inr (Or.inr (Or.inr (Or.inr (Or.inr (hT _ h))))))
  · exact Or.inl (Or.inl (hT _ h))
  · exact Or.inl (Or.inr (Or.inl (hT _ h)))
  · exact Or.inl (Or.inr (Or.inr (Or.inl (hT _ h))))
  · exact Or.inl (Or.inr (Or.inr (Or.inr (Or.inl (hT _ h)))))
  · exact Or.inl (Or.inr (Or.inr (Or.inr (Or.inr (hT _ h)))))
  · cases h
def a_has (p : Nat × Nat) (w : Cond) : Bool := decide (a_tb p = some w) && goodWord w
def a_hasN (p : Nat × Nat) (w : Cond) : Bool := decide (a_tb p = some w)
theorem a_has_in {p : Nat × Nat} {w : Cond} (h : a_has p w = true) : w ∈ a_LT := by
  simp only [a_has, Bool.and_eq_true, decide_eq_true_eq] at h
  exact List.mem_filter.mpr ⟨a_tb_in h.1, h.2⟩
theorem a_hasN_in {p : Nat × Nat} {w : Cond} (h : a_hasN p w = true) : w ∈ lw_tbl := by
  simp only [a_hasN, decide_eq_true_eq] at h
  exact a_tb_in h
theorem a_LT_good {w : Cond} (h : w ∈ a_LT) : goodWord w = true := (List.mem_filter.mp h).2
theorem a_LT_tbl {w : Cond} (h : w ∈ a_LT) : w ∈ lw_tbl := (List.mem_filter.mp h).1
theorem a_good {ws : List Cond} (h : ∀ w ∈ ws, w ∈ a_LT) : GoodIn a_LT ws := fun w hw => ⟨h w hw, good_of_word (a_LT_good (h w hw))⟩
/-- what a lookup finds stands in the list -/
theorem a_look_mem {α : Type} {l : List (Nat × α)} {i : Nat} {x : α} (h : a_look l i = some x) : (i, x) ∈ l := by
  induction l with
  | nil => cases h
  | cons q r ih =>
    obtain ⟨j, y⟩ := q
    simp only [a_look] at h
    split at h
    · next e =>
      have e2 := Nat.eq_of_beq_eq_true e
      cases h
      rw [e2]
      exact List.mem_cons_self
    · exact List.mem_cons_of_mem _ (ih h)
def a_par (y : MethodName) (na : Nat) : Bool := decide (y.cls ≠ "java/lang/invoke/MethodHandle") && decide (y.cls ≠ "java/lang/invoke/VarHandle") && decide ((parseMethodDescriptor y.desc).map (fun d => d.parameters.length) = some na)
def a_ckF (cn : Nat) (e : Nat × Nat × Nat × Nat × (Nat × Nat) × String) : Bool := match a_cl[e.2.1]? with
  | some q => Nat.blt e.2.2.1 q.2.2 && (match e.2.2.2.1 with
    | 0 => a_has e.2.2.2.2.1 (.fieldLink (a_Cn cn) e.1 (q.2.1 e.2.2.1).1 (q.2.1 e.2.2.1).2.1 (q.2.1 e.2.2.1).2.2.1)
    | _ => a_hasN e.2.2.2.2.1 (.fieldLinkNest (a_Cn cn) e.1 (q.2.1 e.2.2.1).1 (q.2.1 e.2.2.1).2.1 (q.2.1 e.2.2.1).2.2.1 e.2.2.2.2.2))
  | none => false
def a_ckC1 (cn idx kind : Nat) (M : a_Mth) (na : Nat) (ps : List (Nat × Nat)) (host : String) : Bool := match kind, ps with
  | 0, [p0, p1, p2, p3] => a_has p0 (.methodLink (a_Cn cn) idx (a_y M)) && a_has p1 (.instanceMethod (a_y M)) && a_has p2 (.selects (a_y M).cls (a_y M) (a_y M)) && a_has p3 (.initialized (a_y M).cls) && a_par (a_y M) na && (match a_cl[a_cn M]? with
    | some q => decide (q.1 = (a_y M).cls)
    | none => false)
  | 1, [p0, p1, p2] => a_has p0 (.methodLink (a_Cn cn) idx (a_y M)) && a_has p1 (.static (a_y M)) && a_has p2 (.initialized (a_y M).cls) && a_par (a_y M) na
  | 2, [p0, p1, p2] => a_hasN p0 (.methodLinkNest (a_Cn cn) idx (a_y M) host) && a_has p1 (.static (a_y M)) && a_has p2 (.initialized (a_y M).cls) && a_par (a_y M) na
  | 3, [p0, p1, p2] => a_has p0 (.methodLink (a_Cn cn) idx (a_y M)) && a_has p1 (.instanceMethod (a_y M)) && a_has p2 (.initialized (a_y M).cls) && a_par (a_y M) na && decide ((a_y M).name = "<init>") && decide (a_rt M = none)
  | 4, [p0, p1, p2] => a_hasN p0 (.methodLinkNest (a_Cn cn) idx (a_y M) host) && a_has p1 (.instanceMethod (a_y M)) && a_has p2 (.initialized (a_y M).cls) && a_par (a_y M) na && decide ((a_y M).name = "<init>") && decide (a_rt M = none)
  | _, _ => false
def a_ckC (cn : Nat) (e : Nat × Nat × Nat × Nat × List (Nat × Nat) × String) : Bool := match e.2.1, e.2.2.2.2.1 with
  | 6, [p0, p1, p2] => a_has p0 (.methodLink (a_Cn cn) e.1 objectInit) && a_has p1 (.instanceMethod objectInit) && a_has p2 (.code objectInit ⟨#[0xb1]⟩ 1 none)
  | 7, [p0, p1, p2, p3] => a_has p0 (.methodLink (a_Cn cn) e.1 arraycopyName) && a_has p1 (.native arraycopyName) && a_has p2 (.static arraycopyName) && a_has p3 (.initialized "java/lang/System")
  | 8, _ => decide (cn = 6) && decide (e.1 = 142)
  | 9, _ => decide (cn = 6) && decide (e.1 = 146)
  | _, _ => match a_M e.2.2.1 with
    | some M => a_ckC1 cn e.1 e.2.1 M e.2.2.2.1 e.2.2.2.2.1 e.2.2.2.2.2
    | none => false
def a_ckL (cn : Nat) (e : Nat × (Int32 ⊕ (Nat × String)) × (Nat × Nat)) : Bool := match e.2.1 with
  | .inl v => a_has e.2.2 (.constant (a_Cn cn) e.1 v)
  | .inr q => Nat.blt q.1 7 && decide (a_strs[q.1]? = some q.2) && decide (cn = 6)
def a_ckN (cn : Nat) (e : Nat × Nat × (Nat × Nat) × (Nat × Nat) × (Nat × Nat)) : Bool := match a_cl[e.2.1]? with
  | some q => a_has e.2.2.1 (.classLink (a_Cn cn) e.1 q.1) && a_has e.2.2.2.1 (.instantiable q.1 q.2.2) && a_has e.2.2.2.2 (.initialized q.1)
  | none => false
def a_ckM (M : a_Mth) : Bool := (a_il M).all (fun e => decide (decode (a_b M) e.1 = .ok e.2)) && a_has (a_pl M) (.code (a_y M) (a_b M) (a_mL M) (a_rt M)) && plainName (a_y M).cls && decide ((a_y M).cls = a_Cn (a_cn M))
theorem a_fld_all : ∀ cn, cn < 13 → (a_fldT cn).all (a_ckF cn) = true := by decide +kernel
theorem a_cal_all : ∀ cn, cn < 13 → (a_calT cn).all (a_ckC cn) = true := by decide +kernel
theorem a_ldc_all : ∀ cn, cn < 13 → (a_ldcT cn).all (a_ckL cn) = true := by decide +kernel
theorem a_ldc2_all : ∀ cn, cn < 13 → (a_ldc2T cn).all (fun e => a_has e.2.2 (.constantLong (a_Cn cn) e.1 e.2.1)) = true := by decide +kernel
theorem a_new_all : ∀ cn, cn < 13 → (a_newT cn).all (a_ckN cn) = true := by decide +kernel
theorem a_arr_all : a_has (a_arrP 0) (.arrayClass .int) = true ∧ a_has (a_arrP 1) (.arrayClass .boolean) = true ∧ a_has (a_arrP 2) (.arrayClass .char) = true := by decide +kernel
