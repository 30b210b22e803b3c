/-! the tables of part 02 hold against the Statement's own words and code -/
def a_LT : List Cond := lw_tbl.filter goodWord
def a_tb (p : Nat × Nat) : Option Cond := match p.1 with
  | 1 => tables_1_1[p.2]?
  | 2 => tables_1_2[p.2]?
  | 3 => tables_1_3[p.2]?
  | 4 => tables_1_4[p.2]?
  | 5 => tables_1_5[p.2]?
  | 6 => tables_1_6[p.2]?
  | 7 => (k2_sels lw_privs_1)[p.2]?
  | 8 => (k2_sels lw_privs_2)[p.2]?
  | 9 => (k2_sels lw_privs_3)[p.2]?
  | 10 => (k2_sels lw_privs_4)[p.2]?
  | 11 => (k2_sels lw_privs_5)[p.2]?
  | _ => none
theorem a_sels_app (a b : List (MethodName × Nat)) : k2_sels (a ++ b) = k2_sels a ++ k2_sels b := by simp [k2_sels]
theorem a_tb_in {p : Nat × Nat} {w : Cond} (h : a_tb p = some w) : w ∈ lw_tbl := by
  have hT : ∀ l : List Cond, l[p.2]? = some w → w ∈ l := fun l q => List.mem_of_getElem? q
  unfold lw_tbl
  rw [lw_privs, tables_1, a_sels_app, a_sels_app, a_sels_app, a_sels_app]
  simp only [List.mem_append]
  unfold a_tb at h
  split at h
  · exact Or.inr (Or.inl (hT _ h))
  · exact Or.inr (Or.inr (Or.inl (hT _ h)))
  · exact Or.inr (Or.inr (Or.inr (Or.inl (hT _ h))))
  · exact Or.inr (Or.inr (Or.inr (Or.inr (Or.inl (hT _ h)))))
  · exact Or.inr (Or.inr (Or.inr (Or.inr (Or.inr (Or.inl (hT _ h))))))
  · exact Or.inr (Or.inr (Or.inr (Or.inr (Or.inr (Or.inr (hT _ h))))))
  · exact Or.inl (Or.inl (hT _ h))
  · exact Or.inl (Or.inr (Or.inl (hT _ h)))
  · exact Or.inl (Or.inr (Or.inr (Or.inl (hT _ h))))
  · exact Or.inl (Or.inr (Or.inr (Or.inr (Or.inl (hT _ h)))))
  · exact Or.inl (Or.inr (Or.inr (Or.inr (Or.inr (hT _ h)))))
  · cases h
def a_has (p : Nat × Nat) (w : Cond) : Bool := decide (a_tb p = some w) && goodWord w
def a_hasN (p : Nat × Nat) (w : Cond) : Bool := decide (a_tb p = some w)
theorem a_has_in {p : Nat × Nat} {w : Cond} (h : a_has p w = true) : w ∈ a_LT := by
  simp only [a_has, Bool.and_eq_true, decide_eq_true_eq] at h
  exact List.mem_filter.mpr ⟨a_tb_in h.1, h.2⟩
theorem a_hasN_in {p : Nat × Nat} {w : Cond} (h : a_hasN p w = true) : w ∈ lw_tbl := by
  simp only [a_hasN, decide_eq_true_eq] at h
  exact a_tb_in h
theorem a_LT_good {w : Cond} (h : w ∈ a_LT) : goodWord w = true := (List.mem_filter.mp h).2
theorem a_LT_tbl {w : Cond} (h : w ∈ a_LT) : w ∈ lw_tbl := (List.mem_filter.mp h).1
theorem a_good {ws : List Cond} (h : ∀ w ∈ ws, w ∈ a_LT) : GoodIn a_LT ws := fun w hw => ⟨h w hw, good_of_word (a_LT_good (h w hw))⟩
/-- what a lookup finds stands in the list -/
theorem a_look_mem {α : Type} {l : List (Nat × α)} {i : Nat} {x : α} (h : a_look l i = some x) : (i, x) ∈ l := by
  induction l with
  | nil => cases h
  | cons q r ih =>
    obtain ⟨j, y⟩ := q
    simp only [a_look] at h
    split at h
    · next e =>
      have e2 := Nat.eq_of_beq_eq_true e
      cases h
      rw [e2]
      exact List.mem_cons_self
    · exact List.mem_cons_of_mem _ (ih h)
def a_par (y : MethodName) (na : Nat) : Bool := decide (y.cls ≠ "java/lang/invoke/MethodHandle") && decide (y.cls ≠ "java/lang/invoke/VarHandle") && decide ((parseMethodDescriptor y.desc).map (fun d => d.parameters.length) = some na)
def a_ckF (cn : Nat) (e : Nat × Nat × Nat × Nat × (Nat × Nat) × String) : Bool := match a_cl[e.2.1]? with
  | some q => Nat.blt e.2.2.1 q.2.2 && (match e.2.2.2.1 with
    | 0 => a_has e.2.2.2.2.1 (.fieldLink (a_Cn cn) e.1 (q.2.1 e.2.2.1).1 (q.2.1 e.2.2.1).2.1 (q.2.1 e.2.2.1).2.2.1)
    | _ => a_hasN e.2.2.2.2.1 (.fieldLinkNest (a_Cn cn) e.1 (q.2.1 e.2.2.1).1 (q.2.1 e.2.2.1).2.1 (q.2.1 e.2.2.1).2.2.1 e.2.2.2.2.2))
  | none => false
def a_ckC1 (cn idx kind : Nat) (M : a_Mth) (na : Nat) (ps : List (Nat × Nat)) (host : String) : Bool := match kind, ps with
  | 0, [p0, p1, p2, p3] => a_has p0 (.methodLink (a_Cn cn) idx (a_y M)) && a_has p1 (.instanceMethod (a_y M)) && a_has p2 (.selects (a_y M).cls (a_y M) (a_y M)) && a_has p3 (.initialized (a_y M).cls) && a_par (a_y M) na && (match a_cl[a_cn M]? with
    | some q => decide (q.1 = (a_y M).cls)
    | none => false)
  | 1, [p0, p1, p2] => a_has p0 (.methodLink (a_Cn cn) idx (a_y M)) && a_has p1 (.static (a_y M)) && a_has p2 (.initialized (a_y M).cls) && a_par (a_y M) na
  | 2, [p0, p1, p2] => a_hasN p0 (.methodLinkNest (a_Cn cn) idx (a_y M) host) && a_has p1 (.static (a_y M)) && a_has p2 (.initialized (a_y M).cls) && a_par (a_y M) na
  | 3, [p0, p1, p2] => a_has p0 (.methodLink (a_Cn cn) idx (a_y M)) && a_has p1 (.instanceMethod (a_y M)) && a_has p2 (.initialized (a_y M).cls) && a_par (a_y M) na && decide ((a_y M).name = "<init>") && decide (a_rt M = none)
  | 4, [p0, p1, p2] => a_hasN p0 (.methodLinkNest (a_Cn cn) idx (a_y M) host) && a_has p1 (.instanceMethod (a_y M)) && a_has p2 (.initialized (a_y M).cls) && a_par (a_y M) na && decide ((a_y M).name = "<init>") && decide (a_rt M = none)
  | _, _ => false
def a_ckC (cn : Nat) (e : Nat × Nat × Nat × Nat × List (Nat × Nat) × String) : Bool := match e.2.1, e.2.2.2.2.1 with
  | 6, [p0, p1, p2] => a_has p0 (.methodLink (a_Cn cn) e.1 objectInit) && a_has p1 (.instanceMethod objectInit) && a_has p2 (.code objectInit ⟨#[0xb1]⟩ 1 none)
  | 7, [p0, p1, p2, p3] => a_has p0 (.methodLink (a_Cn cn) e.1 arraycopyName) && a_has p1 (.native arraycopyName) && a_has p2 (.static arraycopyName) && a_has p3 (.initialized "java/lang/System")
  | 8, _ => decide (cn = 6) && decide (e.1 = 142)
  | 9, _ => decide (cn = 6) && decide (e.1 = 146)
  | _, _ => match a_M e.2.2.1 with
    | some M => a_ckC1 cn e.1 e.2.1 M e.2.2.2.1 e.2.2.2.2.1 e.2.2.2.2.2
    | none => false
def a_ckL (cn : Nat) (e : Nat × (Int32 ⊕ (Nat × String)) × (Nat × Nat)) : Bool := match e.2.1 with
  | .inl v => a_has e.2.2 (.constant (a_Cn cn) e.1 v)
  | .inr q => Nat.blt q.1 7 && decide (a_strs[q.1]? = some q.2) && decide (cn = 6)
def a_ckN (cn : Nat) (e : Nat × Nat × (Nat × Nat) × (Nat × Nat) × (Nat × Nat)) : Bool := match a_cl[e.2.1]? with
  | some q => a_has e.2.2.1 (.classLink (a_Cn cn) e.1 q.1) && a_has e.2.2.2.1 (.instantiable q.1 q.2.2) && a_has e.2.2.2.2 (.initialized q.1)
  | none => false
theorem a_fld_all : ∀ cn, cn < 13 → (a_fldT cn).all (a_ckF cn) = true := by decide +kernel
theorem a_cal_all : ∀ cn, cn < 13 → (a_calT cn).all (a_ckC cn) = true := by decide +kernel
theorem a_ldc_all : ∀ cn, cn < 13 → (a_ldcT cn).all (a_ckL cn) = true := by decide +kernel
theorem a_ldc2_all : ∀ cn, cn < 13 → (a_ldc2T cn).all (fun e => a_has e.2.2 (.constantLong (a_Cn cn) e.1 e.2.1)) = true := by decide +kernel
theorem a_new_all : ∀ cn, cn < 13 → (a_newT cn).all (a_ckN cn) = true := by decide +kernel
theorem a_arr_all : a_has (a_arrP 0) (.arrayClass .int) = true ∧ a_has (a_arrP 1) (.arrayClass .boolean) = true ∧ a_has (a_arrP 2) (.arrayClass .char) = true := by decide +kernel
def a_ckW (M : a_Mth) : Bool := a_has (a_pl M) (.code (a_y M) (a_b M) (a_mL M) (a_rt M)) && plainName (a_y M).cls && decide ((a_y M).cls = a_Cn (a_cn M)) && Nat.blt (a_cn M) 13
def a_okM (M : a_Mth) : Prop := a_ckI (a_b M) (a_il M) = true ∧ a_ckW M = true
theorem a_ok_0 : ∀ M ∈ ([] : List a_Mth), a_okM M := fun _ h => absurd h List.not_mem_nil
theorem a_ok_c {M : a_Mth} {l : List a_Mth} (h : a_okM M) (hl : ∀ M ∈ l, a_okM M) : ∀ N ∈ M :: l, a_okM N := fun _ h2 => (List.mem_cons.mp h2).elim (fun e => e ▸ h) (hl _)
theorem a_okl0 : ∀ M ∈ a_Ml0, a_okM M := (a_ok_c ⟨cIX0_init, by decide +kernel⟩ (a_ok_c ⟨cIX0_takeAllAway, by decide +kernel⟩ (a_ok_c ⟨cIX0_copyFrom, by decide +kernel⟩ (a_ok_c ⟨cIX0_has, by decide +kernel⟩ (a_ok_c ⟨cIX0_isFull, by decide +kernel⟩ (a_ok_c ⟨cIX0_isOn, by decide +kernel⟩ (a_ok_c ⟨cIX0_ownerOf, by decide +kernel⟩ (a_ok_c ⟨cIX0_allCells, by decide +kernel⟩ (a_ok_c ⟨cIX0_right, by decide +kernel⟩ (a_ok_c ⟨cIX0_bottom, by decide +kernel⟩ (a_ok_c ⟨cIX0_topAt, by decide +kernel⟩ (a_ok_c ⟨cIX0_hang, by decide +kernel⟩ (a_ok_c ⟨cIX0_takeOff, by decide +kernel⟩ (a_ok_c ⟨cIX0_undoHang, by decide +kernel⟩ (a_ok_c ⟨cIX0_tearTop, by decide +kernel⟩ (a_ok_c ⟨cIX0_loosen, by decide +kernel⟩ (a_ok_c ⟨cIX0_drawOfHundred, by decide +kernel⟩ (a_ok_c ⟨cIX0_tornCells, by decide +kernel⟩ (a_ok_c ⟨cIX0_hangingOf, by decide +kernel⟩ (a_ok_c ⟨cIX0_coversOf, by decide +kernel⟩ a_ok_0))))))))))))))))))))
theorem a_okl1 : ∀ M ∈ a_Ml1, a_okM M := (a_ok_c ⟨cIX0_toFree, by decide +kernel⟩ (a_ok_c ⟨cIX0_laterThan, by decide +kernel⟩ (a_ok_c ⟨cIX1_init, by decide +kernel⟩ (a_ok_c ⟨cIX2_init, by decide +kernel⟩ (a_ok_c ⟨cIX2_toRead, by decide +kernel⟩ (a_ok_c ⟨cIX2_lookUnder, by decide +kernel⟩ (a_ok_c ⟨cIX2_isLiftable, by decide +kernel⟩ (a_ok_c ⟨cIX2_seenWithout, by decide +kernel⟩ (a_ok_c ⟨cIX3_init, by decide +kernel⟩ (a_ok_c ⟨cIX3_forget, by decide +kernel⟩ (a_ok_c ⟨cIX3_has, by decide +kernel⟩ (a_ok_c ⟨cIX3_add, by decide +kernel⟩ (a_ok_c ⟨cIX3_countOrders, by decide +kernel⟩ (a_ok_c ⟨cIX3_firstOrderAt, by decide +kernel⟩ (a_ok_c ⟨cIX3_liesOver, by decide +kernel⟩ (a_ok_c ⟨cIX3_hasOrder, by decide +kernel⟩ (a_ok_c ⟨cIX3_leastThatCanStand, by decide +kernel⟩ (a_ok_c ⟨cIX3_relate, by decide +kernel⟩ (a_ok_c ⟨cIX4_init, by decide +kernel⟩ (a_ok_c ⟨cIX4_findOne, by decide +kernel⟩ a_ok_0))))))))))))))))))))
theorem a_okl2 : ∀ M ∈ a_Ml2, a_okM M := (a_ok_c ⟨cIX4_findTwo, by decide +kernel⟩ (a_ok_c ⟨cIX4_findSecond, by decide +kernel⟩ (a_ok_c ⟨cIX4_isBetter, by decide +kernel⟩ (a_ok_c ⟨cIX4_compete, by decide +kernel⟩ (a_ok_c ⟨cIX4_takeTurn, by decide +kernel⟩ (a_ok_c ⟨cIX4_worthAtLast, by decide +kernel⟩ (a_ok_c ⟨cIX5_init, by decide +kernel⟩ (a_ok_c ⟨cIX5_untell, by decide +kernel⟩ (a_ok_c ⟨cIX5_copyFrom, by decide +kernel⟩ (a_ok_c ⟨cIX5_addStrip, by decide +kernel⟩ (a_ok_c ⟨cIX5_addKind, by decide +kernel⟩ (a_ok_c ⟨cIX5_hasKind, by decide +kernel⟩ (a_ok_c ⟨cIX5_hasCell, by decide +kernel⟩ (a_ok_c ⟨cIX5_holds, by decide +kernel⟩ (a_ok_c ⟨cIX5_isBarred, by decide +kernel⟩ (a_ok_c ⟨cIX5_canRead, by decide +kernel⟩ (a_ok_c ⟨cIX5_passersOf, by decide +kernel⟩ (a_ok_c ⟨cIX6_init, by decide +kernel⟩ (a_ok_c ⟨cIX6_append, by decide +kernel⟩ (a_ok_c ⟨cIX6_readInto, by decide +kernel⟩ a_ok_0))))))))))))))))))))
theorem a_okl3 : ∀ M ∈ a_Ml3, a_okM M := (a_ok_c ⟨cIX6_isFaultless, by decide +kernel⟩ (a_ok_c ⟨cIX6_fail, by decide +kernel⟩ (a_ok_c ⟨cIX6_readClause, by decide +kernel⟩ (a_ok_c ⟨cIX6_isSizeTooLate, by decide +kernel⟩ (a_ok_c ⟨cIX6_isTold, by decide +kernel⟩ (a_ok_c ⟨cIX6_readNumbers, by decide +kernel⟩ (a_ok_c ⟨cIX6_readStrip, by decide +kernel⟩ (a_ok_c ⟨cIX6_readPassers, by decide +kernel⟩ (a_ok_c ⟨cIX6_readKind, by decide +kernel⟩ (a_ok_c ⟨cIX6_readNumber, by decide +kernel⟩ (a_ok_c ⟨cIX6_readEnd, by decide +kernel⟩ (a_ok_c ⟨cIX6_skipBlanks, by decide +kernel⟩ (a_ok_c ⟨cIX6_readWord, by decide +kernel⟩ (a_ok_c ⟨cIX6_spells, by decide +kernel⟩ (a_ok_c ⟨cIX6_nameOf, by decide +kernel⟩ (a_ok_c ⟨cIX6_isLetter, by decide +kernel⟩ (a_ok_c ⟨cIX6_isFigure, by decide +kernel⟩ (a_ok_c ⟨cIX7_init, by decide +kernel⟩ (a_ok_c ⟨cIX7_lookAt, by decide +kernel⟩ (a_ok_c ⟨cIX7_worthOf, by decide +kernel⟩ a_ok_0))))))))))))))))))))
theorem a_okl4 : ∀ M ∈ a_Ml4, a_okM M := (a_ok_c ⟨cIX7_worthOfOwner, by decide +kernel⟩ (a_ok_c ⟨cIX7_weigh, by decide +kernel⟩ (a_ok_c ⟨cIX7_hide, by decide +kernel⟩ (a_ok_c ⟨cIX7_weighLoss, by decide +kernel⟩ (a_ok_c ⟨cIX8_init, by decide +kernel⟩ (a_ok_c ⟨cIX8_feed, by decide +kernel⟩ (a_ok_c ⟨cIX8_wall, by decide +kernel⟩ (a_ok_c ⟨cIX8_fault, by decide +kernel⟩ (a_ok_c ⟨cIX8_told, by decide +kernel⟩ (a_ok_c ⟨cIX8_kind, by decide +kernel⟩ (a_ok_c ⟨cIX8_passes, by decide +kernel⟩ (a_ok_c ⟨cIX8_bare, by decide +kernel⟩ (a_ok_c ⟨cIX8_paste, by decide +kernel⟩ (a_ok_c ⟨cIX8_days, by decide +kernel⟩ (a_ok_c ⟨cIX8_above, by decide +kernel⟩ (a_ok_c ⟨cIX8_bill, by decide +kernel⟩ (a_ok_c ⟨cIX8_over, by decide +kernel⟩ (a_ok_c ⟨cIX8_free, by decide +kernel⟩ (a_ok_c ⟨cIX8_reveal, by decide +kernel⟩ (a_ok_c ⟨cIX8_peel, by decide +kernel⟩ a_ok_0))))))))))))))))))))
theorem a_okl5 : ∀ M ∈ a_Ml5, a_okM M := (a_ok_c ⟨cIX8_tear, by decide +kernel⟩ (a_ok_c ⟨cIX8_rain, by decide +kernel⟩ (a_ok_c ⟨cIX8_owner, by decide +kernel⟩ (a_ok_c ⟨cIX8_show, by decide +kernel⟩ (a_ok_c ⟨cIX8_look, by decide +kernel⟩ (a_ok_c ⟨cIX8_burn, by decide +kernel⟩ (a_ok_c ⟨cIX8_orders, by decide +kernel⟩ (a_ok_c ⟨cIX8_order, by decide +kernel⟩ (a_ok_c ⟨cIX8_surely, by decide +kernel⟩ (a_ok_c ⟨cIX8_best, by decide +kernel⟩ (a_ok_c ⟨cIX8_two, by decide +kernel⟩ (a_ok_c ⟨cIX8_rivals, by decide +kernel⟩ (a_ok_c ⟨cIX8_seed, by decide +kernel⟩ (a_ok_c ⟨cIX8_keep, by decide +kernel⟩ (a_ok_c ⟨cIX8_goBack, by decide +kernel⟩ (a_ok_c ⟨cIX8_imageOf, by decide +kernel⟩ (a_ok_c ⟨cIX8_isIn, by decide +kernel⟩ (a_ok_c ⟨cIX8_cellAt, by decide +kernel⟩ (a_ok_c ⟨cIX9_init, by decide +kernel⟩ (a_ok_c ⟨cIX9_in, by decide +kernel⟩ a_ok_0))))))))))))))))))))
theorem a_okl6 : ∀ M ∈ a_Ml6, a_okM M := (a_ok_c ⟨cIX9_one, by decide +kernel⟩ (a_ok_c ⟨cIX9_has, by decide +kernel⟩ (a_ok_c ⟨cIX9_ones, by decide +kernel⟩ (a_ok_c ⟨cIX9_untold, by decide +kernel⟩ (a_ok_c ⟨cIX9_feed, by decide +kernel⟩ (a_ok_c ⟨cIX9_here, by decide +kernel⟩ (a_ok_c ⟨cIX9_want, by decide +kernel⟩ (a_ok_c ⟨cIX9_takeWord, by decide +kernel⟩ (a_ok_c ⟨cIX9_isWord, by decide +kernel⟩ (a_ok_c ⟨cIX9_takeNumber, by decide +kernel⟩ (a_ok_c ⟨cIX9_once, by decide +kernel⟩ (a_ok_c ⟨cIX9_takeSize, by decide +kernel⟩ (a_ok_c ⟨cIX9_takeBare, by decide +kernel⟩ (a_ok_c ⟨cIX9_takePass, by decide +kernel⟩ (a_ok_c ⟨cIX9_takeKind, by decide +kernel⟩ (a_ok_c ⟨cIX9_takeClause, by decide +kernel⟩ (a_ok_c ⟨cIX9_wall, by decide +kernel⟩ (a_ok_c ⟨cIX9_fault, by decide +kernel⟩ (a_ok_c ⟨cIX9_told, by decide +kernel⟩ (a_ok_c ⟨cIX9_isKind, by decide +kernel⟩ a_ok_0))))))))))))))))))))
theorem a_okl7 : ∀ M ∈ a_Ml7, a_okM M := (a_ok_c ⟨cIX9_kind, by decide +kernel⟩ (a_ok_c ⟨cIX9_passes, by decide +kernel⟩ (a_ok_c ⟨cIX9_isCell, by decide +kernel⟩ (a_ok_c ⟨cIX9_bare, by decide +kernel⟩ (a_ok_c ⟨cIX9_copy, by decide +kernel⟩ (a_ok_c ⟨cIX9_ownerOf, by decide +kernel⟩ (a_ok_c ⟨cIX9_sizeOf, by decide +kernel⟩ (a_ok_c ⟨cIX9_reaches, by decide +kernel⟩ (a_ok_c ⟨cIX9_isTorn, by decide +kernel⟩ (a_ok_c ⟨cIX9_lies, by decide +kernel⟩ (a_ok_c ⟨cIX9_aboveAt, by decide +kernel⟩ (a_ok_c ⟨cIX9_see, by decide +kernel⟩ (a_ok_c ⟨cIX9_isRead, by decide +kernel⟩ (a_ok_c ⟨cIX9_worthOf, by decide +kernel⟩ (a_ok_c ⟨cIX9_lay, by decide +kernel⟩ (a_ok_c ⟨cIX9_isWithin, by decide +kernel⟩ (a_ok_c ⟨cIX9_isClear, by decide +kernel⟩ (a_ok_c ⟨cIX9_paste, by decide +kernel⟩ (a_ok_c ⟨cIX9_days, by decide +kernel⟩ (a_ok_c ⟨cIX9_above, by decide +kernel⟩ a_ok_0))))))))))))))))))))
theorem a_okl8 : ∀ M ∈ a_Ml8, a_okM M := (a_ok_c ⟨cIX9_isBill, by decide +kernel⟩ (a_ok_c ⟨cIX9_tornMany, by decide +kernel⟩ (a_ok_c ⟨cIX9_bill, by decide +kernel⟩ (a_ok_c ⟨cIX9_overOf, by decide +kernel⟩ (a_ok_c ⟨cIX9_over, by decide +kernel⟩ (a_ok_c ⟨cIX9_freeOf, by decide +kernel⟩ (a_ok_c ⟨cIX9_free, by decide +kernel⟩ (a_ok_c ⟨cIX9_isWhole, by decide +kernel⟩ (a_ok_c ⟨cIX9_isReadWithout, by decide +kernel⟩ (a_ok_c ⟨cIX9_reveal, by decide +kernel⟩ (a_ok_c ⟨cIX9_peel, by decide +kernel⟩ (a_ok_c ⟨cIX9_tearAt, by decide +kernel⟩ (a_ok_c ⟨cIX9_tear, by decide +kernel⟩ (a_ok_c ⟨cIX9_draw, by decide +kernel⟩ (a_ok_c ⟨cIX9_rain, by decide +kernel⟩ (a_ok_c ⟨cIX9_onMany, by decide +kernel⟩ (a_ok_c ⟨cIX9_owner, by decide +kernel⟩ (a_ok_c ⟨cIX9_show, by decide +kernel⟩ (a_ok_c ⟨cIX9_look, by decide +kernel⟩ (a_ok_c ⟨cIX9_burn, by decide +kernel⟩ a_ok_0))))))))))))))))))))
theorem a_okl9 : ∀ M ∈ a_Ml9, a_okM M := (a_ok_c ⟨cIX9_hasCell, by decide +kernel⟩ (a_ok_c ⟨cIX9_findBelow, by decide +kernel⟩ (a_ok_c ⟨cIX9_ordersOf, by decide +kernel⟩ (a_ok_c ⟨cIX9_orders, by decide +kernel⟩ (a_ok_c ⟨cIX9_order, by decide +kernel⟩ (a_ok_c ⟨cIX9_surely, by decide +kernel⟩ (a_ok_c ⟨cIX9_undo, by decide +kernel⟩ (a_ok_c ⟨cIX9_isPlace, by decide +kernel⟩ (a_ok_c ⟨cIX9_findBest, by decide +kernel⟩ (a_ok_c ⟨cIX9_best, by decide +kernel⟩ (a_ok_c ⟨cIX9_two, by decide +kernel⟩ (a_ok_c ⟨cIX9_takeTurn, by decide +kernel⟩ (a_ok_c ⟨cIX9_rivals, by decide +kernel⟩ (a_ok_c ⟨cIX9_seed, by decide +kernel⟩ (a_ok_c ⟨cIX9_keep, by decide +kernel⟩ (a_ok_c ⟨cIX9_goBack, by decide +kernel⟩ (a_ok_c ⟨cIJ6_numberOfLeadingZeros_0f7a4, by decide +kernel⟩ (a_ok_c ⟨cIJ6_bitCount_0f7a4, by decide +kernel⟩ (a_ok_c ⟨cIJ7_fill_53178, by decide +kernel⟩ a_ok_0)))))))))))))))))))
theorem a_M_ok {k : Nat} {M : a_Mth} (h : a_M k = some M) : a_okM M := by
  have hT : ∀ l : List a_Mth, (∀ N ∈ l, a_okM N) → l[k % 20]? = some M → a_okM M := fun l q z => q M (List.mem_of_getElem? z)
  unfold a_M at h
  split at h
  · exact hT _ a_okl0 h
  · exact hT _ a_okl1 h
  · exact hT _ a_okl2 h
  · exact hT _ a_okl3 h
  · exact hT _ a_okl4 h
  · exact hT _ a_okl5 h
  · exact hT _ a_okl6 h
  · exact hT _ a_okl7 h
  · exact hT _ a_okl8 h
  · exact hT _ a_okl9 h
  · cases h
