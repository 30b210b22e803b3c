/-! THE CLAIM OUT OF ONE WALK OF THE LAW'S BODY. Your part is whole_start (and what it stands on); all else here is the same for every law, but numbers. -/
def R_law : String := "BillWallLaw"
def lw_P (b : Addr) (xs : List Int32) (args : Array Value) (s : State) : Prop := args = #[.ref b] ∧ s.IntsAt b xs ∧ xs.length ≤ 2560 ∧ (Jvm.Cond.and given_1 narrow_1).before args s = true
def lw_Q (_ : Array Value) (s : State) (o : Outcome) (t : State) : Prop := o = .returned (some (.int 1)) ∧ Framed s o t [] 97 6780
def lw_Z (below : List Frame) (a : Array Value) (s : State) : State → Prop := fun t => ∃ o, t.status = .running ∧ Ended t below o ∧ lw_Q a s o t
/-- the law's own end, with 1 on the stack, nothing written that was there before, its room as the claim has it -/
theorem lw_ret {p : Program} {l : Launch} {e : Env} {s : State} {m : MethodId} {below : List Frame} {meth : Method} {c : Code} {b : Nat} (hx : p.tables.exec = Jvm.exec) (hb : c.code = code) (hr : meth.sig.returnType = ret) (hlocks : meth.locks = false) {pc : Nat} {H : Heap} {ls : Array Slot} (hdg : decode code pc = .ok (.ireturn, 1)) : W p l e room_1 s m #[Value.ref b] below meth c H [] 97 6780 (lw_Z below #[Value.ref b] s) (F0 m pc ls [.int 1]) := by
  intro T hT X
  obtain ⟨fs, hret, hrun, hended, hW, hframe⟩ := X.leave (v := some (.int 1)) (hlocks := hlocks) (fun h => by rw [hr] at h; cases h)
  have hmeth' : T.vm.method? m = some meth := X.method'
  refine ⟨T.setFrames fs, ?_, .returned (some (.int 1)), hrun, hended, rfl, ⟨_, rfl⟩, hW, hframe⟩
  jvm_step X.here [X.here.top, hx, hb, hdg, hmeth', hr, ret, narrow_b1]
  (try refine ⟨rfl, ?_⟩); (try refine ⟨rfl, ?_⟩)
  first | (intro acts; rw [hret _ acts rfl rfl rfl]) | rw [hret _ _ rfl rfl rfl]
  exact Steps.refl _
/-- what holds at the law's entry: the machine, the code, the tables' words (any of lw_tbl by 'hts w (by decide +kernel)'), the script of L ints xs at the cell b, what the Statement gives of the start (any of its parts by flat_of_before) -/
def lw_At (p : Program) (s : State) (m : MethodId) (meth : Method) (c : Code) (b L : Nat) (xs : Nat → Int32) : Prop :=
  p.tables.exec = Jvm.exec ∧ c.code = code ∧ meth.sig.returnType = ret ∧ c.maxLocals = 4 ∧ s.vm.findClass R_law = some m.cls ∧ (∀ w ∈ lw_tbl, w.before #[Value.ref b] s = true) ∧ va_X b L xs s s.heap ∧ b < s.heap.size ∧ meth.locks = false ∧ (Jvm.Cond.and given_1 narrow_1).before #[Value.ref b] s = true
def a_sx : List Nat := [150, 152, 153, 154, 156, 158, 160]
def a_tm (i : Nat) : Term := .string "BillWall$Reader" (a_sx.getD i 0)
theorem a_flex : ∀ i, i < 7 → Cond.exactly (a_tm i) "java/lang/String" ∈ flatC (Jvm.Cond.and given_1 narrow_1) := by decide +kernel
theorem a_flco : ∀ i, i < 7 → Cond.eq (.field (a_tm i) "java/lang/String" "coder" "B") (.int 0) ∈ flatC (Jvm.Cond.and given_1 narrow_1) := by decide +kernel
theorem a_flar : ∀ i, i < 7 → Cond.arrayOf (.field (a_tm i) "java/lang/String" "value" "[B") .byte ∈ flatC (Jvm.Cond.and given_1 narrow_1) := by decide +kernel
theorem a_flle : ∀ i, i < 7 → Cond.eq (.length (.field (a_tm i) "java/lang/String" "value" "[B")) (.int (Int32.ofNat (a_sl.getD i 0))) ∈ flatC (Jvm.Cond.and given_1 narrow_1) := by decide +kernel
theorem a_flel : ∀ i, i < 7 → ∀ j, j < a_sl.getD i 0 → Cond.eq (.elem (.field (a_tm i) "java/lang/String" "value" "[B") (.int (Int32.ofNat j))) (.int ((a_sc.getD i []).getD j 0)) ∈ flatC (Jvm.Cond.and given_1 narrow_1) := by decide +kernel
theorem a_flne : ∀ i, i < 7 → ∀ j, j < 7 → i ≠ j → (Cond.not (Cond.eq (a_tm i) (a_tm j)) ∈ flatC (Jvm.Cond.and given_1 narrow_1) ∨ Cond.not (Cond.eq (a_tm j) (a_tm i)) ∈ flatC (Jvm.Cond.and given_1 narrow_1)) := by decide +kernel
theorem a_flcs : Cond.eq (.static "java/lang/String" "COMPACT_STRINGS" "Z") (.int 1) ∈ flatC (Jvm.Cond.and given_1 narrow_1) := by decide +kernel
theorem a_flsi : Cond.isRef (.static "jdk/internal/util/Preconditions" "SIOOBE_FORMATTER" "Ljava/util/function/BiFunction;") ∈ flatC (Jvm.Cond.and given_1 narrow_1) := by decide +kernel
theorem a_tb_cs : Cond.laysStatic "java/lang/String" "COMPACT_STRINGS" "Z" ∈ lw_tbl := by decide +kernel
theorem a_tb_si : Cond.laysStatic "jdk/internal/util/Preconditions" "SIOOBE_FORMATTER" "Ljava/util/function/BiFunction;" ∈ lw_tbl := by decide +kernel
theorem a_tb_sr : ∀ i, i < 7 → Cond.stringRef "BillWall$Reader" (a_sx.getD i 0) (a_strs.getD i "") ∈ lw_tbl := by decide +kernel
theorem a_ldcS : ∀ e ∈ a_ldcT 6, (match e.2.1 with
    | .inr q => q.1 < 7 ∧ e.1 = a_sx.getD q.1 0 ∧ q.2 = a_strs.getD q.1 ""
    | .inl _ => True) := by
  intro e he
  have h : (a_ldcT 6).all (fun e => match e.2.1 with
    | .inr q => decide (q.1 < 7 ∧ e.1 = a_sx.getD q.1 0 ∧ q.2 = a_strs.getD q.1 "")
    | .inl _ => true) = true := by decide +kernel
  have := List.all_eq_true.mp h e he
  obtain ⟨i, q | q, z⟩ := e
  · trivial
  · exact of_decide_eq_true this
theorem a_ins0 : Cond.instantiable RX0 12 ∈ lw_tbl := by decide +kernel
theorem a_ins1 : Cond.instantiable RX1 2 ∈ lw_tbl := by decide +kernel
theorem a_ins2 : Cond.instantiable RX2 4 ∈ lw_tbl := by decide +kernel
theorem a_ins3 : Cond.instantiable RX3 7 ∈ lw_tbl := by decide +kernel
theorem a_ins4 : Cond.instantiable RX4 11 ∈ lw_tbl := by decide +kernel
theorem a_ins5 : Cond.instantiable RX5 12 ∈ lw_tbl := by decide +kernel
theorem a_ins6 : Cond.instantiable RX6 8 ∈ lw_tbl := by decide +kernel
theorem a_ins7 : Cond.instantiable RX7 8 ∈ lw_tbl := by decide +kernel
theorem a_ins8 : Cond.instantiable RX8 10 ∈ lw_tbl := by decide +kernel
theorem a_ins9 : Cond.instantiable RX9 36 ∈ lw_tbl := by decide +kernel
set_option maxHeartbeats 4000000 in
theorem a_env0 {p : Program} {s : State} {m : MethodId} {meth : Method} {c : Code} {b L : Nat} {xs : Nat → Int32} (C0 : lw_At p s m meth c b L xs) : ∃ (ad : Nat → Nat) (D : va_G) (cA : Nat → ClassId), a_Env (some (L, xs)) ad D cA s.heap.size s ∧ ad 2000 = b := by
  obtain ⟨hx, hb, hr, hml, hown, hts, hX, hbl, hlocks, hgv⟩ := C0
  have hs := flat_of_before _ hgv
  obtain ⟨c0, iS0, hKn0⟩ := u_known (C := RX0) (T := TX0) (N := 12) (n := 12) hts (fun w hw => a_clW0 0 (by omega) (RX0, TX0, 12) rfl w hw) (hts _ a_ins0)
  obtain ⟨c1, iS1, hKn1⟩ := u_known (C := RX1) (T := TX1) (N := 2) (n := 2) hts (fun w hw => a_clW0 1 (by omega) (RX1, TX1, 2) rfl w hw) (hts _ a_ins1)
  obtain ⟨c2, iS2, hKn2⟩ := u_known (C := RX2) (T := TX2) (N := 4) (n := 4) hts (fun w hw => a_clW0 2 (by omega) (RX2, TX2, 4) rfl w hw) (hts _ a_ins2)
  obtain ⟨c3, iS3, hKn3⟩ := u_known (C := RX3) (T := TX3) (N := 7) (n := 7) hts (fun w hw => a_clW0 3 (by omega) (RX3, TX3, 7) rfl w hw) (hts _ a_ins3)
  obtain ⟨c4, iS4, hKn4⟩ := u_known (C := RX4) (T := TX4) (N := 11) (n := 11) hts (fun w hw => a_clW0 4 (by omega) (RX4, TX4, 11) rfl w hw) (hts _ a_ins4)
  obtain ⟨c5, iS5, hKn5⟩ := u_known (C := RX5) (T := TX5) (N := 12) (n := 12) hts (fun w hw => a_clW0 5 (by omega) (RX5, TX5, 12) rfl w hw) (hts _ a_ins5)
  obtain ⟨c6, iS6, hKn6⟩ := u_known (C := RX6) (T := TX6) (N := 8) (n := 8) hts (fun w hw => a_clW0 6 (by omega) (RX6, TX6, 8) rfl w hw) (hts _ a_ins6)
  obtain ⟨c7, iS7, hKn7⟩ := u_known (C := RX7) (T := TX7) (N := 8) (n := 8) hts (fun w hw => a_clW0 7 (by omega) (RX7, TX7, 8) rfl w hw) (hts _ a_ins7)
  obtain ⟨c8, iS8, hKn8⟩ := u_known (C := RX8) (T := TX8) (N := 10) (n := 10) hts (fun w hw => a_clW0 8 (by omega) (RX8, TX8, 10) rfl w hw) (hts _ a_ins8)
  obtain ⟨c9, iS9, hKn9⟩ := u_known (C := RX9) (T := TX9) (N := 36) (n := 36) hts (fun w hw => a_clW0 9 (by omega) (RX9, TX9, 36) rfl w hw) (hts _ a_ins9)
  obtain ⟨dC, dI, hKc⟩ : ∃ (dC : Nat → ClassId) (dI : Nat → Nat → Nat), ∀ (k : Nat) (q : vw_C), a_cl[k]? = some q → u_Kn s q.1 q.2.1 q.2.2 (dC k) (dI k) := by
    refine ⟨fun k => if k = 0 then c0 else if k = 1 then c1 else if k = 2 then c2 else if k = 3 then c3 else if k = 4 then c4 else if k = 5 then c5 else if k = 6 then c6 else if k = 7 then c7 else if k = 8 then c8 else c9, fun k => if k = 0 then iS0 else if k = 1 then iS1 else if k = 2 then iS2 else if k = 3 then iS3 else if k = 4 then iS4 else if k = 5 then iS5 else if k = 6 then iS6 else if k = 7 then iS7 else if k = 8 then iS8 else iS9, ?_⟩
    intro k q hq
    match k, hq with
    | 0, hq => cases hq; exact hKn0
    | 1, hq => cases hq; exact hKn1
    | 2, hq => cases hq; exact hKn2
    | 3, hq => cases hq; exact hKn3
    | 4, hq => cases hq; exact hKn4
    | 5, hq => cases hq; exact hKn5
    | 6, hq => cases hq; exact hKn6
    | 7, hq => cases hq; exact hKn7
    | 8, hq => cases hq; exact hKn8
    | 9, hq => cases hq; exact hKn9
    | k + 10, hq => exact absurd (a_cl_lt hq) (by omega)
  obtain ⟨cI, kI, mI, g1, g2, g3⟩ := Cond.arrayClass_spec (hts _ (a_LT_tbl (a_has_in a_arr_all.1)))
  obtain ⟨cZ, kZ, mZ, g4, g5, g6⟩ := Cond.arrayClass_spec (hts _ (a_LT_tbl (a_has_in a_arr_all.2.1)))
  obtain ⟨cC, kC, mC, g7, g8, g9⟩ := Cond.arrayClass_spec (hts _ (a_LT_tbl (a_has_in a_arr_all.2.2)))
  have hA : ∀ a : Nat, a < s.heap.size → ¬ a_A s.heap.size a := fun a h => Nat.not_le.mpr h
  obtain ⟨adK, adV, hK, hev⟩ := vk_Sof (tm := a_tm) (len := a_sl) (byt := a_sc) (N := 7) (A := a_A s.heap.size) (by decide +kernel) (fun i hi => hs _ (a_flex i hi)) (fun i hi => hs _ (a_flco i hi)) (fun i hi => hs _ (a_flar i hi)) (fun i hi => hs _ (a_flle i hi)) (fun i hi j hj => hs _ (a_flel i hi j hj)) (fun i j hi hj hij => (a_flne i hi j hj hij).imp (hs _) (hs _)) hA
  refine ⟨fun i => if i = 2000 then b else adK (i - 1000), (dC, dI), fun t => if t = 0 then cI else if t = 1 then cZ else cC, ⟨⟨hKc, ?_⟩, Nat.le_refl _, ?_, ?_, ⟨adV, ?_⟩, ?_, ?_, ?_⟩, by simp⟩
  · intro k q hq
    match k, hq with
    | 0, hq => cases hq; exact ⟨fun n z => ⟨fun k h => (by cases h), kI, g2, mI, g3⟩, g1⟩
    | 1, hq => cases hq; exact ⟨fun n z => ⟨fun k h => (by cases h), kZ, g5, mZ, g6⟩, g4⟩
    | 2, hq => cases hq; exact ⟨fun n z => ⟨fun k h => (by cases h), kC, g8, mC, g9⟩, g7⟩
    | k + 3, hq => simp [a_tys] at hq
  · intro w hw hn
    have h := hts w hw
    cases w <;> first | (cases hn; done) | exact va_Nw.of rfl h
  · intro L' xs' e
    cases e
    exact ⟨by simpa using hX, by simpa using hbl, by simpa using hbl⟩
  · have e1 : (fun k => if 1000 + k = 2000 then b else adK (1000 + k - 1000)) = fun k => if k = 1000 then b else adK k := by
      funext k
      by_cases h : k = 1000
      · rw [if_pos h, if_pos (by omega)]
      · rw [if_neg h, if_neg (by omega), Nat.add_sub_cancel_left]
    show vk_S 7 a_sl a_sc (fun k => if 1000 + k = 2000 then b else adK (1000 + k - 1000)) adV _ _ _
    rw [e1]
    refine ⟨fun i hi => ?_, fun i j hi hj => ?_⟩
    · have e2 : (if i = 1000 then b else adK i) = adK i := if_neg (by omega)
      simp only [e2]
      exact hK.1 i hi
    · have e2 : (if i = 1000 then b else adK i) = adK i := if_neg (by omega)
      have e3 : (if j = 1000 then b else adK j) = adK j := if_neg (by omega)
      simp only [e2, e3]
      exact hK.2 i j hi hj
  · intro idx k tx pl q
    obtain ⟨h1, h2, h3⟩ := a_ldcS _ (a_look_mem q)
    simp only at h1 h2 h3
    subst h2; subst h3
    show vk_R (a_Cn 6) _ _ (if 1000 + k = 2000 then b else adK (1000 + k - 1000)) s
    rw [if_neg (by omega), Nat.add_sub_cancel_left]
    exact vk_R.of (hts _ (a_tb_sr k h1)) (hev k h1)
  · exact va_Zof (hts _ a_tb_cs) (hts _ (a_LT_tbl wn_S)) (va_eqi (hs _ a_flcs)) hA
  · exact va_Zqof (hts _ a_tb_si) (hts _ (a_LT_tbl wn_P)) (hs _ a_flsi) hA
set_option maxHeartbeats 4000000 in
/-- the law's walk out of a run of the small machine -/
theorem a_start {p : Program} {e : Env} {s : State} {m : MethodId} {below : List Frame} {meth : Method} {c : Code} (l : Launch) {b L : Nat} {xs : Nat → Int32} (C0 : lw_At p s m meth c b L xs) {n : Nat} {h' : a_H} (hrun : arun (some (L, xs)) n mL_law 0 [some (.ref 2000), none, none, none] [] ([], fun _ _ => 0) = some (some (.int 1), h')) (h97 : h'.1.length ≤ 97) (hsz : a_szs h'.1 ≤ 6780) :
    W p l e room_1 s m #[Value.ref b] below meth c s.heap [] 0 0 (lw_Z below #[Value.ref b] s) (entryFrame m ([Value.ref b] : List Value).toArray 4) := by
  obtain ⟨ad, D, cA, hE, had⟩ := a_env0 C0
  obtain ⟨hx, hb, hr, hml, hown, hts, hX, hbl, hlocks, hgv⟩ := C0
  have hC : a_Ctx mL_law p room_1 s m #[Value.ref b] meth c := ⟨hx, hb, hr, hml, hown, fun w hw => hts w (a_LT_tbl hw), Nat.le_refl _, Nat.le_refl _, fun z => absurd z (by decide), cIL_law, by decide, hlocks⟩
  have hl := a_entry (M := mL_law) (as := [.ref 2000]) (ad := ad) (by decide)
  have em : ([Value.ref 2000] : List Value).map (a_cv ad) = [.ref b] := by simp [a_cv, had]
  rw [em] at hl
  rw [lg_entry_eq]
  have e4 : a_mL mL_law = 4 := rfl
  rw [e4] at hl
  generalize ((lg_sl [Value.ref b] ++ List.replicate (4 - (lg_sl [Value.ref b]).length) Slot.unset).toArray) = ls at hl ⊢
  refine a_sim (X := some (L, xs)) (l := l) n mL_law 0 _ [] ([], fun _ _ => 0) (some (.int 1)) h' hrun p e room_1 s m #[Value.ref b] below meth c s.heap [] ls 0 0 _ ad D cA s.heap.size hC hE (fun k q hk => by simp [a_ws] at hk) ⟨fun i j p q hi => by simp [a_ws] at hi, fun k q hk => by simp [a_ws] at hk⟩ va_S.rf hl ?_ ?_ ?_
  · show 0 + (h'.1.length - 0) ≤ 97
    omega
  · show 0 + (a_szs h'.1 - 0) ≤ 6780
    omega
  · intro i pc2 ls2 ad' H' locs' hd hR hP' hD' hS' hag heq
    rcases hR with ⟨rfl, v, ty, hv, ht, hf⟩ | ⟨-, hv, -⟩ | ⟨-, q, nm, hv, -⟩
    · refine va_forget (fun q hq => hS'.2.2 q hq) ?_
      refine W.widen (k := 97) (n := 6780) (by show 0 + (h'.1.length - 0) ≤ 97; omega) (by show 0 + (a_szs h'.1 - 0) ≤ 6780; omega) ?_
      exact lw_ret hx hb hr hlocks hd
    · cases hv
    · cases hv
