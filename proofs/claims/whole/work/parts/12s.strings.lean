/-! the length of a String constant, a sign of it: the JDK's own methods over them -/
def y_pci : MethodName := ⟨"jdk/internal/util/Preconditions", "checkIndex", "(IILjava/util/function/BiFunction;)I"⟩
abbrev b_pci : ByteArray := prog_18_method_11_code
abbrev w_pci : List Cond := .code y_pci b_pci 3 (some .int) :: a_LT
theorem wc_pci : Cond.code y_pci b_pci 3 (some .int) ∈ a_LT := a_has_in (p := (2, 238)) (by decide +kernel)
theorem wg_pci : ∀ w ∈ w_pci, w ∈ a_LT := fun w hw => (List.mem_cons.mp hw).elim (fun q => q ▸ wc_pci) (fun q => q)
theorem d_pci_0 : decode b_pci 0 = .ok (.iload_n 0, 1) := by decide +kernel
theorem d_pci_1 : decode b_pci 1 = .ok (.ifCond .lt 8, 3) := by decide +kernel
theorem d_pci_4 : decode b_pci 4 = .ok (.iload_n 0, 1) := by decide +kernel
theorem d_pci_5 : decode b_pci 5 = .ok (.iload_n 1, 1) := by decide +kernel
theorem d_pci_6 : decode b_pci 6 = .ok (.if_icmp .lt 10, 3) := by decide +kernel
theorem d_pci_16 : decode b_pci 16 = .ok (.iload_n 0, 1) := by decide +kernel
theorem d_pci_17 : decode b_pci 17 = .ok (.ireturn, 1) := by decide +kernel
def y_sci : MethodName := ⟨"java/lang/String", "checkIndex", "(II)V"⟩
abbrev b_sci : ByteArray := prog_13_method_155_code
abbrev w_sci : List Cond := .code y_sci b_sci 2 none :: a_LT
theorem wc_sci : Cond.code y_sci b_sci 2 none ∈ a_LT := a_has_in (p := (2, 233)) (by decide +kernel)
theorem wg_sci : ∀ w ∈ w_sci, w ∈ a_LT := fun w hw => (List.mem_cons.mp hw).elim (fun q => q ▸ wc_sci) (fun q => q)
theorem d_sci_0 : decode b_sci 0 = .ok (.iload_n 0, 1) := by decide +kernel
theorem d_sci_1 : decode b_sci 1 = .ok (.iload_n 1, 1) := by decide +kernel
theorem d_sci_2 : decode b_sci 2 = .ok (.getstatic 1053, 3) := by decide +kernel
theorem d_sci_5 : decode b_sci 5 = .ok (.invokestatic 1059, 3) := by decide +kernel
theorem d_sci_8 : decode b_sci 8 = .ok (.pop, 1) := by decide +kernel
theorem d_sci_9 : decode b_sci 9 = .ok (.return_, 1) := by decide +kernel
def y_lca : MethodName := ⟨"java/lang/StringLatin1", "charAt", "([BI)C"⟩
abbrev b_lca : ByteArray := prog_14_method_2_code
abbrev w_lca : List Cond := .code y_lca b_lca 2 (some .char) :: a_LT
theorem wc_lca : Cond.code y_lca b_lca 2 (some .char) ∈ a_LT := a_has_in (p := (2, 230)) (by decide +kernel)
theorem wg_lca : ∀ w ∈ w_lca, w ∈ a_LT := fun w hw => (List.mem_cons.mp hw).elim (fun q => q ▸ wc_lca) (fun q => q)
theorem d_lca_0 : decode b_lca 0 = .ok (.iload_n 1, 1) := by decide +kernel
theorem d_lca_1 : decode b_lca 1 = .ok (.aload_n 0, 1) := by decide +kernel
theorem d_lca_2 : decode b_lca 2 = .ok (.arraylength, 1) := by decide +kernel
theorem d_lca_3 : decode b_lca 3 = .ok (.invokestatic 9, 3) := by decide +kernel
theorem d_lca_6 : decode b_lca 6 = .ok (.aload_n 0, 1) := by decide +kernel
theorem d_lca_7 : decode b_lca 7 = .ok (.iload_n 1, 1) := by decide +kernel
theorem d_lca_8 : decode b_lca 8 = .ok (.baload, 1) := by decide +kernel
theorem d_lca_9 : decode b_lca 9 = .ok (.sipush 255, 3) := by decide +kernel
theorem d_lca_12 : decode b_lca 12 = .ok (.iand, 1) := by decide +kernel
theorem d_lca_13 : decode b_lca 13 = .ok (.i2c, 1) := by decide +kernel
theorem d_lca_14 : decode b_lca 14 = .ok (.ireturn, 1) := by decide +kernel
def y_isl : MethodName := ⟨"java/lang/String", "isLatin1", "()Z"⟩
abbrev b_isl : ByteArray := prog_13_method_154_code
abbrev w_isl : List Cond := .code y_isl b_isl 1 (some .boolean) :: a_LT
theorem wc_isl : Cond.code y_isl b_isl 1 (some .boolean) ∈ a_LT := a_has_in (p := (2, 227)) (by decide +kernel)
theorem wg_isl : ∀ w ∈ w_isl, w ∈ a_LT := fun w hw => (List.mem_cons.mp hw).elim (fun q => q ▸ wc_isl) (fun q => q)
theorem d_isl_0 : decode b_isl 0 = .ok (.getstatic 38, 3) := by decide +kernel
theorem d_isl_3 : decode b_isl 3 = .ok (.ifCond .eq 14, 3) := by decide +kernel
theorem d_isl_6 : decode b_isl 6 = .ok (.aload_n 0, 1) := by decide +kernel
theorem d_isl_7 : decode b_isl 7 = .ok (.getfield 15, 3) := by decide +kernel
theorem d_isl_10 : decode b_isl 10 = .ok (.ifCond .ne 7, 3) := by decide +kernel
theorem d_isl_13 : decode b_isl 13 = .ok (.iconst 1, 1) := by decide +kernel
theorem d_isl_14 : decode b_isl 14 = .ok (.goto 4, 3) := by decide +kernel
theorem d_isl_18 : decode b_isl 18 = .ok (.ireturn, 1) := by decide +kernel
def y_cha : MethodName := ⟨"java/lang/String", "charAt", "(I)C"⟩
abbrev b_cha : ByteArray := prog_13_method_56_code
abbrev w_cha : List Cond := .code y_cha b_cha 2 (some .char) :: a_LT
theorem wc_cha : Cond.code y_cha b_cha 2 (some .char) ∈ a_LT := a_has_in (p := (2, 223)) (by decide +kernel)
theorem wg_cha : ∀ w ∈ w_cha, w ∈ a_LT := fun w hw => (List.mem_cons.mp hw).elim (fun q => q ▸ wc_cha) (fun q => q)
theorem d_cha_0 : decode b_cha 0 = .ok (.aload_n 0, 1) := by decide +kernel
theorem d_cha_1 : decode b_cha 1 = .ok (.invokevirtual 492, 3) := by decide +kernel
theorem d_cha_4 : decode b_cha 4 = .ok (.ifCond .eq 12, 3) := by decide +kernel
theorem d_cha_7 : decode b_cha 7 = .ok (.aload_n 0, 1) := by decide +kernel
theorem d_cha_8 : decode b_cha 8 = .ok (.getfield 9, 3) := by decide +kernel
theorem d_cha_11 : decode b_cha 11 = .ok (.iload_n 1, 1) := by decide +kernel
theorem d_cha_12 : decode b_cha 12 = .ok (.invokestatic 495, 3) := by decide +kernel
theorem d_cha_15 : decode b_cha 15 = .ok (.ireturn, 1) := by decide +kernel
def y_cod : MethodName := ⟨"java/lang/String", "coder", "()B"⟩
abbrev b_cod : ByteArray := prog_13_method_152_code
abbrev w_cod : List Cond := .code y_cod b_cod 1 (some .byte) :: a_LT
theorem wc_cod : Cond.code y_cod b_cod 1 (some .byte) ∈ a_LT := a_has_in (p := (2, 217)) (by decide +kernel)
theorem wg_cod : ∀ w ∈ w_cod, w ∈ a_LT := fun w hw => (List.mem_cons.mp hw).elim (fun q => q ▸ wc_cod) (fun q => q)
theorem d_cod_0 : decode b_cod 0 = .ok (.getstatic 38, 3) := by decide +kernel
theorem d_cod_3 : decode b_cod 3 = .ok (.ifCond .eq 10, 3) := by decide +kernel
theorem d_cod_6 : decode b_cod 6 = .ok (.aload_n 0, 1) := by decide +kernel
theorem d_cod_7 : decode b_cod 7 = .ok (.getfield 15, 3) := by decide +kernel
theorem d_cod_10 : decode b_cod 10 = .ok (.goto 4, 3) := by decide +kernel
theorem d_cod_14 : decode b_cod 14 = .ok (.ireturn, 1) := by decide +kernel
def y_len : MethodName := ⟨"java/lang/String", "length", "()I"⟩
abbrev b_len : ByteArray := prog_13_method_54_code
abbrev w_len : List Cond := .code y_len b_len 1 (some .int) :: a_LT
theorem wc_len : Cond.code y_len b_len 1 (some .int) ∈ a_LT := a_has_in (p := (2, 213)) (by decide +kernel)
theorem wg_len : ∀ w ∈ w_len, w ∈ a_LT := fun w hw => (List.mem_cons.mp hw).elim (fun q => q ▸ wc_len) (fun q => q)
theorem d_len_0 : decode b_len 0 = .ok (.aload_n 0, 1) := by decide +kernel
theorem d_len_1 : decode b_len 1 = .ok (.getfield 9, 3) := by decide +kernel
theorem d_len_4 : decode b_len 4 = .ok (.arraylength, 1) := by decide +kernel
theorem d_len_5 : decode b_len 5 = .ok (.aload_n 0, 1) := by decide +kernel
theorem d_len_6 : decode b_len 6 = .ok (.invokevirtual 335, 3) := by decide +kernel
theorem d_len_9 : decode b_len 9 = .ok (.ishr, 1) := by decide +kernel
theorem d_len_10 : decode b_len 10 = .ok (.ireturn, 1) := by decide +kernel
theorem wl_335 : Cond.methodLink "java/lang/String" 335 y_cod ∈ a_LT := a_has_in (p := (2, 214)) (by decide +kernel)
theorem wi_cod : Cond.instanceMethod y_cod ∈ a_LT := a_has_in (p := (2, 215)) (by decide +kernel)
theorem ws_cod : Cond.selects "java/lang/String" y_cod y_cod ∈ a_LT := a_has_in (p := (2, 216)) (by decide +kernel)
theorem wn_S : Cond.initialized "java/lang/String" ∈ a_LT := a_has_in (p := (1, 12)) (by decide +kernel)
theorem wn_L : Cond.initialized "java/lang/StringLatin1" ∈ a_LT := a_has_in (p := (1, 13)) (by decide +kernel)
theorem wn_P : Cond.initialized "jdk/internal/util/Preconditions" ∈ a_LT := a_has_in (p := (1, 14)) (by decide +kernel)
theorem wf_38 : Cond.fieldLink "java/lang/String" 38 "java/lang/String" "COMPACT_STRINGS" "Z" ∈ a_LT := a_has_in (p := (2, 218)) (by decide +kernel)
theorem wl_492 : Cond.methodLink "java/lang/String" 492 y_isl ∈ a_LT := a_has_in (p := (2, 224)) (by decide +kernel)
theorem wi_isl : Cond.instanceMethod y_isl ∈ a_LT := a_has_in (p := (2, 225)) (by decide +kernel)
theorem ws_isl : Cond.selects "java/lang/String" y_isl y_isl ∈ a_LT := a_has_in (p := (2, 226)) (by decide +kernel)
theorem wl_495 : Cond.methodLink "java/lang/String" 495 y_lca ∈ a_LT := a_has_in (p := (2, 228)) (by decide +kernel)
theorem wt_lca : Cond.static y_lca ∈ a_LT := a_has_in (p := (2, 229)) (by decide +kernel)
theorem wl_9 : Cond.methodLink "java/lang/StringLatin1" 9 y_sci ∈ a_LT := a_has_in (p := (2, 231)) (by decide +kernel)
theorem wt_sci : Cond.static y_sci ∈ a_LT := a_has_in (p := (2, 232)) (by decide +kernel)
theorem wf_1053 : Cond.fieldLink "java/lang/String" 1053 "jdk/internal/util/Preconditions" "SIOOBE_FORMATTER" "Ljava/util/function/BiFunction;" ∈ a_LT := a_has_in (p := (2, 234)) (by decide +kernel)
theorem wl_1059 : Cond.methodLink "java/lang/String" 1059 y_pci ∈ a_LT := a_has_in (p := (2, 236)) (by decide +kernel)
theorem wt_pci : Cond.static y_pci ∈ a_LT := a_has_in (p := (2, 237)) (by decide +kernel)
theorem wf_9 : Cond.fieldLink "java/lang/String" 9 "java/lang/String" "value" "[B" ∈ a_LT := a_has_in (p := (6, 181)) (by decide +kernel)
theorem wf_15 : Cond.fieldLink "java/lang/String" 15 "java/lang/String" "coder" "B" ∈ a_LT := a_has_in (p := (6, 182)) (by decide +kernel)
theorem wi_len : Cond.instanceMethod y_len ∈ a_LT := a_has_in (p := (2, 211)) (by decide +kernel)
theorem ws_len : Cond.selects "java/lang/String" y_len y_len ∈ a_LT := a_has_in (p := (2, 212)) (by decide +kernel)
theorem wi_cha : Cond.instanceMethod y_cha ∈ a_LT := a_has_in (p := (2, 221)) (by decide +kernel)
theorem ws_cha : Cond.selects "java/lang/String" y_cha y_cha ∈ a_LT := a_has_in (p := (2, 222)) (by decide +kernel)
theorem a_StrE.to {ad : Nat → Nat} {a0 : Nat} {s U : State} {locs : List Loc} (h : a_StrE ad a0 s) (hW : s.WarmedH U.vm) (hS : va_S (a_A a0) s.heap U.heap locs) : a_StrE ad a0 U := by
  have ha : s.vm.Alike U.vm := hW.alike
  obtain ⟨⟨adV, h5⟩, h6, h7, h8⟩ := h
  refine ⟨⟨adV, ?_⟩, fun idx k tx p q => ?_, ?_, ?_⟩
  · exact vk_S.moved ha (h5.kept hS.2.1)
  · exact vk_R.warm hW (h6 idx k tx p q)
  · exact va_Z.moved ha (h7.kept hS.2.1)
  · exact va_Zq.moved ha (h8.kept hS.2.1)
theorem a_StrE.same {ad : Nat → Nat} {a0 : Nat} {s U : State} (h : a_StrE ad a0 s) (hv : U.vm = s.vm) (hh : U.heap = s.heap) : a_StrE ad a0 U := by
  have ha : s.vm.Alike U.vm := by rw [hv]; exact Vm.Alike.refl _
  obtain ⟨⟨adV, h5⟩, h6, h7, h8⟩ := h
  refine ⟨⟨adV, ?_⟩, fun idx k tx p q => ?_, ?_, ?_⟩
  · rw [hh]; exact vk_S.moved ha h5
  · exact vk_R.same hv (h6 idx k tx p q)
  · rw [hh]; exact va_Z.moved ha h7
  · rw [hh]; exact va_Zq.moved ha h8
theorem a_S0 {a0 : Nat} {H0 H : Heap} {locs : List Loc} (h : va_S (fun _ => False) H0 H locs) : va_S (a_A a0) H0 H locs := ⟨h.1, fun q h1 _ => h.2.1 q h1 (fun z => z), fun l hl => (h.2.2 l hl).elim⟩
theorem a_blS {av : List Value} {ad : Nat → Nat} {a0 : Nat} : FrameBlind (va_Pc av (a_StrE ad a0)) := fun _ _ _ _ q => ⟨q.1, q.2.same rfl rfl⟩
theorem a_blT {av : List Value} : FrameBlind (va_Pc av (fun _ => True)) := fun _ _ _ _ q => ⟨q.1, trivial⟩
theorem a_0 : (0 : Nat) ≤ 0 := Nat.le_refl 0
set_option maxHeartbeats 4000000 in
theorem c_pci (l : Launch) (i n : Int32) (v : Value) (hv2 : v.category = 1) (h0 : ¬ i < 0) (h1 : i < n) : Met l y_pci w_pci ({ frames := 0, cells := 0, slots := 0, locals := 0 }) (va_Pc [.int i, .int n, v] (fun _ => True)) (va_Qi (fun (r : Int32) (_ : Unit) => r = i) (fun _ _ => True) (fun _ => False)) 0 0 (fun _ => False) := by
  refine Met.ofW (cc := b_pci) (maxL := 3) (ret := (some .int)) (by decide +kernel) rfl ?_
  intro p e s m args below meth c s₁ B hml hv
  obtain ⟨rfl, hE⟩ := hv
  have hx := B.exec
  have hb := B.bytes
  have hr := B.returns
  have hts0 := atoms_spec (ws := w_pci) B.pre
  have hts : ∀ w ∈ a_LT, w.before [.int i, .int n, v].toArray s = true := fun w hw => hts0 w (List.mem_cons_of_mem _ hw)
  have hown : s.vm.findClass "jdk/internal/util/Preconditions" = some m.cls := findClass_of_methodNamed B.named
  have hlocks := B.notSynchronized
  have hS : va_S (fun _ => False) s.heap s.heap [] := va_S.rf
  have hl := lv_entry ([.int i, .int n, v]) (n := 3) (by cases v <;> first | (simp [lg_sl, Value.category]; done) | (simp [Value.category] at hv2))
  rw [lg_entry_eq]
  generalize (lg_sl ([.int i, .int n, v]) ++ List.replicate (3 - (lg_sl ([.int i, .int n, v])).length) Slot.unset).toArray = ls at hl ⊢
  have hl : lv_has ls 3 [(0, .int i), (1, .int n)] := lv_sub hl [0, 1] rfl
  refine lv_iload_n hx hb d_pci_0 rfl (lv_at hl 0 rfl) ?_
  refine lv_if_lt (tgt := 9) hx hb d_pci_1 (by decide) (fun q => absurd q h0) (fun _ => ?_)
  refine lv_iload_n hx hb d_pci_4 rfl (lv_at hl 0 rfl) ?_
  refine lv_iload_n hx hb d_pci_5 rfl (lv_at hl 1 rfl) ?_
  refine lv_icmp_lt (tgt := 16) hx hb d_pci_6 (by decide) (fun _ => ?_) (fun q => absurd h1 q)
  refine lv_iload_n hx hb d_pci_16 rfl (lv_at hl 0 rfl) ?_
  exact W.zret (v := i) (ty := .int) hx hb hr rfl (fun t ht hW => ⟨⟨i, (), rfl, rfl, trivial⟩, hS.F ht⟩) hS.2.2 d_pci_17 hlocks
set_option maxHeartbeats 4000000 in
theorem c_sci (l : Launch) (ad : Nat → Nat) (a0 : Nat) (i n : Int32) (h0 : ¬ i < 0) (h1 : i < n) : Met l y_sci w_sci ({ frames := 1, cells := 0, slots := 0, locals := 22 }) (va_Pc [.int i, .int n] (a_StrE ad a0)) (va_Qv (fun (_ : Unit) => True) (fun _ _ => True) (fun _ => False)) 0 0 (fun _ => False) := by
  refine Met.ofW (cc := b_sci) (maxL := 2) (ret := none) (by decide +kernel) rfl ?_
  intro p e s m args below meth c s₁ B hml hv
  obtain ⟨rfl, hE⟩ := hv
  have hx := B.exec
  have hb := B.bytes
  have hr := B.returns
  have hts0 := atoms_spec (ws := w_sci) B.pre
  have hts : ∀ w ∈ a_LT, w.before [.int i, .int n].toArray s = true := fun w hw => hts0 w (List.mem_cons_of_mem _ hw)
  have hown : s.vm.findClass "java/lang/String" = some m.cls := findClass_of_methodNamed B.named
  have hlocks := B.notSynchronized
  have hS : va_S (fun _ => False) s.heap s.heap [] := va_S.rf
  have hl := lv_entry ([.int i, .int n]) (n := 2) (by simp [lg_sl, Value.category])
  rw [lg_entry_eq]
  generalize (lg_sl ([.int i, .int n]) ++ List.replicate (2 - (lg_sl ([.int i, .int n])).length) Slot.unset).toArray = ls at hl ⊢
  have hl : lv_has ls 2 [(0, .int i), (1, .int n)] := by simpa [lv_args, Value.category] using hl
  have go : ∀ v : Value, v.category = 1 → va_Z "jdk/internal/util/Preconditions" "SIOOBE_FORMATTER" "Ljava/util/function/BiFunction;" v (a_A a0) s s.heap → W p l e (headSpec w_sci ({ frames := 1, cells := 0, slots := 0, locals := 22 })).room s m [Value.int i, Value.int n].toArray below meth c s.heap [] 0 0 (MQ below (va_Qv (fun (_ : Unit) => True) (fun _ _ => True) (fun _ => False)) [Value.int i, Value.int n].toArray s 0 0 (fun _ => False)) (F0 m 0 ls []) := by
    intro v hv2 hZ
    refine lv_iload_n hx hb d_sci_0 rfl (lv_at hl 0 rfl) ?_
    refine lv_iload_n hx hb d_sci_1 rfl (lv_at hl 1 rfl) ?_
    refine va_gets hx hb hZ (a_S0 hS) hown (hts _ wf_1053) (fun _ h => h) d_sci_2 ?_
    refine va_calli (va_runS (As := [.int i, .int n, v]) (rest := []) ⟨hx, hb, hml, hown, hts⟩ (c_pci l i n v hv2 h0 h1) (va_cwS 3 hts (a_good (a_app_good (fun w hw => ?_) wg_pci)) rfl rfl rfl ⟨by decide, by decide, by decide +kernel⟩ ⟨Nat.le_of_ble_eq_true rfl, Nat.le_of_ble_eq_true rfl⟩) ⟨a_blT, fun U hU hW => ⟨rfl, trivial⟩⟩ rfl rfl hl.1 rfl (lv_room (Nat.le_of_ble_eq_true rfl)) d_sci_5 ⟨Nat.zero_le _, Nat.zero_le _⟩) hS (fun q _ z => z) (fun q z => z) (fun r u t H1 locs1 ht hvm hw hB hz hk hS => ?_)
    · simp only [List.mem_cons, List.not_mem_nil, or_false] at hw
      rcases hw with rfl | rfl | rfl
      · exact wl_1059
      · exact wt_pci
      · exact wn_P
    · refine lv_pop hx hb d_sci_8 rfl ?_
      exact W.vret hx hb hr (fun t ht hW => ⟨⟨(), rfl, trivial, trivial⟩, hS.F ht⟩) hS.2.2 d_sci_9 hlocks
  rcases hE.2.2.2 with h | ⟨t, h⟩
  · exact go .null rfl h
  · exact go (.ref t) rfl h
set_option maxHeartbeats 4000000 in
theorem c_lca (l : Launch) (ad adV : Nat → Nat) (a0 k j : Nat) (hk : k < 7) (hj : j < a_sl.getD k 0) : Met l y_lca w_lca ({ frames := 2, cells := 0, slots := 0, locals := 43 }) (va_Pc [.ref (adV k), .int (nI j)] (fun U => a_StrE ad a0 U ∧ vk_S 7 a_sl a_sc (fun k => ad (1000 + k)) adV (a_A a0) U U.heap)) (va_Qi (fun (r : Int32) (_ : Unit) => r = ((a_sc.getD k []).getD j 0)) (fun _ _ => True) (fun _ => False)) 0 0 (fun _ => False) := by
  refine Met.ofW (cc := b_lca) (maxL := 2) (ret := (some .char)) (by decide +kernel) rfl ?_
  intro p e s m args below meth c s₁ B hml hv
  obtain ⟨rfl, hE⟩ := hv
  have hx := B.exec
  have hb := B.bytes
  have hr := B.returns
  have hts0 := atoms_spec (ws := w_lca) B.pre
  have hts : ∀ w ∈ a_LT, w.before [.ref (adV k), .int (nI j)].toArray s = true := fun w hw => hts0 w (List.mem_cons_of_mem _ hw)
  have hown : s.vm.findClass "java/lang/StringLatin1" = some m.cls := findClass_of_methodNamed B.named
  have hlocks := B.notSynchronized
  have hS : va_S (fun _ => False) s.heap s.heap [] := va_S.rf
  have hl := lv_entry ([.ref (adV k), .int (nI j)]) (n := 2) (by simp [lg_sl, Value.category])
  rw [lg_entry_eq]
  generalize (lg_sl ([.ref (adV k), .int (nI j)]) ++ List.replicate (2 - (lg_sl ([.ref (adV k), .int (nI j)])).length) Slot.unset).toArray = ls at hl ⊢
  have hl : lv_has ls 2 [(0, .ref (adV k)), (1, .int (nI j))] := by simpa [lv_args, Value.category] using hl
  have hT := (hE.2.1 k hk).2.2.2
  have hn : a_sl.getD k 0 < 2 ^ 31 ∧ ∀ j, j < a_sl.getD k 0 → narrow .char (.int ((a_sc.getD k []).getD j 0)) = .int ((a_sc.getD k []).getD j 0) ∧ (((a_sc.getD k []).getD j 0 &&& (Int16.ofInt 255).toInt32).toUInt32 % 65536).toInt32 = (a_sc.getD k []).getD j 0 := by
    have : ∀ k, k < 7 → a_sl.getD k 0 < 2 ^ 31 ∧ ∀ j, j < a_sl.getD k 0 → narrow .char (.int ((a_sc.getD k []).getD j 0)) = .int ((a_sc.getD k []).getD j 0) ∧ (((a_sc.getD k []).getD j 0 &&& (Int16.ofInt 255).toInt32).toUInt32 % 65536).toInt32 = (a_sc.getD k []).getD j 0 := by decide +kernel
    exact this k hk
  have hn1 := hn.1
  have hc : ∀ q, q < s.heap.size → True := fun _ _ => trivial
  refine lv_iload_n hx hb d_lca_0 rfl (lv_at hl 1 rfl) ?_
  refine lv_aload_n hx hb d_lca_1 rfl (lv_at hl 0 rfl) ?_
  refine va_tlen hx hb hT (a_S0 hS) (v := nI (a_sl.getD k 0)) rfl d_lca_2 ?_
  refine va_callv (va_runS (As := [.int (nI j), .int (nI (a_sl.getD k 0))]) (rest := []) ⟨hx, hb, hml, hown, hts⟩ (c_sci l ad a0 (nI j) (nI (a_sl.getD k 0)) (nI_pos (by omega)) (nI_lt hj (by omega))) (va_cwS 2 hts (a_good (a_app_good (fun w hw => ?_) wg_sci)) rfl rfl rfl ⟨by decide, by decide, by decide +kernel⟩ ⟨Nat.le_of_ble_eq_true rfl, Nat.le_of_ble_eq_true rfl⟩) ⟨a_blS, fun U hU hW => ⟨rfl, hE.1.to hW (by rw [hU]; exact a_S0 hS)⟩⟩ rfl rfl hl.1 rfl (lv_room (Nat.le_of_ble_eq_true rfl)) d_lca_3 ⟨Nat.zero_le _, Nat.zero_le _⟩) hS (fun q _ z => z) (fun q z => z) (fun u t H1 locs1 ht hvm hw hB hz hk2 hS => ?_)
  · simp only [List.mem_cons, List.not_mem_nil, or_false] at hw
    rcases hw with rfl | rfl | rfl
    · exact wl_9
    · exact wt_sci
    · exact wn_S
  · refine lv_aload_n hx hb d_lca_6 rfl (lv_at hl 0 rfl) ?_
    refine lv_iload_n hx hb d_lca_7 rfl (lv_at hl 1 rfl) ?_
    refine va_tb hx hb hT (a_S0 hS) (vp_in_nI hj (by omega)) (v := .int ((a_sc.getD k []).getD j 0)) (by rw [nI_clamp (by omega)]) d_lca_8 ?_
    refine lv_sipush hx hb d_lca_9 rfl ?_
    refine lv_iand hx hb d_lca_12 ?_
    refine lv_i2c hx hb d_lca_13 ((hn.2 j hj).2) ?_
    exact W.zret (v := (a_sc.getD k []).getD j 0) (ty := .char) hx hb hr (hn.2 j hj).1 (fun t ht hW => ⟨⟨_, (), rfl, rfl, trivial⟩, hS.F ht⟩) hS.2.2 d_lca_14 hlocks
set_option maxHeartbeats 4000000 in
theorem c_isl (l : Launch) (ad : Nat → Nat) (a0 k : Nat) (hk : k < 7) : Met l y_isl w_isl ({ frames := 0, cells := 0, slots := 0, locals := 0 }) (va_Pc [.ref (ad (1000 + k))] (a_StrE ad a0)) (va_Qi (fun (r : Int32) (_ : Unit) => r = 1) (fun _ _ => True) (fun _ => False)) 0 0 (fun _ => False) := by
  refine Met.ofW (cc := b_isl) (maxL := 1) (ret := (some .boolean)) (by decide +kernel) rfl ?_
  intro p e s m args below meth c s₁ B hml hv
  obtain ⟨rfl, hE⟩ := hv
  have hx := B.exec
  have hb := B.bytes
  have hr := B.returns
  have hts0 := atoms_spec (ws := w_isl) B.pre
  have hts : ∀ w ∈ a_LT, w.before [.ref (ad (1000 + k))].toArray s = true := fun w hw => hts0 w (List.mem_cons_of_mem _ hw)
  have hown : s.vm.findClass "java/lang/String" = some m.cls := findClass_of_methodNamed B.named
  have hlocks := B.notSynchronized
  have hS : va_S (fun _ => False) s.heap s.heap [] := va_S.rf
  have hl := lv_entry ([.ref (ad (1000 + k))]) (n := 1) (by simp [lg_sl, Value.category])
  rw [lg_entry_eq]
  generalize (lg_sl ([.ref (ad (1000 + k))]) ++ List.replicate (1 - (lg_sl ([.ref (ad (1000 + k))])).length) Slot.unset).toArray = ls at hl ⊢
  have hl : lv_has ls 1 [(0, .ref (ad (1000 + k)))] := by simpa [lv_args, Value.category] using hl
  obtain ⟨⟨adV, h5⟩, h6, h7, h8⟩ := hE
  refine va_gets hx hb h7 (a_S0 hS) hown (hts _ wf_38) (fun _ h => h) d_isl_0 ?_
  refine lv_if_eq (tgt := 17) hx hb d_isl_3 (by decide) (fun q => absurd q (by decide)) (fun _ => ?_)
  refine lv_aload_n hx hb d_isl_6 rfl (lv_at hl 0 rfl) ?_
  refine vk_getf hx hb (h5.1 k hk).2.1 (a_S0 hS) hown (hts _ wf_15) (fun _ h => h) d_isl_7 ?_
  refine lv_if_ne (tgt := 17) hx hb d_isl_10 (by decide) (fun q => absurd rfl q) (fun _ => ?_)
  refine lv_iconst (v := 1) hx hb d_isl_13 (by decide) ?_
  refine lv_goto (tgt := 18) hx hb d_isl_14 (by decide) ?_
  exact W.zret (v := 1) (ty := .boolean) hx hb hr rfl (fun t ht hW => ⟨⟨1, (), rfl, rfl, trivial⟩, hS.F ht⟩) hS.2.2 d_isl_18 hlocks
set_option maxHeartbeats 4000000 in
theorem c_cod (l : Launch) (ad : Nat → Nat) (a0 k : Nat) (hk : k < 7) : Met l y_cod w_cod ({ frames := 0, cells := 0, slots := 0, locals := 0 }) (va_Pc [.ref (ad (1000 + k))] (a_StrE ad a0)) (va_Qi (fun (r : Int32) (_ : Unit) => r = 0) (fun _ _ => True) (fun _ => False)) 0 0 (fun _ => False) := by
  refine Met.ofW (cc := b_cod) (maxL := 1) (ret := (some .byte)) (by decide +kernel) rfl ?_
  intro p e s m args below meth c s₁ B hml hv
  obtain ⟨rfl, hE⟩ := hv
  have hx := B.exec
  have hb := B.bytes
  have hr := B.returns
  have hts0 := atoms_spec (ws := w_cod) B.pre
  have hts : ∀ w ∈ a_LT, w.before [.ref (ad (1000 + k))].toArray s = true := fun w hw => hts0 w (List.mem_cons_of_mem _ hw)
  have hown : s.vm.findClass "java/lang/String" = some m.cls := findClass_of_methodNamed B.named
  have hlocks := B.notSynchronized
  have hS : va_S (fun _ => False) s.heap s.heap [] := va_S.rf
  have hl := lv_entry ([.ref (ad (1000 + k))]) (n := 1) (by simp [lg_sl, Value.category])
  rw [lg_entry_eq]
  generalize (lg_sl ([.ref (ad (1000 + k))]) ++ List.replicate (1 - (lg_sl ([.ref (ad (1000 + k))])).length) Slot.unset).toArray = ls at hl ⊢
  have hl : lv_has ls 1 [(0, .ref (ad (1000 + k)))] := by simpa [lv_args, Value.category] using hl
  obtain ⟨⟨adV, h5⟩, h6, h7, h8⟩ := hE
  refine va_gets hx hb h7 (a_S0 hS) hown (hts _ wf_38) (fun _ h => h) d_cod_0 ?_
  refine lv_if_eq (tgt := 13) hx hb d_cod_3 (by decide) (fun q => absurd q (by decide)) (fun _ => ?_)
  refine lv_aload_n hx hb d_cod_6 rfl (lv_at hl 0 rfl) ?_
  refine vk_getf hx hb (h5.1 k hk).2.1 (a_S0 hS) hown (hts _ wf_15) (fun _ h => h) d_cod_7 ?_
  refine lv_goto (tgt := 14) hx hb d_cod_10 (by decide) ?_
  exact W.zret (v := 0) (ty := .byte) hx hb hr rfl (fun t ht hW => ⟨⟨0, (), rfl, rfl, trivial⟩, hS.F ht⟩) hS.2.2 d_cod_14 hlocks
set_option maxHeartbeats 4000000 in
theorem c_len (l : Launch) (ad : Nat → Nat) (a0 k : Nat) (hk : k < 7) : Met l y_len w_len ({ frames := 1, cells := 0, slots := 0, locals := 20 }) (va_Pc [.ref (ad (1000 + k))] (a_StrE ad a0)) (va_Qi (fun (r : Int32) (_ : Unit) => r = nI (a_sl.getD k 0)) (fun _ _ => True) (fun _ => False)) 0 0 (fun _ => False) := by
  refine Met.ofW (cc := b_len) (maxL := 1) (ret := (some .int)) (by decide +kernel) rfl ?_
  intro p e s m args below meth c s₁ B hml hv
  obtain ⟨rfl, hE⟩ := hv
  have hx := B.exec
  have hb := B.bytes
  have hr := B.returns
  have hts0 := atoms_spec (ws := w_len) B.pre
  have hts : ∀ w ∈ a_LT, w.before [.ref (ad (1000 + k))].toArray s = true := fun w hw => hts0 w (List.mem_cons_of_mem _ hw)
  have hown : s.vm.findClass "java/lang/String" = some m.cls := findClass_of_methodNamed B.named
  have hlocks := B.notSynchronized
  have hS : va_S (fun _ => False) s.heap s.heap [] := va_S.rf
  have hl := lv_entry ([.ref (ad (1000 + k))]) (n := 1) (by simp [lg_sl, Value.category])
  rw [lg_entry_eq]
  generalize (lg_sl ([.ref (ad (1000 + k))]) ++ List.replicate (1 - (lg_sl ([.ref (ad (1000 + k))])).length) Slot.unset).toArray = ls at hl ⊢
  have hl : lv_has ls 1 [(0, .ref (ad (1000 + k)))] := by simpa [lv_args, Value.category] using hl
  obtain ⟨⟨adV, h5⟩, h6, h7, h8⟩ := id hE
  have hsh : nI (a_sl.getD k 0) >>> ((0 : Int32) &&& 31) = nI (a_sl.getD k 0) := by
    have : ∀ k, k < 7 → nI (a_sl.getD k 0) >>> ((0 : Int32) &&& 31) = nI (a_sl.getD k 0) := by decide +kernel
    exact this k hk
  refine lv_aload_n hx hb d_len_0 rfl (lv_at hl 0 rfl) ?_
  refine vk_getf hx hb (h5.1 k hk).2.2.1 (a_S0 hS) hown (hts _ wf_9) (fun _ h => h) d_len_1 ?_
  refine va_tlen hx hb (h5.1 k hk).2.2.2 (a_S0 hS) (v := nI (a_sl.getD k 0)) rfl d_len_4 ?_
  refine lv_aload_n hx hb d_len_5 rfl (lv_at hl 0 rfl) ?_
  refine va_calli (va_runV (As := []) (rest := [.int (nI (a_sl.getD k 0))]) ⟨hx, hb, hml, hown, hts⟩ (c_cod l ad a0 k hk) (cwV 0 hts (a_good (a_app_good (fun w hw => ?_) wg_cod)) rfl rfl rfl ⟨rfl, by decide, by decide, by decide +kernel⟩ ⟨Nat.le_of_ble_eq_true rfl, Nat.le_of_ble_eq_true rfl⟩) ⟨a_blS, vk_recv h5 hk (a_S0 hS), fun U hU hW => ⟨rfl, hE.to hW (by rw [hU]; exact a_S0 hS)⟩⟩ rfl rfl hl.1 rfl (lv_room (Nat.le_of_ble_eq_true rfl)) d_len_6 ⟨Nat.zero_le _, Nat.zero_le _⟩) hS (fun q _ z => z) (fun q z => z) (fun r u t H1 locs1 ht hvm hw hB hz hk2 hS => ?_)
  · simp only [List.mem_cons, List.not_mem_nil, or_false] at hw
    rcases hw with rfl | rfl | rfl | rfl
    · exact wl_335
    · exact wi_cod
    · exact ws_cod
    · exact wn_S
  · subst hw
    refine lv_ishr hx hb d_len_9 ?_
    rw [hsh]
    exact W.zret (v := nI (a_sl.getD k 0)) (ty := .int) hx hb hr rfl (fun t ht hW => ⟨⟨_, (), rfl, rfl, trivial⟩, hS.F ht⟩) hS.2.2 d_len_10 hlocks
set_option maxHeartbeats 4000000 in
theorem c_cha (l : Launch) (ad : Nat → Nat) (a0 k j : Nat) (hk : k < 7) (hj : j < a_sl.getD k 0) : Met l y_cha w_cha ({ frames := 3, cells := 0, slots := 0, locals := 64 }) (va_Pc [.ref (ad (1000 + k)), .int (nI j)] (a_StrE ad a0)) (va_Qi (fun (r : Int32) (_ : Unit) => r = ((a_sc.getD k []).getD j 0)) (fun _ _ => True) (fun _ => False)) 0 0 (fun _ => False) := by
  refine Met.ofW (cc := b_cha) (maxL := 2) (ret := (some .char)) (by decide +kernel) rfl ?_
  intro p e s m args below meth c s₁ B hml hv
  obtain ⟨rfl, hE⟩ := hv
  have hx := B.exec
  have hb := B.bytes
  have hr := B.returns
  have hts0 := atoms_spec (ws := w_cha) B.pre
  have hts : ∀ w ∈ a_LT, w.before [.ref (ad (1000 + k)), .int (nI j)].toArray s = true := fun w hw => hts0 w (List.mem_cons_of_mem _ hw)
  have hown : s.vm.findClass "java/lang/String" = some m.cls := findClass_of_methodNamed B.named
  have hlocks := B.notSynchronized
  have hS : va_S (fun _ => False) s.heap s.heap [] := va_S.rf
  have hl := lv_entry ([.ref (ad (1000 + k)), .int (nI j)]) (n := 2) (by simp [lg_sl, Value.category])
  rw [lg_entry_eq]
  generalize (lg_sl ([.ref (ad (1000 + k)), .int (nI j)]) ++ List.replicate (2 - (lg_sl ([.ref (ad (1000 + k)), .int (nI j)])).length) Slot.unset).toArray = ls at hl ⊢
  have hl : lv_has ls 2 [(0, .ref (ad (1000 + k))), (1, .int (nI j))] := by simpa [lv_args, Value.category] using hl
  obtain ⟨⟨adV, h5⟩, h6, h7, h8⟩ := id hE
  have hn : narrow .char (.int ((a_sc.getD k []).getD j 0)) = .int ((a_sc.getD k []).getD j 0) := by
    have : ∀ k, k < 7 → ∀ j, j < a_sl.getD k 0 → narrow .char (.int ((a_sc.getD k []).getD j 0)) = .int ((a_sc.getD k []).getD j 0) := by decide +kernel
    exact this k hk j hj
  refine lv_aload_n hx hb d_cha_0 rfl (lv_at hl 0 rfl) ?_
  refine va_calli (va_runV (As := []) (rest := []) ⟨hx, hb, hml, hown, hts⟩ (c_isl l ad a0 k hk) (cwV 0 hts (a_good (a_app_good (fun w hw => ?_) wg_isl)) rfl rfl rfl ⟨rfl, by decide, by decide, by decide +kernel⟩ ⟨Nat.le_of_ble_eq_true rfl, Nat.le_of_ble_eq_true rfl⟩) ⟨a_blS, vk_recv h5 hk (a_S0 hS), fun U hU hW => ⟨rfl, hE.to hW (by rw [hU]; exact a_S0 hS)⟩⟩ rfl rfl hl.1 rfl (lv_room (Nat.le_of_ble_eq_true rfl)) d_cha_1 ⟨Nat.zero_le _, Nat.zero_le _⟩) hS (fun q _ z => z) (fun q z => z) (fun r u t H1 locs1 ht hvm hw hB hz hk2 hS => ?_)
  · simp only [List.mem_cons, List.not_mem_nil, or_false] at hw
    rcases hw with rfl | rfl | rfl | rfl
    · exact wl_492
    · exact wi_isl
    · exact ws_isl
    · exact wn_S
  · subst hw
    refine lv_if_eq (tgt := 16) hx hb d_cha_4 (by decide) (fun q => absurd q (by decide)) (fun _ => ?_)
    refine lv_aload_n hx hb d_cha_7 rfl (lv_at hl 0 rfl) ?_
    refine vk_getf hx hb (h5.1 k hk).2.2.1 (a_S0 hS) hown (hts _ wf_9) (fun _ h => h) d_cha_8 ?_
    refine lv_iload_n hx hb d_cha_11 rfl (lv_at hl 1 rfl) ?_
    refine va_calli (va_runS (As := [.ref (adV k), .int (nI j)]) (rest := []) ⟨hx, hb, hml, hown, hts⟩ (c_lca l ad adV a0 k j hk hj) (va_cwS 2 hts (a_good (a_app_good (fun w hw => ?_) wg_lca)) rfl rfl rfl ⟨by decide, by decide, by decide +kernel⟩ ⟨Nat.le_of_ble_eq_true rfl, Nat.le_of_ble_eq_true rfl⟩) ⟨fun _ _ _ _ q => ⟨q.1, q.2.1.same rfl rfl, q.2.2⟩, fun U hU hW => ⟨rfl, hE.to hW (by rw [hU]; exact a_S0 hS), vk_S.moved hW.alike (by rw [hU]; exact h5.kept (a_S0 hS).2.1)⟩⟩ rfl rfl hl.1 rfl (lv_room (Nat.le_of_ble_eq_true rfl)) d_cha_12 ⟨Nat.zero_le _, Nat.zero_le _⟩) hS (fun q _ z => z) (fun q z => z) (fun r u t H1 locs1 ht hvm hw hB hz hk2 hS => ?_)
    · simp only [List.mem_cons, List.not_mem_nil, or_false] at hw
      rcases hw with rfl | rfl | rfl
      · exact wl_495
      · exact wt_lca
      · exact wn_L
    · subst hw
      exact W.zret (v := (a_sc.getD k []).getD j 0) (ty := .char) hx hb hr hn (fun t ht hW => ⟨⟨_, (), rfl, rfl, trivial⟩, hS.F ht⟩) hS.2.2 d_cha_15 hlocks
