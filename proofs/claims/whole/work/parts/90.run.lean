/-! ===== the law's run, from its first step ===== -/
section RUN
variable {X : a_X} {n : Nat} {M : a_Mth} {pc : Nat} {lv : a_LV} {st : List Value} {h : a_H} {R : Option Value × a_H}
theorem arun_p1 {pc' : Nat} {lv' : a_LV} {st' : List Value} (h1 : a_p1 M pc lv st = some (pc', lv', st')) (k : arun X n M pc' lv' st' h = some R) : arun X (n + 1) M pc lv st h = some R := by
  rw [arun_s]
  unfold abody
  unfold a_p1 at h1
  cases ha : a_at M pc with
  | none => rw [ha] at h1; cases h1
  | some p =>
    obtain ⟨i, ln⟩ := p
    rw [ha] at h1
    simp only at h1 ⊢
    cases hb : Nat.beq ln (a_len i ln) with
    | false => rw [hb] at h1; cases h1
    | true =>
      rw [hb] at h1
      cases i <;> first | (cases h1; done) | (simp only at h1; simp only [a_call, h1]; exact k)
theorem arun_nw {idx pc' : Nat} {lv' : a_LV} {st' : List Value} {h' : a_H} (h0 : a_at M pc = some (.new idx, 3)) (h2 : a_heap X M (.new idx) pc lv st h = some (pc', lv', st', h')) (k : arun X n M pc' lv' st' h' = some R) : arun X (n + 1) M pc lv st h = some R := by
  rw [arun_s]
  unfold abody
  rw [h0]
  have hl : Nat.beq 3 (a_len (.new idx) 3) = true := rfl
  have hc : a_call M (.new idx) st h.1 = none := rfl
  have hp : a_pure (.new idx) pc lv st = none := by rcases st with _ | ⟨a, _ | ⟨b, _ | ⟨c, _ | ⟨d, t⟩⟩⟩⟩ <;> first | rfl | (cases a <;> first | rfl | (cases b <;> first | rfl | (cases c <;> first | rfl | (cases d <;> rfl))))
  simp only [hl, hc, hp, h2]
  exact k
theorem arun_cl {idx : Nat} {M' : a_Mth} {as rest : List Value} {r : Option Value} {h' : a_H} (h0 : a_at M pc = some (.invokespecial idx, 3)) (hc : a_call M (.invokespecial idx) st h.1 = some (M', as, rest)) (hr : arun X n M' 0 (a_loc M' as) [] h = some (r, h')) (hst : a_stay h h' lv rest = true) (k : arun X n M (pc + 3) lv (r.toList ++ rest) h' = some R) : arun X (n + 1) M pc lv st h = some R := by
  rw [arun_s]
  unfold abody
  rw [h0]
  have hl : Nat.beq 3 (a_len (.invokespecial idx) 3) = true := rfl
  simp only [hl, hc, hr, hst]
  exact k
theorem isN_s {o : Option (Option Value × a_H)} (h : isN o = true) : ∃ a, o = some (none, a) := by
  unfold isN at h
  split at h
  · exact ⟨_, rfl⟩
  · cases h
theorem bOk_m {m : Nat → Nat → Int32} {c o k : Nat} {v : Int32} (h : bOk m (c, o, k, v) = true) (i : Nat) (h1 : o ≤ i) (h2 : i < o + k) : m c i = v := by
  have h3 : decide (m c (o + (i - o)) = v) = true := List.all_eq_true.mp h (i - o) (List.mem_range.mpr (show i - o < k by omega))
  rw [show o + (i - o) = i by omega] at h3
  exact of_decide_eq_true h3
abbrev n77 (m : Nat → Nat → Int32) : a_H := (a_SH.take 77 ++ [.inl (9, a_dflt 9)], a_row m 77 (fun _ => 0))
theorem and5 {a b c d e : Bool} (h : (a && b && c && d && e) = true) : a = true ∧ b = true ∧ c = true ∧ d = true ∧ e = true := by
  simp only [Bool.and_eq_true] at h
  exact ⟨h.1.1.1.1, h.1.1.1.2, h.1.1.2, h.1.2, h.2⟩
theorem isN_b1 : isN r1 = true → r1 = some (none, b1) := fun h => by
  obtain ⟨a, e⟩ := isN_s h
  have eb : b1 = a := by unfold b1; rw [e]
  rw [eb]
  exact e
theorem isN_b3 : isN r2 = true → r2 = some (none, b3) := fun h => by
  obtain ⟨a, e⟩ := isN_s h
  have eb : b3 = a := by unfold b3; rw [e]
  rw [eb]
  exact e
theorem pair_of {a : a_H} {s : List a_C} (h : a.1 = s) : a = (s, a.2) := by rw [← h]
theorem birth : ∃ μ1 μ3 : Nat → Nat → Int32, arun none 3000 mX8_init 0 (a_loc mX8_init [.ref 0]) [] b0 = some (none, (a_SH.take 77, μ1)) ∧ arun none 6000 mX9_init 0 (a_loc mX9_init [.ref 77]) [] (n77 μ1) = some (none, (a_SH, μ3)) ∧ ∀ q, q ∈ bT → bOk μ3 q = true := by
  obtain ⟨h1, h2, h3, h4, h5⟩ := and5 b_all
  have k1 := isN_b1 h1
  have k3 := isN_b3 h3
  have g1 := pair_of (of_decide_eq_true h2)
  have g3 := pair_of (of_decide_eq_true h4)
  have hm := List.all_eq_true.mp h5
  unfold r1 at k1
  unfold r2 b2 at k3
  rw [of_decide_eq_true h2] at k3
  rw [g1] at k1
  rw [g3] at k3
  exact ⟨b1.2, b3.2, k1, k3, hm⟩
theorem law_pre {L : Nat} {xs : Nat → Int32} {n : Nat} {μ1 μ3 : Nat → Nat → Int32} (R1 : arun none 3000 mX8_init 0 (a_loc mX8_init [.ref 0]) [] b0 = some (none, (a_SH.take 77, μ1))) (R2 : arun none 6000 mX9_init 0 (a_loc mX9_init [.ref 77]) [] (n77 μ1) = some (none, (a_SH, μ3))) (k : arun (some (L, xs)) n mL_law 18 [some (.ref 2000), some (.ref 0), some (.ref 77), some (.int 0)] [] (a_SH, μ3) = some R) : arun (some (L, xs)) (n + 6000 + 10) mL_law 0 [some (.ref 2000), none, none, none] [] ([], fun _ _ => 0) = some R := by
  replace R1 := arun_X (X := some (L, xs)) _ _ _ _ _ _ _ R1
  replace R2 := arun_X (X := some (L, xs)) _ _ _ _ _ _ _ R2
  refine arun_nw (st' := [.ref 0]) (lv' := [some (.ref 2000), none, none, none]) (pc' := 3) (h' := b0) rfl rfl ?_
  refine arun_p1 (pc' := 4) (lv' := [some (.ref 2000), none, none, none]) (st' := [.ref 0, .ref 0]) rfl ?_
  refine arun_cl (M' := mX8_init) (as := [.ref 0]) (rest := [.ref 0]) (r := none) (h' := (a_SH.take 77, μ1)) rfl rfl (arun_mono (by omega) R1) ((Bool.or_eq_true _ _).mpr (Or.inr (show a_wf [.inl (8, a_dflt 8)] _ _ = true by decide +kernel))) ?_
  refine arun_p1 (pc' := 8) (lv' := [some (.ref 2000), some (.ref 0), none, none]) (st' := []) rfl ?_
  refine arun_nw (st' := [.ref 77]) (lv' := [some (.ref 2000), some (.ref 0), none, none]) (pc' := 11) (h' := n77 μ1) rfl rfl ?_
  refine arun_p1 (pc' := 12) (lv' := [some (.ref 2000), some (.ref 0), none, none]) (st' := [.ref 77, .ref 77]) rfl ?_
  refine arun_cl (M' := mX9_init) (as := [.ref 77]) (rest := [.ref 77]) (r := none) (h' := (a_SH, μ3)) rfl rfl (arun_mono (by omega) R2) ((Bool.or_eq_true _ _).mpr (Or.inr (show a_wf (a_SH.take 77 ++ [.inl (9, a_dflt 9)]) _ _ = true by decide +kernel))) ?_
  refine arun_p1 (pc' := 16) (lv' := [some (.ref 2000), some (.ref 0), some (.ref 77), none]) (st' := []) rfl ?_
  refine arun_p1 (pc' := 17) (lv' := [some (.ref 2000), some (.ref 0), some (.ref 77), none]) (st' := [.int 0]) rfl ?_
  refine arun_p1 (pc' := 18) (lv' := [some (.ref 2000), some (.ref 0), some (.ref 77), some (.int 0)]) (st' := []) rfl ?_
  exact arun_mono (by omega) k
/-- all that there is at first -/
def S0 : ST := (untP, awayB 0, (false, awayB 0), (false, awayB 0), eF, (0, fun _ => 0), -1)
theorem S0_V : VS S0 := ⟨vp_unt, VB.away _ _, fun q => absurd (show false = true from q) (by decide), fun q => absurd (show false = true from q) (by decide), VF.e _, Nat.zero_le _, fun i hi => absurd hi (Nat.not_lt_zero i)⟩
def HM (m : Nat → Nat → Int32) : Prop := ∀ q, q ∈ bT → bOk m q = true
theorem HM.z {m : Nat → Nat → Int32} (H : HM m) {c o k : Nat} {v : Int32} (hm : (c, o, k, v) ∈ bT) (i : Nat) (h1 : o ≤ i) (h2 : i < o + k) : m c i = v := bOk_m (H _ hm) i h1 h2
theorem isS_no {x : Int32} {p : Nat → Bool} (e : x = 0) (h : ∀ i, p i = false) : isS x p := by
  rw [e]
  exact isS_0.cg fun i _ => (h i).symm
theorem S0_C {m : Nat → Nat → Int32} (H : HM m) : CI m S0 := by
  have no : ∀ (q : Nat → Bool) i, (decide (i < 0) && q i) = false := fun q i => by rw [decide_eq_false (Nat.not_lt_zero i), Bool.false_and]
  refine ⟨⟨fun i hi => ?_, fun x hx => H.z (c := 2) (o := 0) (k := 16) (v := 1) (by decide) x (by omega) (by omega), fun y hy => isS_no (H.z (c := 3) (o := 0) (k := 8) (v := 0) (by decide) y (by omega) (by omega)) fun i => by show (_ && false) = false; rw [Bool.and_false], fun k hk => absurd hk (Nat.not_lt_zero k)⟩, ?_, ?_, ?_, ?_, ?_, ?_, ?_, ?_⟩
  · rcases (by omega : i = 0 ∨ i = 1 ∨ i = 2 ∨ i = 3 ∨ i = 4 ∨ i = 5 ∨ i = 6) with q | q | q | q | q | q | q <;> subst q
    · exact H.z (c := 1) (o := 0) (k := 1) (v := 16) (by decide) 0 (by omega) (by omega)
    · exact H.z (c := 1) (o := 1) (k := 1) (v := 8) (by decide) 1 (by omega) (by omega)
    · exact H.z (c := 1) (o := 2) (k := 1) (v := 3) (by decide) 2 (by omega) (by omega)
    · exact H.z (c := 1) (o := 3) (k := 1) (v := 10) (by decide) 3 (by omega) (by omega)
    · exact H.z (c := 1) (o := 4) (k := 1) (v := 60) (by decide) 4 (by omega) (by omega)
    · exact H.z (c := 1) (o := 5) (k := 2) (v := 0) (by decide) 5 (by omega) (by omega)
    · exact H.z (c := 1) (o := 5) (k := 2) (v := 0) (by decide) 6 (by omega) (by omega)
  · refine ⟨H.z (c := 15) (o := 1) (k := 3) (v := 0) (by decide) 1 (by omega) (by omega), H.z (c := 15) (o := 1) (k := 3) (v := 0) (by decide) 2 (by omega) (by omega), H.z (c := 15) (o := 1) (k := 3) (v := 0) (by decide) 3 (by omega) (by omega), isS_no (H.z (c := 15) (o := 9) (k := 1) (v := 0) (by decide) 9 (by omega) (by omega)) (no _), fun i hi => absurd hi (Nat.not_lt_zero i), fun o ho => H.z (c := 20) (o := 0) (k := 6) (v := 0) (by decide) o (by omega) (by omega), fun c hc => ⟨isS_no (H.z (c := 21) (o := 0) (k := 128) (v := 0) (by decide) c (by omega) (by omega)) (no _), isS_no (H.z (c := 22) (o := 0) (k := 128) (v := 0) (by decide) c (by omega) (by omega)) (no _)⟩⟩
  · exact ⟨H.z (c := 23) (o := 1) (k := 1) (v := 0) (by decide) 1 (by omega) (by omega), fun q => absurd (show false = true from q) (by decide)⟩
  · exact ⟨H.z (c := 32) (o := 1) (k := 1) (v := 0) (by decide) 1 (by omega) (by omega), fun q => absurd (show false = true from q) (by decide)⟩
  · exact ⟨H.z (c := 71) (o := 1) (k := 1) (v := 0) (by decide) 1 (by omega) (by omega), fun c hc => ⟨isS_no (H.z (c := 72) (o := 0) (k := 128) (v := 0) (by decide) c (by omega) (by omega)) (no _), H.z (c := 73) (o := 0) (k := 128) (v := -2) (by decide) c (by omega) (by omega)⟩⟩
  · exact ⟨H.z (c := 13) (o := 1) (k := 1) (v := 0) (by decide) 1 (by omega) (by omega), fun i hi => absurd hi (Nat.not_lt_zero i), H.z (c := 13) (o := 5) (k := 1) (v := -1) (by decide) 5 (by omega) (by omega)⟩
  · exact fun i hi => ⟨H.z (c := 45) (o := 0) (k := 20) (v := 0) (by decide) i (by omega) (by omega), H.z (c := 46) (o := 0) (k := 20) (v := 0) (by decide) i (by omega) (by omega)⟩
  · exact fun i hi => ⟨H.z (c := 63) (o := 0) (k := 20) (v := 0) (by decide) i (by omega) (by omega), H.z (c := 64) (o := 0) (k := 20) (v := 0) (by decide) i (by omega) (by omega)⟩
  · exact fun i hi => ⟨H.z (c := 69) (o := 0) (k := 20) (v := 0) (by decide) i (by omega) (by omega), H.z (c := 70) (o := 0) (k := 20) (v := 0) (by decide) i (by omega) (by omega)⟩
theorem S0_M {m : Nat → Nat → Int32} (H : HM m) : MI m S0 := by
  refine ⟨⟨fun i hi => ?_, H.z (c := 77) (o := 5) (k := 1) (v := 0) (by decide) 5 (by omega) (by omega), H.z (c := 77) (o := 9) (k := 1) (v := 0) (by decide) 9 (by omega) (by omega), fun x hx => H.z (c := 81) (o := 0) (k := 16) (v := 1) (by decide) x (by omega) (by omega), fun c hc => H.z (c := 82) (o := 0) (k := 128) (v := 0) (by decide) c (by omega) (by omega), fun k hk => absurd hk (Nat.not_lt_zero k)⟩, ?_, ?_, ?_, ?_, ?_⟩
  · rcases (by omega : i = 0 ∨ i = 1 ∨ i = 2 ∨ i = 3 ∨ i = 4) with q | q | q | q | q <;> subst q
    · exact H.z (c := 80) (o := 0) (k := 1) (v := 16) (by decide) 0 (by omega) (by omega)
    · exact H.z (c := 80) (o := 1) (k := 1) (v := 8) (by decide) 1 (by omega) (by omega)
    · exact H.z (c := 80) (o := 2) (k := 1) (v := 3) (by decide) 2 (by omega) (by omega)
    · exact H.z (c := 80) (o := 3) (k := 1) (v := 10) (by decide) 3 (by omega) (by omega)
    · exact H.z (c := 80) (o := 4) (k := 1) (v := 60) (by decide) 4 (by omega) (by omega)
  · exact ⟨H.z (c := 78) (o := 180) (k := 2) (v := 0) (by decide) 180 (by omega) (by omega), H.z (c := 78) (o := 180) (k := 2) (v := 0) (by decide) 181 (by omega) (by omega), H.z (c := 78) (o := 190) (k := 1) (v := 0) (by decide) 190 (by omega) (by omega), fun i hi => absurd hi (Nat.not_lt_zero i), fun o ho => H.z (c := 78) (o := 182) (k := 6) (v := 0) (by decide) (0 + 182 + o) (by omega) (by omega)⟩
  · exact ⟨H.z (c := 79) (o := 0) (k := 2) (v := 0) (by decide) 0 (by omega) (by omega), fun q => absurd (show false = true from q) (by decide)⟩
  · exact ⟨H.z (c := 79) (o := 0) (k := 2) (v := 0) (by decide) 1 (by omega) (by omega), fun q => absurd (show false = true from q) (by decide)⟩
  · exact ⟨H.z (c := 77) (o := 26) (k := 1) (v := 0) (by decide) 26 (by omega) (by omega), fun i hi => absurd hi (Nat.not_lt_zero i), fun c hc => H.z (c := 94) (o := 0) (k := 128) (v := 0) (by decide) c (by omega) (by omega)⟩
  · exact ⟨H.z (c := 77) (o := 13) (k := 1) (v := 0) (by decide) 13 (by omega) (by omega), fun i hi => absurd hi (Nat.not_lt_zero i), H.z (c := 77) (o := 18) (k := 1) (v := -1) (by decide) 18 (by omega) (by omega)⟩
theorem a_SH97 : a_SH.length ≤ 97 ∧ a_szs a_SH ≤ 6780 := by decide +kernel
theorem law_run {L : Nat} {xs : Nat → Int32} (hL : L ≤ 2560) : ∃ n h', arun (some (L, xs)) n mL_law 0 [some (.ref 2000), none, none, none] [] ([], fun _ _ => 0) = some (some (.int 1), h') ∧ h'.1.length ≤ 97 ∧ a_szs h'.1 ≤ 6780 := by
  obtain ⟨μ1, μ3, R1, R2, H⟩ := birth
  obtain ⟨n, r, m', h1, h2⟩ := law_loop (xs := xs) hL (L + 5) 0 (by omega) (by omega) μ3 S0 S0_V (S0_C H) (S0_M H)
  have h2 : r = some (.int 1) := h2
  subst h2
  exact ⟨_, _, law_pre R1 R2 h1, a_SH97⟩
end RUN
theorem whole_start {p : Program} {e : Env} {s : State} {m : MethodId} {below : List Frame} {meth : Method} {c : Code} (l : Launch) (hflags : l.flags = flags0) {b : Nat} {xs : List Int32} (hbd : xs.length ≤ 2560) (C0 : lw_At p s m meth c b xs.length (fun j => xs.getD j 0)) :
    W p l e room_1 s m #[Value.ref b] below meth c s.heap [] 0 0 (lw_Z below #[Value.ref b] s) (entryFrame m ([Value.ref b] : List Value).toArray 4) := by
  obtain ⟨n, h', h1, h2, h3⟩ := law_run (xs := fun j => xs.getD j 0) hbd
  exact a_start l C0 h1 h2 h3
