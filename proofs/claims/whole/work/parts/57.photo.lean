/-! ===== A PHOTOGRAPH ===== -/
/-- how many are shown; of each its kind, column, row; of each CELL 0: nothing told, 1: NONE, b + 2: b is ABOVE -/
abbrev FT : Type := Nat × (Nat → Nat) × (Nat → Nat) × (Nat → Nat) × (Nat → Nat)
abbrev fn (F : FT) : Nat := F.1
abbrev fkd (F : FT) (i : Nat) : Nat := F.2.1 i
abbrev fco (F : FT) (i : Nat) : Nat := F.2.2.1 i
abbrev fro (F : FT) (i : Nat) : Nat := F.2.2.2.1 i
abbrev flk (F : FT) (c : Nat) : Nat := F.2.2.2.2 c
def fha (P : PT) (F : FT) (i c : Nat) : Bool := rch P (fkd F i) (fco F i) (fro F i) c
def VF (P : PT) (F : FT) : Prop := fn F ≤ 10 ∧ (∀ i, i < fn F → fkd F i < pn P 6 ∧ fco F i + pwd P (fkd F i) ≤ pn P 0 ∧ fro F i + phg P (fkd F i) ≤ pn P 1) ∧ ∀ c, c < 128 → flk F c < fn F + 2
def tpI (n : Nat) : Int32 := if n = 0 then -2 else if n = 1 then -1 else nI (n - 2)
def EF (m : Nat → Nat → Int32) (P : PT) (F : FT) : Prop := m 71 1 = nI (fn F) ∧ ∀ c, c < 128 → isS (m 72 c) (fun i => decide (i < fn F) && fha P F i c) ∧ m 73 c = tpI (flk F c)
theorem EF.fr {m m' : Nat → Nat → Int32} {P : PT} {F : FT} (h : EF m P F) (e : ∀ c, 71 ≤ c → c ≤ 73 → m' c = m c) : EF m' P F := by
  unfold EF at h ⊢
  rw [e 71 (by omega) (by omega), e 72 (by omega) (by omega), e 73 (by omega) (by omega)]
  exact h
def eF : FT := (0, fun _ => 0, fun _ => 0, fun _ => 0, fun _ => 0)
theorem VF.e (P : PT) : VF P eF := ⟨by decide, fun i hi => absurd hi (Nat.not_lt_zero i), fun c _ => by show 0 < 0 + 2; omega⟩
def addF (F : FT) (k x y : Nat) : FT := (fn F + 1, up1 (fkd F) (fn F) k, up1 (fco F) (fn F) x, up1 (fro F) (fn F) y, flk F)
def lokF (F : FT) (c b : Nat) : FT := (fn F, fkd F, fco F, fro F, up1 (flk F) c b)
theorem fha_add {P : PT} {F : FT} {k x y i c : Nat} : fha P (addF F k x y) i c = if i = fn F then rch P k x y c else fha P F i c := by
  unfold fha
  by_cases e : i = fn F
  · rw [if_pos e, e]
    show rch P (up1 (fkd F) (fn F) k (fn F)) (up1 (fco F) (fn F) x (fn F)) (up1 (fro F) (fn F) y (fn F)) c = _
    rw [up1_s, up1_s, up1_s]
  · rw [if_neg e]
    show rch P (up1 (fkd F) (fn F) k i) (up1 (fco F) (fn F) x i) (up1 (fro F) (fn F) y i) c = _
    rw [up1_n _ _ e, up1_n _ _ e, up1_n _ _ e]
theorem VF.add {P : PT} {F : FT} {k x y : Nat} (hV : VF P F) (hn : fn F < 10) (hk : k < pn P 6) (hx : x + pwd P k ≤ pn P 0) (hy : y + phg P k ≤ pn P 1) : VF P (addF F k x y) := by
  refine ⟨hn, fun i hi => ?_, fun c hc => ?_⟩
  · show up1 (fkd F) (fn F) k i < _ ∧ up1 (fco F) (fn F) x i + pwd P (up1 (fkd F) (fn F) k i) ≤ _ ∧ up1 (fro F) (fn F) y i + phg P (up1 (fkd F) (fn F) k i) ≤ _
    by_cases e : i = fn F
    · rw [e, up1_s, up1_s, up1_s]; exact ⟨hk, hx, hy⟩
    · rw [up1_n _ _ e, up1_n _ _ e, up1_n _ _ e]
      have hi : i < fn F + 1 := hi
      exact hV.2.1 i (by omega)
  · have := hV.2.2 c hc
    show flk F c < fn F + 1 + 2
    omega
theorem VF.lok {P : PT} {F : FT} {c b : Nat} (hV : VF P F) (hb : b < fn F + 2) : VF P (lokF F c b) := by
  refine ⟨hV.1, hV.2.1, fun d hd => ?_⟩
  show up1 (flk F) c b d < _
  by_cases e : d = c
  · rw [e, up1_s]; exact hb
  · rw [up1_n _ _ e]; exact hV.2.2 d hd
theorem ex_s (p : Nat → Bool) (n : Nat) : ex p (n + 1) = (p n || ex p n) := by
  unfold ex
  show decide ((if p n = true then n + 1 else tp p n) ≠ 0) = _
  cases p n with
  | true => rw [if_pos rfl]; exact decide_eq_true (by omega)
  | false => rfl
/-- what cannot be at the cell -/
def bad (P : PT) (F : FT) (c : Nat) : Bool := (decide (flk F c = 1) && ex (fun i => fha P F i c) (fn F)) || (decide (2 ≤ flk F c) && !fha P F (flk F c - 2) c)
def psb (P : PT) (F : FT) : Bool := !ex (bad P F) 128
def bwc (P : PT) (F : FT) (a j c : Nat) : Bool := decide (flk F c = a + 2) && (decide (j < fn F) && fha P F j c && !decide (j = a))
def blw (P : PT) (F : FT) (a j : Nat) : Bool := ex (bwc P F a j) 128
section PHOTO
variable {X : a_X} {m : Nat → Nat → Int32} {P : PT} {F : FT}
theorem s_forget {Q : (Nat → Nat → Int32) → Prop} (h : ∀ m', Fr (fun c => c = 71 ∨ c = 72 ∨ c = 73) m m' → (∀ P, EF m' P eF) → Q m') : CallV X mX3_forget [.ref 71] m Q := by
  refine eX3_forget_0 fun m1 e1 => s_fill sh72 (by omega) fun m2 f2 g2 => s_fill sh73 (by omega) fun m3 f3 g3 => qV (h m3 ?_ fun P => ⟨?_, fun c hc => ⟨?_, g3 c hc⟩⟩)
  · intro c hc
    rw [f3 c (by omega), f2 c (by omega), e1, a_up_c _ _ (by omega)]
  · rw [f3 _ (by omega), f2 _ (by omega), e1, a_up_s]; rfl
  · rw [f3 _ (by omega), g2 c hc]
    exact isS_0.cg fun i hi => by rw [decide_eq_false (show ¬ i < fn eF from Nat.not_lt_zero i), Bool.false_and]
theorem s_phas {x : Int32} {Q : Int32 → (Nat → Nat → Int32) → Prop} {n : Nat} (hE : m 71 1 = nI n) (h : Q (bI (ink x n)) m) : CallI X mX3_has [.ref 71, .int x] m Q := by
  refine eX3_has_0 (ink_c hE (fun c => ?_) (fun c => ?_)) <;> (rw [c] at h; exact qI h)
theorem s_addF {Q : (Nat → Nat → Int32) → Prop} (hP : EP m P) (hVP : VP P) (hE : EF m P F) (hV : VF P F) (hn : fn F < 10) {k x y : Nat} (hk : k < pn P 6) (hx : x + pwd P k ≤ pn P 0) (hy : y + phg P k ≤ pn P 1) (h : ∀ m', Fr (fun c => c = 71 ∨ c = 72) m m' → EF m' P (addF F k x y) → Q m') : CallV X mX3_add [.ref 71, .int (nI k), .int (nI x), .int (nI y)] m Q := by
  have h0 := hVP.1.2
  have h1 := hVP.2.1.2
  have h6 := hVP.2.2.2.2.2.2.1
  obtain ⟨-, hw, hh⟩ := hVP.2.2.2.2.2.2.2.2 k hk
  obtain ⟨-, ew, eh⟩ := hP.2.2.2 k hk
  have K12 : vp_in (nI k) 12 := pk_in k 12 (by omega)
  refine eX3_add_0 ?_
  rw [hE.1]
  refine pk_lt (fn F) 10 (fun _ => ?_) (fun c => absurd c (by omega))
  refine rect (x0 := x) (x1 := x + pwd P k) (y0 := y) (y1 := y + phg P k) (by omega) (by omega) (by omega) (by omega)
    (I := fun v m' => Fr (fun c => c = 72) m m' ∧ ∀ c, c < 128 → isS (m' 72 c) (fun i => (decide (i < fn F) && fha P F i c) || (decide (i = fn F) && v c)))
    (Wo := fun l v m' => Wp X mX3_add 13 [some (.ref 71), some (.int (nI k)), some (.int (nI x)), some (.int (nI y)), some (.int (nI l)), none] [] m' (QV Q))
    (Wi := fun l q v m' => Wp X mX3_add 32 [some (.ref 71), some (.int (nI k)), some (.int (nI x)), some (.int (nI y)), some (.int (nI l)), some (.int (nI q))] [] m' (QV Q)) ?_ ?_ ?_ ?_ ⟨Fr.rf, fun c hc => (hE.2 c hc).1.cg fun i hi => by rw [Bool.and_false, Bool.or_false]⟩
  · rintro l v m2 hl hl2 ⟨hF, -⟩ next
    refine eX3_add_13 ⟨K12, ?_⟩
    rw [nI_clamp (n := k) (by omega), hF 6 (by omega), eh, nI_add]
    exact pk_le (y + phg P k) l (fun c => absurd c (by omega)) (fun _ => next)
  · rintro l v m2 hl hl2 ⟨hF, -⟩ next
    refine eX3_add_32 ⟨K12, ?_⟩
    rw [nI_clamp (n := k) (by omega), hF 5 (by omega), ew, nI_add, nI_1]
    exact pk_le (x + pwd P k) (x + pwd P k) (fun _ => next) (fun c => absurd c (by omega))
  · rintro l q v m2 hl hl2 hq hq2 hv ⟨hF, hI⟩ next
    have hc : 16 * l + q < 128 := by omega
    refine eX3_add_32 ⟨K12, ?_⟩
    rw [nI_clamp (n := k) (by omega), hF 5 (by omega), ew, nI_add, nI_1, nI_1]
    refine pk_le (x + pwd P k) q (fun c => absurd c (by omega)) (fun _ => s_cellAt ⟨pk_in (16 * l + q) 128 hc, pk_in (16 * l + q) 128 hc, fun m3 e3 => ?_⟩)
    rw [nI_clamp (n := 16 * l + q) (by omega), hF 71 (by omega), hE.1] at e3
    refine next m3 ⟨e3 ▸ Fr.up hF rfl, fun c hc => ?_⟩
    rw [e3, a_up_i]
    by_cases e : c = 16 * l + q
    · subst e
      rw [if_pos rfl]
      refine ((hI _ hc).or (isS_one (k := fn F) (by omega))).cg fun i hi => ?_
      dsimp only
      rw [hv, decide_eq_true (rfl : 16 * l + q = 16 * l + q), Bool.and_false, Bool.or_false, Bool.false_or, Bool.and_true]
    · rw [if_neg e]
      refine (hI _ hc).cg fun i hi => ?_
      dsimp only
      rw [decide_eq_false e, Bool.or_false]
  · rintro m2 ⟨hF, hI⟩
    refine eX3_add_13 ⟨K12, ?_⟩
    rw [nI_clamp (n := k) (by omega), hF 6 (by omega), eh, nI_add]
    refine pk_le (y + phg P k) (y + phg P k) (fun _ m3 e3 => qV (h m3 ?_ ⟨?_, fun c hc => ⟨?_, ?_⟩⟩)) (fun c => absurd c (by omega))
    · rw [e3]; exact Fr.up (hF.mono fun c hc => Or.inr hc) (Or.inl rfl)
    · rw [e3, a_up_s, hF 71 (by omega), hE.1, nI_1]; rfl
    · rw [e3, a_up_c _ _ (by omega)]
      refine (hI c hc).cg fun i hi => ?_
      show _ = (decide (i < fn F + 1) && fha P (addF F k x y) i c)
      rw [fha_add]
      by_cases e : i = fn F
      · rw [if_pos e, e, decide_eq_false (by omega : ¬ fn F < fn F), decide_eq_true (rfl : fn F = fn F), decide_eq_true (by omega : fn F < fn F + 1)]; rfl
      · rw [if_neg e, decide_eq_false e, Bool.false_and, Bool.or_false]
        congr 1
        exact decide_eq_decide.mpr (by omega)
    · rw [e3, a_up_c _ _ (by omega), hF 73 (by omega)]; exact (hE.2 c hc).2
theorem s_relate {Q : Int32 → (Nat → Nat → Int32) → Prop} (hE : EF m P F) (hV : VF P F) (h : ∀ m', Fr (fun c => c = 74) m m' → (psb P F = true → ∀ a, a < fn F → isS (m' 74 a) (blw P F a)) → Q (bI (psb P F)) m') : CallI X mX3_relate [.ref 71] m Q := by
  have hn := hV.1
  refine eX3_relate_0 (s_fill sh74 (by omega) fun m1 f1 g1 => ?_)
  refine lpf (a := 0) (b := 128) (by omega) (I := fun i m' => Fr (fun c => c = 74) m m' ∧ (∀ c, c < i → bad P F c = false) ∧ ∀ a, a < fn F → isS (m' 74 a) (fun j => ex (bwc P F a j) i)) (W := fun i m' => Wp X mX3_relate 10 [some (.ref 71), some (.int (nI i)), none] [] m' (QI Q)) ?_ ?_ ⟨f1, fun c hc => by omega, fun a ha => by rw [g1 a (by omega)]; exact isS_0⟩
  · rintro i - hi m2 ⟨hF, hB, hI⟩ next
    obtain ⟨eH, eT⟩ := hE.2 i hi
    have I128 : vp_in (nI i) 128 := pk_in i 128 hi
    refine eX3_relate_10 (pk_le 128 i (fun c => absurd c (by omega)) (fun _ => ⟨I128, ?_⟩))
    rw [nI_clamp (n := i) (by omega), nI_1, hF 73 (by omega), hF 72 (by omega), eT]
    have no : bad P F i = true → psb P F = false := fun z => by
      unfold psb
      rw [ex_t.mpr ⟨i, hi, z⟩]; rfl
    have bs : bad P F i = false → ∀ c, c < i + 1 → bad P F c = false := fun z c hc => by
      by_cases e : c = i
      · rw [e]; exact z
      · exact hB c (by omega)
    have hlt := hV.2.2 i hi
    have three : flk F i = 0 ∨ flk F i = 1 ∨ ∃ b, flk F i = b + 2 := by
      rcases (by omega : flk F i = 0 ∨ flk F i = 1 ∨ 2 ≤ flk F i) with h | h | h
      · exact Or.inl h
      · exact Or.inr (Or.inl h)
      · exact Or.inr (Or.inr ⟨flk F i - 2, by omega⟩)
    rcases three with e | e | ⟨b, e⟩
    · have et : tpI (flk F i) = -2 := by rw [e]; rfl
      have bf : bad P F i = false := by
        unfold bad
        rw [decide_eq_false (by omega : ¬ flk F i = 1), decide_eq_false (by omega : ¬ 2 ≤ flk F i)]; rfl
      have nx := next m2 ⟨hF, bs bf, fun a ha => (hI a ha).cg fun j hj => by
        rw [ex_s]
        unfold bwc
        rw [decide_eq_false (by omega : ¬ flk F i = a + 2), Bool.false_and, Bool.false_or]⟩
      rw [et]
      exact ⟨fun _ => ⟨fun _ => ⟨fun _ => nx, fun c => absurd (by decide) c⟩, fun c => absurd (by decide) c⟩, fun c => absurd c (by decide)⟩
    · have et : tpI (flk F i) = -1 := by rw [e]; rfl
      have bf : bad P F i = ex (fun j => fha P F j i) (fn F) := by
        unfold bad
        rw [decide_eq_true e, decide_eq_false (by omega : ¬ 2 ≤ flk F i), Bool.true_and, Bool.false_and, Bool.or_false]
      rw [et]
      refine ⟨fun c => absurd rfl c, fun _ => ⟨I128, fun z => ?_, fun z => ⟨fun _ => ⟨fun _ => ?_, fun c => absurd (by decide) c⟩, fun c => absurd (by decide) c⟩⟩⟩
      · cases hb : bad P F i with
        | true =>
          have h := h m2 hF (fun q => by rw [no hb] at q; cases q)
          rw [no hb] at h
          exact qI h
        | false =>
          rw [bf] at hb
          refine absurd (eH.zero.mpr fun j hj => ?_) z
          by_cases hj2 : j < fn F
          · rw [ex_f.mp hb j hj2, Bool.and_false]
          · rw [decide_eq_false hj2, Bool.false_and]
      · have bf0 : bad P F i = false := by
          rw [bf, ex_f]
          intro j hj
          have := eH.zero.mp z j (by omega)
          rw [decide_eq_true hj, Bool.true_and] at this
          exact this
        exact next m2 ⟨hF, bs bf0, fun a ha => (hI a ha).cg fun j hj => by
          rw [ex_s]
          unfold bwc
          rw [decide_eq_false (by omega : ¬ flk F i = a + 2), Bool.false_and, Bool.false_or]⟩
    · have et : tpI (flk F i) = nI b := by
        rw [e]
        unfold tpI
        rw [if_neg (by omega), if_neg (by omega), Nat.add_sub_cancel]
      have hb : b < fn F := by omega
      have bf : bad P F i = !fha P F b i := by
        unfold bad
        rw [e, decide_eq_false (by omega : ¬ b + 2 = 1), decide_eq_true (by omega : 2 ≤ b + 2), Nat.add_sub_cancel]; rfl
      have B10 : vp_in (nI b) 10 := pk_in b 10 (by omega)
      rw [et, nI_clamp (n := b) (by omega)]
      refine ⟨fun _ => ⟨fun c => absurd c (nI_pos (by omega)), fun _ => ⟨I128, s_isIn (by omega) ?_⟩⟩, fun c => absurd c fun q => ?_⟩
      · rw [eH.nth (by omega) hb rfl]
        refine ⟨fun z => ⟨fun c => absurd c (nI_pos (by omega)), fun _ => ⟨B10, I128, B10, fun m4 e4 => ?_⟩⟩, fun z => ?_⟩
        · rw [bI_n0] at z
          refine next m4 ⟨e4 ▸ Fr.up hF rfl, bs (by rw [bf, z]; rfl), fun a ha => ?_⟩
          rw [e4, a_up_i]
          rw [hF 72 (by omega)]
          by_cases ea : a = b
          · subst ea
            rw [if_pos rfl]
            refine ((hI a ha).or (eH.and (isS_one (k := a) (by omega)).not)).cg fun j hj => ?_
            rw [ex_s]
            unfold bwc
            rw [decide_eq_true e, Bool.true_and, Bool.or_comm]
          · rw [if_neg ea]
            refine (hI a ha).cg fun j hj => ?_
            rw [ex_s]
            unfold bwc
            rw [decide_eq_false (by omega : ¬ flk F i = a + 2), Bool.false_and, Bool.false_or]
        · rw [bI_0] at z
          have hb : bad P F i = true := by rw [bf, z]; rfl
          have h := h m2 hF (fun q => by rw [no hb] at q; cases q)
          rw [no hb] at h
          exact qI h
      · have : ¬ nI b < 0 := nI_pos (by omega)
        rw [q] at this
        exact this (by decide)
  · rintro m2 ⟨hF, hB, hI⟩
    have hp : psb P F = true := by
      unfold psb
      rw [ex_f.mpr fun c hc => hB c hc]; rfl
    have h := h m2 hF (fun _ => hI)
    rw [hp] at h
    exact eX3_relate_10 (pk_le 128 128 (fun _ => qI h) (fun c => absurd c (by omega)))
end PHOTO
