/-! ===== what is torn, what covers, what is to free ===== -/
theorem isS.later {x : Int32} {p : Nat → Bool} {t : Nat} (h : isS x p) (ht : t < 31) : isS ((x >>> ((nI t + 1) &&& 31)) <<< ((nI t + 1) &&& 31)) (fun i => decide (t < i) && p i) := by
  intro i hi
  rw [nI_1, b_shl (t + 1) (by omega) _ hi]
  by_cases e : t + 1 ≤ i
  · rw [b_sshr (t + 1) (by omega) _ (by omega), if_pos (by omega), show t + 1 + (i - (t + 1)) = i by omega, h i hi, decide_eq_true e]
    dsimp only
    rw [decide_eq_true (by omega : t < i)]
  · rw [decide_eq_false e]
    dsimp only
    rw [decide_eq_false (by omega : ¬ t < i)]; rfl
theorem isS.nth {x : Int32} {p : Nat → Bool} (h : isS x p) {i n : Nat} {r : Bool} (hi : i < 32) (hn : i < n) (e : p i = (decide (i < n) && r)) : bt x i = r := by rw [h i hi, e, decide_eq_true hn, Bool.true_and]
def torn (P : PT) (B : BT) (t : Nat) : Nat := sm (fun c => if (hasB P B t c && btn B t c) = true then 1 else 0) 128
def hng (P : PT) (B : BT) (o : Nat) : Nat := sm (fun i => if (bon B i && decide (pow P (bkd B i) = o)) = true then 1 else 0) (bn B)
def cov (P : PT) (B : BT) (t j : Nat) : Bool := decide (t < j ∧ j < bn B) && ex (fun c => lie P B t c && lie P B j c) 128
def frN (P : PT) (B : BT) (t : Nat) : Nat → Nat → Bool
  | 0 => cov P B t
  | d + 1 => fun j => frN P B t d j || (frN P B t d (t + 1 + d) && cov P B (t + 1 + d) j)
def fre (P : PT) (B : BT) (t : Nat) : Nat → Bool := frN P B t (bn B - (t + 1))
theorem ex_1 {v f : Nat → Bool} {k : Nat} (hk : k < 128) : ex (fun c => (v c || decide (c = k)) && f c) 128 = (ex (fun c => v c && f c) 128 || f k) := by
  cases h : ex (fun c => (v c || decide (c = k)) && f c) 128 with
  | true =>
    obtain ⟨i, hi, q⟩ := ex_t.mp h
    by_cases e : i = k
    · subst e
      rw [Bool.and_eq_true] at q
      rw [q.2, Bool.or_true]
    · rw [decide_eq_false e, Bool.or_false] at q
      rw [ex_t.mpr ⟨i, hi, q⟩]; rfl
  | false =>
    have q := ex_f.mp h
    have q1 : ex (fun c => v c && f c) 128 = false := ex_f.mpr fun i hi => by
      have := q i hi
      cases h1 : v i <;> cases h2 : f i <;> simp [h1, h2] at this ⊢
    have q2 := q k hk
    rw [decide_eq_true (rfl : k = k), Bool.or_true, Bool.true_and] at q2
    rw [q1, q2]; rfl
theorem ex_cong {p q : Nat → Bool} {n : Nat} (h : ∀ i, i < n → p i = q i) : ex p n = ex q n := by
  unfold ex
  rw [tp_cong h]
section SETS
variable {X : a_X} {m : Nat → Nat → Int32} {P : PT} {B : BT} {b : Nat} {Q : Int32 → (Nat → Nat → Int32) → Prop}
theorem s_tornCells (hb : sBills b) (hP : EP m P) (hVP : VP P) (hE : EB m b P B) (hV : VB P B) {t : Nat} (ht : t < bn B) (h : Q (nI (torn P B t)) m) : CallI X mX0_tornCells [.ref b, .int (nI t)] m Q := by
  obtain ⟨E1, E2, E3, E9, EA, EF, EC⟩ := hE
  have h0 := hVP.1.2
  have h1 := hVP.2.1.2
  have h6 := hVP.2.2.2.2.2.2.1
  have hn := hV.1
  obtain ⟨hk, hx, hy, -⟩ := hV.2 t ht
  obtain ⟨a1, a2, a3, -⟩ := EA t ht
  refine eX0_tornCells_0 hb ⟨pk_in t 20 (by omega), ?_⟩
  rw [pk_cl t, a3]
  generalize hf : (fun c => if (hasB P B t c && btn B t c) = true then 1 else 0 : Nat → Nat) = f
  have hu : torn P B t = sm f 128 := by rw [← hf]; rfl
  generalize ek : bkd B t = k at *
  generalize ex : bco B t = x at *
  generalize ey : bro B t = y at *
  have hf2 : ∀ c, c < 128 → rec4 x (x + pwd P k) y (y + phg P k) c = false → f c = 0 := by
    intro c hc hr
    rw [← hf]
    dsimp only
    rw [if_neg]
    have : hasB P B t c = false := by unfold hasB; rw [ek, ex, ey, rch_rec, hr, Bool.and_false]
    rw [this, Bool.false_and]; decide
  have key := rect (x0 := x) (x1 := x + pwd P k) (y0 := y) (y1 := y + phg P k) (by omega) (by omega) (by omega) (by omega) (m := m)
    (I := fun v m' => m' = m)
    (Wo := fun l v m' => Wp X mX0_tornCells 9 [some (.ref b), some (.int (nI t)), some (.int (nI (smv v f))), some (.int (nI l)), none] [] m' (QI Q))
    (Wi := fun l q v m' => Wp X mX0_tornCells 26 [some (.ref b), some (.int (nI t)), some (.int (nI (smv v f))), some (.int (nI l)), some (.int (nI q))] [] m' (QI Q)) ?_ ?_ ?_ ?_ rfl
  · rw [smv_0] at key; exact key
  · rintro l v _ hl hl2 rfl next
    refine eX0_tornCells_9 hb (s_bottom hb hP (by omega) h6 hk a1 a3 ?_)
    refine pk_le (y + phg P k) l (fun c => absurd c (by omega)) (fun _ => ⟨pk_in t 20 (by omega), ?_⟩)
    rw [pk_cl t, a2]
    exact next
  · rintro l v _ hl hl2 rfl next
    refine eX0_tornCells_26 hb (s_right hb hP (by omega) h6 hk a1 a2 ?_)
    rw [nI_1]
    exact pk_le (x + pwd P k) (x + pwd P k) (fun _ => next) (fun c => absurd c (by omega))
  · rintro l q v _ hl hl2 hq hq2 hv rfl next
    refine eX0_tornCells_26 hb (s_right hb hP (by omega) h6 hk a1 a2 ?_)
    refine pk_le (x + pwd P k) q (fun c => absurd c (by omega)) (fun _ => s_cellAt ⟨pk_in (16 * l + q) 128 (by omega), ?_⟩)
    have hc : 16 * l + q < 128 := by omega
    rw [pk_cl (16 * l + q), nI_1, nI_1]
    refine s_isIn (by omega) ?_
    rw [(EC _ hc).2.nth (by omega) ht rfl]
    have hs := smv_1 (f := f) hc hv
    have hn := next _ rfl
    have hfc : f (16 * l + q) = if (hasB P B t (16 * l + q) && btn B t (16 * l + q)) = true then 1 else 0 := by rw [← hf]
    rw [hs, hfc] at hn
    refine ⟨fun z => ?_, fun z => ?_⟩
    · rw [bI_0] at z
      rw [if_neg (by rw [z]; decide), Nat.add_zero] at hn
      exact hn
    · have z : (hasB P B t (16 * l + q) && btn B t (16 * l + q)) = true := by
        cases h : (hasB P B t (16 * l + q) && btn B t (16 * l + q)) with
        | true => rfl
        | false => rw [h] at z; exact absurd rfl z
      rw [if_pos z] at hn
      exact hn
  · rintro _ rfl
    refine eX0_tornCells_9 hb (s_bottom hb hP (by omega) h6 hk a1 a3 ?_)
    refine pk_le (y + phg P k) (y + phg P k) (fun _ => qI ?_) (fun c => absurd c (by omega))
    rw [smv_all hf2, ← hu]
    exact h
theorem bI_n0 {x : Bool} : ¬ bI x = 0 ↔ x = true := by cases x <;> simp [bI]
theorem s_hangingOf (hb : sBills b) (hP : EP m P) (hVP : VP P) (hE : EB m b P B) (hV : VB P B) {o : Nat} (ho : o < 6) (h : Q (nI (hng P B o)) m) : CallI X mX0_hangingOf [.ref b, .int (nI o)] m Q := by
  obtain ⟨E1, E2, E3, E9, EA, EF, EC⟩ := hE
  have h6 := hVP.2.2.2.2.2.2.1
  have hn := hV.1
  refine eX0_hangingOf_0 hb ?_
  refine lpf (a := 0) (b := bn B) (by omega) (I := fun i m' => m' = m) (W := fun i m' => Wp X mX0_hangingOf 4 [some (.ref b), some (.int (nI o)), some (.int (nI (sm (fun i => if (bon B i && decide (pow P (bkd B i) = o)) = true then 1 else 0) i))), some (.int (nI i))] [] m' (QI Q)) ?_ ?_ rfl
  · rintro i - hi _ rfl next
    have nx := next _ rfl
    obtain ⟨hk, -⟩ := hV.2 i hi
    refine eX0_hangingOf_4 hb ?_
    rw [E1]
    refine pk_le (bn B) i (fun c => absurd c (by omega)) (fun _ => s_isOn hb (by omega) ?_)
    rw [E9.nth (by omega) hi rfl, nI_1, nI_1]
    rw [sm_s] at nx
    refine ⟨fun z => ?_, fun z => s_ownerOf hb hP (by omega) h6 hk (EA i hi).1 ?_⟩
    · rw [bI_0] at z
      rw [z, Bool.false_and, if_neg (by decide)] at nx
      exact nx
    · rw [bI_n0] at z
      have ho2 := (hVP.2.2.2.2.2.2.2.2 _ hk).1
      rw [z, Bool.true_and] at nx
      refine (pk_eq (pow P (bkd B i)) o (fun c => ?_) (fun c => ?_)).symm
      · rw [decide_eq_true c, if_pos rfl] at nx; exact nx
      · rw [decide_eq_false c, if_neg (by decide)] at nx; exact nx
  · rintro _ rfl
    refine eX0_hangingOf_4 hb ?_
    rw [E1]
    exact pk_le (bn B) (bn B) (fun _ => qI h) (fun c => absurd c (by omega))
end SETS
