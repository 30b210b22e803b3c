/-! ===== Arrays.fill, whatever the cell; all taken away; an image ===== -/
section FILL
variable {X : a_X} {m : Nat → Nat → Int32} {P : PT} {B : BT} {b : Nat}
theorem s_fill {c n : Nat} (hc : a_SH[c]? = some (.inr (0, n))) (hn : n < 2 ^ 31) {x1 : Int32} {Q : (Nat → Nat → Int32) → Prop} (h : ∀ m', Fr (fun d => d = c) m m' → (∀ i, i < n → m' c i = x1) → Q m') : CallV X mJ7_fill_53178 [.ref c, .int x1] m Q := by
  show Call X mJ7_fill_53178 [.ref c, .int x1] m (QV Q)
  unfold Call
  refine Wp.loc (lv' := [some (.ref c), some (.int x1), none, none]) rfl ?_
  refine Wp.pk 3 (pc' := 3) (lv' := [some (.ref c), some (.int x1), some (.int 0), none]) (st' := [.ref c]) rfl ?_
  refine Wp.alen (v := nI n) rfl hc rfl rfl ?_
  refine Wp.pk 1 (pc' := 5) (lv' := [some (.ref c), some (.int x1), some (.int 0), some (.int (nI n))]) (st' := []) rfl ?_
  refine lpf (a := 0) (b := n) (by omega) (I := fun i m' => Fr (fun d => d = c) m m' ∧ ∀ j, j < i → m' c j = x1) (W := fun i m' => Wp X mJ7_fill_53178 5 [some (.ref c), some (.int x1), some (.int (nI i)), some (.int (nI n))] [] m' (QV Q)) ?_ ?_ ⟨Fr.rf, fun j hj => by omega⟩
  · rintro i - hi m2 ⟨hF, hI⟩ next
    refine Wp.pk 2 (pc' := 7) (lv' := [some (.ref c), some (.int x1), some (.int (nI i)), some (.int (nI n))]) (st' := [.int (nI n), .int (nI i)]) rfl ?_
    refine Wp.icmp_ge rfl rfl (pk_le n i (fun c => absurd c (by omega)) fun _ => ?_)
    refine Wp.pk 3 (pc' := 13) (lv' := [some (.ref c), some (.int x1), some (.int (nI i)), some (.int (nI n))]) (st' := [.int x1, .int (nI i), .ref c]) rfl ?_
    refine Wp.iastN rfl hc (pk_in i n hi) (fun m1 hm => ?_)
    refine Wp.pk 2 (pc' := 5) (lv' := [some (.ref c), some (.int x1), some (.int (nI i + 1)), some (.int (nI n))]) (st' := []) rfl ?_
    rw [pk_cl i] at hm
    rw [nI_1]
    refine next m1 ⟨hm ▸ Fr.up hF rfl, fun j hj => ?_⟩
    rw [hm, a_up_i]
    by_cases e : j = i
    · rw [if_pos e]
    · rw [if_neg e]; exact hI j (by omega)
  · rintro m2 ⟨hF, hI⟩
    refine Wp.pk 2 (pc' := 7) (lv' := [some (.ref c), some (.int x1), some (.int (nI n)), some (.int (nI n))]) (st' := [.int (nI n), .int (nI n)]) rfl ?_
    refine Wp.icmp_ge rfl rfl (pk_le n n (fun _ => ?_) fun c => absurd c (by omega))
    exact Wp.vret rfl rfl (qV (h m2 hF hI))
def awayB (s : Int32) : BT := (0, 0, fun _ => 0, fun _ => 0, fun _ => 0, fun _ => 0, fun _ => false, fun _ _ => false, fun _ => 0, s)
theorem VB.away (P : PT) (s : Int32) : VB P (awayB s) := ⟨Nat.zero_le _, fun i hi => absurd hi (Nat.not_lt_zero i)⟩
theorem s_takeAllAway {s : Int32} (hs : m 15 3 = s) {Q : (Nat → Nat → Int32) → Prop} (h : ∀ m', Fr (fun c => 15 ≤ c ∧ c ≤ 22) m m' → (∀ P, EB m' 15 P (awayB s)) → Q m') : CallV X mX0_takeAllAway [.ref 15] m Q := by
  refine eX0_takeAllAway_0 fun m1 e1 m2 e2 m3 e3 => ?_
  refine s_fill sB15.2.2.2.2.2.1 (by omega) fun m4 f4 g4 => s_fill sB15.2.2.2.2.2.2.1 (by omega) fun m5 f5 g5 => s_fill sB15.2.2.2.2.2.2.2 (by omega) fun m6 f6 g6 => qV (h m6 ?_ fun P => ?_)
  · intro c hc
    rw [f6 c (by omega), f5 c (by omega), f4 c (by omega), e3, a_up_c _ _ (by omega), e2, a_up_c _ _ (by omega), e1, a_up_c _ _ (by omega)]
  · have k : m6 15 = m3 15 := by rw [f6 _ (by omega), f5 _ (by omega), f4 _ (by omega)]
    refine ⟨?_, ?_, ?_, ?_, fun i hi => absurd hi (Nat.not_lt_zero i), fun o ho => ?_, fun c hc => ⟨?_, ?_⟩⟩
    · rw [k, e3, a_up_n _ _ (Or.inr (by omega)), e2, a_up_n _ _ (Or.inr (by omega)), e1, a_up_s]; rfl
    · rw [k, e3, a_up_n _ _ (Or.inr (by omega)), e2, a_up_s]; rfl
    · rw [k, e3, a_up_n _ _ (Or.inr (by omega)), e2, a_up_n _ _ (Or.inr (by omega)), e1, a_up_n _ _ (Or.inr (by omega))]; exact hs
    · rw [k, e3, a_up_s]
      exact isS_0.cg fun i hi => by rw [decide_eq_false (show ¬ i < bn (awayB s) from Nat.not_lt_zero i), Bool.false_and]
    · rw [f6 _ (by omega), f5 _ (by omega)]
      exact g4 o ho
    · rw [f6 _ (by omega), g5 c hc]
      exact isS_0.cg fun i hi => by rw [decide_eq_false (show ¬ i < bn (awayB s) from Nat.not_lt_zero i), Bool.false_and]
    · rw [g6 c hc]
      exact isS_0.cg fun i hi => by rw [decide_eq_false (show ¬ i < bn (awayB s) from Nat.not_lt_zero i), Bool.false_and]
theorem s_copyFrom {b2 : Nat} (hb : sBills b) (hb2 : sBills b2) (hd : b2 + 7 < b ∨ b + 7 < b2) (hE : EB m b2 P B) (hV : VB P B) {Q : (Nat → Nat → Int32) → Prop} (h : ∀ m', Fr (fun c => b ≤ c ∧ c ≤ b + 7) m m' → EB m' b P B → Q m') : CallV X mX0_copyFrom [.ref b, .ref b2] m Q := by
  refine eX0_copyFrom_0 hb hb2 fun m1 e1 m2 e2 m3 e3 m4 e4 m5 e5 m6 e6 m7 e7 m8 e8 m9 e9 m10 e10 m11 e11 => qV ?_
  obtain ⟨E1, E2, E3, E9, EA, EF, EC⟩ := hE
  have hn := hV.1
  have o1 : ∀ c, c ≠ b → m4 c = m c := fun c hc => by rw [e4, a_up_c _ _ hc, e3, a_up_c _ _ hc, e2, a_up_c _ _ hc, e1, a_up_c _ _ hc]
  have r5 : ∀ c, c ≠ b + 1 → m5 c = m4 c := fun c hc => by rw [e5, a_row_n _ _ hc]
  have r6 : ∀ c, c ≠ b + 2 → m6 c = m5 c := fun c hc => by rw [e6, a_row_n _ _ hc]
  have r7 : ∀ c, c ≠ b + 3 → m7 c = m6 c := fun c hc => by rw [e7, a_row_n _ _ hc]
  have r8 : ∀ c, c ≠ b + 4 → m8 c = m7 c := fun c hc => by rw [e8, a_row_n _ _ hc]
  have r9 : ∀ c, c ≠ b + 5 → m9 c = m8 c := fun c hc => by rw [e9, a_row_n _ _ hc]
  have r10 : ∀ c, c ≠ b + 6 → m10 c = m9 c := fun c hc => by rw [e10, a_row_n _ _ hc]
  have r11 : ∀ c, c ≠ b + 7 → m11 c = m10 c := fun c hc => by rw [e11, a_row_n _ _ hc]
  have k0 : m11 b = m4 b := by rw [r11 _ (by omega), r10 _ (by omega), r9 _ (by omega), r8 _ (by omega), r7 _ (by omega), r6 _ (by omega), r5 _ (by omega)]
  have k1 : ∀ i, i < 20 → m11 (b + 1) i = m (b2 + 1) i := fun i hi => by
    rw [r11 _ (by omega), r10 _ (by omega), r9 _ (by omega), r8 _ (by omega), r7 _ (by omega), r6 _ (by omega), e5, a_row_s, pk_cpy_in (by omega) (by omega), o1 _ (by omega), Nat.sub_zero, Nat.zero_add]
  have k2 : ∀ i, i < 20 → m11 (b + 2) i = m (b2 + 2) i := fun i hi => by
    rw [r11 _ (by omega), r10 _ (by omega), r9 _ (by omega), r8 _ (by omega), r7 _ (by omega), e6, a_row_s, pk_cpy_in (by omega) (by omega), r5 _ (by omega), o1 _ (by omega), Nat.sub_zero, Nat.zero_add]
  have k3 : ∀ i, i < 20 → m11 (b + 3) i = m (b2 + 3) i := fun i hi => by
    rw [r11 _ (by omega), r10 _ (by omega), r9 _ (by omega), r8 _ (by omega), e7, a_row_s, pk_cpy_in (by omega) (by omega), r6 _ (by omega), r5 _ (by omega), o1 _ (by omega), Nat.sub_zero, Nat.zero_add]
  have k4 : ∀ i, i < 20 → m11 (b + 4) i = m (b2 + 4) i := fun i hi => by
    rw [r11 _ (by omega), r10 _ (by omega), r9 _ (by omega), e8, a_row_s, pk_cpy_in (by omega) (by omega), r7 _ (by omega), r6 _ (by omega), r5 _ (by omega), o1 _ (by omega), Nat.sub_zero, Nat.zero_add]
  have k5 : ∀ i, i < 6 → m11 (b + 5) i = m (b2 + 5) i := fun i hi => by
    rw [r11 _ (by omega), r10 _ (by omega), e9, a_row_s, pk_cpy_in (by omega) (by omega), r8 _ (by omega), r7 _ (by omega), r6 _ (by omega), r5 _ (by omega), o1 _ (by omega), Nat.sub_zero, Nat.zero_add]
  have k6 : ∀ i, i < 128 → m11 (b + 6) i = m (b2 + 6) i := fun i hi => by
    rw [r11 _ (by omega), e10, a_row_s, pk_cpy_in (by omega) (by omega), r9 _ (by omega), r8 _ (by omega), r7 _ (by omega), r6 _ (by omega), r5 _ (by omega), o1 _ (by omega), Nat.sub_zero, Nat.zero_add]
  have k7 : ∀ i, i < 128 → m11 (b + 7) i = m (b2 + 7) i := fun i hi => by
    rw [e11, a_row_s, pk_cpy_in (by omega) (by omega), r10 _ (by omega), r9 _ (by omega), r8 _ (by omega), r7 _ (by omega), r6 _ (by omega), r5 _ (by omega), o1 _ (by omega), Nat.sub_zero, Nat.zero_add]
  have q2 : ∀ i, m1 b2 i = m b2 i := fun i => by rw [e1, a_up_c _ _ (by omega)]
  have q3 : ∀ i, m2 b2 i = m b2 i := fun i => by rw [e2, a_up_c _ _ (by omega), q2]
  have q4 : ∀ i, m3 b2 i = m b2 i := fun i => by rw [e3, a_up_c _ _ (by omega), q3]
  refine h m11 ?_ ⟨?_, ?_, ?_, ?_, fun i hi => ?_, fun o ho => ?_, fun c hc => ?_⟩
  · intro c hc
    rw [r11 _ (by omega), r10 _ (by omega), r9 _ (by omega), r8 _ (by omega), r7 _ (by omega), r6 _ (by omega), r5 _ (by omega), o1 _ (by omega)]
  · rw [k0, e4, a_up_n _ _ (Or.inr (by omega)), e3, a_up_n _ _ (Or.inr (by omega)), e2, a_up_n _ _ (Or.inr (by omega)), e1, a_up_s]; exact E1
  · rw [k0, e4, a_up_n _ _ (Or.inr (by omega)), e3, a_up_n _ _ (Or.inr (by omega)), e2, a_up_s, q2]; exact E2
  · rw [k0, e4, a_up_n _ _ (Or.inr (by omega)), e3, a_up_s, q3]; exact E3
  · rw [k0, e4, a_up_s, q4]; exact E9
  · rw [k1 i (by omega), k2 i (by omega), k3 i (by omega), k4 i (by omega)]; exact EA i hi
  · rw [k5 o ho]; exact EF o ho
  · rw [k6 c hc, k7 c hc]; exact EC c hc
theorem s_undoHang {k x y : Nat} (hb : sBills b) (h7 : 7 ≤ b) (hP : EP m P) (hVP : VP P) (hE : EB m b P (hangB B k x y)) (hV : VB P (hangB B k x y)) {Q : (Nat → Nat → Int32) → Prop} (h : ∀ m', Fr (fun c => b ≤ c ∧ c ≤ b + 7) m m' → EB m' b P B → Q m') : CallV X mX0_undoHang [.ref b] m Q := by
  have hn : bn B + 1 ≤ 20 := hV.1
  refine eX0_undoHang_0 hb ?_
  rw [show m b 1 = nI (bn B + 1) from hE.1]
  refine pk_le (bn B + 1) 0 (fun c => absurd c (by omega)) (fun _ => ?_)
  rw [nI_pred]
  refine s_takeOff hb h7 hP hVP hE hV (t := bn B) (Nat.lt_succ_self _) fun m1 f1 E m3 e3 => qV ?_
  obtain ⟨E1, E2, E3, E9, EA, EF, EC⟩ := E
  have k0 : ∀ c, c ≠ b → m3 c = m1 c := fun c hc => by rw [e3, a_up_c _ _ hc]
  have k1 : ∀ i, i ≠ 1 → m3 b i = m1 b i := fun i hi => by rw [e3, a_up_n _ _ (Or.inr hi)]
  refine h m3 ?_ ⟨?_, ?_, ?_, ?_, fun i hi => ?_, fun o ho => ?_, fun c hc => ⟨?_, ?_⟩⟩
  · intro c hc
    rw [k0 c (by omega), f1 c hc]
  · rw [e3, a_up_s, show m1 b 1 = nI (bn B + 1) from E1, nI_pred]
  · rw [k1 _ (by omega)]; exact E2
  · rw [k1 _ (by omega)]; exact E3
  · rw [k1 _ (by omega)]
    refine E9.cg fun i hi => ?_
    show (decide (i < bn B + 1) && up1 (up1 (bon B) (bn B) true) (bn B) false i) = _
    by_cases e : i = bn B
    · rw [e, up1_s, Bool.and_false, decide_eq_false (by omega : ¬ bn B < bn B)]; rfl
    · rw [up1_n _ _ e, up1_n _ _ e]
      congr 1
      exact decide_eq_decide.mpr (by omega)
  · have := EA i (Nat.lt_succ_of_lt hi)
    rw [k0 _ (by omega), k0 _ (by omega), k0 _ (by omega), k0 _ (by omega)]
    have e : i ≠ bn B := by omega
    rw [show bkd B i = bkd (offB (hangB B k x y) (bn B)) i from (up1_n _ _ e).symm, show bco B i = bco (offB (hangB B k x y) (bn B)) i from (up1_n _ _ e).symm, show bro B i = bro (offB (hangB B k x y) (bn B)) i from (up1_n _ _ e).symm, show bdy B i = bdy (offB (hangB B k x y) (bn B)) i from (up1_n _ _ e).symm]
    exact this
  · rw [k0 _ (by omega)]; exact EF o ho
  · rw [k0 _ (by omega)]
    refine (EC c hc).1.cg fun i hi => ?_
    show (decide (i < bn B + 1) && lie P (offB (hangB B k x y) (bn B)) i c) = _
    rw [lie_off.1]
    by_cases e : i = bn B
    · rw [e, decide_eq_true (rfl : bn B = bn B), decide_eq_false (by omega : ¬ bn B < bn B)]; simp
    · rw [(lie_hang e).1, decide_eq_false e, Bool.not_false, Bool.and_true]
      congr 1
      exact decide_eq_decide.mpr (by omega)
  · rw [k0 _ (by omega)]
    refine (EC c hc).2.cg fun i hi => ?_
    show (decide (i < bn B + 1) && (hasB P (offB (hangB B k x y) (bn B)) i c && btn (hangB B k x y) i c)) = _
    rw [lie_off.2]
    by_cases e : i = bn B
    · rw [e, decide_eq_true (rfl : bn B = bn B), decide_eq_false (by omega : ¬ bn B < bn B)]; simp
    · rw [(lie_hang e).2.1, (lie_hang (P := P) e (c := c)).2.2, decide_eq_false e, Bool.not_false, Bool.and_true]
      congr 1
      exact decide_eq_decide.mpr (by omega)
end FILL
