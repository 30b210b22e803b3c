/-! ===== BILLS, the class's own ===== -/
theorem a_up_i (m : Nat → Nat → Int32) (c k i : Nat) (v : Int32) : a_up m c k v c i = if i = k then v else m c i := by simp [a_up, a_row, upd]
def up1 {α : Type} (f : Nat → α) (n : Nat) (v : α) : Nat → α := fun i => if i = n then v else f i
theorem up1_s {α : Type} (f : Nat → α) (n : Nat) (v : α) : up1 f n v n = v := if_pos rfl
theorem up1_n {α : Type} (f : Nat → α) {n i : Nat} (v : α) (h : i ≠ n) : up1 f n v i = f i := if_neg h
section BILLS
variable {X : a_X} {m : Nat → Nat → Int32} {P : PT} {B : BT} {b : Nat} {Q : Int32 → (Nat → Nat → Int32) → Prop}
theorem s_has {x : Int32} (hb : sBills b) {n : Nat} (hE : m b 1 = nI n) (h : Q (bI (ink x n)) m) : CallI X mX0_has [.ref b, .int x] m Q := by
  refine eX0_has_0 hb (ink_c hE (fun c => ?_) (fun c => ?_)) <;> (rw [c] at h; exact qI h)
theorem s_isFull (hb : sBills b) {n : Nat} (hn : n ≤ 20) (hE : m b 1 = nI n) (h : Q (bI (decide (20 ≤ n))) m) : CallI X mX0_isFull [.ref b] m Q := by
  refine eX0_isFull_0 hb ?_
  rw [hE]
  refine pk_lt n 20 (fun c => ?_) (fun c => ?_)
  · rw [decide_eq_false (by omega)] at h; exact qI h
  · rw [decide_eq_true (by omega)] at h; exact qI h
theorem s_isOn (hb : sBills b) {k : Nat} (hk : k < 32) (h : Q (bI (bt (m b 9) k)) m) : CallI X mX0_isOn [.ref b, .int (nI k)] m Q := by
  refine eX0_isOn_0 hb (s_isIn hk ⟨?_, qI h⟩)
  cases bt (m b 9) k <;> rfl
theorem s_ownerOf (hb : sBills b) (hE : EP m P) {i k : Nat} (hi : i < 20) (h6 : pn P 6 ≤ 12) (hk : k < pn P 6) (e1 : m (b + 1) i = nI k) (h : Q (nI (pow P k)) m) : CallI X mX0_ownerOf [.ref b, .int (nI i)] m Q := by
  refine eX0_ownerOf_0 hb ⟨pk_in i 20 hi, ?_⟩
  rw [pk_cl i, e1]
  refine ⟨pk_in k 12 (by omega), ?_⟩
  rw [pk_cl k, (hE.2.2.2 k hk).1]
  exact qI h
theorem s_allCells (hb : sBills b) (hE : EP m P) {i k : Nat} (hi : i < 20) (h6 : pn P 6 ≤ 12) (hk : k < pn P 6) (e1 : m (b + 1) i = nI k) (h : Q (nI (siz P k)) m) : CallI X mX0_allCells [.ref b, .int (nI i)] m Q := by
  refine eX0_allCells_0 hb ⟨pk_in i 20 hi, ?_⟩
  rw [pk_cl i, e1]
  refine ⟨pk_in k 12 (by omega), pk_in i 20 hi, pk_in k 12 (by omega), ?_⟩
  rw [pk_cl k, (hE.2.2.2 k hk).2.1, (hE.2.2.2 k hk).2.2, pk_mul]
  exact qI h
theorem s_right (hb : sBills b) (hE : EP m P) {i k x : Nat} (hi : i < 20) (h6 : pn P 6 ≤ 12) (hk : k < pn P 6) (e1 : m (b + 1) i = nI k) (e2 : m (b + 2) i = nI x) (h : Q (nI (x + pwd P k)) m) : CallI X mX0_right [.ref b, .int (nI i)] m Q := by
  refine eX0_right_0 hb ⟨pk_in i 20 hi, pk_in i 20 hi, ?_⟩
  rw [pk_cl i, e1]
  refine ⟨pk_in k 12 (by omega), ?_⟩
  rw [pk_cl k, (hE.2.2.2 k hk).2.1, e2, nI_add]
  exact qI h
theorem s_bottom (hb : sBills b) (hE : EP m P) {i k y : Nat} (hi : i < 20) (h6 : pn P 6 ≤ 12) (hk : k < pn P 6) (e1 : m (b + 1) i = nI k) (e2 : m (b + 3) i = nI y) (h : Q (nI (y + phg P k)) m) : CallI X mX0_bottom [.ref b, .int (nI i)] m Q := by
  refine eX0_bottom_0 hb ⟨pk_in i 20 hi, pk_in i 20 hi, ?_⟩
  rw [pk_cl i, e1]
  refine ⟨pk_in k 12 (by omega), ?_⟩
  rw [pk_cl k, (hE.2.2.2 k hk).2.2, e2, nI_add]
  exact qI h
/-- ABOVE, as the class finds it -/
theorem top_20 (P : PT) (B : BT) (h : bn B ≤ 20) (c : Nat) : tp (fun i => decide (i < bn B) && lie P B i c) 20 = top P B c := by
  unfold top
  cases e : tp (fun i => lie P B i c) (bn B) with
  | zero =>
    refine tp_z fun j hj => ?_
    by_cases hj2 : j < bn B
    · show (_ && lie P B j c) = false
      rw [tp_none e j hj2, Bool.and_false]
    · show (decide (j < bn B) && _) = false
      rw [decide_eq_false hj2, Bool.false_and]
  | succ t =>
    obtain ⟨h1, h2, h3⟩ := tp_has e
    refine tp_of (by omega) ?_ fun j hj hj2 => ?_
    · show (decide (t < bn B) && lie P B t c) = true
      rw [decide_eq_true h1, h2]; rfl
    · by_cases hj3 : j < bn B
      · show (_ && lie P B j c) = false
        rw [h3 j hj hj3, Bool.and_false]
      · show (decide (j < bn B) && _) = false
        rw [decide_eq_false hj3, Bool.false_and]
theorem s_above (hb : sBills b) (hE : EB m b P B) (hV : VB P B) {c : Nat} (hc : c < 128) (h : Q (tI (top P B c)) m) : CallI X mX0_topAt [.ref b, .int (nI c)] m Q := by
  refine s_topAt hb hc (hE.2.2.2.2.2.2 c hc).1 (fun i hi _ => ?_) ?_
  · have := hV.1
    rw [decide_eq_false (by omega), Bool.false_and]
  · rw [top_20 P B hV.1]; exact h
def hangB (B : BT) (k x y : Nat) : BT := (bn B + 1, bty B, up1 (bkd B) (bn B) k, up1 (bco B) (bn B) x, up1 (bro B) (bn B) y, up1 (bdy B) (bn B) (bty B), up1 (bon B) (bn B) true, up1 (btn B) (bn B) (fun _ => false), bfi B, bsd B)
theorem lie_hang {k x y i c : Nat} (h : i ≠ bn B) : lie P (hangB B k x y) i c = lie P B i c ∧ hasB P (hangB B k x y) i c = hasB P B i c ∧ btn (hangB B k x y) i = btn B i := by
  have e1 : bon (hangB B k x y) i = bon B i := up1_n _ _ h
  have e2 : bkd (hangB B k x y) i = bkd B i := up1_n _ _ h
  have e3 : bco (hangB B k x y) i = bco B i := up1_n _ _ h
  have e4 : bro (hangB B k x y) i = bro B i := up1_n _ _ h
  have e5 : btn (hangB B k x y) i = btn B i := up1_n _ _ h
  unfold lie hasB
  rw [e1, e2, e3, e4, e5]
  exact ⟨rfl, rfl, rfl⟩
theorem lie_hang_n {k x y c : Nat} : lie P (hangB B k x y) (bn B) c = rch P k x y c ∧ hasB P (hangB B k x y) (bn B) c = rch P k x y c ∧ btn (hangB B k x y) (bn B) c = false := by
  have e1 : bon (hangB B k x y) (bn B) = true := up1_s _ _ _
  have e2 : bkd (hangB B k x y) (bn B) = k := up1_s _ _ _
  have e3 : bco (hangB B k x y) (bn B) = x := up1_s _ _ _
  have e4 : bro (hangB B k x y) (bn B) = y := up1_s _ _ _
  have e5 : btn (hangB B k x y) (bn B) = fun _ => false := up1_s _ _ _
  unfold lie hasB
  rw [e1, e2, e3, e4, e5]
  simp
theorem VB.hang {k x y : Nat} (hV : VB P B) (hn : bn B < 20) (hk : k < pn P 6) (hx : x + pwd P k ≤ pn P 0) (hy : y + phg P k ≤ pn P 1) : VB P (hangB B k x y) := by
  refine ⟨hn, fun i hi => ?_⟩
  by_cases e : i = bn B
  · subst e
    have e2 : bkd (hangB B k x y) (bn B) = k := up1_s _ _ _
    have e3 : bco (hangB B k x y) (bn B) = x := up1_s _ _ _
    have e4 : bro (hangB B k x y) (bn B) = y := up1_s _ _ _
    rw [e2, e3, e4]
    refine ⟨hk, hx, hy, fun c hc => ?_⟩
    rw [(lie_hang_n (P := P)).2.2] at hc; cases hc
  · have e2 : bkd (hangB B k x y) i = bkd B i := up1_n _ _ e
    have e3 : bco (hangB B k x y) i = bco B i := up1_n _ _ e
    have e4 : bro (hangB B k x y) i = bro B i := up1_n _ _ e
    rw [e2, e3, e4, (lie_hang (P := P) e (c := 0)).2.2]
    have hi2 : i < bn B + 1 := hi
    exact hV.2 i (by omega)
end BILLS
