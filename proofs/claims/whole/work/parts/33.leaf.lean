/-! ===== loops, index tests; THE WALL's own answers ===== -/
theorem lp {I W : Nat → (Nat → Nat → Int32) → Prop} {n : Nat} (step : ∀ i, i < n → ∀ m, I i m → (∀ m', I (i + 1) m' → W (i + 1) m') → W i m) (last : ∀ m, I n m → W n m) : ∀ d i, i + d = n → ∀ m, I i m → W i m
  | 0, i, hi, m, h => by
    have : i = n := by omega
    subst this; exact last m h
  | d + 1, i, hi, m, h => step i (by omega) m h (fun m' h' => lp step last d (i + 1) (by omega) m' h')
/-- a loop from a to b -/
theorem lpf {I W : Nat → (Nat → Nat → Int32) → Prop} {a b : Nat} (hab : a ≤ b) (step : ∀ i, a ≤ i → i < b → ∀ m, I i m → (∀ m', I (i + 1) m' → W (i + 1) m') → W i m) (last : ∀ m, I b m → W b m) {m : Nat → Nat → Int32} (h : I a m) : W a m := by
  have := lp (I := fun i m => a ≤ i ∧ I i m) (W := W) (n := b) (fun i hi m hI k => step i hI.1 hi m hI.2 (fun m' h' => k m' ⟨by have := hI.1; omega, h'⟩)) (fun m hI => last m hI.2) (b - a) a (by omega) m ⟨Nat.le_refl _, h⟩
  exact this
theorem ink_c {x y : Int32} {n : Nat} {A B : Prop} (hy : y = nI n) (f : ink x n = false → A) (g : ink x n = true → B) : (x < 0 → A) ∧ (¬ x < 0 → (y ≤ x → A) ∧ (¬ y ≤ x → B)) := by
  subst hy
  exact ⟨fun c => f (decide_eq_false (fun q => q.1 c)), fun c => ⟨fun d => f (decide_eq_false (fun q => q.2 d)), fun d => g (decide_eq_true ⟨c, d⟩)⟩⟩
theorem ink_cases (x : Int32) {n : Nat} (hn : n < 2 ^ 31) : ink x n = false ∨ ∃ j, j < n ∧ x = nI j ∧ ink x n = true := by
  cases h : ink x n with
  | false => exact Or.inl rfl
  | true =>
    obtain ⟨j, h1, h2⟩ := ink_t hn h
    exact Or.inr ⟨j, h1, h2, rfl⟩
theorem b_toNat (x : Int32) : x = nI x.toBitVec.toNat := by
  refine Int32.toBitVec_inj.mp ?_
  show x.toBitVec = BitVec.ofNat 32 x.toBitVec.toNat
  rw [BitVec.ofNat_toNat, BitVec.setWidth_eq]
theorem bt_nat (x : Int32) (i : Nat) : bt x i = x.toBitVec.toNat.testBit i := rfl
/-- some below n has it -/
def ex (p : Nat → Bool) (n : Nat) : Bool := decide (tp p n ≠ 0)
theorem ex_f {p : Nat → Bool} {n : Nat} : ex p n = false ↔ ∀ i, i < n → p i = false := by
  unfold ex
  constructor
  · intro h
    have : tp p n = 0 := by simpa using h
    exact tp_none this
  · intro h
    rw [tp_z h]; rfl
theorem ex_t {p : Nat → Bool} {n : Nat} : ex p n = true ↔ ∃ i, i < n ∧ p i = true := by
  constructor
  · intro h
    have h : tp p n ≠ 0 := of_decide_eq_true h
    obtain ⟨t, ht⟩ : ∃ t, tp p n = t + 1 := ⟨tp p n - 1, by omega⟩
    obtain ⟨h1, h2, -⟩ := tp_has ht
    exact ⟨t, h1, h2⟩
  · rintro ⟨i, hi, hp⟩
    cases h : ex p n with
    | true => rfl
    | false => rw [ex_f.mp h i hi] at hp; cases hp
section PLAN
variable {X : a_X} {m : Nat → Nat → Int32} {P : PT} {Q : Int32 → (Nat → Nat → Int32) → Prop}
theorem s_hasKind {x : Int32} (hE : EP m P) (h : Q (bI (ink x (pn P 6))) m) : CallI X mX5_hasKind [.ref 1, .int x] m Q := by
  refine eX5_hasKind_0 (ink_c (hE.1 6 (by omega)) (fun c => ?_) (fun c => ?_)) <;> (rw [c] at h; exact qI h)
theorem s_hasCell {x y : Int32} (hE : EP m P) (h : Q (bI (ink x (pn P 0) && ink y (pn P 1))) m) : CallI X mX5_hasCell [.ref 1, .int x, .int y] m Q := by
  refine eX5_hasCell_0 (ink_c (hE.1 0 (by omega)) (fun c => ?_) (fun c => ink_c (hE.1 1 (by omega)) (fun c2 => ?_) (fun c2 => ?_)))
  · rw [c] at h; exact qI h
  · rw [c, c2] at h; exact qI h
  · rw [c, c2] at h; exact qI h
/-- a KIND can hang there: no cell of it beyond the wall -/
def fit (P : PT) (k : Nat) (x y : Int32) : Bool := ink x (pn P 0 - pwd P k + 1) && ink y (pn P 1 - phg P k + 1)
theorem ink_n {x : Int32} {n : Nat} (h : x < 0) : ink x n = false := decide_eq_false (fun q => q.1 h)
theorem ink_s {x y : Int32} {n : Nat} {A B : Prop} (hx : ¬ x < 0) (hy : y = nI n) (hn : n + 1 < 2 ^ 31) (f : ink x (n + 1) = false → A) (g : ink x (n + 1) = true → B) : (y < x → A) ∧ (¬ y < x → B) := by
  subst hy
  obtain ⟨j, hj, rfl⟩ := nI_of hx
  rw [nI_ltI (by omega) hj]
  refine ⟨fun c => f (decide_eq_false (fun q => q.2 ?_)), fun c => g (ink_nI (by omega) hn)⟩
  rw [nI_leI hn hj]; omega
theorem s_holds {k : Nat} {x y : Int32} (hE : EP m P) (hV : VP P) (hk : k < pn P 6) (h : Q (bI (fit P k x y)) m) : CallI X mX5_holds [.ref 1, .int (nI k), .int x, .int y] m Q := by
  obtain ⟨⟨-, h0⟩, ⟨-, h1⟩, -, -, -, -, h6, -, hK⟩ := hV
  obtain ⟨-, hw, hh⟩ := hK k hk
  obtain ⟨-, ew, eh⟩ := hE.2.2.2 k hk
  unfold fit at h
  refine eX5_holds_0 ⟨fun c => ?_, fun c => ⟨fun d => ?_, fun d => ⟨pk_in k 12 (by omega), ?_⟩⟩⟩
  · rw [ink_n c, Bool.false_and] at h; exact qI h
  · rw [ink_n d, Bool.and_false] at h; exact qI h
  · rw [pk_cl k]
    refine ink_s (n := pn P 0 - pwd P k) c (by rw [hE.1 0 (by omega), ew, pk_sub hw.2]) (by omega) (fun e => ?_) (fun e => ⟨pk_in k 12 (by omega), ?_⟩)
    · rw [e, Bool.false_and] at h; exact qI h
    · refine ink_s (n := pn P 1 - phg P k) d (by rw [hE.1 1 (by omega), eh, pk_sub hh.2]) (by omega) (fun f => ?_) (fun f => ?_)
      · rw [e, f] at h; exact qI h
      · rw [e, f] at h; exact qI h
/-- a KIND there has a BARE CELL -/
def bar (P : PT) (k x y : Nat) : Bool := ex (fun c => rch P k x y c && pbr P c) 128
theorem s_across {w x : Nat} (hw : w < 17) (hx : x < 32) : isS (((1 <<< (nI w &&& 31)) - 1) <<< (nI x &&& 31)) (fun i => decide (x ≤ i ∧ i < x + w)) := by
  intro i hi
  rw [b_shl x hx _ hi, b_mask w hw (i - x) (by omega), ← Bool.decide_and]
  exact decide_eq_decide.mpr ⟨fun h => ⟨h.1, by omega⟩, fun h => ⟨h.1, by omega⟩⟩
theorem rch_i {P : PT} {k x y c : Nat} : rch P k x y c = true ↔ x ≤ c % 16 ∧ c % 16 < x + pwd P k ∧ y ≤ c / 16 ∧ c / 16 < y + phg P k := decide_eq_true_iff
theorem rch_f {P : PT} {k x y c : Nat} : rch P k x y c = false ↔ ¬ (x ≤ c % 16 ∧ c % 16 < x + pwd P k ∧ y ≤ c / 16 ∧ c / 16 < y + phg P k) := decide_eq_false_iff_not
theorem s_isBarred {k x y : Nat} (hE : EP m P) (hV : VP P) (hk : k < pn P 6) (hx : x + pwd P k ≤ pn P 0) (hy : y + phg P k ≤ pn P 1) (h : Q (bI (bar P k x y)) m) : CallI X mX5_isBarred [.ref 1, .int (nI k), .int (nI x), .int (nI y)] m Q := by
  obtain ⟨⟨-, h0⟩, ⟨-, h1⟩, -, -, -, -, h6, -, hK⟩ := hV
  obtain ⟨-, hw, hh⟩ := hK k hk
  obtain ⟨-, ew, eh⟩ := hE.2.2.2 k hk
  refine eX5_isBarred_0 ⟨pk_in k 12 (by omega), ?_⟩
  rw [pk_cl k, ew]
  generalize ea : ((1 <<< (nI (pwd P k) &&& 31)) - 1) <<< (nI x &&& 31) = a
  have ha : isS a (fun i => decide (x ≤ i ∧ i < x + pwd P k)) := ea ▸ s_across (by omega) (by omega)
  refine lpf (I := fun l m' => m' = m ∧ ∀ c, c < 128 → c / 16 < l → (rch P k x y c && pbr P c) = false) (W := fun l m' => Wp X mX5_isBarred 17 [some (.ref 1), some (.int (nI k)), none, some (.int (nI y)), some (.int a), some (.int (nI l))] [] m' _) (a := y) (b := y + phg P k) (by omega) ?_ ?_ ⟨rfl, ?_⟩
  · rintro l hl hl2 _ ⟨rfl, hI⟩ next
    refine eX5_isBarred_17 ⟨pk_in k 12 (by omega), ?_⟩
    rw [pk_cl k, eh, nI_add]
    refine pk_le (y + phg P k) l (fun c => absurd c (by omega)) (fun _ => ⟨pk_in l 8 (by omega), ?_⟩)
    rw [pk_cl l, nI_1]
    have hs := ((hE.2.2.1 l (by omega)).and ha).zero
    refine ⟨fun z => next _ ⟨rfl, fun c hc hcl => ?_⟩, fun z => ?_⟩
    · by_cases hcl2 : c / 16 < l
      · exact hI c hc hcl2
      · have := hs.mp z (c % 16) (by omega)
        have e : 16 * l + c % 16 = c := by omega
        rw [e] at this
        cases hr : rch P k x y c with
        | false => rfl
        | true =>
          obtain ⟨r1, r2, -, -⟩ := rch_i.mp hr
          rw [decide_eq_true (by omega : c % 16 < 16), decide_eq_true (⟨r1, r2⟩ : x ≤ c % 16 ∧ c % 16 < x + pwd P k), Bool.true_and, Bool.and_true] at this
          rw [this]; rfl
    · have : bar P k x y = true := by
        cases hb : bar P k x y with
        | true => rfl
        | false =>
          refine absurd (hs.mpr fun i hi => ?_) z
          have q := ex_f.mp hb
          by_cases hi2 : x ≤ i ∧ i < x + pwd P k
          · have q := q (16 * l + i) (by omega)
            have r : rch P k x y (16 * l + i) = true := rch_i.mpr (by omega)
            rw [r, Bool.true_and] at q
            rw [q, Bool.and_false, Bool.false_and]
          · rw [decide_eq_false hi2, Bool.and_false]
      rw [this] at h; exact qI h
  · rintro _ ⟨rfl, hI⟩
    refine eX5_isBarred_17 ⟨pk_in k 12 (by omega), ?_⟩
    rw [pk_cl k, eh, nI_add]
    refine pk_le (y + phg P k) (y + phg P k) (fun _ => ?_) (fun c => absurd c (by omega))
    have : bar P k x y = false := ex_f.mpr fun c hc => by
      by_cases hcl : c / 16 < y + phg P k
      · exact hI c hc hcl
      · rw [rch_f.mpr (by omega)]; rfl
    rw [this] at h; exact qI h
  · intro c hc hcl
    rw [rch_f.mpr (by omega)]; rfl
theorem s_canRead {s a : Nat} (hE : EP m P) (hV : VP P) (hs : s ≤ 1000) (ha : a ≤ 1000) (h : Q (bI (canR P s a)) m) : CallI X mX5_canRead [.ref 1, .int (nI s), .int (nI a)] m Q := by
  obtain ⟨-, -, -, -, ⟨-, h4⟩, -⟩ := hV
  have hm : pn P 4 * a ≤ 100 * 1000 := Nat.mul_le_mul h4 ha
  refine eX5_canRead_0 ?_
  rw [hE.1 4 (by omega), show (100 : Int32) = nI 100 from rfl, pk_mul, pk_mul]
  unfold canR at h
  refine pk_lt (100 * s) (pn P 4 * a) (fun c => ?_) (fun c => ?_)
  · rw [decide_eq_false (by omega)] at h; exact qI h
  · rw [decide_eq_true c] at h; exact qI h
theorem s_passersOf {k x : Nat} (hE : EP m P) (hV : VP P) (hk : k < pn P 6) (hx : x + pwd P k ≤ pn P 0) (h : Q (nI (sm (fun i => pps P (x + i)) (pwd P k) * phg P k)) m) : CallI X mX5_passersOf [.ref 1, .int (nI k), .int (nI x)] m Q := by
  obtain ⟨⟨-, h0⟩, ⟨-, h1⟩, -, -, -, -, h6, -, hK⟩ := hV
  obtain ⟨-, hw, hh⟩ := hK k hk
  obtain ⟨-, ew, eh⟩ := hE.2.2.2 k hk
  refine eX5_passersOf_0 ?_
  refine lpf (I := fun l m' => m' = m) (W := fun l m' => Wp X mX5_passersOf 5 [some (.ref 1), some (.int (nI k)), some (.int (nI x)), some (.int (nI (sm (fun i => pps P (x + i)) (l - x)))), some (.int (nI l))] [] m' _) (a := x) (b := x + pwd P k) (by omega) ?_ ?_ rfl |> fun q => by rw [Nat.sub_self] at q; exact q
  · rintro l hl hl2 _ rfl next
    refine eX5_passersOf_5 ⟨pk_in k 12 (by omega), ?_⟩
    rw [pk_cl k, ew, nI_add]
    refine pk_le (x + pwd P k) l (fun c => absurd c (by omega)) (fun _ => ⟨pk_in l 16 (by omega), ?_⟩)
    rw [pk_cl l, nI_1, hE.2.1 l (by omega), nI_add]
    have := next _ rfl
    rw [show l + 1 - x = (l - x) + 1 by omega, sm_s, show x + (l - x) = l by omega] at this
    exact this
  · rintro _ rfl
    refine eX5_passersOf_5 ⟨pk_in k 12 (by omega), ?_⟩
    rw [pk_cl k, ew, nI_add]
    refine pk_le (x + pwd P k) (x + pwd P k) (fun _ => ⟨pk_in k 12 (by omega), ?_⟩) (fun c => absurd c (by omega))
    rw [eh, pk_mul, Nat.add_sub_cancel_left]
    exact qI h
end PLAN
