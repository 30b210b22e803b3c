/-! ===== Int32 by its bits: bt x i ===== -/
def bt (x : Int32) (i : Nat) : Bool := x.toBitVec.getLsbD i
theorem b_ext {x y : Int32} (h : ∀ i, i < 32 → bt x i = bt y i) : x = y := Int32.toBitVec_inj.mp (BitVec.eq_of_getLsbD_eq (fun i hi => h i hi))
theorem b_or (x y : Int32) (i : Nat) : bt (x ||| y) i = (bt x i || bt y i) := by unfold bt; rw [Int32.toBitVec_or, BitVec.getLsbD_or]
theorem b_and (x y : Int32) (i : Nat) : bt (x &&& y) i = (bt x i && bt y i) := by unfold bt; rw [Int32.toBitVec_and, BitVec.getLsbD_and]
theorem b_xor (x y : Int32) (i : Nat) : bt (x ^^^ y) i = (bt x i ^^ bt y i) := by unfold bt; rw [Int32.toBitVec_xor, BitVec.getLsbD_xor]
theorem b_big {x : Int32} {i : Nat} (h : 32 ≤ i) : bt x i = false := BitVec.getLsbD_of_ge _ _ h
theorem b_255 (i : Nat) : bt 255 i = decide (i < 8) := by
  rcases Nat.lt_or_ge i 32 with h | h
  · exact (by decide +kernel : ∀ i, i < 32 → bt 255 i = decide (i < 8)) i h
  · rw [b_big h, decide_eq_false (by omega)]
theorem b_65535 (i : Nat) : bt 65535 i = decide (i < 16) := by
  rcases Nat.lt_or_ge i 32 with h | h
  · exact (by decide +kernel : ∀ i, i < 32 → bt 65535 i = decide (i < 16)) i h
  · rw [b_big h, decide_eq_false (by omega)]
theorem b_m1 : ∀ i, i < 32 → bt (-1) i = true := by decide +kernel
theorem b_0 (i : Nat) : bt 0 i = false := BitVec.getLsbD_zero
theorem s_l : ∀ n, n < 32 → ((nI n &&& 31).toBitVec.smod 32).toNat = n := by decide +kernel
theorem s_u : ∀ n, n < 32 → (((nI n).toUInt32 &&& Int32.toUInt32 31).toBitVec % 32).toNat = n := by decide +kernel
theorem b_shl (n : Nat) (hn : n < 32) (x : Int32) {i : Nat} (hi : i < 32) : bt (x <<< (nI n &&& 31)) i = (decide (n ≤ i) && bt x (i - n)) := by
  unfold bt
  rw [Int32.toBitVec_shiftLeft]
  show (x.toBitVec <<< ((nI n &&& 31).toBitVec.smod 32).toNat).getLsbD i = _
  rw [s_l n hn, BitVec.getLsbD_shiftLeft]
  rcases Nat.lt_or_ge i n with h | h
  · simp [h, Nat.not_le.mpr h]
  · simp [hi, h, Nat.not_lt.mpr h]
theorem b_ushr (n : Nat) (hn : n < 32) (x : Int32) (i : Nat) : bt ((x.toUInt32 >>> ((nI n).toUInt32 &&& Int32.toUInt32 31)).toInt32) i = bt x (n + i) := by
  show (x.toUInt32 >>> ((nI n).toUInt32 &&& Int32.toUInt32 31)).toBitVec.getLsbD i = x.toUInt32.toBitVec.getLsbD (n + i)
  rw [UInt32.toBitVec_shiftRight]
  show (x.toUInt32.toBitVec >>> (((nI n).toUInt32 &&& Int32.toUInt32 31).toBitVec % 32).toNat).getLsbD i = _
  rw [s_u n hn, BitVec.getLsbD_ushiftRight]
theorem b_sshr (n : Nat) (hn : n < 32) (x : Int32) {i : Nat} (hi : i < 32) : bt (x >>> (nI n &&& 31)) i = if n + i < 32 then bt x (n + i) else bt x 31 := by
  unfold bt
  rw [Int32.toBitVec_shiftRight]
  show (x.toBitVec.sshiftRight ((nI n &&& 31).toBitVec.smod 32).toNat).getLsbD i = _
  rw [s_l n hn, BitVec.getLsbD_sshiftRight, BitVec.msb_eq_getLsbD_last]
  simp [hi]
/-! ===== more on bits ===== -/
theorem b_1 (i : Nat) : bt 1 i = decide (i = 0) := by
  rcases Nat.lt_or_ge i 32 with h | h
  · exact (by decide +kernel : ∀ i, i < 32 → bt 1 i = decide (i = 0)) i h
  · rw [b_big h, decide_eq_false (by omega)]
theorem b_one {k i : Nat} (hk : k < 32) (hi : i < 32) : bt ((1 : Int32) <<< (nI k &&& 31)) i = decide (i = k) := by
  rw [b_shl k hk _ hi, b_1]
  by_cases h : i = k
  · subst h; simp
  · by_cases h2 : k ≤ i
    · simp [h, h2]; omega
    · simp [h, h2]
theorem b_zero {x : Int32} : x = 0 ↔ ∀ i, i < 32 → bt x i = false := ⟨fun h i _ => by rw [h, b_0], fun h => b_ext (fun i hi => by rw [h i hi, b_0])⟩
theorem b_t {x : Int32} {k : Nat} (hk : k < 32) : ((x >>> (nI k &&& 31)) &&& 1) = 0 ↔ bt x k = false := by
  rw [b_zero]
  constructor
  · intro h
    have := h 0 (by omega)
    rw [b_and, b_sshr k hk _ (by omega), b_1] at this
    simpa [hk] using this
  · intro h i hi
    rw [b_and, b_1]
    by_cases h0 : i = 0
    · subst h0
      rw [b_sshr k hk _ (by omega)]
      simp [hk, h]
    · simp [h0]
theorem b_t1 {x : Int32} {k : Nat} (hk : k < 32) : ((x >>> (nI k &&& 31)) &&& 1) = 1 ↔ bt x k = true := by
  have h : ((x >>> (nI k &&& 31)) &&& 1) = if bt x k = true then 1 else 0 := by
    refine b_ext (fun i hi => ?_)
    rw [b_and, b_1]
    by_cases h0 : i = 0
    · subst h0
      rw [b_sshr k hk _ (by omega)]
      cases hb : bt x k <;> simp [hk, hb, b_0, b_1]
    · cases hb : bt x k <;> simp [h0, b_0, b_1]
  rw [h]
  cases bt x k <;> simp
theorem b_not (x : Int32) {i : Nat} (hi : i < 32) : bt (x ^^^ (-1)) i = !bt x i := by rw [b_xor, b_m1 i hi]; cases bt x i <;> rfl
theorem b_mask : ∀ w, w < 17 → ∀ i, i < 32 → bt (((1 : Int32) <<< (nI w &&& 31)) - 1) i = decide (i < w) := by decide +kernel
theorem b_nI {n i : Nat} (hi : i < 32) : bt (nI n) i = n.testBit i := by
  show (BitVec.ofNat 32 n).getLsbD i = _
  rw [BitVec.getLsbD_ofNat]
  simp [hi]
/-- a set: which numbers are in it -/
def isS (x : Int32) (p : Nat → Bool) : Prop := ∀ i, i < 32 → bt x i = p i
theorem isS_eq {x y : Int32} {p : Nat → Bool} (h : isS x p) (h2 : isS y p) : x = y := b_ext (fun i hi => (h i hi).trans (h2 i hi).symm)
theorem isS_0 : isS 0 (fun _ => false) := fun i _ => b_0 i
theorem isS.cg {x : Int32} {p q : Nat → Bool} (h : isS x p) (e : ∀ i, i < 32 → p i = q i) : isS x q := fun i hi => (h i hi).trans (e i hi)
theorem isS.or {x y : Int32} {p q : Nat → Bool} (h : isS x p) (h2 : isS y q) : isS (x ||| y) (fun i => p i || q i) := fun i hi => by rw [b_or, h i hi, h2 i hi]
theorem isS.and {x y : Int32} {p q : Nat → Bool} (h : isS x p) (h2 : isS y q) : isS (x &&& y) (fun i => p i && q i) := fun i hi => by rw [b_and, h i hi, h2 i hi]
theorem isS.not {x : Int32} {p : Nat → Bool} (h : isS x p) : isS (x ^^^ (-1)) (fun i => !p i) := fun i hi => by rw [b_not _ hi, h i hi]
theorem isS_one {k : Nat} (hk : k < 32) : isS ((1 : Int32) <<< (nI k &&& 31)) (fun i => decide (i = k)) := fun i hi => b_one hk hi
theorem isS.zero {x : Int32} {p : Nat → Bool} (h : isS x p) : x = 0 ↔ ∀ i, i < 32 → p i = false := by
  rw [b_zero]
  exact ⟨fun q i hi => by rw [← h i hi]; exact q i hi, fun q i hi => by rw [h i hi]; exact q i hi⟩
/-! memory -/
theorem a_up_s (m : Nat → Nat → Int32) (c k : Nat) (v : Int32) : a_up m c k v c k = v := by simp [a_up, a_row, upd]
theorem a_up_n (m : Nat → Nat → Int32) {c k c' k' : Nat} (v : Int32) (h : c' ≠ c ∨ k' ≠ k) : a_up m c k v c' k' = m c' k' := by
  unfold a_up a_row
  by_cases e : c' = c
  · subst e
    rw [if_pos rfl]
    unfold upd
    rw [if_neg (h.resolve_left (fun z => z rfl))]
  · rw [if_neg e]
theorem a_up_c (m : Nat → Nat → Int32) {c k c' : Nat} (v : Int32) (h : c' ≠ c) : a_up m c k v c' = m c' := by
  unfold a_up a_row
  rw [if_neg h]
/-- nothing but the cells of F has changed -/
def Fr (F : Nat → Prop) (m m' : Nat → Nat → Int32) : Prop := ∀ c, ¬ F c → m' c = m c
theorem Fr.rf {F : Nat → Prop} {m : Nat → Nat → Int32} : Fr F m m := fun _ _ => rfl
theorem Fr.tr {F : Nat → Prop} {m m1 m2 : Nat → Nat → Int32} (h : Fr F m m1) (h2 : Fr F m1 m2) : Fr F m m2 := fun c hc => (h2 c hc).trans (h c hc)
theorem Fr.up {F : Nat → Prop} {m m1 : Nat → Nat → Int32} {c k : Nat} {v : Int32} (h : Fr F m m1) (hc : F c) : Fr F m (a_up m1 c k v) := fun d hd => by
  have hne : d ≠ c := fun e => hd (by rw [e]; exact hc)
  rw [a_up_c m1 v hne]
  exact h d hd
theorem Fr.row {F : Nat → Prop} {m m1 : Nat → Nat → Int32} {c : Nat} {g : Nat → Int32} (h : Fr F m m1) (hc : F c) : Fr F m (a_row m1 c g) := fun d hd => by
  have hne : d ≠ c := fun e => hd (by rw [e]; exact hc)
  rw [a_row_n m1 g hne]
  exact h d hd
theorem Fr.mono {F G : Nat → Prop} {m m1 : Nat → Nat → Int32} (h : Fr F m m1) (hFG : ∀ c, F c → G c) : Fr G m m1 := fun c hc => h c (fun z => hc (hFG c z))
/-! results -/
section RES
variable {X : a_X} {M : a_Mth} {as : List Value} {m : Nat → Nat → Int32}
theorem callI_q {P : Int32 → (Nat → Nat → Int32) → Prop} (h : Call X M as m (fun r m' => ∃ v, r = some (.int v) ∧ P v m')) : CallI X M as m P := h
theorem qI {P : Int32 → (Nat → Nat → Int32) → Prop} {v : Int32} {m' : Nat → Nat → Int32} (h : P v m') : ∃ w, some (Value.int v) = some (.int w) ∧ P w m' := ⟨v, rfl, h⟩
theorem qV {P : (Nat → Nat → Int32) → Prop} {m' : Nat → Nat → Int32} (h : P m') : (none : Option Value) = none ∧ P m' := ⟨rfl, h⟩
end RES
def bI (b : Bool) : Int32 := if b then 1 else 0
theorem bI_0 {b : Bool} : bI b = 0 ↔ b = false := by cases b <;> simp [bI]
theorem bI_1 {b : Bool} : bI b = 1 ↔ b = true := by cases b <;> simp [bI]
section LEAF
variable {X : a_X} {m : Nat → Nat → Int32}
theorem s_isIn {x : Int32} {k : Nat} (hk : k < 32) {P : Int32 → (Nat → Nat → Int32) → Prop} (h : P (bI (bt x k)) m) : CallI X mX8_isIn [.int x, .int (nI k)] m P := by
  refine eX8_isIn_0 ⟨fun hc => ?_, fun hc => ?_⟩
  · rw [(b_t hk).mp hc] at h; exact qI h
  · have : bt x k = true := by cases hb : bt x k with
      | true => rfl
      | false => exact absurd ((b_t hk).mpr hb) hc
    rw [this] at h; exact qI h
theorem s_cellAt {x y : Nat} {P : Int32 → (Nat → Nat → Int32) → Prop} (h : P (nI (16 * y + x)) m) : CallI X mX8_cellAt [.int (nI x), .int (nI y)] m P := by
  refine eX8_cellAt_0 ?_
  have : nI y * 16 + nI x = nI (16 * y + x) := by
    rw [show (16 : Int32) = nI 16 from rfl, pk_mul, nI_add, Nat.mul_comm]
  rw [this]
  exact qI h
theorem s_mhas {x : Int32} {k : Nat} (hk : k < 32) {P : Int32 → (Nat → Nat → Int32) → Prop} (h : P (bI (bt x k)) m) : CallI X mX9_has [.int x, .int (nI k)] m P := by
  refine eX9_has_0 ?_
  refine ⟨fun hc => ?_, fun hc => ?_⟩
  all_goals
    first
      | (have hb := (b_t1 hk).mp hc; rw [hb] at h; exact qI h)
      | (have hb : bt x k = false := by
          cases hb : bt x k with
          | false => rfl
          | true => exact absurd ((b_t1 hk).mpr hb) hc
         rw [hb] at h; exact qI h)
theorem s_one {b : Bool} {P : Int32 → (Nat → Nat → Int32) → Prop} (h : P (bI b) m) : CallI X mX9_one [.int (bI b)] m P := by
  refine eX9_one_0 ⟨fun hc => ?_, fun hc => ?_⟩
  all_goals
    cases b
    · first | exact qI h | exact absurd rfl hc
    · first | exact qI h | exact absurd hc (by decide) | exact absurd rfl hc
end LEAF
