/-! ===== toRead ===== -/
def ofB (p : Nat → Bool) (n : Nat) : Nat := sm (fun i => if p i = true then 2 ^ i else 0) n
theorem ofB_t (p : Nat → Bool) : ∀ n, ofB p n < 2 ^ n ∧ ∀ i, (ofB p n).testBit i = (decide (i < n) && p i)
  | 0 => ⟨Nat.zero_lt_one, fun i => by
    show Nat.testBit 0 i = _
    rw [Nat.zero_testBit, decide_eq_false (by omega : ¬ i < 0), Bool.false_and]⟩
  | n + 1 => by
    obtain ⟨h1, h2⟩ := ofB_t p n
    have e : ofB p (n + 1) = ofB p n + (if p n = true then 2 ^ n else 0) := sm_s _ n
    cases hp : p n with
    | true =>
      rw [e, if_pos hp, Nat.pow_succ]
      refine ⟨by omega, fun i => ?_⟩
      rw [Nat.add_comm, show 2 ^ n + ofB p n = 2 ^ n * 1 + ofB p n by rw [Nat.mul_one], Nat.testBit_two_pow_mul_add 1 h1]
      by_cases hi : i < n
      · rw [if_pos hi, h2, decide_eq_true hi, decide_eq_true (by omega : i < n + 1)]
      · rw [if_neg hi]
        by_cases hi2 : i = n
        · subst hi2
          rw [Nat.sub_self, hp, decide_eq_true (by omega : i < i + 1)]; rfl
        · have : Nat.testBit 1 (i - n) = false := by
            rw [Bool.eq_false_iff]
            intro z
            have := Nat.testBit_one_eq_true_iff_self_eq_zero.mp z
            omega
          rw [decide_eq_false (by omega : ¬ i < n + 1), Bool.false_and, this]
    | false =>
      rw [e, if_neg (by rw [hp]; decide), Nat.add_zero, Nat.pow_succ]
      refine ⟨by omega, fun i => ?_⟩
      rw [h2]
      by_cases hi2 : i = n
      · subst hi2
        rw [hp, Bool.and_false, Bool.and_false]
      · congr 1
        exact decide_eq_decide.mpr (by omega)
theorem isS_ofB {a : Int32} {p : Nat → Bool} (h : isS a p) : a = nI (ofB p 32) := isS_eq h fun i hi => by
  rw [b_nI hi, (ofB_t p 32).2, decide_eq_true hi, Bool.true_and]
def frv (P : PT) (B : BT) (t : Nat) : Nat := ofB (fre P B t) 32
theorem frv_lt (P : PT) (B : BT) (t : Nat) : frv P B t < 2 ^ 32 := (ofB_t _ 32).1
theorem frv_e {P : PT} {B : BT} {t : Nat} {a : Int32} (h : isS a (fre P B t)) : a = nI (frv P B t) := isS_ofB h
theorem shl_1 : ∀ k, k < 31 → (1 : Int32) <<< (nI k &&& 31) = nI (2 ^ k) := by decide +kernel
section READ
variable {X : a_X} {m : Nat → Nat → Int32} {P : PT} {B : BT} {Q : Int32 → (Nat → Nat → Int32) → Prop}
theorem s_bitN {d : Nat} (h : Q (nI (pcn 32 d)) m) : CallI X mJ6_bitCount_0f7a4 [.int (nI d)] m Q := s_bitCount (isS_nI d) (by rw [← pcn_cnt]; exact h)
theorem s_toRead (hP : EP m P) (hVP : VP P) (hE : EB m 15 P B) (hV : VB P B) {t : Nat} (ht : t < bn B) (hp : pcn 32 (frv P B t) ≤ 12) (h : ∀ m', Fr (fun c => 47 ≤ c ∧ c ≤ 49) m m' → Q (rvI (rvN P B t (frv P B t) (2 ^ pcn 32 (frv P B t)))) m') : CallI X mX2_toRead [.ref 47, .ref 15, .int (nI t)] m Q := by
  have h6 := hVP.2.2.2.2.2.2.1
  have hn := hV.1
  obtain ⟨hk, -⟩ := hV.2 t ht
  have sl := siz_le hVP hk
  refine eX2_toRead_0 (s_lookUnder hP hVP hE hV ht fun m1 f1 EL1 => ?_)
  have P1 : EP m1 P := hP.fr fun c hc hc2 => f1 c (by omega)
  have E1 : EB m1 15 P B := hE.fr fun c hc hc2 => f1 c (by omega)
  obtain ⟨C1, n, hn128, n1, d1⟩ := EL1
  refine s_allCells sB15 P1 (by omega) h6 hk (E1.2.2.2.2.1 t ht).1 (s_toFree sB15 P1 hVP E1 hV ht fun a ha => ?_)
  rw [frv_e ha]
  have hv := frv_lt P B t
  generalize frv P B t = v at *
  refine s_bitN ?_
  rw [shl_1 _ (by omega)]
  have h2 : 2 ^ pcn 32 v ≤ 2 ^ 12 := Nat.pow_le_pow_right (by omega) hp
  generalize 2 ^ pcn 32 v = N at *
  have key := lpf (a := 0) (b := N) (m := m1) (by omega) (I := fun i m' => m' = m1) (W := fun i m' => Wp X mX2_toRead 41 [some (.ref 47), some (.ref 15), none, some (.int (nI (siz P (bkd B t)))), some (.int (nI v)), some (.int (rvI (rvN P B t v i))), some (.int (nI (few (rvN P B t v i)))), some (.int (nI (dep 32 v i))), some (.int (nI N)), some (.int (nI i)), none] [] m' (QI Q)) ?_ ?_ rfl
  · rw [dep_0] at key
    exact key
  · rintro i - hi _ rfl next
    have nx := next _ rfl
    rw [rvN_s] at nx
    have fl := few_le (rvN P B t v i)
    refine eX2_toRead_41 (pk_le N i (fun c => absurd c (by omega)) (fun _ => s_bitN ?_))
    rw [dep_i hv, nI_1]
    have pl : pcn 32 (dep 32 v i) ≤ 32 := by rw [pcn_cnt]; exact cnt_le _ _
    generalize dep 32 v i = d at *
    generalize rvN P B t v i = u at *
    unfold rvs at nx
    refine pk_le (few u) (pcn 32 d) (fun c => ?_) (fun c => s_isLiftable hV E1.1 C1 ⟨fun z => ?_, fun z => s_seenWithout hn128 n1 ?_⟩)
    · rw [if_neg fun q => by omega] at nx; exact nx
    · rw [bI_0] at z
      rw [if_neg fun q => by rw [z] at q; cases q.2.1] at nx; exact nx
    · rw [bI_n0] at z
      rw [d1 d]
      have := swo_le P B t d
      refine s_canRead P1 hVP (by omega) (by omega) ⟨fun y => ?_, fun y => ?_⟩
      · rw [bI_0] at y
        rw [if_neg fun q => by rw [y] at q; cases q.2.2] at nx; exact nx
      · rw [bI_n0] at y
        rw [if_pos ⟨c, z, y⟩] at nx; exact nx
  · rintro _ rfl
    exact eX2_toRead_41 (pk_le N N (fun _ => qI (h _ f1)) (fun c => absurd c (by omega)))
end READ
