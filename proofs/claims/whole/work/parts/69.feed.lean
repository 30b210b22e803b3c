/-! ===== feed ===== -/
theorem and255 {z : Int64} {j : Nat} (hj : j < 32) : bt (Int64.toInt32 (z &&& 255)) j = (decide (j < 8) && z.toBitVec.getLsbD j) := by
  unfold bt
  rw [Int64.toBitVec_toInt32, BitVec.getLsbD_signExtend, decide_eq_true hj, Bool.true_and, if_pos (by omega), Int64.toBitVec_and, BitVec.getLsbD_and, Bool.and_comm]
  congr 1
  exact (by decide +kernel : ∀ j, j < 32 → (255 : Int64).toBitVec.getLsbD j = decide (j < 8)) j hj
theorem byt_bt {v : Int64} {i j : Nat} (hj : j < 32) : bt (nI (byt v i)) j = (decide (j < 8) && v.toBitVec.getLsbD (8 * i + j)) := by
  rw [b_nI hj]
  unfold byt
  rw [show (256 : Nat) = 2 ^ 8 from rfl, Nat.testBit_mod_two_pow, Nat.testBit_div_two_pow, Nat.add_comm j]
  rfl
theorem byt_256 (v : Int64) (i : Nat) : byt v i < 256 := Nat.mod_lt _ (by decide)
theorem ushL_byt {v : Int64} {i : Nat} (hi : i < 8) : Int64.toInt32 ((a_ushL v (nI (8 * i))) &&& 255) = nI (byt v i) := b_ext fun j hj => by
  rw [and255 hj, byt_bt hj]
  congr 1
  have e : ((nI (8 * i)).toInt64.toUInt64 &&& Int64.toUInt64 63).toBitVec.toNat % 64 = 8 * i := (by decide +kernel : ∀ i, i < 8 → ((nI (8 * i)).toInt64.toUInt64 &&& Int64.toUInt64 63).toBitVec.toNat % 64 = 8 * i) i hi
  unfold a_ushL
  show (v.toUInt64 >>> ((nI (8 * i)).toInt64.toUInt64 &&& Int64.toUInt64 63)).toBitVec.getLsbD j = _
  rw [UInt64.toBitVec_shiftRight]
  show (v.toBitVec >>> (((nI (8 * i)).toInt64.toUInt64 &&& Int64.toUInt64 63).toBitVec % 64#64).toNat).getLsbD j = _
  rw [BitVec.toNat_umod, show (64#64).toNat = 64 from rfl, e, BitVec.getLsbD_ushiftRight]
theorem sshL_byt {v : Int64} {i : Nat} (hi : i < 8) : Int64.toInt32 ((v >>> ((nI (8 * i)).toInt64 &&& 63)) &&& 255) = nI (byt v i) := b_ext fun j hj => by
  rw [and255 hj, byt_bt hj]
  by_cases h8 : j < 8
  · congr 1
    have e : (((nI (8 * i)).toInt64 &&& 63).toBitVec.smod 64).toNat = 8 * i := (by decide +kernel : ∀ i, i < 8 → (((nI (8 * i)).toInt64 &&& 63).toBitVec.smod 64).toNat = 8 * i) i hi
    rw [Int64.toBitVec_shiftRight]
    show (v.toBitVec.sshiftRight (((nI (8 * i)).toInt64 &&& 63).toBitVec.smod 64).toNat).getLsbD j = _
    rw [e, BitVec.getLsbD_sshiftRight, if_pos (by omega), decide_eq_false (by omega : ¬ 64 ≤ j)]; rfl
  · rw [decide_eq_false h8]; rfl
theorem char_byt {b : Nat} (hb : b < 256) : vp_nar .char (((nI b).toUInt32 % 65536).toInt32) = nI b := by
  rw [pk_vc, pk_char, pk_tn (by omega), Nat.mod_eq_of_lt (by omega)]
section FEED
variable {X : a_X} {m : Nat → Nat → Int32} {S : ST}
theorem feeds_t {n : Int32} (h : feeds n = true) : ∃ k, n = nI k ∧ 1 ≤ k ∧ k ≤ 8 ∧ cl n = k := by
  unfold feeds at h
  rw [Bool.and_eq_true] at h
  obtain ⟨k, hk, rfl⟩ := ink_t (by omega) h.1
  have h2 := h.2
  rw [Bool.not_eq_true'] at h2
  have h2 := of_decide_eq_false h2
  refine ⟨k, rfl, ?_, by omega, cl_nI (by omega)⟩
  by_cases z : k = 0
  · subst z; exact absurd rfl h2
  · omega
theorem feeds_c {n : Int32} {A C : Prop} (g : feeds n = true → A) (f : feeds n = false → C) : (n < 1 → C) ∧ (¬ n < 1 → (n ≤ 8 → A) ∧ (¬ n ≤ 8 → C)) := by
  refine ⟨fun c => f ?_, fun c => ?_⟩
  · unfold feeds
    by_cases c0 : n < 0
    · rw [ink_n c0]; rfl
    · obtain ⟨i, hi, rfl⟩ := nI_of c0
      have : i < 1 := (nI_ltI (b := 1) hi (by omega)).mp c
      have : i = 0 := by omega
      subst this
      rw [decide_eq_true (p := nI 0 = 0) rfl]; simp
  · have c0 : ¬ n < 0 := fun q => c (Int32.lt_trans q (by decide))
    have ne : ¬ n = 0 := fun q => c (by rw [q]; decide)
    refine ink_le (n := 8) c0 (by omega) rfl (fun z => g ?_) (fun z => f ?_)
    · unfold feeds
      rw [z, decide_eq_false ne]; rfl
    · unfold feeds
      rw [z]; rfl
theorem c_feed {Q : Int32 → (Nat → Nat → Int32) → Prop} (hC : CI m S) (hV : VS S) {n : Int32} {v : Int64} (h : ∀ m', Fr (fun c => c ≤ 76) m m' → CI m' (nFeed S n v) → Q (aFeed S n v) m') : CallI X mX8_feed [.ref 0, .int n, .long v] m Q := by
  have hC2 := hC
  obtain ⟨a1, a2, a3, a4, a5, ⟨t1, t2, t3⟩, l1, l2, l3⟩ := hC2
  have hL := hV.2.2.2.2.2.1
  unfold aFeed nFeed at h
  refine eX8_feed_0 (feeds_c (fun e => ?_) (fun e => ?_))
  · rw [if_pos e, if_pos e] at h
    obtain ⟨k, rfl, k1, k8, ek⟩ := feeds_t e
    rw [ek] at h
    refine eX6_append_0 ?_
    rw [t1, nI_add]
    refine pk_le (qL S + k) 300 (fun c => ?_) (fun c => ?_)
    · rw [if_pos c, if_pos c] at h
      refine lpf (a := 0) (b := k) (m := m) (by omega) (I := fun d m' => Fr (fun c => c = 13 ∨ c = 14) m m' ∧ (∀ i, i ≠ 1 → m' 13 i = m 13 i) ∧ m' 13 1 = nI (qL S + d) ∧ (∀ i, i < qL S → m' 14 i = nI (qT S i)) ∧ ∀ i, i < d → m' 14 (qL S + i) = nI (byt v (k - 1 - i)))
        (W := fun d m' => Wp X mX6_append 19 [some (.ref 13), none, some (.long v), none, some (.int (nI (k - d) - 1))] [] m' (fun r m' => ∃ w, r = some (.int w) ∧ (w = 0 → ∃ u, some (Value.int (-100000004)) = some (.int u) ∧ Q u m') ∧ (¬ w = 0 → ∃ u, some (Value.int (m' 13 1)) = some (.int u) ∧ Q u m'))) ?_ ?_ ⟨Fr.rf, fun _ _ => rfl, t1, t2, fun i hi => by omega⟩
      · rintro d - hd m2 ⟨F2, o2, n2, x2, y2⟩ next
        refine eX6_append_19 ?_
        rw [show nI (k - d) - 1 = nI (k - 1 - d) by rw [show k - d = k - 1 - d + 1 by omega, nI_pred], n2]
        refine ⟨fun c => absurd c (nI_pos (by omega)), fun _ => ⟨pk_in (qL S + d) 300 (by omega), fun m3 e3 m4 e4 => ?_⟩⟩
        rw [nI_clamp (n := qL S + d) (by omega), show (8 : Int32) = nI 8 from rfl, pk_mul, ushL_byt (by omega), char_byt (byt_256 _ _)] at e3
        have n3 : m3 13 1 = nI (qL S + d) := by rw [e3, a_up_c _ _ (by omega)]; exact n2
        rw [n3, nI_1] at e4
        have en : nI (k - 1 - d) + (-1) = nI (k - (d + 1)) - 1 := by
          rw [show k - (d + 1) = k - 1 - d by omega]
          exact (Int32.sub_eq_add_neg ..).symm
        rw [en]
        have r14 : ∀ i, m4 14 i = if i = qL S + d then nI (byt v (k - 1 - d)) else m2 14 i := fun i => by rw [e4, a_up_c _ _ (by omega), e3, a_up_i]
        refine next m4 ⟨?_, fun i hi => ?_, ?_, fun i hi => ?_, fun i hi => ?_⟩
        · rw [e4, e3]; exact Fr.up (Fr.up F2 (Or.inr rfl)) (Or.inl rfl)
        · rw [e4, a_up_n _ _ (Or.inr hi), e3, a_up_c _ _ (by omega)]; exact o2 i hi
        · rw [e4, a_up_s]; rfl
        · rw [r14, if_neg (by omega)]; exact x2 i hi
        · rw [r14]
          by_cases z : i = d
          · rw [if_pos (by omega), z]
          · rw [if_neg (by omega)]; exact y2 i (by omega)
      · rintro m2 ⟨F2, o2, n2, x2, y2⟩
        refine eX6_append_19 ⟨fun _ => ⟨1, rfl, fun c => absurd c (by decide), fun _ => ?_⟩, fun c => absurd ?_ c⟩
        · rw [n2]
          have kk : ∀ c, ¬ (c = 13 ∨ c = 14) → m2 c = m c := fun c hc => F2 c hc
          refine qI (h m2 (F2.mono fun c hc => by omega) ⟨a1.fr fun c h1 h2 => kk c (by omega), a2.fr fun c h1 h2 => kk c (by omega), a3.fr fun c h1 h2 => kk c (by omega), a4.fr fun c h1 h2 => kk c (by omega), a5.fr fun c h1 h2 => kk c (by omega), ⟨n2, fun i hi => ?_, by rw [o2 5 (by omega)]; exact t3⟩, hC.el fun c h1 h2 => kk c (by omega)⟩)
          have hi : i < qL S + k := hi
          show _ = nI (if i < qL S then qT S i else byt v (k - 1 - (i - qL S)))
          by_cases z : i < qL S
          · rw [if_pos z]; exact x2 i z
          · rw [if_neg z]
            have := y2 (i - qL S) (by omega)
            rw [show qL S + (i - qL S) = i by omega] at this
            exact this
        · rw [Nat.sub_self]; decide
    · rw [if_neg (by omega), if_neg (by omega)] at h
      exact ⟨0, rfl, fun _ => qI (h m Fr.rf hC), fun c => absurd rfl c⟩
  · rw [if_neg (by rw [e]; decide), if_neg (by rw [e]; decide)] at h
    exact qI (h m Fr.rf hC)
end FEED
