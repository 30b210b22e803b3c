/-! ===== what one loses by a new one ===== -/
theorem smv_le (v : Nat → Bool) (f : Nat → Nat) : smv v f ≤ sm f 128 := sm_le fun c _ => by split <;> omega
theorem lsn_le (P : PT) (B : BT) (k x y i : Nat) : lsn P B k x y i ≤ seen P B i := smv_le _ _
theorem lsm_le (P : PT) (B : BT) (k x y i : Nat) : lsm P B k x y i ≤ met P B i := smv_le _ _
/-- WORTH of i when the new one hangs -/
def wo2 (P : PT) (B : BT) (k x y i : Nat) : Nat := if canR P (seen P B i - lsn P B k x y i) (siz P (bkd B i)) then met P B i - lsm P B k x y i else 0
def wst (P : PT) (B : BT) (k x y i : Nat) (u : Int32 × Int32) : Int32 × Int32 := if pow P (bkd B i) = pow P k then (u.1 - nI (wob P B i) + nI (wo2 P B k x y i), u.2) else if bty B - bdy B i < nI (pn P 2) then (u.1, u.2 + nI (pn P 3)) else u
section LOSS
variable {X : a_X} {m : Nat → Nat → Int32} {P : PT} {B : BT} {b s : Nat}
theorem Int32.le_lt {x y : Int32} {A C : Prop} (f : ¬ y < x → A) (g : y < x → C) : (x ≤ y → A) ∧ (¬ x ≤ y → C) := by
  rw [Int32.le_iff_toInt_le]
  rw [Int32.lt_iff_toInt_lt] at f g
  exact ⟨fun h => f (by omega), fun h => g (by omega)⟩
theorem s_weighLoss {Q : (Nat → Nat → Int32) → Prop} (hs : sSight s) (hb : sBills b) (hd : s + 5 < b ∨ b + 7 < s) (h7 : 7 ≤ s) (hP : EP m P) (hVP : VP P) (hE : EB m b P B) (hV : VB P B) {i k x y : Nat} (hi : i < bn B) (hk : k < pn P 6) (s2 : m (s + 2) i = nI (seen P B i)) (s3 : m (s + 3) i = nI (met P B i)) (s4 : m (s + 4) i = nI (lsn P B k x y i)) (s5 : m (s + 5) i = nI (lsm P B k x y i)) (h : ∀ m', Fr (fun c => c = s) m m' → m' s 6 = (wst P B k x y i (m s 6, m s 7)).1 → m' s 7 = (wst P B k x y i (m s 6, m s 7)).2 → Q m') : CallV X mX7_weighLoss [.ref s, .ref b, .int (nI i), .int (nI (pow P k))] m Q := by
  have h6 := hVP.2.2.2.2.2.2.1
  have hn := hV.1
  obtain ⟨hk2, -⟩ := hV.2 i hi
  have o1 := (hVP.2.2.2.2.2.2.2.2 _ hk2).1
  have o2 := (hVP.2.2.2.2.2.2.2.2 _ hk).1
  obtain ⟨a1, -, -, a4⟩ := hE.2.2.2.2.1 i hi
  have q1 := seen_le P B i
  have q2 := siz_le hVP hk2
  have q3 := lsn_le P B k x y i
  have q4 := lsm_le P B k x y i
  have e20 : i < 20 := by omega
  have I20 : vp_in (nI i) 20 := pk_in i 20 e20
  unfold wst at h
  refine eX7_weighLoss_0 hs hb (s_ownerOf hb hP e20 h6 hk2 a1 ?_)
  rw [nI_clamp (n := i) (by omega)]
  refine (pk_eq (pow P (bkd B i)) (pow P k) (fun c => ?_) (fun c => ?_)).symm
  · rw [if_pos c] at h
    refine s_allCells hb hP e20 h6 hk2 a1 ⟨I20, ?_⟩
    rw [s2]
    refine s_canRead hP hVP (by omega) (by omega) ?_
    have second : ∀ m8 z, m8 = a_up m s 6 z → z = m s 6 - nI (wob P B i) → vp_in (nI i) 20 ∧ vp_in (nI i) 20 ∧ CallI X mX5_canRead [.ref 1, .int ((m8 (s + 2) i) - (m8 (s + 4) i)), .int (nI (siz P (bkd B i)))] m8 (fun v10 m9 => (v10 = 0 → ∀ m11, m11 = (a_up m9 s 6 ((m8 s 6) + 0)) → (QV Q) none m11) ∧ (¬ v10 = 0 → vp_in (nI i) 20 ∧ vp_in (nI i) 20 ∧ ∀ m12, m12 = (a_up m9 s 6 ((m8 s 6) + ((m9 (s + 3) i) - (m9 (s + 5) i)))) → (QV Q) none m12)) := by
      intro m8 z e8 ez
      have k8 : ∀ c, c ≠ s → m8 c = m c := fun c hc => by rw [e8, a_up_c _ _ hc]
      have P8 : EP m8 P := hP.fr fun c hc hc2 => k8 c (by omega)
      refine ⟨I20, I20, ?_⟩
      rw [k8 (s + 2) (by omega), k8 (s + 4) (by omega), s2, s4, pk_sub q3]
      refine s_canRead P8 hVP (by omega) (by omega) ?_
      have g6 : m8 s 6 = m s 6 - nI (wob P B i) := by rw [e8, a_up_s, ez]
      have g7 : m8 s 7 = m s 7 := by rw [e8, a_up_n _ _ (Or.inr (by omega))]
      have fin : ∀ m9, m9 = a_up m8 s 6 (m8 s 6 + nI (wo2 P B k x y i)) → (QV Q) none m9 := fun m9 e9 => qV (h m9 (by rw [e9, e8]; exact Fr.up (Fr.up Fr.rf rfl) rfl) (by rw [e9, a_up_s, g6]) (by rw [e9, a_up_n _ _ (Or.inr (by omega)), g7]))
      refine ⟨fun d m11 e11 => ?_, fun d => ⟨I20, I20, fun m12 e12 => ?_⟩⟩
      · rw [bI_0] at d
        have w : wo2 P B k x y i = 0 := if_neg (by rw [d]; decide)
        rw [w] at fin
        exact fin m11 e11
      · rw [bI_n0] at d
        have w : wo2 P B k x y i = met P B i - lsm P B k x y i := if_pos d
        rw [w] at fin
        rw [k8 (s + 3) (by omega), k8 (s + 5) (by omega), s3, s5, pk_sub q4] at e12
        exact fin m12 e12
    refine ⟨fun d m8 e8 => ?_, fun d => ⟨I20, fun m13 e13 => ?_⟩⟩
    · rw [bI_0] at d
      have w : wob P B i = 0 := if_neg (by unfold red; rw [d]; decide)
      exact second m8 _ e8 (by rw [w]; rfl)
    · rw [bI_n0] at d
      have w : wob P B i = met P B i := if_pos d
      exact second m13 _ e13 (by rw [w, s3])
  · rw [if_neg c] at h
    refine ⟨I20, ?_⟩
    rw [hP.1 2 (by omega), hP.1 3 (by omega), hE.2.1, a4]
    refine Int32.le_lt (fun d => qV ?_) (fun d m3 e3 => qV ?_)
    · rw [if_neg d] at h
      exact h m Fr.rf rfl rfl
    · rw [if_pos d] at h
      refine h m3 (e3 ▸ Fr.up Fr.rf rfl) ?_ ?_
      · rw [e3, a_up_n _ _ (Or.inr (by omega))]
      · rw [e3, a_up_s]
end LOSS
