/-! ===== what is so at all times stays so ===== -/
section KEEP
theorem prsF_v {t : TX} {L : Nat} : ∀ (f : Nat) {C : CT} {P : PT}, prsF t L f C = .ok P → C.1 ≤ L → VC C → VP P := by
  intro f
  induction f with
  | zero =>
    intro C P h _ hV
    have : C.2.2.2 = P := Except.ok.inj h
    exact this ▸ hV.1
  | succ f ih =>
    intro C P h hp hV
    by_cases hl : C.1 < L
    · have h2 : bnd (cls t L C) (fun D => prsF t L f (sk t L D.1, D.2)) = .ok P := (if_pos hl).symm.trans h
      cases ec : cls t L C with
      | error w => rw [ec] at h2; cases h2
      | ok D =>
        rw [ec] at h2
        obtain ⟨v1, -, v3⟩ := cls_v ec hp hV
        exact ih (C := (sk t L D.1, D.2)) h2 (rn_le v3) v1
    · rw [prsF_stop (by omega)] at h
      have : C.2.2.2 = P := Except.ok.inj h
      exact this ▸ hV.1
theorem prs_v {t : TX} {L : Nat} {P : PT} (h : prs t L = .ok P) : VP P := prsF_v 300 h (rn_le (Nat.zero_le L)) ⟨vp_unt, fun _ => rfl, by show 0 < 2 ^ 32; decide, by show 0 < 2 ^ 32; decide⟩
variable {S : ST}
theorem VS.bills {B : BT} (h : VS S) (hB : VB (qP S) B) : VS (wB S B) := ⟨h.1, hB, h.2.2⟩
theorem VS.foto {F : FT} (h : VS S) (hF : VF (qP S) F) : VS (wF S F) := ⟨h.1, h.2.1, h.2.2.1, h.2.2.2.1, hF, h.2.2.2.2.2⟩
theorem VS.paste {k x y : Int32} (h : VS S) : VS (nPaste S k x y) := by
  unfold nPaste
  split
  · next a =>
    split
    · next b =>
      split
      · exact h
      · split
        · exact h
        · next d =>
          obtain ⟨kk, hk, rfl⟩ := ink_t (by have := h.1.2.2.2.2.2.2.1; omega) a
          have ck : cl (nI kk) = kk := nI_clamp (by have := h.1.2.2.2.2.2.2.1; omega)
          rw [ck] at b ⊢
          obtain ⟨i, j, rfl, rfl, h1, h2, h3, h4⟩ := fit_t h.1 hk b
          rw [show cl (nI i) = i from nI_clamp (by omega), show cl (nI j) = j from nI_clamp (by omega)]
          exact h.bills ((h.2.1.fin).hang (by show bn (qB S) < 20; omega) hk h1 h2)
    · exact h
  · exact h
theorem VS.days {n : Int32} (h : VS S) : VS (nDays S n) := by
  unfold nDays
  split
  · exact h.bills h.2.1
  · exact h
theorem VS.peel {b : Int32} (h : VS S) : VS (nPeel S b) := by
  unfold nPeel
  split
  · split
    · split
      · exact h.bills h.2.1.off
      · exact h
    · exact h
  · exact h
theorem VS.tears {x y : Int32} (h : VS S) : VS (nTear S x y) := by
  unfold nTear
  split
  · exact h.bills h.2.1.tear
  · exact h
theorem VS.rains {k : Int32} (h : VS S) : VS (nRain S k) := by
  unfold nRain
  split
  · exact h.bills (VB.rain (s := (0, qB S)) h.2.1 128)
  · exact h
theorem VS.show {k x y : Int32} (h : VS S) : VS (nShow S k x y) := by
  unfold nShow
  split
  · next a =>
    split
    · next b =>
      split
      · next d =>
        obtain ⟨kk, hk, rfl⟩ := ink_t (by have := h.1.2.2.2.2.2.2.1; omega) a
        have ck : cl (nI kk) = kk := nI_clamp (by have := h.1.2.2.2.2.2.2.1; omega)
        rw [ck] at b ⊢
        obtain ⟨i, j, rfl, rfl, h1, h2, h3, h4⟩ := fit_t h.1 hk b
        rw [show cl (nI i) = i from nI_clamp (by omega), show cl (nI j) = j from nI_clamp (by omega)]
        exact h.foto (h.2.2.2.2.1.add d hk h1 h2)
      · exact h
    · exact h
  · exact h
theorem VS.look {x y b : Int32} (h : VS S) : VS (nLook S x y b) := by
  unfold nLook
  split
  · next a =>
    split
    · refine h.foto (h.2.2.2.2.1.lok ?_)
      rcases a with a | a
      · rw [a]; show 1 < fn (qF S) + 2; omega
      · have hn := h.2.2.2.2.1.1
        obtain ⟨kk, hk, rfl⟩ := ink_t (by omega) a
        unfold lkI
        rw [show cl (nI kk) = kk from nI_clamp (by omega)]
        split <;> omega
    · exact h
  · exact h
theorem VS.burn (h : VS S) : VS (wF S eF) := h.foto (VF.e _)
theorem VS.seed {v : Int32} (h : VS S) : VS (nSeed S v) := by
  unfold nSeed
  split
  · exact h
  · exact h.bills h.2.1
theorem VS.keep {i : Int32} (h : VS S) : VS (nKeep S i) := by
  unfold nKeep
  split
  · unfold wI
    cases decide (i = 1) with
    | true => exact ⟨h.1, h.2.1, h.2.2.1, fun _ => h.2.1, h.2.2.2.2⟩
    | false => exact ⟨h.1, h.2.1, fun _ => h.2.1, h.2.2.2.1, h.2.2.2.2⟩
  · exact h
theorem VS.back {i : Int32} (h : VS S) : VS (nBack S i) := by
  unfold nBack
  split
  · split
    · next b =>
      refine h.bills ?_
      unfold imI at b ⊢
      split
      · next c => rw [if_pos c] at b; exact h.2.2.2.1 b
      · next c => rw [if_neg c] at b; exact h.2.2.1 b
    · exact h
  · exact h
theorem VS.feed {n : Int32} {v : Int64} (h : VS S) : VS (nFeed S n v) := by
  unfold nFeed
  split
  · split
    · next b =>
      refine ⟨h.1, h.2.1, h.2.2.1, h.2.2.2.1, h.2.2.2.2.1, b, fun i hi => ?_⟩
      show fedT S (cl n) v i < 256
      unfold fedT
      split
      · next c => exact h.2.2.2.2.2.2 i c
      · exact byt_256 _ _
    · exact h
  · exact h
theorem VS.wall (h : VS S) : VS (nWall S) := by
  unfold nWall
  split
  · next P e => exact ⟨prs_v e, VB.away P _, fun q => absurd (show false = true from q) (by decide), fun q => absurd (show false = true from q) (by decide), VF.e P, Nat.zero_le _, fun i hi => absurd hi (Nat.not_lt_zero i)⟩
  · exact ⟨h.1, h.2.1, h.2.2.1, h.2.2.2.1, h.2.2.2.2.1, Nat.zero_le _, fun i hi => absurd hi (Nat.not_lt_zero i)⟩
end KEEP
