/-! ===== weighing ===== -/
theorem sm_z {f : Nat → Nat} {n : Nat} (h : sm f n = 0) : ∀ c, c < n → f c = 0 := fun c hc => by
  have := sm_part (f := f) hc; omega
theorem lsm_0 {P : PT} {B : BT} {k x y i : Nat} (h : lsn P B k x y i = 0) : lsm P B k x y i = 0 := sm_0 fun c hc => by
  have := sm_z h c hc
  by_cases e : rch P k x y c = true
  · rw [if_pos e] at this ⊢
    unfold fs at this
    unfold fm
    by_cases e2 : top P B c = i + 1
    · rw [if_pos e2] at this; omega
    · rw [if_neg e2]
  · rw [if_neg e]
theorem lsn_out {P : PT} {B : BT} {k x y i : Nat} (h : bn B ≤ i) : lsn P B k x y i = 0 := sm_0 fun c hc => by
  have : fs P B i c = 0 := if_neg fun q => by have := (top_has q).1; omega
  rw [this]; split <;> rfl
def pof (P : PT) (k x : Nat) : Nat := sm (fun i => pps P (x + i)) (pwd P k) * phg P k
def wN (P : PT) (B : BT) (k x y : Nat) : Nat → Int32 × Int32
  | 0 => (nI (pof P k x), 0)
  | i + 1 => if lsn P B k x y i = 0 then wN P B k x y i else wst P B k x y i (wN P B k x y i)
theorem wN_s (P : PT) (B : BT) (k x y i : Nat) : wN P B k x y (i + 1) = if lsn P B k x y i = 0 then wN P B k x y i else wst P B k x y i (wN P B k x y i) := rfl
def wdu (P : PT) (B : BT) (k x y : Nat) : Int32 := (wN P B k x y (bn B)).2
def wga (P : PT) (B : BT) (k x y : Nat) : Int32 := (wN P B k x y (bn B)).1 - wdu P B k x y
theorem wN_0 {P : PT} {B : BT} {k x y : Nat} (h : ∀ i, i < 20 → lsn P B k x y i = 0) : ∀ n, n ≤ 20 → wN P B k x y n = (nI (pof P k x), 0)
  | 0, _ => rfl
  | n + 1, hn => by rw [wN_s, if_pos (h n (by omega)), wN_0 h n (by omega)]
section WEIGH
variable {X : a_X} {m : Nat → Nat → Int32} {P : PT} {B : BT} {b s : Nat}
theorem s_weigh {Q : (Nat → Nat → Int32) → Prop} (hs : sSight s) (hb : sBills b) (hd : s + 5 < b ∨ b + 7 < s) (h7 : 7 ≤ s) (hP : EP m P) (hVP : VP P) (hE : EB m b P B) (hV : VB P B) (hS : ES m s P B) (hL : EL m s) {k x y : Nat} (hk : k < pn P 6) (hx : x + pwd P k ≤ pn P 0) (hy : y + phg P k ≤ pn P 1) (h : ∀ m', Fr (fun c => c = s ∨ c = s + 4 ∨ c = s + 5) m m' → EL m' s → m' s 6 = wga P B k x y → m' s 7 = wdu P B k x y → Q m') : CallV X mX7_weigh [.ref s, .ref b, .int (nI k), .int (nI x), .int (nI y)] m Q := by
  have h6 := hVP.2.2.2.2.2.2.1
  have hn := hV.1
  obtain ⟨ew, -, -⟩ := hP.2.2.2 k hk
  refine eX7_weigh_0 hs hb (s_hide hs h7 hP hVP hV hS hL hk hx hy fun a m1 ha f1 l1 m3 e3 => ?_)
  have F3 : Fr (fun c => c = s ∨ c = s + 4 ∨ c = s + 5) m m3 := e3 ▸ Fr.up (f1.mono fun c hc => by omega) (by omega)
  have P3 : EP m3 P := hP.fr fun c hc hc2 => F3 c (by omega)
  refine s_passersOf P3 hVP hk hx ?_
  show ∀ m6, m6 = a_up m3 s 6 (nI (pof P k x)) → _
  intro m6 e6
  have F6 : Fr (fun c => c = s ∨ c = s + 4 ∨ c = s + 5) m m6 := e6 ▸ Fr.up F3 (by omega)
  have k6 : ∀ c, c ≠ s → m6 c = m1 c := fun c hc => by rw [e6, a_up_c _ _ hc, e3, a_up_c _ _ hc]
  have l6 : ∀ i, i < 20 → m6 (s + 4) i = nI (lsn P B k x y i) ∧ m6 (s + 5) i = nI (lsm P B k x y i) := fun i hi => by
    rw [k6 _ (by omega), k6 _ (by omega)]; exact l1 i hi
  have g6 : m6 s 6 = nI (pof P k x) := by rw [e6, a_up_s]
  have g7 : m6 s 7 = 0 := by rw [e6, a_up_n _ _ (Or.inr (by omega)), e3, a_up_s]
  clear e6 e3
  refine ⟨fun d => ?_, fun d => ?_⟩
  · refine lpf (a := 0) (b := bn B) (by omega)
      (I := fun i m' => Fr (fun c => c = s ∨ c = s + 4 ∨ c = s + 5) m m' ∧ (∀ j, j < i → j < 20 → m' (s + 4) j = 0 ∧ m' (s + 5) j = 0) ∧ (∀ j, i ≤ j → j < 20 → m' (s + 4) j = nI (lsn P B k x y j) ∧ m' (s + 5) j = nI (lsm P B k x y j)) ∧ m' s 6 = (wN P B k x y i).1 ∧ m' s 7 = (wN P B k x y i).2)
      (W := fun i m' => Wp X mX7_weigh 37 [some (.ref s), some (.ref b), some (.int (nI k)), none, none, some (.int a), some (.int (nI i))] [] m' (QV Q)) ?_ ?_ ⟨F6, fun j hj => by omega, fun j _ hj => l6 j hj, g6, g7⟩
    · rintro i - hi m' ⟨hF, hI1, hI2, g1, g2⟩ next
      have P' : EP m' P := hP.fr fun c hc hc2 => hF c (by omega)
      have E' : EB m' b P B := hE.fr fun c hc hc2 => hF c (by omega)
      have hi20 : i < 20 := by omega
      have I20 : vp_in (nI i) 20 := pk_in i 20 hi20
      obtain ⟨q4, q5⟩ := hI2 i (Nat.le_refl _) hi20
      refine eX7_weigh_37 hs hb ?_
      rw [E'.1]
      refine pk_le (bn B) i (fun c => absurd c (by omega)) (fun _ => s_isIn (by omega) ?_)
      rw [ha.nth (by omega) hi20 rfl, nI_1, nI_clamp (n := i) (by omega), nI_clamp (n := k) (by omega)]
      refine ⟨fun z => ?_, fun z => ⟨pk_in k 12 (by omega), ?_⟩⟩
      · rw [bI_0] at z
        have z : lsn P B k x y i = 0 := by simpa using z
        refine next m' ⟨hF, fun j hj hj2 => ?_, fun j hj hj2 => hI2 j (by omega) hj2, ?_, ?_⟩
        · by_cases e : j = i
          · rw [e, q4, q5, z, lsm_0 z]; exact ⟨rfl, rfl⟩
          · exact hI1 j (by omega) hj2
        · rw [wN_s, if_pos z]; exact g1
        · rw [wN_s, if_pos z]; exact g2
      · rw [bI_n0] at z
        have z : ¬ lsn P B k x y i = 0 := of_decide_eq_true z
        rw [P'.2.2.2 k hk |>.1]
        have S' := (hS.fr (m' := m') (fun c h1 h2 => hF c (by omega))).2 i hi20
        refine s_weighLoss hs hb hd h7 P' hVP E' hV hi hk S'.1 S'.2 q4 q5 fun m4 f4 w1 w2 => ⟨I20, fun m5 e5 => ⟨I20, fun m7 e7 => ?_⟩⟩
        rw [g1, g2] at w1 w2
        have k7 : ∀ c, c ≠ s + 4 → c ≠ s + 5 → m7 c = m4 c := fun c h1 h2 => by rw [e7, a_up_c _ _ h2, e5, a_up_c _ _ h1]
        have w4 : ∀ j, m7 (s + 4) j = if j = i then 0 else m' (s + 4) j := fun j => by
          rw [e7, a_up_c _ _ (by omega), e5, a_up_i, f4 _ (by omega)]
        have w5 : ∀ j, m7 (s + 5) j = if j = i then 0 else m' (s + 5) j := fun j => by
          rw [e7, a_up_i, e5, a_up_c _ _ (by omega), f4 _ (by omega)]
        refine next m7 ⟨?_, fun j hj hj2 => ?_, fun j hj hj2 => ?_, ?_, ?_⟩
        · rw [e7, e5]
          exact Fr.up (Fr.up (hF.tr (f4.mono fun c hc => Or.inl hc)) (Or.inr (Or.inl rfl))) (Or.inr (Or.inr rfl))
        · rw [w4, w5]
          by_cases e : j = i
          · rw [if_pos e, if_pos e]; exact ⟨rfl, rfl⟩
          · rw [if_neg e, if_neg e]; exact hI1 j (by omega) hj2
        · rw [w4, w5, if_neg (by omega), if_neg (by omega)]
          exact hI2 j (by omega) hj2
        · rw [k7 _ (by omega) (by omega), wN_s, if_neg z]; exact w1
        · rw [k7 _ (by omega) (by omega), wN_s, if_neg z]; exact w2
    · rintro m' ⟨hF, hI1, hI2, g1, g2⟩
      have E' : EB m' b P B := hE.fr fun c hc hc2 => hF c (by omega)
      refine eX7_weigh_37 hs hb ?_
      rw [E'.1]
      refine pk_le (bn B) (bn B) (fun _ m8 e8 => qV (h m8 (e8 ▸ Fr.up hF (by omega)) (fun j hj => ?_) ?_ ?_)) (fun c => absurd c (by omega))
      · rw [e8, a_up_c _ _ (by omega), a_up_c _ _ (by omega)]
        by_cases e : j < bn B
        · exact hI1 j e hj
        · obtain ⟨q4, q5⟩ := hI2 j (by omega) hj
          have z := lsn_out (P := P) (k := k) (x := x) (y := y) (show bn B ≤ j by omega)
          rw [q4, q5, z, lsm_0 z]; exact ⟨rfl, rfl⟩
      · rw [e8, a_up_s, g1, g2]; rfl
      · rw [e8, a_up_n _ _ (Or.inr (by omega)), g2]; rfl
  · subst d
    have z : ∀ i, i < 20 → lsn P B k x y i = 0 := fun i hi => by
      have := ha i (by omega)
      dsimp only at this
      rw [b_0, decide_eq_true hi, Bool.true_and] at this
      have := of_decide_eq_false this.symm
      omega
    have w := wN_0 z (bn B) hn
    refine qV (h m6 F6 (fun j hj => ?_) ?_ ?_)
    · obtain ⟨q4, q5⟩ := l6 j hj
      rw [q4, q5, z j hj, lsm_0 (z j hj)]; exact ⟨rfl, rfl⟩
    · unfold wga wdu
      rw [w, g6]
      exact (Int32.sub_zero _).symm
    · unfold wdu
      rw [w, g7]
end WEIGH
