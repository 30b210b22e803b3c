/-! ===== rivals by turns ===== -/
def turn (P : PT) (k : Nat) (s : BT × Nat) : BT × Nat := if 20 ≤ bn s.1 then s else match bN P s.1 k 128 with
  | none => s
  | some v => if v.1 ≤ 0 then s else (hangB s.1 k v.2.1 v.2.2, s.2 + 1)
def tdB (B : BT) : BT := (bn B, bty B + 1, bkd B, bco B, bro B, bdy B, bon B, btn B, bfi B, bsd B)
def cN (P : PT) (k j : Nat) : Nat → BT × Nat → BT × Nat
  | 0, s => s
  | n + 1, s => (tdB (turn P j (turn P k (cN P k j n s))).1, (turn P j (turn P k (cN P k j n s))).2)
theorem cN_s (P : PT) (k j n : Nat) (s : BT × Nat) : cN P k j (n + 1) s = (tdB (turn P j (turn P k (cN P k j n s))).1, (turn P j (turn P k (cN P k j n s))).2) := rfl
theorem bet_ok {u : UT} {g : Int32} {x y : Nat} {v : Int32 × Nat × Nat} (h : bet u g x y = some v) : u = some v ∨ v = (g, x, y) := by
  cases u with
  | none => exact Or.inr (Option.some.inj h).symm
  | some w =>
    unfold bet at h
    dsimp only at h
    split at h
    · exact Or.inr (Option.some.inj h).symm
    · exact Or.inl h
theorem bN_ok {P : PT} {B : BT} {k : Nat} {v : Int32 × Nat × Nat} : ∀ {n : Nat}, bN P B k n = some v → ∃ c, c < n ∧ v = (wga P B k (c % 16) (c / 16), c % 16, c / 16) ∧ c % 16 + pwd P k ≤ pn P 0 ∧ c / 16 + phg P k ≤ pn P 1 ∧ bar P k (c % 16) (c / 16) = false
  | 0, h => by cases h
  | n + 1, h => by
    rw [bN_s] at h
    unfold bst at h
    split at h
    · next q =>
      rcases bet_ok h with r | r
      · obtain ⟨c, hc, z⟩ := bN_ok r
        exact ⟨c, by omega, z⟩
      · exact ⟨n, by omega, r, q⟩
    · obtain ⟨c, hc, z⟩ := bN_ok h
      exact ⟨c, by omega, z⟩
theorem v_turn {P : PT} {k : Nat} {s : BT × Nat} (hV : VB P s.1) (hk : k < pn P 6) : VB P (turn P k s).1 := by
  unfold turn
  split
  · exact hV
  · next hn =>
    split
    · exact hV
    · next v hv =>
      split
      · exact hV
      · obtain ⟨c, -, rfl, h1, h2, -⟩ := bN_ok hv
        exact hV.hang (by omega) hk h1 h2
theorem VB.td {P : PT} {B : BT} (hV : VB P B) : VB P (tdB B) := hV
theorem v_cN {P : PT} {k j : Nat} {s : BT × Nat} (hV : VB P s.1) (hk : k < pn P 6) (hj : j < pn P 6) : ∀ n, VB P (cN P k j n s).1
  | 0 => hV
  | n + 1 => v_turn (v_turn (v_cN hV hk hj n) hk) hj
theorem EL.fr {m m' : Nat → Nat → Int32} {s : Nat} (h : EL m s) (e4 : m' (s + 4) = m (s + 4)) (e5 : m' (s + 5) = m (s + 5)) : EL m' s := fun i hi => by rw [e4, e5]; exact h i hi
section TURNS
variable {X : a_X} {m : Nat → Nat → Int32} {P : PT} {B : BT} {b : Nat}
theorem EB.td {m1 : Nat → Nat → Int32} (hE : EB m b P B) (e1 : m1 = a_up m b 2 (bty B + 1)) : EB m1 b P (tdB B) := by
  obtain ⟨E1, E2, E3, E9, EA, EF, EC⟩ := hE
  have e0 : ∀ i, i ≠ 2 → m1 b i = m b i := fun i hi => by rw [e1, a_up_n _ _ (Or.inr hi)]
  have k0 : ∀ c, c ≠ b → m1 c = m c := fun c hc => by rw [e1, a_up_c _ _ hc]
  refine ⟨?_, ?_, ?_, ?_, ?_, ?_, ?_⟩
  · rw [e0 _ (by omega)]; exact E1
  · rw [e1, a_up_s]; rfl
  · rw [e0 _ (by omega)]; exact E3
  · rw [e0 _ (by omega)]; exact E9
  · intro i hi
    rw [k0 _ (by omega), k0 _ (by omega), k0 _ (by omega), k0 _ (by omega)]; exact EA i hi
  · rw [k0 _ (by omega)]; exact EF
  · rw [k0 _ (by omega), k0 _ (by omega)]; exact EC
theorem s_takeTurn {Q : (Nat → Nat → Int32) → Prop} (hP : EP m P) (hVP : VP P) (hE : EB m 51 P B) (hV : VB P B) (hL : EL m 59) {k n : Nat} (hk : k < pn P 6) (hn : m 50 10 = nI n) (h : ∀ m', Fr (fun c => 50 ≤ c ∧ c ≤ 64) m m' → EB m' 51 P (turn P k (B, n)).1 → EL m' 59 → m' 50 10 = nI (turn P k (B, n)).2 → Q m') : CallV X mX4_takeTurn [.ref 50, .int (nI k)] m Q := by
  have hn20 := hV.1
  refine eX4_takeTurn_0 (s_isFull sB51 hn20 hE.1 ?_)
  unfold turn at h
  dsimp only at h
  refine ⟨fun z => ?_, fun z => ?_⟩
  · rw [bI_0] at z
    have z := of_decide_eq_false z
    rw [if_neg z] at h
    refine s_findOne sB51 (by omega) (by omega) (by omega) hP hVP hE hV hL hk fun m3 f3 i3 S3 L3 p3 => ?_
    have F3 : Fr (fun c => 50 ≤ c ∧ c ≤ 64) m m3 := f3.mono fun c hc => by omega
    have E3 : EB m3 51 P B := hE.fr fun c h1 h2 => f3 c (by omega)
    have n3 : m3 50 10 = nI n := by rw [i3 10 (by omega) (by omega) (by omega) (by omega)]; exact hn
    generalize hu : bN P B k 128 = u at *
    cases u with
    | none =>
      refine ⟨fun _ => qV (h m3 F3 E3 L3 n3), fun c => absurd p3 c⟩
    | some v =>
      obtain ⟨g, x, y⟩ := v
      obtain ⟨q4, q9, q5, q6⟩ := p3
      obtain ⟨c, hc, ev, hx, hy, -⟩ := bN_ok hu
      cases ev
      refine ⟨fun c => absurd (q4.symm.trans c) (by decide), fun _ => ?_⟩
      rw [q9, q5, q6]
      refine ⟨fun d => ?_, fun d => ?_⟩
      · dsimp only at h
        rw [if_pos d] at h
        exact qV (h m3 F3 E3 L3 n3)
      · dsimp only at h
        rw [if_neg d] at h
        refine s_hang sB51 (by omega) (hP.fr fun c h1 h2 => f3 c (by omega)) hVP E3 hV (by omega) hk hx hy fun m4 f4 E4 m5 e5 => qV (h m5 ?_ ?_ ?_ ?_)
        · rw [e5]; exact Fr.up (F3.tr (f4.mono fun c hc => by omega)) (by omega)
        · exact E4.fr fun c h1 h2 => by rw [e5, a_up_c _ _ (by omega)]
        · exact L3.fr (by rw [e5, a_up_c _ _ (by omega)]; exact f4 63 (by omega)) (by rw [e5, a_up_c _ _ (by omega)]; exact f4 64 (by omega))
        · rw [e5, a_up_s, f4 50 (by omega), n3, nI_1]
  · rw [bI_n0] at z
    have z := of_decide_eq_true z
    rw [if_pos z] at h
    exact qV (h m Fr.rf hE hL hn)
theorem s_compete {Q : (Nat → Nat → Int32) → Prop} (hP : EP m P) (hVP : VP P) (hE : EB m 15 P B) (hV : VB P B) (hL : EL m 59) {k j n : Nat} (hk : k < pn P 6) (hj : j < pn P 6) (hn : n < 13) (h : ∀ m', Fr (fun c => 50 ≤ c ∧ c ≤ 64) m m' → EB m' 51 P (cN P k j n (B, 0)).1 → ES m' 59 P (cN P k j n (B, 0)).1 → EL m' 59 → m' 50 10 = nI (cN P k j n (B, 0)).2 → Q m') : CallV X mX4_compete [.ref 50, .ref 15, .int (nI k), .int (nI j), .int (nI n)] m Q := by
  refine eX4_compete_0 (s_copyFrom sB51 sB15 (by omega) hE hV fun m1 f1 E1 m2 e2 => ?_)
  have F2 : Fr (fun c => 50 ≤ c ∧ c ≤ 64) m m2 := e2 ▸ Fr.up (f1.mono fun c hc => by omega) (by omega)
  have hVn : ∀ i, VB P (cN P k j i (B, 0)).1 := v_cN hV hk hj
  refine lpf (a := 0) (b := n) (by omega) (I := fun i m' => Fr (fun c => 50 ≤ c ∧ c ≤ 64) m m' ∧ EB m' 51 P (cN P k j i (B, 0)).1 ∧ EL m' 59 ∧ m' 50 10 = nI (cN P k j i (B, 0)).2) (W := fun i m' => Wp X mX4_compete 16 [some (.ref 50), some (.ref 15), some (.int (nI k)), some (.int (nI j)), some (.int (nI n)), some (.int (nI i))] [] m' (QV Q)) ?_ ?_ ⟨F2, E1.fr fun c h1 h2 => by rw [e2, a_up_c _ _ (by omega)], hL.fr (by rw [e2, a_up_c _ _ (by omega)]; exact f1 63 (by omega)) (by rw [e2, a_up_c _ _ (by omega)]; exact f1 64 (by omega)), by rw [e2, a_up_s]; rfl⟩
  · rintro i - hi m3 ⟨F3, E3, L3, n3⟩ next
    have hv := hVn i
    rw [cN_s] at next
    generalize cN P k j i (B, 0) = s at *
    obtain ⟨B3, c3⟩ := s
    dsimp only at *
    refine eX4_compete_16 (pk_le n i (fun c => absurd c (by omega)) fun _ => ?_)
    refine s_takeTurn (hP.fr fun c h1 h2 => F3 c (by omega)) hVP E3 hv L3 hk n3 fun m4 f4 E4 L4 n4 => ?_
    have hv4 : VB P (turn P k (B3, c3)).1 := v_turn (s := (B3, c3)) hv hk
    generalize turn P k (B3, c3) = s4 at *
    obtain ⟨B4, c4⟩ := s4
    dsimp only at *
    have F4 := F3.tr f4
    refine s_takeTurn (hP.fr fun c h1 h2 => F4 c (by omega)) hVP E4 hv4 L4 hj n4 fun m5 f5 E5 L5 n5 m6 e6 => ?_
    have F5 := F4.tr f5
    rw [E5.2.1] at e6
    rw [nI_1]
    refine next m6 ⟨?_, E5.td e6, L5.fr (by rw [e6, a_up_c _ _ (by omega)]) (by rw [e6, a_up_c _ _ (by omega)]), by rw [e6, a_up_c _ _ (by omega)]; exact n5⟩
    rw [e6]; exact Fr.up F5 (by omega)
  · rintro m3 ⟨F3, E3, L3, n3⟩
    refine eX4_compete_16 (pk_le n n (fun _ => ?_) fun c => absurd c (by omega))
    refine s_lookAt sS59 sB51 (by omega) (by omega) (hP.fr fun c h1 h2 => F3 c (by omega)) hVP E3 (hVn n) fun m4 f4 S4 => qV (h m4 (F3.tr (f4.mono fun c hc => by omega)) (E3.fr fun c h1 h2 => f4 c (by omega)) S4 (L3.fr (f4 63 (by omega)) (f4 64 (by omega))) ?_)
    rw [f4 50 (by omega)]; exact n3
theorem s_worthAtLast {Q : Int32 → (Nat → Nat → Int32) → Prop} (hP : EP m P) (hVP : VP P) (hE : EB m 51 P B) (hV : VB P B) (hS : ES m 59 P B) {k : Nat} (hk : k < pn P 6) (h : Q (nI (wor P B (pow P k))) m) : CallI X mX4_worthAtLast [.ref 50, .int (nI k)] m Q := by
  have h6 := hVP.2.2.2.2.2.2.1
  refine eX4_worthAtLast_0 ⟨pk_in k 12 (by omega), ?_⟩
  rw [nI_clamp (n := k) (by omega), (hP.2.2.2 k hk).1]
  exact s_worthOfOwner sS59 sB51 hP hVP hE hV hS (hVP.2.2.2.2.2.2.2.2 k hk).1 (qI h)
end TURNS
