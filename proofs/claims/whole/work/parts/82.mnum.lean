/-! ===== the model's way through THE TEXT ===== -/
def TXn (m : Nat → Nat → Int32) (t : TX) (L : Nat) : Prop := L ≤ 300 ∧ ∀ i, i < L → m 86 i = nI (t i) ∧ t i < 256
def KM (m : Nat → Nat → Int32) (L : Nat) : Rs Nat → Prop
  | .ok p => m 77 13 = nI L ∧ m 77 14 = nI p ∧ p ≤ L ∧ m 77 17 = 0 ∧ m 77 18 = -1
  | .error w => m 77 13 = nI L ∧ (1 ≤ w.1 ∧ w.1 ≤ 4) ∧ m 77 17 = nI w.1 ∧ m 77 18 = nI w.2
/-- only at, first, length, the FAULT have changed -/
def GM (m m' : Nat → Nat → Int32) : Prop := Fr (fun c => c = 77) m m' ∧ ∀ i, (i < 14 ∨ 18 < i) → m' 77 i = m 77 i
theorem GM.rf {m : Nat → Nat → Int32} : GM m m := ⟨Fr.rf, fun _ _ => rfl⟩
theorem GM.tr {m m1 m2 : Nat → Nat → Int32} (h : GM m m1) (h2 : GM m1 m2) : GM m m2 := ⟨h.1.tr h2.1, fun i hi => (h2.2 i hi).trans (h.2 i hi)⟩
theorem GM.up {m m1 m2 : Nat → Nat → Int32} {i : Nat} {v : Int32} (h : GM m m1) (e : m2 = a_up m1 77 i v) (hi : 14 ≤ i ∧ i ≤ 18) : GM m m2 := ⟨by rw [e]; exact Fr.up h.1 rfl, fun j hj => by rw [e, a_up_n _ _ (Or.inr (by omega))]; exact h.2 j hj⟩
theorem TXn.fr {m m' : Nat → Nat → Int32} {t : TX} {L : Nat} (h : TXn m t L) (e : m' 86 = m 86) : TXn m' t L := ⟨h.1, fun i hi => by rw [e]; exact h.2 i hi⟩
theorem TXn.g {m m' : Nat → Nat → Int32} {t : TX} {L : Nat} (h : TXn m t L) (e : GM m m') : TXn m' t L := h.fr (e.1 86 (by omega))
theorem KM.fr {m m' : Nat → Nat → Int32} {L : Nat} {e : Rs Nat} (h : KM m L e) (z : ∀ i, i = 13 ∨ i = 14 ∨ i = 17 ∨ i = 18 → m' 77 i = m 77 i) : KM m' L e := by
  cases e with
  | ok p => unfold KM at h ⊢; rw [z 13 (by omega), z 14 (by omega), z 17 (by omega), z 18 (by omega)]; exact h
  | error w => unfold KM at h ⊢; rw [z 13 (by omega), z 17 (by omega), z 18 (by omega)]; exact h
def vm (t : TX) (p : Nat) : Nat → Nat
  | 0 => 0
  | k + 1 => if 99999 < vm t p k then vm t p k else 10 * vm t p k + (t (p + k) - 48)
theorem vm_s (t : TX) (p k : Nat) : vm t p (k + 1) = if 99999 < vm t p k then vm t p k else 10 * vm t p k + (t (p + k) - 48) := rfl
theorem vm_le {t : TX} {p : Nat} : ∀ k, (∀ i, i < k → t (p + i) ≤ 57) → vm t p k ≤ 999999
  | 0, _ => Nat.zero_le _
  | k + 1, h => by
    have ih := vm_le (t := t) (p := p) k fun i hi => h i (by omega)
    have := h k (by omega)
    rw [vm_s]
    split <;> omega
theorem vm_vl {t : TX} {p : Nat} : ∀ k, k ≤ 3 → (∀ i, i < k → t (p + i) ≤ 57) → vm t p k = vl t p k
  | 0, _, _ => rfl
  | k + 1, hk, h => by
    have ih := vm_vl (t := t) (p := p) k (by omega) fun i hi => h i (by omega)
    have b := vl_le (t := t) (p := p) k (by omega) fun i hi => h i (by omega)
    rw [vm_s, ih, if_neg (by omega)]
    rfl
section MNUM
variable {X : a_X} {m : Nat → Nat → Int32} {t : TX} {L : Nat} {Q : Int32 → (Nat → Nat → Int32) → Prop}
theorem s_here {p : Nat} (hT : TXn m t L) (hK : KM m L (.ok p)) (h : ∀ m', GM m m' → (∀ i, i ≠ 14 → m' 77 i = m 77 i) → KM m' L (.ok (sk t L p)) → Q (if sk t L p < L then nI (t (sk t L p)) else -1) m') : CallI X mX9_here [.ref 77] m Q := by
  have hL := hT.1
  obtain ⟨k1, k2, k3, k4, k5⟩ := hK
  have key := runI (q := isB t) (L := L) (I := fun p m' => p ≤ L ∧ GM m m' ∧ (∀ i, i ≠ 14 → m' 77 i = m 77 i) ∧ m' 77 14 = nI p) (W := fun p m' => Wp X mX9_here 0 [some (.ref 77)] [] m' (QI Q)) ?_ _ p rfl ?_ m ⟨k3, GM.rf, fun _ _ => rfl, k2⟩
  · exact key
  · rintro p m2 hpL hq ⟨-, g, hI, e2⟩ next
    obtain ⟨c1, c2⟩ := hT.2 p hpL
    refine eX9_here_0 ?_
    rw [hI 13 (by omega), k1, e2, nI_1, nI_clamp (n := p) (by omega), g.1 86 (by omega), c1]
    refine pk_le L p (fun c => absurd c (by omega)) (fun _ => ⟨pk_in p 300 (by omega), ?_⟩)
    exact (pk_eq (t p) 32 (fun c m3 e3 => next m3 ⟨by omega, g.up e3 (by omega), (fun i hi => by rw [e3, a_up_n _ _ (Or.inr hi)]; exact hI i hi), by rw [e3, a_up_s]⟩) (fun c => absurd (of_decide_eq_true hq) c)).symm
  · rintro m2 ⟨hpL, g, hI, e2⟩
    have he := rn_end (isB t) L p
    have h := h m2 g hI ⟨by rw [hI 13 (by omega)]; exact k1, e2, hpL, by rw [hI 17 (by omega)]; exact k4, by rw [hI 18 (by omega)]; exact k5⟩
    unfold sk at h
    generalize rn (isB t) L p = q at *
    refine eX9_here_0 ?_
    rw [hI 13 (by omega), k1, e2, nI_clamp (n := q) (by omega), g.1 86 (by omega)]
    refine pk_le L q (fun c => ?_) (fun c => ?_)
    · rw [if_neg (by omega)] at h
      exact pk_le L q (fun _ => qI h) (fun d => absurd d (by omega))
    · rw [if_pos c] at h
      obtain ⟨c1, c2⟩ := hT.2 q c
      rw [c1]
      refine ⟨pk_in q 300 (by omega), (pk_eq (t q) 32 (fun d => absurd d (of_decide_eq_false (he.resolve_left (by omega)))) (fun d => ?_)).symm⟩
      exact pk_le L q (fun d => absurd d (by omega)) (fun _ => ⟨pk_in q 300 (by omega), qI h⟩)
theorem s_want {p : Nat} {g : Bool} {f w : Nat} {n wh : Int32} (en : n = nI f) (ew : wh = nI w) (hf : 1 ≤ f ∧ f ≤ 4) (hK : KM m L (.ok p)) (h1 : g = true → Q 1 m) (h0 : g = false → ∀ m', GM m m' → (∀ i, i ≠ 17 → i ≠ 18 → m' 77 i = m 77 i) → KM m' L (.error (f, w)) → Q 0 m') : CallI X mX9_want [.ref 77, .int (bI g), .int n, .int wh] m Q := by
  obtain ⟨k1, k2, k3, k4, k5⟩ := hK
  subst en ew
  refine eX9_want_0 ⟨fun c => ⟨fun d => absurd k4 d, fun _ => ?_⟩, fun c => ⟨fun d => absurd k4 d, fun _ m1 e1 m2 e2 => ?_⟩⟩
  · rw [bI_n0] at c
    exact qI (h1 c)
  · rw [bI_0] at c
    have z17 : m2 77 17 = nI f := by rw [e2, a_up_n _ _ (Or.inr (by omega)), e1, a_up_s]
    have o : ∀ i, i ≠ 17 → i ≠ 18 → m2 77 i = m 77 i := fun i a b => by rw [e2, a_up_n _ _ (Or.inr b), e1, a_up_n _ _ (Or.inr a)]
    refine ⟨fun _ => qI (h0 c m2 ((GM.rf.up e1 (by omega)).up e2 (by omega)) o ⟨by rw [o 13 (by omega) (by omega)]; exact k1, hf, z17, by rw [e2, a_up_s]⟩), fun d => ?_⟩
    rw [z17] at d
    exact absurd ((nI_eq (b := 0) (by omega) (by omega)).mp d) (by omega)
theorem KM.e17 {w : Nat × Nat} (h : KM m L (.error w)) : ¬ m 77 17 = 0 ∧ ¬ m 77 17 ≤ 0 := by
  obtain ⟨-, hf, k, -⟩ := h
  rw [k]
  refine ⟨fun d => absurd ((nI_eq (b := 0) (by omega) (by omega)).mp d) (by omega), fun d => ?_⟩
  have := (nI_leI (b := 0) (by omega) (by omega)).mp d
  omega
theorem s_wantE {w : Nat × Nat} {x n wh : Int32} (hK : KM m L (.error w)) (h : Q 0 m) : CallI X mX9_want [.ref 77, .int x, .int n, .int wh] m Q := by
  have hz := hK.e17.1
  exact eX9_want_0 ⟨fun _ => ⟨fun _ => qI h, fun d => absurd d hz⟩, fun _ => ⟨fun _ => ⟨fun _ => qI h, fun d => absurd d hz⟩, fun d => absurd d hz⟩⟩
theorem s_mnumE {w : Nat × Nat} {lo hi : Int32} (hK : KM m L (.error w)) (h : Q 0 m) : CallI X mX9_takeNumber [.ref 77, .int lo, .int hi] m Q :=
  eX9_takeNumber_0 ⟨fun c => absurd c hK.e17.2, fun _ => qI h⟩
theorem s_inG {c : Nat} (hc : c < 256) (h : Q (bI (decide (48 ≤ c ∧ c ≤ 57))) m) : CallI X mX9_in [.long (Int32.toInt64 (nI c)), .long 48, .long 57] m Q := by
  refine s_in (lo := 48) (hi := 57) rfl rfl ?_
  have : decide ((48 : Int32) ≤ nI c ∧ nI c ≤ 57) = decide (48 ≤ c ∧ c ≤ 57) := decide_eq_decide.mpr (by
    rw [show (48 : Int32) = nI 48 from rfl, show (57 : Int32) = nI 57 from rfl, nI_leI (by omega) (by omega), nI_leI (by omega) (by omega)])
  rw [this]; exact h
theorem s_mnumK {p : Nat} {lo hi : Int32} (nlo nhi : Nat) (hT : TXn m t L) (hK : KM m L (.ok p)) (el : lo = nI nlo) (eh : hi = nI nhi) (hlo : nlo ≤ 1000) (hhi : nhi ≤ 1000) (hok : ∀ r m', nmb t L nlo nhi p = .ok r → GM m m' → m' 77 15 = nI (sk t L p) → KM m' L (.ok r.2) → Q (nI r.1) m') (her : ∀ w v m', nmb t L nlo nhi p = .error w → GM m m' → KM m' L (.error w) → Q v m') : CallI X mX9_takeNumber [.ref 77, .int lo, .int hi] m Q := by
  have hL := hT.1
  subst el eh
  have k40 := hK.2.2.2.1
  refine eX9_takeNumber_0 ⟨fun _ => s_here hT hK fun m1 g1 o1 K1 m3 e3 => ?_, fun c => absurd (by rw [k40]; decide) c⟩
  have g3 : GM m m3 := g1.up e3 (by omega)
  have o3 : ∀ i, i ≠ 15 → m3 77 i = m1 77 i := fun i hi => by rw [e3, a_up_n _ _ (Or.inr hi)]
  have K3 : KM m3 L (.ok (sk t L p)) := K1.fr fun i hi => o3 i (by omega)
  have e1 : m1 77 14 = nI (sk t L p) := K1.2.1
  have f3 : m3 77 15 = nI (sk t L p) := by rw [e3, a_up_s, e1]
  have T3 := hT.g g3
  have hs : sk t L p ≤ L := K1.2.2.1
  unfold nmb ge at hok her
  generalize hp1 : sk t L p = p1 at *
  have first : ∀ c : Int32, ∀ g : Bool, (g = decide (rn (isG t) L p1 ≠ p1)) → decide (48 ≤ c ∧ c ≤ 57) = g → CallI X mX9_in [.long (Int32.toInt64 c), .long 48, .long 57] m3 (fun v5 m4 => CallI X mX9_want [.ref 77, .int v5, .int 1, .int (m4 77 14)] m4 (fun v7 m6 => (¬ v7 = 0 → Wp X mX9_takeNumber 50 [some (.ref 77), some (.int (nI nlo)), some (.int (nI nhi)), none, some (.int 0), none] [] m6 (QI Q)) ∧ (v7 = 0 → (QI Q) (some (.int 0)) m6))) := by
    intro c g hg1 hg2
    refine s_in (lo := 48) (hi := 57) rfl rfl ?_
    rw [hg2]
    refine s_want (f := 1) (w := p1) rfl K3.2.1 (by omega) K3 (fun hg => ⟨fun _ => ?_, fun d => absurd d (show ¬ (1 : Int32) = 0 by decide)⟩) (fun hg m6 g6 o6 K6 => ⟨fun d => absurd rfl d, fun _ => ?_⟩)
    · have ne : rn (isG t) L p1 ≠ p1 := of_decide_eq_true (hg1.symm.trans hg)
      have key := runI (q := isG t) (L := L) (I := fun q m' => p1 ≤ q ∧ q ≤ L ∧ GM m3 m' ∧ (∀ i, i ≠ 14 → m' 77 i = m3 77 i) ∧ m' 77 14 = nI q ∧ ∀ i, p1 ≤ i → i < q → isG t i = true)
        (W := fun q m' => Wp X mX9_takeNumber 50 [some (.ref 77), some (.int (nI nlo)), some (.int (nI nhi)), none, some (.int (nI (vm t p1 (q - p1)))), none] [] m' (QI Q)) ?_ _ p1 rfl ?_ m3 ⟨Nat.le_refl _, hs, GM.rf, fun _ _ => rfl, K3.2.1, fun i h1 h2 => by omega⟩
      · rw [Nat.sub_self] at key
        exact key
      · rintro q m4 hqL hq ⟨hpp, -, g4, o4, e4, hG⟩ next
        obtain ⟨c1, c2⟩ := T3.2 q hqL
        have hq2 := of_decide_eq_true hq
        have hle : ∀ i, i < q - p1 → t (p1 + i) ≤ 57 := fun i hi => (of_decide_eq_true (hG (p1 + i) (by omega) (by omega))).2
        have vb := vm_le (t := t) (p := p1) (q - p1) hle
        refine eX9_takeNumber_50 ?_
        rw [o4 13 (by omega), K3.1, e4, nI_clamp (n := q) (by omega), g4.1 86 (by omega), c1]
        refine pk_le L q (fun d => absurd d (by omega)) (fun _ => ⟨pk_in q 300 (by omega), s_inG c2 ⟨fun z => ?_, fun _ => ?_⟩⟩)
        · rw [bI_0, decide_eq_true hq2] at z
          cases z
        · rw [e4, nI_clamp (n := q) (by omega), g4.1 86 (by omega), c1, nI_1]
          have nx : ∀ m', m' = a_up m4 77 14 (nI (q + 1)) → Wp X mX9_takeNumber 50 [some (.ref 77), some (.int (nI nlo)), some (.int (nI nhi)), none, some (.int (nI (vm t p1 (q + 1 - p1)))), none] [] m' (QI Q) := fun m' e5 => next m' ⟨by omega, by omega, g4.up e5 (by omega), (fun i hi => by rw [e5, a_up_n _ _ (Or.inr hi)]; exact o4 i hi), by rw [e5, a_up_s], fun i h1 h2 => by
            by_cases z : i = q
            · rw [z]; exact hq
            · exact hG i h1 (by omega)⟩
          rw [show q + 1 - p1 = (q - p1) + 1 by omega, vm_s, show p1 + (q - p1) = q by omega] at nx
          refine pk_le (vm t p1 (q - p1)) 99999 (fun d => ⟨pk_in q 300 (by omega), fun m5 e5 => ?_⟩) (fun d m5 e5 => ?_)
          · have := nx m5 e5
            rw [if_neg (by omega)] at this
            rw [show (10 : Int32) = nI 10 from rfl, pk_mul, nI_add, show (48 : Int32) = nI 48 from rfl, pk_sub (by omega), show 10 * vm t p1 (q - p1) + t q - 48 = 10 * vm t p1 (q - p1) + (t q - 48) by omega]
            exact this
          · have := nx m5 e5
            rw [if_pos d] at this
            exact this
      · rintro m4 ⟨hpp, hqL, g4, o4, e4, hG⟩
        have he := rn_end (isG t) L p1
        generalize hp2 : rn (isG t) L p1 = q at *
        have hle : ∀ i, i < q - p1 → t (p1 + i) ≤ 57 := fun i hi => (of_decide_eq_true (hG (p1 + i) (by omega) (by omega))).2
        have vb := vm_le (t := t) (p := p1) (q - p1) hle
        have G4 : GM m m4 := g3.tr g4
        have K4 : KM m4 L (.ok q) := ⟨by rw [o4 13 (by omega)]; exact K3.1, e4, hqL, by rw [o4 17 (by omega)]; exact K3.2.2.2.1, by rw [o4 18 (by omega)]; exact K3.2.2.2.2⟩
        have f4 : m4 77 15 = nI p1 := by rw [o4 15 (by omega)]; exact f3
        rw [if_neg ne] at hok her
        have bad : (3 < q - p1 ∨ vl t p1 (q - p1) < nlo ∨ nhi < vl t p1 (q - p1)) → ∀ m5, m5 = m4 → CallI X mX9_want [.ref 77, .int 0, .int 2, .int (m5 77 15)] m5 (fun v2 m1 => (QI Q) (some (.int (nI (vm t p1 (q - p1))))) m1) := fun hb m5 e5 => by
          subst e5
          rw [if_pos hb] at her
          exact s_want (g := false) (f := 2) (w := p1) rfl f4 (by omega) K4 (fun d => by cases d) (fun _ m6 g6 o6 K6 => qI (her (2, p1) _ m6 rfl (G4.tr g6) K6))
        have tail : (4 ≤ nI q - nI p1 → CallI X mX9_want [.ref 77, .int 0, .int 2, .int (m4 77 15)] m4 (fun v2 m1 => (QI Q) (some (.int (nI (vm t p1 (q - p1))))) m1)) ∧ (¬ 4 ≤ nI q - nI p1 → CallI X mX9_in [.long (Int32.toInt64 (nI (vm t p1 (q - p1)))), .long (Int32.toInt64 (nI nlo)), .long (Int32.toInt64 (nI nhi))] m4 (fun v4 m3 => (v4 = 0 → CallI X mX9_want [.ref 77, .int 0, .int 2, .int (m3 77 15)] m3 (fun v6 m5 => (QI Q) (some (.int (nI (vm t p1 (q - p1))))) m5)) ∧ (¬ v4 = 0 → CallI X mX9_want [.ref 77, .int 1, .int 2, .int (m3 77 15)] m3 (fun v8 m7 => (QI Q) (some (.int (nI (vm t p1 (q - p1))))) m7)))) := by
          rw [pk_sub hpp]
          refine pk_le 4 (q - p1) (fun d => bad (Or.inl (by omega)) m4 rfl) (fun d => s_in rfl rfl ?_)
          have ev := vm_vl (t := t) (p := p1) (q - p1) (by omega) hle
          have ed : decide (nI nlo ≤ nI (vm t p1 (q - p1)) ∧ nI (vm t p1 (q - p1)) ≤ nI nhi) = decide (nlo ≤ vm t p1 (q - p1) ∧ vm t p1 (q - p1) ≤ nhi) := decide_eq_decide.mpr (by rw [nI_leI (by omega) (by omega), nI_leI (by omega) (by omega)])
          rw [ed]
          refine ⟨fun z => bad ?_ m4 rfl, fun z => ?_⟩
          · rw [bI_0] at z
            have z := of_decide_eq_false z
            rw [← ev]
            omega
          · rw [bI_n0] at z
            have z := of_decide_eq_true z
            rw [if_neg (by omega)] at hok
            refine s_want (g := true) (f := 2) (w := p1) rfl f4 (by omega) K4 (fun _ => qI ?_) (fun d => by cases d)
            rw [ev]
            exact hok (vl t p1 (q - p1), q) m4 rfl G4 f4 K4
        refine eX9_takeNumber_50 ?_
        rw [o4 13 (by omega), K3.1, e4, nI_clamp (n := q) (by omega), g4.1 86 (by omega), f4]
        rw [f4] at tail
        refine pk_le L q (fun _ => tail) (fun d => ⟨pk_in q 300 (by omega), ?_⟩)
        obtain ⟨c1, c2⟩ := T3.2 q d
        rw [c1]
        refine s_inG c2 ⟨fun _ => ?_, fun z => ?_⟩
        · rw [e4, f4]; exact tail
        · rw [bI_n0] at z
          have := he.resolve_left (by omega)
          unfold isG at this
          rw [this] at z
          cases z
    · have eq : rn (isG t) L p1 = p1 := by
        have := of_decide_eq_false (hg1.symm.trans hg)
        omega
      rw [if_pos eq] at her
      exact qI (her (1, p1) _ m6 rfl (g3.tr g6) K6)
  by_cases hlt : p1 < L
  · rw [if_pos hlt]
    obtain ⟨c1, c2⟩ := T3.2 p1 hlt
    have ed : decide ((48 : Int32) ≤ nI (t p1) ∧ nI (t p1) ≤ 57) = isG t p1 := decide_eq_decide.mpr (by
      rw [show (48 : Int32) = nI 48 from rfl, show (57 : Int32) = nI 57 from rfl, nI_leI (by omega) (by omega), nI_leI (by omega) (by omega)])
    refine first _ (isG t p1) ?_ ed
    cases hg : isG t p1 with
    | true =>
      have := rn_ge (isG t) L (p1 + 1)
      rw [rn_go hlt hg]
      exact (decide_eq_true (by omega)).symm
    | false =>
      rw [rn_stop (Or.inr hg)]
      exact (decide_eq_false (by omega)).symm
  · rw [if_neg hlt]
    refine first _ false ?_ (by decide)
    rw [rn_stop (Or.inl (by omega))]
    exact (decide_eq_false (by omega)).symm
end MNUM
