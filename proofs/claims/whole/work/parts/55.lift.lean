/-! ===== reveal: what must come off ===== -/
def lft (P : PT) (B : BT) (d : Nat) : Bool := !ex (fun c => d.testBit c && ex (fun j => cov P B c j && !d.testBit j) 32) (bn B)
/-- something else that lies over the one at the cell is not among d -/
def hid (P : PT) (B : BT) (t d c : Nat) : Bool := ex (fun j => decide (t < j) && (decide (j < bn B) && lie P B j c) && !d.testBit j) 32
def swf (P : PT) (B : BT) (t d c : Nat) : Nat := if (lie P B t c && !hid P B t d c) = true then 1 else 0
def swo (P : PT) (B : BT) (t d : Nat) : Nat := sm (swf P B t d) 128
def few : Option Nat → Nat
  | none => 21
  | some s => pcn 32 s
def rvs (P : PT) (B : BT) (t d : Nat) (u : Option Nat) : Option Nat := if pcn 32 d < few u ∧ lft P B d = true ∧ canR P (swo P B t d) (siz P (bkd B t)) = true then some d else u
def rvN (P : PT) (B : BT) (t v : Nat) : Nat → Option Nat
  | 0 => none
  | i + 1 => rvs P B t (dep 32 v i) (rvN P B t v i)
theorem rvN_s (P : PT) (B : BT) (t v i : Nat) : rvN P B t v (i + 1) = rvs P B t (dep 32 v i) (rvN P B t v i) := rfl
def rvI : Option Nat → Int32
  | none => -1
  | some d => nI d
theorem swo_le (P : PT) (B : BT) (t d : Nat) : swo P B t d ≤ 128 := by
  have := sm_bd (n := 128) (c := 1) (f := swf P B t d) fun k _ => by unfold swf; exact ite_1
  unfold swo; omega
theorem few_le (u : Option Nat) : few u ≤ 32 := by
  cases u with
  | none => decide
  | some s => show pcn 32 s ≤ 32; rw [pcn_cnt]; exact cnt_le _ _
/-- what the class holds of the one looked under -/
def ELf (m : Nat → Nat → Int32) (P : PT) (B : BT) (t : Nat) : Prop := (∀ c, c < bn B → isS (m 48 c) (cov P B c)) ∧ ∃ n, n ≤ 128 ∧ m 47 3 = nI n ∧ ∀ d, sm (fun i => if m 49 i &&& (nI d ^^^ (-1)) = 0 then 1 else 0) n = swo P B t d
theorem isS_nI (d : Nat) : isS (nI d) (fun i => d.testBit i) := fun i hi => b_nI hi
section LIFT
variable {X : a_X} {m : Nat → Nat → Int32} {P : PT} {B : BT} {Q : Int32 → (Nat → Nat → Int32) → Prop}
theorem z_ex {a : Int32} {p : Nat → Bool} {d : Nat} (ha : isS a p) : a &&& (nI d ^^^ (-1)) = 0 ↔ ex (fun j => p j && !d.testBit j) 32 = false := by
  rw [(ha.and (isS_nI d).not).zero, ex_f]
theorem s_isLiftable (hV : VB P B) (hE : m 15 1 = nI (bn B)) (hC : ∀ c, c < bn B → isS (m 48 c) (cov P B c)) {d : Nat} (h : Q (bI (lft P B d)) m) : CallI X mX2_isLiftable [.ref 47, .ref 15, .int (nI d)] m Q := by
  have hn := hV.1
  refine eX2_isLiftable_0 ?_
  refine lpf (a := 0) (b := bn B) (by omega) (I := fun i m' => m' = m ∧ ∀ c, c < i → (d.testBit c && ex (fun j => cov P B c j && !d.testBit j) 32) = false) (W := fun i m' => Wp X mX2_isLiftable 2 [some (.ref 47), some (.ref 15), some (.int (nI d)), some (.int (nI i))] [] m' (QI Q)) ?_ ?_ ⟨rfl, fun c hc => by omega⟩
  · rintro i - hi m' ⟨hm, hI⟩ next
    subst m'
    have go : (d.testBit i && ex (fun j => cov P B i j && !d.testBit j) 32) = false → Wp X mX2_isLiftable 2 [some (.ref 47), some (.ref 15), some (.int (nI d)), some (.int (nI (i + 1)))] [] m (QI Q) := fun z => next m ⟨rfl, fun c hc => by
      by_cases e : c = i
      · rw [e]; exact z
      · exact hI c (by omega)⟩
    refine eX2_isLiftable_2 ?_
    rw [hE]
    refine pk_le (bn B) i (fun c => absurd c (by omega)) (fun _ => s_isIn (by omega) ?_)
    rw [b_nI (by omega), nI_1, nI_clamp (n := i) (by omega)]
    refine ⟨fun z => ?_, fun z => ⟨pk_in i 20 (by omega), fun q => ?_, fun q => ?_⟩⟩
    · rw [bI_0] at z
      exact go (by rw [z, Bool.false_and])
    · rw [z_ex (hC i hi)] at q
      exact go (by rw [q, Bool.and_false])
    · rw [bI_n0] at z
      rw [z_ex (hC i hi), Bool.not_eq_false] at q
      have : lft P B d = false := by
        unfold lft
        rw [ex_t.mpr ⟨i, hi, by rw [z, q]; rfl⟩]; rfl
      rw [this] at h
      exact qI h
  · rintro _ ⟨rfl, hI⟩
    refine eX2_isLiftable_2 ?_
    rw [hE]
    refine pk_le (bn B) (bn B) (fun _ => qI ?_) (fun c => absurd c (by omega))
    have : lft P B d = true := by
      unfold lft
      rw [ex_f.mpr fun c hc => hI c hc]; rfl
    rw [this] at h
    exact h
theorem s_seenWithout {n d : Nat} (hn : n ≤ 128) (hE : m 47 3 = nI n) (h : Q (nI (sm (fun i => if m 49 i &&& (nI d ^^^ (-1)) = 0 then 1 else 0) n)) m) : CallI X mX2_seenWithout [.ref 47, .int (nI d)] m Q := by
  refine eX2_seenWithout_0 ?_
  refine lpf (a := 0) (b := n) (by omega) (I := fun i m' => m' = m) (W := fun i m' => Wp X mX2_seenWithout 4 [some (.ref 47), some (.int (nI d)), some (.int (nI (sm (fun i => if m 49 i &&& (nI d ^^^ (-1)) = 0 then 1 else 0) i))), some (.int (nI i))] [] m' (QI Q)) ?_ ?_ rfl
  · rintro i - hi _ rfl next
    have nx := next _ rfl
    refine eX2_seenWithout_4 ?_
    rw [hE]
    refine pk_le n i (fun c => absurd c (by omega)) (fun _ => ⟨pk_in i 128 (by omega), ?_⟩)
    rw [nI_clamp (n := i) (by omega), nI_1, nI_1]
    rw [sm_s] at nx
    refine ⟨fun z => ?_, fun z => ?_⟩
    · rw [if_neg z] at nx; exact nx
    · rw [if_pos z] at nx; exact nx
  · rintro _ rfl
    refine eX2_seenWithout_4 ?_
    rw [hE]
    exact pk_le n n (fun _ => qI h) (fun c => absurd c (by omega))
theorem s_lookUnder {Q : (Nat → Nat → Int32) → Prop} (hP : EP m P) (hVP : VP P) (hE : EB m 15 P B) (hV : VB P B) {t : Nat} (ht : t < bn B) (h : ∀ m', Fr (fun c => 47 ≤ c ∧ c ≤ 49) m m' → ELf m' P B t → Q m') : CallV X mX2_lookUnder [.ref 47, .ref 15, .int (nI t)] m Q := by
  have h0 := hVP.1.2
  have h1 := hVP.2.1.2
  have h6 := hVP.2.2.2.2.2.2.1
  have hn := hV.1
  obtain ⟨hk, hx, hy, -⟩ := hV.2 t ht
  obtain ⟨a1, a2, a3, -⟩ := hE.2.2.2.2.1 t ht
  refine eX2_lookUnder_0 ?_
  refine lpf (a := 0) (b := bn B) (by omega) (I := fun i m' => Fr (fun c => c = 48) m m' ∧ ∀ c, c < i → isS (m' 48 c) (cov P B c)) (W := fun i m' => Wp X mX2_lookUnder 2 [some (.ref 47), some (.ref 15), some (.int (nI t)), some (.int (nI i)), none, none] [] m' (QV Q)) ?_ ?_ ⟨Fr.rf, fun c hc => by omega⟩
  · rintro i - hi m2 ⟨hF, hI⟩ next
    have P2 : EP m2 P := hP.fr fun c hc hc2 => hF c (by omega)
    have E2 : EB m2 15 P B := hE.fr fun c hc hc2 => hF c (by omega)
    refine eX2_lookUnder_2 ?_
    rw [E2.1, nI_1, nI_clamp (n := i) (by omega)]
    refine pk_le (bn B) i (fun c => absurd c (by omega)) (fun _ => s_coversOf sB15 P2 hVP E2 hV hi fun a ha => ⟨pk_in i 20 (by omega), fun m4 e4 => next m4 ⟨e4 ▸ Fr.up hF rfl, fun c hc => ?_⟩⟩)
    rw [e4, a_up_i]
    by_cases e : c = i
    · rw [if_pos e, e]; exact ha
    · rw [if_neg e]; exact hI c (by omega)
  · rintro m2 ⟨hF, hC⟩
    have E2 : EB m2 15 P B := hE.fr fun c hc hc2 => hF c (by omega)
    refine eX2_lookUnder_2 ?_
    rw [E2.1]
    refine pk_le (bn B) (bn B) (fun _ m3 e3 => ⟨pk_in t 20 (by omega), ?_⟩) (fun c => absurd c (by omega))
    have F3 : Fr (fun c => 47 ≤ c ∧ c ≤ 49) m m3 := e3 ▸ Fr.up (hF.mono fun c hc => by omega) (by omega)
    have C3 : ∀ c, c < bn B → isS (m3 48 c) (cov P B c) := fun c hc => by rw [e3, a_up_c _ _ (by omega)]; exact hC c hc
    have n3 : m3 47 3 = nI 0 := by rw [e3, a_up_s]; rfl
    clear e3
    rw [nI_clamp (n := t) (by omega), F3 18 (by omega), a3]
    have hR : ∀ c, lie P B t c = true → rec4 (bco B t) (bco B t + pwd P (bkd B t)) (bro B t) (bro B t + phg P (bkd B t)) c = true := fun c hc => (lie_rch hc).1
    obtain ⟨g, hgg⟩ : ∃ g : Nat → Nat, ∀ c, g c = if lie P B t c = true then 1 else 0 := ⟨_, fun _ => rfl⟩
    have hg1 : ∀ c, g c ≤ 1 := fun c => by rw [hgg]; exact ite_1
    generalize ek : bkd B t = k at *
    generalize exx : bco B t = x at *
    generalize ey : bro B t = y at *
    have gle : ∀ v, smv v g ≤ 128 := fun v => by
      have := sm_bd (n := 128) (c := 1) (f := fun c => if v c = true then g c else 0) fun c _ => by
        have := hg1 c
        split <;> omega
      unfold smv; omega
    have key := rect (x0 := x) (x1 := x + pwd P k) (y0 := y) (y1 := y + phg P k) (by omega) (by omega) (by omega) (by omega) (m := m3)
      (I := fun v m' => Fr (fun c => 47 ≤ c ∧ c ≤ 49) m m' ∧ (∀ c, c < bn B → isS (m' 48 c) (cov P B c)) ∧ m' 47 3 = nI (smv v g) ∧ ∀ d, sm (fun i => if m' 49 i &&& (nI d ^^^ (-1)) = 0 then 1 else 0) (smv v g) = smv v (swf P B t d))
      (Wo := fun l v m' => Wp X mX2_lookUnder 39 [some (.ref 47), some (.ref 15), some (.int (nI t)), some (.int (nI l)), none, none] [] m' (QV Q))
      (Wi := fun l q v m' => Wp X mX2_lookUnder 56 [some (.ref 47), some (.ref 15), some (.int (nI t)), some (.int (nI l)), some (.int (nI q)), none] [] m' (QV Q)) ?_ ?_ ?_ ?_ ⟨F3, C3, by rw [smv_0]; exact n3, fun d => by rw [smv_0, smv_0]; rfl⟩
    · exact key
    · rintro l v m4 hl hl2 ⟨F4, -⟩ next
      have P4 : EP m4 P := hP.fr fun c hc hc2 => F4 c (by omega)
      refine eX2_lookUnder_39 (s_bottom sB15 P4 (by omega) h6 hk (by rw [F4 _ (by omega)]; exact a1) (by rw [F4 _ (by omega)]; exact a3) ?_)
      refine pk_le (y + phg P k) l (fun c => absurd c (by omega)) (fun _ => ⟨pk_in t 20 (by omega), ?_⟩)
      rw [nI_clamp (n := t) (by omega), F4 17 (by omega), a2]
      exact next
    · rintro l v m4 hl hl2 ⟨F4, -⟩ next
      have P4 : EP m4 P := hP.fr fun c hc hc2 => F4 c (by omega)
      refine eX2_lookUnder_56 (s_right sB15 P4 (by omega) h6 hk (by rw [F4 _ (by omega)]; exact a1) (by rw [F4 _ (by omega)]; exact a2) ?_)
      rw [nI_1]
      exact pk_le (x + pwd P k) (x + pwd P k) (fun _ => next) (fun c => absurd c (by omega))
    · rintro l q v m4 hl hl2 hq hq2 hv ⟨F4, C4, n4, d4⟩ next
      have P4 : EP m4 P := hP.fr fun c hc hc2 => F4 c (by omega)
      have hc : 16 * l + q < 128 := by omega
      refine eX2_lookUnder_56 (s_right sB15 P4 (by omega) h6 hk (by rw [F4 _ (by omega)]; exact a1) (by rw [F4 _ (by omega)]; exact a2) ?_)
      refine pk_le (x + pwd P k) q (fun c => absurd c (by omega)) (fun _ => s_cellAt ⟨pk_in (16 * l + q) 128 hc, ?_⟩)
      have eC : isS (m 21 (16 * l + q)) (fun i => decide (i < bn B) && lie P B i (16 * l + q)) := (hE.2.2.2.2.2.2 _ hc).1
      rw [nI_clamp (n := 16 * l + q) (by omega), F4 21 (by omega), nI_1]
      refine s_isIn (by omega) ?_
      rw [eC.nth (by omega) ht rfl]
      have s1 := smv_1 (f := g) hc hv
      refine ⟨fun z => ?_, fun z => s_laterThan ?_⟩
      · rw [bI_0] at z
        have g0 : g (16 * l + q) = 0 := by rw [hgg, if_neg (by rw [z]; decide)]
        refine next m4 ⟨F4, C4, by rw [s1, g0, n4, Nat.add_zero], fun d => ?_⟩
        rw [s1, g0, smv_1 hc hv, Nat.add_zero, d4 d]
        have : swf P B t d (16 * l + q) = 0 := if_neg (by rw [z]; simp)
        rw [this, Nat.add_zero]
      · rw [bI_n0] at z
        have g1 : g (16 * l + q) = 1 := by rw [hgg, if_pos z]
        have lt : smv v g < 128 := by
          have := gle (fun c => v c || decide (c = 16 * l + q))
          omega
        rw [n4, nI_clamp (n := smv v g) (by omega)]
        refine ⟨pk_in (smv v g) 128 lt, fun m9 e9 m10 e10 => ?_⟩
        have n9 : m9 47 3 = nI (smv v g) := by rw [e9, a_up_c _ _ (by omega)]; exact n4
        rw [n9, nI_1] at e10
        refine next m10 ⟨?_, fun c hc => ?_, ?_, fun d => ?_⟩
        · rw [e10, e9]; exact Fr.up (Fr.up F4 (by omega)) (by omega)
        · rw [e10, a_up_c _ _ (by omega), e9, a_up_c _ _ (by omega)]; exact C4 c hc
        · rw [e10, a_up_s, s1, g1]
        · rw [s1, g1, sm_s, smv_1 hc hv, ← d4 d]
          have w : ∀ i, m10 49 i = if i = smv v g then _ else m4 49 i := fun i => by rw [e10, a_up_c _ _ (by omega), e9, a_up_i]
          rw [sm_cong (g := fun i => if m4 49 i &&& (nI d ^^^ (-1)) = 0 then 1 else 0) (fun i hi => by rw [w, if_neg (Nat.ne_of_lt hi)]), w, if_pos rfl]
          congr 1
          have zz := z_ex (d := d) (eC.later (t := t) (by omega))
          unfold swf
          rw [z, Bool.true_and]
          by_cases e : hid P B t d (16 * l + q) = true
          · exact (if_neg (by rw [zz]; show ¬ hid P B t d (16 * l + q) = false; rw [e]; decide)).trans (if_neg (by rw [e]; decide)).symm
          · have e : hid P B t d (16 * l + q) = false := by simpa using e
            exact (if_pos (by rw [zz]; exact e)).trans (if_pos (by rw [e]; rfl)).symm
    · rintro m4 ⟨F4, C4, n4, d4⟩
      have P4 : EP m4 P := hP.fr fun c hc hc2 => F4 c (by omega)
      refine eX2_lookUnder_39 (s_bottom sB15 P4 (by omega) h6 hk (by rw [F4 _ (by omega)]; exact a1) (by rw [F4 _ (by omega)]; exact a3) ?_)
      refine pk_le (y + phg P k) (y + phg P k) (fun _ => qV (h m4 F4 ⟨C4, _, gle _, n4, fun d => ?_⟩)) (fun c => absurd c (by omega))
      rw [d4 d]
      exact smv_all fun c hc hr => if_neg fun z => by
        rw [Bool.and_eq_true] at z
        have := hR c z.1
        rw [hr] at this; cases this
end LIFT
