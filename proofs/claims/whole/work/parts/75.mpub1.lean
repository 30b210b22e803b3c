/-! ===== the model's calls ===== -/
def MF (m : Nat → Nat → Int32) (F : FT) : Prop := m 77 26 = nI (fn F) ∧ (∀ i, i < fn F → m 91 i = nI (fkd F i) ∧ m 92 i = nI (fco F i) ∧ m 93 i = nI (fro F i)) ∧ ∀ c, c < 128 → m 94 c = nI (flk F c)
def MI2 (m : Nat → Nat → Int32) (i : Nat) (I : IM) : Prop := m 79 i = bI I.1 ∧ (I.1 = true → MB m (400 + 200 * i) I.2)
/-- the model's memory holds it -/
def MI (m : Nat → Nat → Int32) (S : ST) : Prop := MP m (qP S) ∧ MB m 0 (qB S) ∧ MI2 m 0 (qI0 S) ∧ MI2 m 1 (qI1 S) ∧ MF m (qF S) ∧ (m 77 13 = nI (qL S) ∧ (∀ i, i < qL S → m 86 i = nI (qT S i)) ∧ m 77 18 = qW S)
theorem MF.fr {m m' : Nat → Nat → Int32} {F : FT} (h : MF m F) (e26 : m' 77 26 = m 77 26) (e : ∀ c, 91 ≤ c ∧ c ≤ 94 → m' c = m c) : MF m' F := by
  unfold MF at h ⊢
  rw [e26, e 91 (by omega), e 92 (by omega), e 93 (by omega), e 94 (by omega)]
  exact h
theorem MI2.fr {m m' : Nat → Nat → Int32} {P : PT} {i : Nat} {I : IM} (h : MI2 m i I) (hV : VI P I) (e : m' 79 = m 79) (e78 : ∀ j, 400 ≤ j → m' 78 j = m 78 j) : MI2 m' i I := ⟨by rw [e]; exact h.1, fun q => (h.2 q).fr (hV q).1 fun j h1 h2 => e78 j (by omega)⟩
/-- nothing but scratch has changed, and the bills -/
theorem MI.bills {m m' : Nat → Nat → Int32} {S : ST} {B : BT} (h : MI m S) (hV : VS S) (e : ∀ c, 79 ≤ c ∧ c ≤ 86 ∨ 91 ≤ c ∧ c ≤ 94 → m' c = m c) (e7 : ∀ i, i = 5 ∨ i = 9 ∨ i = 13 ∨ i = 18 ∨ i = 26 → m' 77 i = m 77 i) (e78 : ∀ j, 400 ≤ j → m' 78 j = m 78 j) (hB : MB m' 0 B) : MI m' (wB S B) := by
  obtain ⟨a1, a2, a3, a4, a5, a6⟩ := h
  refine ⟨a1.fr ⟨e7 5 (by omega), e7 9 (by omega)⟩ fun c h1 h2 => e c (by omega), hB, a3.fr hV.2.2.1 (e 79 (by omega)) e78, a4.fr hV.2.2.2.1 (e 79 (by omega)) e78, a5.fr (e7 26 (by omega)) fun c hc => e c (by omega), ?_⟩
  show m' 77 13 = nI (qL S) ∧ (∀ i, i < qL S → m' 86 i = nI (qT S i)) ∧ m' 77 18 = qW S
  rw [e7 13 (by omega), e7 18 (by omega), e 86 (by omega)]; exact a6
theorem wB_self (S : ST) : wB S (qB S) = S := rfl
theorem MI.scr {m m' : Nat → Nat → Int32} {S : ST} (h : MI m S) (hV : VS S) (e : ∀ c, 79 ≤ c ∧ c ≤ 86 ∨ 91 ≤ c ∧ c ≤ 94 → m' c = m c) (e7 : ∀ i, i = 5 ∨ i = 9 ∨ i = 13 ∨ i = 18 ∨ i = 26 → m' 77 i = m 77 i) (e78 : ∀ j, j < 200 ∨ 400 ≤ j → m' 78 j = m 78 j) : MI m' S :=
  h.bills hV e e7 (fun j hj => e78 j (by omega)) (h.2.1.fr hV.2.1.1 fun j h1 h2 => e78 j (by omega))
theorem MI.gt {m m' : Nat → Nat → Int32} {S : ST} (h : MI m S) (hV : VS S) (g : GT m m') : MI m' S := h.scr hV (fun c hc => g.1 c (by omega)) (fun i hi => g.2.1 i (by omega) (by omega) (by omega)) g.2.2
theorem MI.see {m m' : Nat → Nat → Int32} {S : ST} (h : MI m S) (hV : VS S) (f : Fr (fun c => 87 ≤ c ∧ c ≤ 90) m m') : MI m' S := h.scr hV (fun c hc => f c (by omega)) (fun i hi => by rw [f 77 (by omega)]) (fun j hj => by rw [f 78 (by omega)])
section MPUB1
variable {X : a_X} {m : Nat → Nat → Int32} {S : ST} {Q : Int32 → (Nat → Nat → Int32) → Prop}
theorem m_fault (hC : MI m S) (h : Q (qW S) m) : CallI X mX9_fault [.ref 77] m Q := by
  refine eX9_fault_0 ?_
  rw [hC.2.2.2.2.2.2.2]
  exact qI h
theorem m_told (hC : MI m S) {x : Int32} (h : Q (aTold S x) m) : CallI X mX9_told [.ref 77, .int x] m Q := by
  obtain ⟨hP, hB, -, -, hF, hT⟩ := hC
  refine eX9_told_0 ?_
  rw [hP.2.1, hP.2.2.1, show Int32.toNatClampNeg 180 = 180 from rfl, show Int32.toNatClampNeg 181 = 181 from rfl, show m 78 180 = nI (bn (qB S)) from hB.1, show m 78 181 = bty (qB S) from hB.2.1, hT.1, hF.1]
  refine ⟨fun c => ?_, fun c => ?_, fun c => ?_, fun c => ?_, fun c => ?_, fun c => ?_, fun c => ?_, fun c => ?_, fun c => ?_, fun c => ?_, fun c => ?_, fun c => ?_⟩
  · subst c; exact ⟨pk_in 0 10 (by omega), by rw [show Int32.toNatClampNeg 0 = 0 from rfl, hP.1 0 (by omega)]; exact qI h⟩
  · subst c; exact ⟨pk_in 1 10 (by omega), by rw [show Int32.toNatClampNeg 1 = 1 from rfl, hP.1 1 (by omega)]; exact qI h⟩
  · subst c; exact ⟨pk_in 2 10 (by omega), by rw [show Int32.toNatClampNeg 2 = 2 from rfl, hP.1 2 (by omega)]; exact qI h⟩
  · subst c; exact ⟨pk_in 3 10 (by omega), by rw [show Int32.toNatClampNeg 3 = 3 from rfl, hP.1 3 (by omega)]; exact qI h⟩
  · subst c; exact ⟨pk_in 4 10 (by omega), by rw [show Int32.toNatClampNeg 4 = 4 from rfl, hP.1 4 (by omega)]; exact qI h⟩
  · subst c; exact qI h
  · subst c; exact qI h
  · subst c; exact ⟨pk_in 180 800 (by omega), qI h⟩
  · subst c; exact ⟨pk_in 181 800 (by omega), qI h⟩
  · subst c; exact qI h
  · subst c; exact qI h
  · have : aTold S x = OUT := by
      have n : ∀ k : Int32, ¬ (k.toInt < 0 ∨ 10 < k.toInt) → ¬ x = k := fun k hk q => hk (q ▸ c)
      unfold aTold
      rw [if_neg (n 0 (by decide)), if_neg (n 1 (by decide)), if_neg (n 2 (by decide)), if_neg (n 3 (by decide)), if_neg (n 4 (by decide)), if_neg (n 5 (by decide)), if_neg (n 6 (by decide)), if_neg (n 7 (by decide)), if_neg (n 8 (by decide)), if_neg (n 9 (by decide)), if_neg (n 10 (by decide))]
    rw [this] at h
    exact qI h
theorem m_kind (hC : MI m S) (hV : VS S) {k x : Int32} (h : Q (aKind S k x) m) : CallI X mX9_kind [.ref 77, .int k, .int x] m Q := by
  obtain ⟨hP, -⟩ := hC
  unfold aKind at h
  refine eX9_kind_0 (s_isKind hP hV.1 (k_cases hV.1 (fun e => ?_) fun j hj hj2 hx e => ?_).symm)
  · rw [e, if_neg (by decide)] at h
    exact qI h
  · subst hx
    rw [e, if_pos rfl, cl_nI (by omega)] at h
    rw [nI_clamp (n := j) (by omega), (hP.2.2.2.2.2 j hj).1, (hP.2.2.2.2.2 j hj).2.1, (hP.2.2.2.2.2 j hj).2.2]
    have J : vp_in (nI j) 24 := pk_in j 24 (by omega)
    refine ⟨fun c => ⟨fun c1 => ⟨fun c2 => ?_, fun c2 => ⟨J, ?_⟩⟩, fun c1 => ⟨J, ?_⟩⟩, fun c => ⟨J, ?_⟩⟩
    · rw [if_neg c, if_neg c1, if_neg c2] at h; exact qI h
    · rw [if_neg c, if_neg c1, if_pos c2] at h; exact qI h
    · rw [if_neg c, if_pos c1] at h; exact qI h
    · rw [if_pos c] at h; exact qI h
theorem m_passes (hC : MI m S) (hV : VS S) {x : Int32} (h : Q (aPasses S x) m) : CallI X mX9_passes [.ref 77, .int x] m Q := by
  obtain ⟨hP, -⟩ := hC
  have h0 := hV.1.1
  unfold aPasses at h
  refine eX9_passes_0 ⟨pk_in 0 10 (by omega), ?_⟩
  rw [show Int32.toNatClampNeg 0 = 0 from rfl, hP.1 0 (by omega)]
  refine s_in (lo := 0) rfl rfl ?_
  rw [in_ink (by omega)]
  rcases ink_cases x (show pn (qP S) 0 < 2 ^ 31 by omega) with e | ⟨j, hj, rfl, e⟩
  · rw [e] at h ⊢
    exact ⟨fun _ => qI h, fun c => absurd rfl c⟩
  · rw [e, if_pos rfl, cl_nI (by omega)] at h
    rw [e, nI_clamp (n := j) (by omega), hP.2.2.2.1 j (by omega)]
    exact ⟨fun c => absurd c (by decide), fun _ => ⟨pk_in j 32 (by omega), qI h⟩⟩
theorem m_bare (hC : MI m S) (hV : VS S) {x y : Int32} (h : Q (aBare S x y) m) : CallI X mX9_bare [.ref 77, .int x, .int y] m Q := by
  obtain ⟨hP, -⟩ := hC
  unfold aBare at h
  refine eX9_bare_0 (s_isCell hP hV.1 ?_)
  rcases isC_cases hV.1 x y with e | ⟨i, j, hi, hj, hi2, hj2, rfl, rfl, e, ec, hc⟩
  · rw [e, if_neg (by decide)] at h
    rw [e]
    exact ⟨fun _ => qI h, fun c => absurd rfl c⟩
  · rw [e, if_pos rfl, ec] at h
    rw [e, show (16 : Int32) = nI 16 from rfl, pk_mul, nI_add, nI_clamp (n := 16 * j + i) (by omega), hP.2.2.2.2.1 _ hc]
    exact ⟨fun c => absurd c (by decide), fun _ => ⟨pk_in (16 * j + i) 256 (by omega), s_one (qI h)⟩⟩
theorem MB.day {r : Nat} {B : BT} {v : Int32} {m' : Nat → Nat → Int32} (hB : MB m r B) (hn : bn B ≤ 20) (e : m' = a_up m 78 (r + 181) (bty B + v)) : MB m' r (dayB B v) := by
  obtain ⟨b1, b2, b3, b4, b5⟩ := hB
  have z : ∀ i, i ≠ r + 181 → m' 78 i = m 78 i := fun i hi => by rw [e, a_up_n _ _ (Or.inr hi)]
  refine ⟨by rw [z _ (by omega)]; exact b1, by rw [e, a_up_s]; rfl, by rw [z _ (by omega)]; exact b3, fun i hi => ?_, fun o ho => by rw [z _ (by omega)]; exact b5 o ho⟩
  have hi : i < bn B := hi
  obtain ⟨a1, a2, a3, a4, a5, a6⟩ := b4 i hi
  exact ⟨by rw [z _ (by omega)]; exact a1, by rw [z _ (by omega)]; exact a2, by rw [z _ (by omega)]; exact a3, by rw [z _ (by omega)]; exact a4, by rw [z _ (by omega)]; exact a5, fun c hc => by rw [z _ (by omega)]; exact a6 c hc⟩
theorem MB.sd {r : Nat} {B : BT} {v : Int32} {m' : Nat → Nat → Int32} (hB : MB m r B) (hn : bn B ≤ 20) (e : m' = a_up m 78 (r + 190) v) : MB m' r (sdB B v) := by
  obtain ⟨b1, b2, b3, b4, b5⟩ := hB
  have z : ∀ i, i ≠ r + 190 → m' 78 i = m 78 i := fun i hi => by rw [e, a_up_n _ _ (Or.inr hi)]
  refine ⟨by rw [z _ (by omega)]; exact b1, by rw [z _ (by omega)]; exact b2, by rw [e, a_up_s]; rfl, fun i hi => ?_, fun o ho => by rw [z _ (by omega)]; exact b5 o ho⟩
  have hi : i < bn B := hi
  obtain ⟨a1, a2, a3, a4, a5, a6⟩ := b4 i hi
  exact ⟨by rw [z _ (by omega)]; exact a1, by rw [z _ (by omega)]; exact a2, by rw [z _ (by omega)]; exact a3, by rw [z _ (by omega)]; exact a4, by rw [z _ (by omega)]; exact a5, fun c hc => by rw [z _ (by omega)]; exact a6 c hc⟩
/-- one cell of the bills' row has changed -/
theorem MI.b1 {m' : Nat → Nat → Int32} {B : BT} {i : Nat} {v : Int32} (h : MI m S) (hV : VS S) (e : m' = a_up m 78 i v) (hi : i < 400) (hB : MB m' 0 B) : MI m' (wB S B) :=
  h.bills hV (fun c hc => by rw [e, a_up_c _ _ (by omega)]) (fun j hj => by rw [e, a_up_c _ _ (by omega)]) (fun j hj => by rw [e, a_up_n _ _ (Or.inr (by omega))]) hB
theorem m_days (hC : MI m S) (hV : VS S) {n : Int32} (h : ∀ m', Fr (fun c => 77 ≤ c) m m' → MI m' (nDays S n) → Q (aDays S n) m') : CallI X mX9_days [.ref 77, .int n] m Q := by
  have hB := hC.2.1
  unfold aDays nDays at h
  refine eX9_days_0 (s_in (lo := 0) (hi := 999) rfl rfl ?_)
  rw [in_ink0 (hi := 999) (n := 999) (by omega) rfl, show Int32.toNatClampNeg 181 = 181 from rfl, show m 78 181 = bty (qB S) from hB.2.1]
  refine ⟨fun c => ⟨pk_in 181 800 (by omega), pk_in 181 800 (by omega), fun m3 e3 => ⟨pk_in 181 800 (by omega), ?_⟩⟩, fun c => ?_⟩
  · rw [bI_n0] at c
    rw [if_pos c, if_pos c] at h
    have : m3 78 181 = bty (qB S) + n := by rw [e3, a_up_s]
    rw [this]
    exact qI (h m3 (e3 ▸ Fr.up Fr.rf (by omega)) (hC.b1 hV e3 (by omega) (MB.day hB hV.2.1.1 e3)))
  · rw [bI_0] at c
    rw [if_neg (by rw [c]; decide), if_neg (by rw [c]; decide)] at h
    exact qI (h m Fr.rf hC)
theorem m_above (hC : MI m S) (hV : VS S) {x y : Int32} (h : Q (aAbove S x y) m) : CallI X mX9_above [.ref 77, .int x, .int y] m Q := by
  obtain ⟨hP, hB, -⟩ := hC
  unfold aAbove at h
  refine eX9_above_0 (s_isCell hP hV.1 ?_)
  rcases isC_cases hV.1 x y with e | ⟨i, j, hi, hj, hi2, hj2, rfl, rfl, e, ec, hc⟩
  · rw [e, if_neg (by decide)] at h
    rw [e]
    exact ⟨fun _ => qI h, fun c => absurd rfl c⟩
  · rw [e, if_pos rfl, ec] at h
    rw [e, show (16 : Int32) = nI 16 from rfl, pk_mul, nI_add]
    exact ⟨fun c => absurd c (by decide), fun _ => s_mtop (r := 0) hP hV.1 hB hV.2.1 (by omega) hc (qI h)⟩
theorem s_isBill {x : Int32} (hB : MB m 0 (qB S)) (hn : bn (qB S) ≤ 20) (h : Q (bI (ink x (bn (qB S)))) m) : CallI X mX9_isBill [.ref 77, .int x] m Q := by
  refine eX9_isBill_0 ⟨pk_in 180 800 (by omega), ?_⟩
  rw [show Int32.toNatClampNeg 180 = 180 from rfl, show m 78 180 = nI (bn (qB S)) from hB.1]
  refine s_in (lo := 0) rfl rfl ?_
  rw [in_ink (by omega)]
  exact ⟨by cases ink x (bn (qB S)) <;> rfl, qI h⟩
theorem torn_on {P : PT} {B : BT} {b : Nat} (hV : VB P B) (hb : b < bn B) : torn P B b = if bon B b = true then sm (fun c => if btn B b c = true then 1 else 0) 128 else 0 := by
  unfold torn
  cases ho : bon B b with
  | true =>
    rw [if_pos rfl]
    refine sm_cong fun c _ => ?_
    unfold hasB
    rw [ho, Bool.true_and]
    cases ht : btn B b c with
    | true => rw [(hV.2 b hb).2.2.2 c ht]; rfl
    | false => rw [Bool.and_false]
  | false =>
    rw [if_neg (by decide)]
    refine sm_0 fun c _ => ?_
    unfold hasB
    rw [ho]; rfl
theorem s_tornMany {b : Nat} (hB : MB m 0 (qB S)) (hn : bn (qB S) ≤ 20) (hb : b < bn (qB S)) (h : Q (nI (sm (fun c => if btn (qB S) b c = true then 1 else 0) 128)) m) : CallI X mX9_tornMany [.ref 77, .int (nI b)] m Q := by
  refine eX9_tornMany_0 ?_
  refine lpf (a := 0) (b := 128) (m := m) (by omega) (I := fun c m' => m = m') (W := fun c m' => Wp X mX9_tornMany 4 [some (.ref 77), some (.int (nI b)), some (.int (nI (sm (fun c => if btn (qB S) b c = true then 1 else 0) c))), some (.int (nI c))] [] m' (QI Q)) ?_ ?_ rfl
  · rintro c - hc _ rfl next
    have nx := next _ rfl
    rw [sm_s, ← nI_add] at nx
    refine eX9_tornMany_4 (pk_le 128 c (fun d => absurd d (by omega)) (fun _ => s_isTorn (r := 0) hB (by omega) hn hb hc (s_one ?_)))
    rw [nI_1]
    cases ht : btn (qB S) b c with
    | true => rw [ht] at nx; exact nx
    | false => rw [ht] at nx; exact nx
  · rintro _ rfl
    exact eX9_tornMany_4 (pk_le 128 128 (fun _ => qI h) (fun d => absurd d (by omega)))
theorem m_bill (hC : MI m S) (hV : VS S) {b x : Int32} (h : ∀ m', Fr (fun c => 77 ≤ c) m m' → MI m' S → Q (aBill S b x) m') : CallI X mX9_bill [.ref 77, .int b, .int x] m Q := by
  obtain ⟨hP, hB, -⟩ := id hC
  have vP := hV.1
  have vB := hV.2.1
  have hn := vB.1
  unfold aBill at h
  refine eX9_bill_0 (s_isBill hB hn (s_hasB hn (fun e => ?_) fun j hj hx e => ?_).symm)
  · rw [e, if_neg (by decide)] at h
    exact qI (h m Fr.rf hC)
  · subst hx
    rw [e, if_pos rfl, cl_nI (by omega)] at h
    refine s_see (r := 0) hP vP hB vB (by omega) fun m3 f3 S3 => ?_
    have P3 : MP m3 (qP S) := hP.fs fun c hc => f3 c (by omega)
    have B3 : MB m3 0 (qB S) := hB.f78 (f3 78 (by omega))
    have h := h m3 (f3.mono fun c hc => by omega) (hC.see hV (f3.mono fun c hc => by omega))
    obtain ⟨a1, a2, a3, a4, a5, a6⟩ := B3.2.2.2.1 j hj
    rw [Nat.zero_add] at a1
    rw [show 0 + 20 + j = 20 + j by omega] at a2
    rw [show 0 + 40 + j = 40 + j by omega] at a3
    rw [show 0 + 60 + j = 60 + j by omega] at a4
    rw [show 0 + 80 + j = 80 + j by omega] at a5
    obtain ⟨s1, s2⟩ := S3 j (by omega)
    rw [show (20 : Int32) = nI 20 from rfl, show (40 : Int32) = nI 40 from rfl, show (60 : Int32) = nI 60 from rfl, show (80 : Int32) = nI 80 from rfl, nI_add, nI_add, nI_add, nI_add, nI_clamp (n := j) (by omega), nI_clamp (n := 20 + j) (by omega), nI_clamp (n := 40 + j) (by omega), nI_clamp (n := 60 + j) (by omega), nI_clamp (n := 80 + j) (by omega), a1, a2, a3, a4, a5, s1]
    have q1 := seen_le (qP S) (qB S) j
    have rd : ∀ {Q' : Int32 → (Nat → Nat → Int32) → Prop}, Q' (bI (red (qP S) (qB S) j)) m3 → CallI X mX9_isRead [.ref 77, .int 0, .int (nI j)] m3 Q' := fun hq => s_misRead (r := 0) P3 vP B3 vB (by omega) hj s1 (by omega) hq
    refine ⟨fun c => ⟨pk_in j 800 (by omega), ?_⟩, fun c => ⟨pk_in (20 + j) 800 (by omega), ?_⟩, fun c => ⟨pk_in (40 + j) 800 (by omega), ?_⟩, fun c => ⟨pk_in (60 + j) 800 (by omega), ?_⟩, fun c => ⟨pk_in j 20 (by omega), ?_⟩, fun c => ⟨pk_in (80 + j) 800 (by omega), ?_⟩, fun c => rd (s_one ?_), fun c => rd ?_, fun c => ⟨pk_in (80 + j) 800 (by omega), ?_⟩, fun c => ?_⟩
    · subst c; exact qI h
    · subst c; exact qI h
    · subst c; exact qI h
    · subst c; exact qI h
    · subst c; exact qI h
    · subst c
      have h : Q (nI (torn (qP S) (qB S) j)) m3 := h
      rw [torn_on vB hj] at h
      refine ⟨fun z => ?_, fun z => ?_⟩
      · rw [bI_1] at z
        rw [if_neg z] at h
        exact qI h
      · rw [bI_1] at z
        rw [if_pos z] at h
        exact s_tornMany (S := S) B3 hn hj (qI h)
    · subst c; exact qI h
    · subst c
      have h : Q (nI (wob (qP S) (qB S) j)) m3 := h
      unfold wob at h
      refine ⟨fun z => ?_, fun z => ⟨pk_in j 20 (by omega), ?_⟩⟩
      · rw [bI_0] at z
        rw [z, if_neg (by decide)] at h; exact qI h
      · rw [bI_n0] at z
        rw [z, if_pos rfl] at h
        rw [s2]; exact qI h
    · subst c; exact qI h
    · have n : ∀ k : Int32, ¬ (k.toInt < 0 ∨ 8 < k.toInt) → ¬ x = k := fun k hk q => hk (q ▸ c)
      rw [if_neg (n 0 (by decide)), if_neg (n 1 (by decide)), if_neg (n 2 (by decide)), if_neg (n 3 (by decide)), if_neg (n 4 (by decide)), if_neg (n 5 (by decide)), if_neg (n 6 (by decide)), if_neg (n 7 (by decide)), if_neg (n 8 (by decide))] at h
      exact qI h
theorem m_paste (hC : MI m S) (hV : VS S) {k x y : Int32} (h : ∀ m', Fr (fun c => 77 ≤ c) m m' → MI m' (nPaste S k x y) → Q (aPaste S k x y) m') : CallI X mX9_paste [.ref 77, .int k, .int x, .int y] m Q := by
  obtain ⟨hP, hB, -⟩ := id hC
  have vP := hV.1
  have vB := hV.2.1
  have hn := vB.1
  unfold aPaste nPaste at h
  refine eX9_paste_0 (s_isKind hP vP (k_cases vP (fun e => ?_) fun j hj hj2 hx e => ?_).symm)
  · rw [e, if_neg (by decide), if_neg (by decide)] at h
    exact qI (h m Fr.rf hC)
  · subst hx
    rw [e, if_pos rfl, if_pos rfl, cl_nI (by omega)] at h
    refine s_isWithin hP vP hj ?_
    cases ef : fit (qP S) j x y with
    | false =>
      rw [ef, if_neg (by decide), if_neg (by decide)] at h
      exact ⟨fun c => absurd rfl c, fun _ => qI (h m Fr.rf hC)⟩
    | true =>
      rw [ef, if_pos rfl, if_pos rfl] at h
      obtain ⟨a, b, rfl, rfl, ha, hb, ha2, hb2⟩ := fit_t vP hj ef
      rw [cl_nI (by omega), cl_nI (by omega)] at h
      refine ⟨fun _ => s_isClear hP vP hj (by omega) (by omega) ?_, fun c => absurd c (by decide)⟩
      rw [show Int32.toNatClampNeg 180 = 180 from rfl]
      cases eb : bar (qP S) j a b with
      | true =>
        rw [eb, if_pos rfl, if_pos rfl] at h
        exact ⟨fun c => absurd rfl c, fun _ => qI (h m Fr.rf hC)⟩
      | false =>
        rw [eb, if_neg (show ¬ (false = true) by decide), if_neg (show ¬ (false = true) by decide)] at h
        refine ⟨fun _ => ⟨pk_in 180 800 (by omega), ?_⟩, fun c => absurd c (by decide)⟩
        rw [show m 78 180 = nI (bn (qB S)) from hB.1]
        refine (pk_eq (bn (qB S)) 20 (fun z => ?_) (fun z => ?_)).symm
        · rw [if_pos (by omega), if_pos (by omega)] at h
          exact qI (h m Fr.rf hC)
        · rw [if_neg (by omega), if_neg (by omega)] at h
          refine s_lay (r := 0) hP vP hB vB (by omega) (by omega) hj ha hb fun m7 g7 B7 => ⟨pk_in 180 800 (by omega), ?_⟩
          rw [show m7 78 180 = nI (bn (qB S) + 1) from B7.1, nI_pred]
          exact qI (h m7 (g7.1.mono fun c hc => by omega) (hC.bills hV (fun c hc => g7.1 c (by omega)) (fun i hi => by rw [g7.1 77 (by omega)]) (fun j hj => g7.2 j (by omega)) B7))
theorem s_onMany {o : Nat} (hC : MI m S) (hV : VS S) (ho : o < 6) (h : Q (nI (hng (qP S) (qB S) o)) m) : CallI X mX9_onMany [.ref 77, .int (nI o)] m Q := by
  obtain ⟨hP, hB, -⟩ := hC
  have vP := hV.1
  have vB := hV.2.1
  have hn := vB.1
  refine eX9_onMany_0 ?_
  refine lpf (a := 0) (b := bn (qB S)) (m := m) (by omega) (I := fun c m' => m = m') (W := fun i m' => Wp X mX9_onMany 4 [some (.ref 77), some (.int (nI o)), some (.int (nI (sm (fun i => if (bon (qB S) i && decide (pow (qP S) (bkd (qB S) i) = o)) = true then 1 else 0) i))), some (.int (nI i))] [] m' (QI Q)) ?_ ?_ rfl
  · rintro i - hi _ rfl next
    have nx := next _ rfl
    rw [sm_s] at nx
    refine eX9_onMany_4 ?_
    obtain ⟨a1, a2, a3, a4, a5, a6⟩ := hB.2.2.2.1 i hi
    rw [show 0 + 80 + i = 80 + i by omega] at a5
    obtain ⟨hk, -⟩ := vB.2 i hi
    have ho2 := (vP.2.2.2.2.2.2.2.2 _ hk).1
    rw [show Int32.toNatClampNeg 180 = 180 from rfl, show m 78 180 = nI (bn (qB S)) from hB.1, show (80 : Int32) = nI 80 from rfl, nI_add, nI_clamp (n := 80 + i) (by omega), a5]
    have nx0 : (bon (qB S) i && decide (pow (qP S) (bkd (qB S) i) = o)) = false → Wp X mX9_onMany 4 [some (.ref 77), some (.int (nI o)), some (.int (nI (sm (fun i => if (bon (qB S) i && decide (pow (qP S) (bkd (qB S) i) = o)) = true then 1 else 0) i) + bI false)), some (.int (nI i + 1))] [] m (QI Q) := fun z => by
      rw [z, if_neg (by decide), Nat.add_zero] at nx
      rw [nI_1, show bI false = 0 from rfl, Int32.add_zero]
      exact nx
    have nx1 : (bon (qB S) i && decide (pow (qP S) (bkd (qB S) i) = o)) = true → Wp X mX9_onMany 4 [some (.ref 77), some (.int (nI o)), some (.int (nI (sm (fun i => if (bon (qB S) i && decide (pow (qP S) (bkd (qB S) i) = o)) = true then 1 else 0) i) + bI true)), some (.int (nI i + 1))] [] m (QI Q) := fun z => by
      rw [z, if_pos rfl] at nx
      rw [nI_1, show bI true = nI 1 from rfl, nI_add]
      exact nx
    refine ⟨pk_in 180 800 (by omega), pk_le (bn (qB S)) i (fun c => absurd c (by omega)) (fun _ => ⟨pk_in (80 + i) 800 (by omega), fun z => s_one (b := false) (nx0 ?_), fun z => s_mownerOf (r := 0) hP vP hB vB (by omega) hi ?_⟩)⟩
    · rw [bI_1, Bool.not_eq_true] at z
      rw [z]; rfl
    · rw [bI_1] at z
      refine (pk_eq (pow (qP S) (bkd (qB S) i)) o (fun c => s_one (b := true) (nx1 ?_)) (fun c => s_one (b := false) (nx0 ?_))).symm
      · rw [z, decide_eq_true c]; rfl
      · rw [z, decide_eq_false c]; rfl
  · rintro _ rfl
    refine eX9_onMany_4 ?_
    rw [show Int32.toNatClampNeg 180 = 180 from rfl, show m 78 180 = nI (bn (qB S)) from hB.1]
    exact ⟨pk_in 180 800 (by omega), pk_le (bn (qB S)) (bn (qB S)) (fun _ => qI h) (fun c => absurd c (by omega))⟩
theorem m_owner (hC : MI m S) (hV : VS S) {o x : Int32} (h : ∀ m', Fr (fun c => 77 ≤ c) m m' → MI m' S → Q (aOwner S o x) m') : CallI X mX9_owner [.ref 77, .int o, .int x] m Q := by
  obtain ⟨hP, hB, -⟩ := id hC
  unfold aOwner at h
  have h0 := h m Fr.rf hC
  refine eX9_owner_0 (s_in (lo := 0) (hi := 5) rfl rfl ?_)
  rw [in_ink0 (hi := 5) (n := 5) (by omega) rfl]
  rcases ink_cases o (show 6 < 2 ^ 31 by omega) with e | ⟨j, hj, rfl, e⟩
  · rw [e] at h0 ⊢
    exact ⟨fun c => absurd rfl c, fun _ => qI h0⟩
  · rw [e, if_pos rfl, cl_nI (by omega)] at h h0
    rw [e, show (182 : Int32) = nI 182 from rfl, nI_add, nI_clamp (n := 182 + j) (by omega)]
    refine ⟨fun _ => ⟨fun c => ⟨fun c1 => ⟨fun c2 => ?_, fun c2 => ?_⟩, fun c1 => ⟨pk_in (182 + j) 800 (by omega), ?_⟩⟩, fun c => ?_⟩, fun c => absurd c (by decide)⟩
    · rw [if_neg c, if_neg c1, if_neg c2] at h0
      exact qI h0
    · rw [if_neg c, if_neg c1, if_pos c2] at h0
      exact s_onMany hC hV hj (qI h0)
    · rw [if_neg c, if_pos c1] at h0
      have := hB.2.2.2.2 j hj
      rw [show 0 + 182 + j = 182 + j by omega] at this
      rw [this]
      exact qI h0
    · refine s_mworthOf (r := 0) hP hV.1 hB hV.2.1 (by omega) hj fun m' f => qI ?_
      have h := h m' (f.mono fun c hc => by omega) (hC.see hV (f.mono fun c hc => by omega))
      rw [if_pos c] at h
      exact h
theorem m_seed (hC : MI m S) (hV : VS S) {v : Int32} (h : ∀ m', Fr (fun c => 77 ≤ c) m m' → MI m' (nSeed S v) → Q (aSeed S v) m') : CallI X mX9_seed [.ref 77, .int v] m Q := by
  have z : 0 ≤ v ↔ ¬ v < 0 := by rw [Int32.le_iff_toInt_le, Int32.lt_iff_toInt_lt]; omega
  have hB := hC.2.1
  unfold aSeed nSeed at h
  refine eX9_seed_0 ⟨fun c => ⟨pk_in 190 800 (by omega), pk_in 190 800 (by omega), fun m1 e1 => ?_⟩, fun c => ?_⟩
  · rw [z] at c
    rw [if_neg c, if_neg c] at h
    rw [show Int32.toNatClampNeg 190 = 190 from rfl, show m 78 190 = bsd (qB S) from hB.2.2.1]
    exact qI (h m1 (e1 ▸ Fr.up Fr.rf (by omega)) (hC.b1 hV e1 (by decide) (hB.sd hV.2.1.1 e1)))
  · rw [z, Decidable.not_not] at c
    rw [if_pos c, if_pos c] at h
    exact qI (h m Fr.rf hC)
theorem m_best (hC : MI m S) (hV : VS S) {k x : Int32} (h : ∀ m', Fr (fun c => 77 ≤ c) m m' → MI m' S → Q (aBest S k x) m') : CallI X mX9_best [.ref 77, .int k, .int x] m Q := by
  obtain ⟨hP, hB, -⟩ := id hC
  have vP := hV.1
  have vB := hV.2.1
  have hn := vB.1
  unfold aBest at h
  have h0 := h m Fr.rf hC
  refine eX9_best_0 (s_isKind hP vP (k_cases vP (fun e => ?_) fun j hj hj2 hx e => ?_).symm)
  · rw [e, if_neg (by decide)] at h0
    exact qI h0
  · subst hx
    rw [e, if_pos rfl, cl_nI (by omega)] at h h0
    refine s_in (lo := 0) (hi := 2) rfl rfl ?_
    rw [in_ink0 (hi := 2) (n := 2) (by omega) rfl]
    refine ⟨fun c => ⟨pk_in 180 800 (by omega), ?_⟩, fun c => ?_⟩
    · rw [bI_n0] at c
      rw [if_pos c] at h h0
      rw [show Int32.toNatClampNeg 180 = 180 from rfl, show m 78 180 = nI (bn (qB S)) from hB.1]
      refine (pk_eq (bn (qB S)) 20 (fun z => ?_) (fun z => ?_)).symm
      · rw [if_pos (by omega)] at h0
        exact qI h0
      · rw [if_neg (by omega)] at h
        refine s_copy (a := 0) (b := 200) (by omega) (by omega) (by omega) fun m5 f5 k5 c5 => ?_
        have B5 := c5 _ hn hB
        have P5 : MP m5 (qP S) := hP.fs fun c hc => f5 c (by omega)
        refine s_mfindBest (r := 200) P5 vP B5 vB (by omega) (by omega) hj fun m6 g6 B6 p6 => ?_
        have G6 : GT m m6 := GT.tr ⟨f5.mono fun c hc => by omega, fun i _ _ _ => by rw [f5 77 (by omega)], fun i hi => k5 i (by omega)⟩ g6.gt
        have h := h m6 (G6.1.mono fun c hc => by omega) (hC.gt hV G6)
        rcases PM_v p6 with ⟨eu, q⟩ | ⟨g, a, b, eu, q, ha, hb, q2⟩
        · rw [eu] at h
          rw [q]
          exact ⟨fun d => absurd d (by decide), fun _ => qI h⟩
        · rw [eu] at h
          dsimp only at h
          rw [q, q2, show (16 : Int32) = nI 16 from rfl, rem_nI (by omega) (by omega) (by omega), pk_div (by omega) (by omega) (by omega), show (16 * b + a) % 16 = a by omega, show (16 * b + a) / 16 = b by omega]
          refine ⟨fun _ => ⟨fun d => ⟨fun d2 => ?_, fun d2 => ?_⟩, fun d => ?_⟩, fun d => absurd (nI_pos' (by omega)) d⟩
          · rw [if_neg d, if_neg d2] at h; exact qI h
          · rw [if_neg d, if_pos d2] at h; exact qI h
          · rw [if_pos d] at h; exact qI h
    · rw [bI_0] at c
      rw [if_neg (by rw [c]; decide)] at h0
      exact qI h0
theorem m_two (hC : MI m S) (hV : VS S) {k j x : Int32} (h : ∀ m', Fr (fun c => 77 ≤ c) m m' → MI m' S → Q (aTwo S k j x) m') : CallI X mX9_two [.ref 77, .int k, .int j, .int x] m Q := by
  obtain ⟨hP, hB, -⟩ := id hC
  have vP := hV.1
  have vB := hV.2.1
  have hn := vB.1
  unfold aTwo at h
  have h0 := h m Fr.rf hC
  refine eX9_two_0 (s_isKind hP vP (k_cases vP (fun e => ?_) fun a ha ha2 hx e => s_isKind hP vP (k_cases vP (fun f => ?_) fun b hb hb2 hy f => ?_).symm))
  · rw [e, if_neg (by decide)] at h0
    exact qI h0
  · rw [e, if_pos rfl, f, if_neg (by decide)] at h0
    exact qI h0
  · subst hx hy
    rw [e, if_pos rfl, f, if_pos rfl, cl_nI (by omega), cl_nI (by omega)] at h h0
    refine s_in (lo := 0) (hi := 4) rfl rfl ?_
    rw [in_ink0 (hi := 4) (n := 4) (by omega) rfl]
    have oa := (vP.2.2.2.2.2.2.2.2 a ha).1
    have ob := (vP.2.2.2.2.2.2.2.2 b hb).1
    rw [nI_clamp (n := a) (by omega), nI_clamp (n := b) (by omega), (hP.2.2.2.2.2 a ha).1, (hP.2.2.2.2.2 b hb).1, show Int32.toNatClampNeg 180 = 180 from rfl, show m 78 180 = nI (bn (qB S)) from hB.1]
    rcases ink_cases x (show 4 + 1 < 2 ^ 31 by omega) with z | ⟨w, hw, rfl, z⟩
    · rw [z, if_neg (by decide)] at h0
      rw [z]
      exact ⟨fun c => absurd rfl c, fun _ => qI h0⟩
    · rw [if_pos z] at h h0
      rw [z]
      refine ⟨fun _ => ⟨pk_in a 24 (by omega), pk_in b 24 (by omega), (pk_eq (pow (qP S) a) (pow (qP S) b) (fun c => ⟨pk_in 180 800 (by omega), ?_⟩) (fun c => ?_)).symm⟩, fun c => absurd c (by decide)⟩
      · rw [if_neg c] at h0
        exact qI h0
      · rw [if_pos c] at h h0
        refine pk_le (bn (qB S)) 18 (fun d => ?_) (fun d => ?_)
        · rw [if_pos d] at h
          refine s_copy (a := 0) (b := 200) (by omega) (by omega) (by omega) fun m5 f5 k5 c5 => ⟨pk_in a 24 (by omega), ?_⟩
          have B5 := c5 _ hn hB
          have P5 : MP m5 (qP S) := hP.fs fun c hc => f5 c (by omega)
          rw [(P5.2.2.2.2.2 a ha).1]
          refine s_mworthOf (r := 200) P5 vP B5 vB (by omega) oa fun m8 f8 => ?_
          have G8 : GT m m8 := GT.tr ⟨f5.mono fun c hc => by omega, fun i _ _ _ => by rw [f5 77 (by omega)], fun i hi => k5 i (by omega)⟩ ⟨f8.mono fun c hc => by omega, fun i _ _ _ => by rw [f8 77 (by omega)], fun i hi => by rw [f8 78 (by omega)]⟩
          exact s_mtwoLoop (hP.gt G8) vP (B5.f78 (f8 78 (by omega))) vB d ha hb hw fun m' g => h m' ((G8.tr g).1.mono fun c hc => by omega) (hC.gt hV (G8.tr g))
        · rw [if_neg (by omega)] at h0
          exact qI h0
theorem m_rivals (hC : MI m S) (hV : VS S) {k j n x : Int32} (h : ∀ m', Fr (fun c => 77 ≤ c) m m' → MI m' S → Q (aRivals S k j n x) m') : CallI X mX9_rivals [.ref 77, .int k, .int j, .int n, .int x] m Q := by
  obtain ⟨hP, hB, -⟩ := id hC
  have vP := hV.1
  have vB := hV.2.1
  have hn := vB.1
  unfold aRivals at h
  have h0 := h m Fr.rf hC
  refine eX9_rivals_0 (s_isKind hP vP (k_cases vP (fun e => ?_) fun a ha ha2 hx e => s_isKind hP vP (k_cases vP (fun f => ?_) fun b hb hb2 hy f => ?_).symm))
  · rw [e, if_neg (by decide)] at h0
    exact qI h0
  · rw [e, if_pos rfl, f, if_neg (by decide)] at h0
    exact qI h0
  · subst hx hy
    rw [e, if_pos rfl, f, if_pos rfl, cl_nI (by omega), cl_nI (by omega)] at h h0
    have out : (ink n 13 && !decide (n = 0) && ink x 3) = false → Q OUT m := fun z => by
      rw [if_neg (by rw [z]; decide)] at h0
      exact h0
    have en : decide (1 ≤ n ∧ n ≤ 12) = (ink n 13 && !decide (n = 0)) := by
      have i0 := in_ink0 (x := n) (n := 12) (by omega) (show (12 : Int32) = nI 12 from rfl)
      rw [← i0, ← decide_not, ← Bool.decide_and]
      refine decide_eq_decide.mpr ?_
      have e0 : (0 : Int32).toInt = 0 := by decide
      have e1 : (1 : Int32).toInt = 1 := by decide
      rw [Int32.le_iff_toInt_le, Int32.le_iff_toInt_le, Int32.le_iff_toInt_le, ← Int32.toInt_inj, e0, e1]
      omega
    refine s_in (lo := 1) (hi := 12) rfl rfl ?_
    rw [en]
    refine ⟨fun z => ?_, fun z => s_in (lo := 0) (hi := 2) rfl rfl ?_⟩
    · rw [bI_0] at z
      exact qI (out (by rw [z]; rfl))
    · rw [bI_n0] at z
      rw [z, Bool.true_and] at h out
      rw [in_ink0 (hi := 2) (n := 2) (by omega) rfl]
      refine ⟨fun y => ?_, fun y => ?_⟩
      · rw [bI_n0] at y
        rw [if_pos y] at h
        rw [Bool.and_eq_true] at z
        obtain ⟨i, hi, rfl⟩ := ink_t (by omega) z.1
        rw [cl_nI (by omega)] at h
        refine s_copy (a := 0) (b := 200) (by omega) (by omega) (by omega) fun m5 f5 k5 c5 m6 e6 => ?_
        have B5 := c5 _ hn hB
        have G6 : GT m m6 := GT.tr ⟨f5.mono fun c hc => by omega, fun i _ _ _ => by rw [f5 77 (by omega)], fun i hi => k5 i (by omega)⟩ ⟨e6 ▸ Fr.up Fr.rf (by omega), fun i _ _ c => by rw [e6, a_up_n _ _ (Or.inr c)], fun i hi => by rw [e6, a_up_c _ _ (by omega)]⟩
        refine s_mrivLoop (f := bfi (qB S)) (hP.gt G6) vP (B5.f78 (by rw [e6, a_up_c _ _ (by omega)])) vB ha hb hi (by rw [e6, a_up_s]) fun m' g => ?_
        have h := h m' ((G6.tr g).1.mono fun c hc => by omega) (hC.gt hV (G6.tr g))
        obtain ⟨w, hw, rfl⟩ := ink_t (by omega) y
        rcases (by omega : w = 0 ∨ w = 1 ∨ w = 2) with q | q | q <;> subst q
        · exact h
        · exact h
        · exact h
      · rw [bI_0] at y
        exact qI (out y)
end MPUB1
