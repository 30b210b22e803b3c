/-! ===== what hanging one changes ===== -/
theorem top_hang {P : PT} {B : BT} {k x y c : Nat} : top P (hangB B k x y) c = if rch P k x y c = true then bn B + 1 else top P B c := by
  show tp (fun b => lie P (hangB B k x y) b c) (bn B + 1) = _
  unfold tp
  rw [(lie_hang_n (P := P)).1, tp_cong (q := fun b => lie P B b c) fun b hb => (lie_hang (P := P) (by omega)).1]
  rfl
theorem sm_smv (v : Nat → Bool) (f : Nat → Nat) : smv (fun c => !v c) f + smv v f = sm f 128 := by
  unfold smv
  rw [← sm_add]
  refine sm_cong fun c _ => ?_
  cases hv : v c <;> simp [hv]
theorem seen_hang {P : PT} {B : BT} {k x y i : Nat} (hi : i < bn B) : seen P (hangB B k x y) i + lsn P B k x y i = seen P B i := by
  have e : seen P (hangB B k x y) i = smv (fun c => !rch P k x y c) (fs P B i) := sm_cong fun c _ => by
    show _ = if (!rch P k x y c) = true then fs P B i c else 0
    rw [top_hang]
    cases rch P k x y c with
    | true => rw [if_pos rfl, if_neg (by omega)]; rfl
    | false => rfl
  rw [e]
  exact sm_smv _ _
theorem met_hang {P : PT} {B : BT} {k x y i : Nat} (hi : i < bn B) : met P (hangB B k x y) i + lsm P B k x y i = met P B i := by
  have e : met P (hangB B k x y) i = smv (fun c => !rch P k x y c) (fm P B i) := sm_cong fun c _ => by
    show _ = if (!rch P k x y c) = true then fm P B i c else 0
    rw [top_hang]
    cases rch P k x y c with
    | true => rw [if_pos rfl, if_neg (by omega)]; rfl
    | false => rfl
  rw [e]
  exact sm_smv _ _
theorem sm_win (g : Nat → Nat) {x w n : Nat} (h : x + w ≤ n) : sm (fun q => if x ≤ q ∧ q < x + w then g q else 0) n = sm (fun i => g (x + i)) w := by
  obtain ⟨d, rfl⟩ : ∃ d, n = x + (w + d) := ⟨n - (x + w), by omega⟩
  rw [sm_split, sm_split, sm_0 (n := x) (fun k hk => if_neg (by omega)), sm_0 (n := d) (fun k hk => if_neg (by omega)), Nat.zero_add, Nat.add_zero]
  exact sm_cong fun k hk => if_pos (by omega)
theorem sm_grid (f : Nat → Nat) : ∀ n, sm f (16 * n) = sm (fun l => sm (fun q => f (16 * l + q)) 16) n
  | 0 => rfl
  | n + 1 => by rw [Nat.mul_succ, sm_split, sm_grid f n]; rfl
theorem sm_rect (g : Nat → Nat) {x w y h : Nat} (hx : x + w ≤ 16) (hy : y + h ≤ 8) : sm (fun c => if rec4 x (x + w) y (y + h) c = true then g (c % 16) else 0) 128 = sm (fun i => g (x + i)) w * h := by
  have row : ∀ l, l < 8 → sm (fun q => (fun c => if rec4 x (x + w) y (y + h) c = true then g (c % 16) else 0) (16 * l + q)) 16 = if y ≤ l ∧ l < y + h then sm (fun i => g (x + i)) w else 0 := fun l hl => by
    by_cases c : y ≤ l ∧ l < y + h
    · rw [if_pos c, ← sm_win g hx]
      refine sm_cong fun q hq => ?_
      show (if rec4 x (x + w) y (y + h) (16 * l + q) = true then g ((16 * l + q) % 16) else 0) = _
      rw [show (16 * l + q) % 16 = q by omega]
      by_cases d : x ≤ q ∧ q < x + w
      · rw [if_pos d]
        exact if_pos (by unfold rec4; exact decide_eq_true (by omega))
      · rw [if_neg d, if_neg (by
          intro z
          have := of_decide_eq_true z
          omega)]
    · rw [if_neg c]
      refine sm_0 fun q hq => if_neg ?_
      intro z
      have := of_decide_eq_true z
      omega
  rw [show (128 : Nat) = 16 * 8 from rfl, sm_grid, sm_cong row, sm_win (fun _ => sm (fun i => g (x + i)) w) hy, sm_const, Nat.mul_comm]
theorem top_lt (P : PT) (B : BT) (c : Nat) : top P B c ≤ bn B := tp_le _ _
theorem seen_new {P : PT} {B : BT} {k x y : Nat} (hx : x + pwd P k ≤ 16) (hy : y + phg P k ≤ 8) : seen P (hangB B k x y) (bn B) = siz P k := by
  have e : seen P (hangB B k x y) (bn B) = sm (fun c => if rec4 x (x + pwd P k) y (y + phg P k) c = true then 1 else 0) 128 := sm_cong fun c _ => by
    have := top_lt P B c
    rw [top_hang, rch_rec]
    cases rec4 x (x + pwd P k) y (y + phg P k) c with
    | true => rw [if_pos rfl, if_pos rfl]; rfl
    | false =>
      show (if top P B c = bn B + 1 then 1 else 0) = 0
      rw [if_neg (by omega)]
  rw [e, sm_rect (fun _ => 1) hx hy, sm_const, Nat.mul_one]
  rfl
theorem met_new {P : PT} {B : BT} {k x y : Nat} (hx : x + pwd P k ≤ 16) (hy : y + phg P k ≤ 8) : met P (hangB B k x y) (bn B) = pof P k x := by
  have e : met P (hangB B k x y) (bn B) = sm (fun c => if rec4 x (x + pwd P k) y (y + phg P k) c = true then pps P (c % 16) else 0) 128 := sm_cong fun c _ => by
    have := top_lt P B c
    rw [top_hang, rch_rec]
    cases rec4 x (x + pwd P k) y (y + phg P k) c with
    | true => rw [if_pos rfl, if_pos rfl]; rfl
    | false =>
      show (if top P B c = bn B + 1 then pps P (c % 16) else 0) = 0
      rw [if_neg (by omega)]
  rw [e, sm_rect (pps P) hx hy]
  rfl
theorem kd_hang {B : BT} {k x y i : Nat} (h : i ≠ bn B) : bkd (hangB B k x y) i = bkd B i := up1_n _ _ h
theorem kd_new {B : BT} {k x y : Nat} : bkd (hangB B k x y) (bn B) = k := up1_s _ _ _
theorem wob_hang {P : PT} {B : BT} {k x y i : Nat} (hi : i < bn B) : wob P (hangB B k x y) i = wo2 P B k x y i := by
  have h1 := seen_hang (P := P) (k := k) (x := x) (y := y) hi
  have h2 := met_hang (P := P) (k := k) (x := x) (y := y) hi
  unfold wob red wo2
  rw [kd_hang (by omega), show seen P (hangB B k x y) i = seen P B i - lsn P B k x y i by omega, show met P (hangB B k x y) i = met P B i - lsm P B k x y i by omega]
theorem wob_new {P : PT} {B : BT} {k x y : Nat} (hVP : VP P) (hx : x + pwd P k ≤ pn P 0) (hy : y + phg P k ≤ pn P 1) : wob P (hangB B k x y) (bn B) = pof P k x := by
  have h0 := hVP.1
  have h1 := hVP.2.1
  have h4 := hVP.2.2.2.2.1
  unfold wob red
  rw [kd_new, seen_new (by omega) (by omega), met_new (by omega) (by omega)]
  refine if_pos (decide_eq_true (Nat.mul_le_mul_right _ h4.2))
def wA (P : PT) (B : BT) (o : Nat) (i : Nat) : Nat := if pow P (bkd B i) = o then wob P B i else 0
def wC (P : PT) (B : BT) (k x y : Nat) (i : Nat) : Nat := if pow P (bkd B i) = pow P k then wo2 P B k x y i else 0
theorem wor_hang {P : PT} {B : BT} {k x y : Nat} (hVP : VP P) (hx : x + pwd P k ≤ pn P 0) (hy : y + phg P k ≤ pn P 1) : wor P (hangB B k x y) (pow P k) = sm (wC P B k x y) (bn B) + pof P k x := by
  show sm (fun b => if pow P (bkd (hangB B k x y) b) = pow P k then wob P (hangB B k x y) b else 0) (bn B + 1) = _
  rw [sm_s, kd_new, if_pos rfl, wob_new hVP hx hy]
  congr 1
  refine sm_cong fun i hi => ?_
  rw [kd_hang (by omega), wob_hang hi]; rfl
theorem i_ac1 (u a b A : Int32) : u - a + b + (A + a) = u + A + b := by
  have : u - a + b + (A + a) = (u - a + a) + (A + b) := by ac_rfl
  rw [this, Int32.sub_add_cancel]; ac_rfl
theorem wN_1 {P : PT} {B : BT} {k x y : Nat} : ∀ n, (wN P B k x y n).1 + nI (sm (wA P B (pow P k)) n) = nI (pof P k x + sm (wC P B k x y) n)
  | 0 => by
    show nI (pof P k x) + nI 0 = _
    rw [nI_add]; rfl
  | n + 1 => by
    have ih := wN_1 (P := P) (B := B) (k := k) (x := x) (y := y) n
    rw [wN_s, sm_s, sm_s, ← Nat.add_assoc, ← nI_add, ← nI_add]
    unfold wA wC at ih ⊢
    by_cases o : pow P (bkd B n) = pow P k
    · rw [if_pos o, if_pos o]
      by_cases z : lsn P B k x y n = 0
      · have : wo2 P B k x y n = wob P B n := by
          unfold wo2 wob red
          rw [z, lsm_0 z]; rfl
        rw [if_pos z, this, ← Int32.add_assoc, ih]
      · rw [if_neg z]
        unfold wst
        rw [if_pos o, i_ac1, ih]
    · rw [if_neg o, if_neg o]
      have : (if lsn P B k x y n = 0 then wN P B k x y n else wst P B k x y n (wN P B k x y n)).1 = (wN P B k x y n).1 := by
        split
        · rfl
        · unfold wst
          rw [if_neg o]
          split <;> rfl
      rw [this, show nI 0 = 0 from rfl, Int32.add_zero, Int32.add_zero, ih]
/-- the model's gain is the class's -/
theorem gain_eq {P : PT} {B : BT} {k x y : Nat} (hVP : VP P) (hx : x + pwd P k ≤ pn P 0) (hy : y + phg P k ≤ pn P 1) : nI (wor P (hangB B k x y) (pow P k)) - nI (wor P B (pow P k)) - wdu P B k x y = wga P B k x y := by
  have h := wN_1 (P := P) (B := B) (k := k) (x := x) (y := y) (bn B)
  unfold wga
  rw [wor_hang hVP hx hy, Nat.add_comm, ← h]
  show _ + nI (wor P B (pow P k)) - nI (wor P B (pow P k)) - _ = _
  rw [Int32.add_sub_cancel]
def mduN (P : PT) (B : BT) (k x y : Nat) : Nat → Int32
  | 0 => 0
  | i + 1 => mduN P B k x y i + (if bty B - bdy B i < nI (pn P 2) ∧ ¬ pow P (bkd B i) = pow P k ∧ seen P (hangB B k x y) i < seen P B i then nI (pn P 3) else 0)
theorem mdu_wN {P : PT} {B : BT} {k x y : Nat} : ∀ n, n ≤ bn B → mduN P B k x y n = (wN P B k x y n).2
  | 0, _ => rfl
  | n + 1, hn => by
    have ih := mdu_wN (P := P) (B := B) (k := k) (x := x) (y := y) n (by omega)
    have h1 := seen_hang (P := P) (k := k) (x := x) (y := y) (show n < bn B by omega)
    rw [wN_s]
    show mduN P B k x y n + _ = _
    rw [ih]
    by_cases z : lsn P B k x y n = 0
    · rw [if_pos z, if_neg (fun q => by omega), Int32.add_zero]
    · rw [if_neg z]
      unfold wst
      by_cases o : pow P (bkd B n) = pow P k
      · rw [if_pos o, if_neg (fun q => q.2.1 o), Int32.add_zero]
      · rw [if_neg o]
        by_cases f : bty B - bdy B n < nI (pn P 2)
        · rw [if_pos f, if_pos ⟨f, o, by omega⟩]
        · rw [if_neg f, if_neg (fun q => f q.1), Int32.add_zero]
theorem mdu_eq (P : PT) (B : BT) (k x y : Nat) : mduN P B k x y (bn B) = wdu P B k x y := mdu_wN _ (Nat.le_refl _)
/-! fines change nothing of what is seen -/
theorem wor_fin (P : PT) (B : BT) (o : Nat) (v : Int32) (q : Nat) : wor P (finB B o v) q = wor P B q := rfl
theorem VB.fin {P : PT} {B : BT} {o : Nat} {v : Int32} (h : VB P B) : VB P (finB B o v) := h
theorem wN_fin (P : PT) (B : BT) (o : Nat) (v : Int32) (k x y : Nat) : ∀ n, wN P (finB B o v) k x y n = wN P B k x y n
  | 0 => rfl
  | n + 1 => by
    rw [wN_s, wN_s, wN_fin P B o v k x y n]
    rfl
theorem wga_fin (P : PT) (B : BT) (o : Nat) (v : Int32) (k x y : Nat) : wga P (finB B o v) k x y = wga P B k x y := by
  show (wN P (finB B o v) k x y (bn B)).1 - (wN P (finB B o v) k x y (bn B)).2 = _
  rw [wN_fin]; rfl
theorem bN_fin (P : PT) (B : BT) (o : Nat) (v : Int32) (k : Nat) : ∀ n, bN P (finB B o v) k n = bN P B k n
  | 0 => rfl
  | n + 1 => by
    rw [bN_s, bN_s, bN_fin P B o v k n]
    unfold bst
    rw [wga_fin]
