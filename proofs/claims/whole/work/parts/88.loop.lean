/-! ===== the law's loop ===== -/
section LOOP
variable {L : Nat} {xs : Nat → Int32} {m : Nat → Nat → Int32} {S : ST}
theorem MI.far {m' : Nat → Nat → Int32} (h : MI m S) (hV : VS S) (f : Fr (fun c => c ≤ 76) m m') : MI m' S := h.scr hV (fun c _ => f c (by omega)) (fun i _ => by rw [f 77 (by omega)]) (fun j _ => by rw [f 78 (by omega)])
theorem CI.far {m' : Nat → Nat → Int32} (h : CI m S) (f : Fr (fun c => 77 ≤ c) m m') : CI m' S := h.same fun c _ => f c (by omega)
def Q1 (r : Option Value) (_ : Nat → Nat → Int32) : Prop := r = some (.int 1)
theorem on_far2 {L i : Nat} (hL : L ≤ 2560) (hi : i ≤ 2560 + 5) (h : ¬ Int32.ofNat L - 5 < nI i) : i + 5 ≤ L := by
  have e : (Int32.ofNat L - 5).toInt = (L : Int) - 5 := i_sub (by rw [show Int32.ofNat L = nI L from rfl, nI_toInt (by omega)]; rfl) (by omega) (by omega)
  rw [Int32.lt_iff_toInt_lt, e, nI_toInt (by omega)] at h
  omega
theorem vp_at {i j : Nat} (hL : L ≤ 2560) (h : i + j < L) : vp_in (nI i + nI j) L := by
  rw [nI_add]
  exact vp_in_nI h (by omega)
def LGo (L : Nat) (xs : Nat → Int32) (x : Int32) : Prop := ∀ m S, VS S → CI m S → MI m S → Wp (some (L, xs)) mL_law 18 [some (.ref 2000), some (.ref 0), some (.ref 77), some (.int x)] [] m Q1
theorem law_step {x3 : Int32} (p0 : ¬ Int32.ofNat L - 5 < x3 → vp_in x3 L) (p1 : ¬ Int32.ofNat L - 5 < x3 → vp_in (x3 + 1) L) (p2 : ¬ Int32.ofNat L - 5 < x3 → vp_in (x3 + 2) L) (p3 : ¬ Int32.ofNat L - 5 < x3 → vp_in (x3 + 3) L) (p4 : ¬ Int32.ofNat L - 5 < x3 → vp_in (x3 + 4) L) (go : ¬ Int32.ofNat L - 5 < x3 → LGo L xs (x3 + 5)) (hV : VS S) (hC : CI m S) (hM : MI m S) : Wp (some (L, xs)) mL_law 18 [some (.ref 2000), some (.ref 0), some (.ref 77), some (.int x3)] [] m Q1 := by
  refine eL_law_18 ⟨fun _ => rfl, fun hn => ?_⟩
  replace p0 := p0 hn
  replace p1 := p1 hn
  replace p2 := p2 hn
  replace p3 := p3 hn
  replace p4 := p4 hn
  replace go := go hn
  refine ⟨p0, ?_, ?_, ?_, ?_, ?_, ?_, ?_, ?_, ?_, ?_, ?_, ?_, ?_, ?_, ?_, ?_, ?_, ?_, ?_, ?_, ?_, ?_, ?_, ?_, ?_, ?_, ?_, ?_, ?_, ?_, ?_⟩
  · exact fun _ => ⟨p1, p2, p3, c_feed hC hV fun m1 f1 C1 => ⟨p1, p2, p3, m_feed (hM.far hV f1) hV fun m2 f2 M2 => ⟨fun _ => go m2 _ hV.feed (C1.far f2) M2, fun z => absurd rfl z⟩⟩⟩
  · exact fun _ => c_wall hC hV fun m1 f1 C1 => m_wall (hM.far hV f1) hV fun m2 f2 M2 => ⟨fun _ => go m2 _ hV.wall (C1.far f2) M2, fun z => absurd rfl z⟩
  · exact fun _ => c_fault hC (m_fault hM ⟨fun _ => go m S hV hC hM, fun z => absurd rfl z⟩)
  · exact fun _ => ⟨p1, c_told hC ⟨p1, m_told hM ⟨fun _ => go m S hV hC hM, fun z => absurd rfl z⟩⟩⟩
  · exact fun _ => ⟨p1, p2, c_kind hC hV ⟨p1, p2, m_kind hM hV ⟨fun _ => go m S hV hC hM, fun z => absurd rfl z⟩⟩⟩
  · exact fun _ => ⟨p1, c_passes hC hV ⟨p1, m_passes hM hV ⟨fun _ => go m S hV hC hM, fun z => absurd rfl z⟩⟩⟩
  · exact fun _ => ⟨p1, p2, c_bare hC hV ⟨p1, p2, m_bare hM hV ⟨fun _ => go m S hV hC hM, fun z => absurd rfl z⟩⟩⟩
  · exact fun _ => ⟨p1, p2, p3, c_paste hC hV fun m1 f1 C1 => ⟨p1, p2, p3, m_paste (hM.far hV f1) hV fun m2 f2 M2 => ⟨fun _ => go m2 _ hV.paste (C1.far f2) M2, fun z => absurd rfl z⟩⟩⟩
  · exact fun _ => ⟨p1, c_days hC fun m1 f1 C1 => ⟨p1, m_days (hM.far hV f1) hV fun m2 f2 M2 => ⟨fun _ => go m2 _ hV.days (C1.far f2) M2, fun z => absurd rfl z⟩⟩⟩
  · exact fun _ => ⟨p1, p2, c_above hC hV ⟨p1, p2, m_above hM hV ⟨fun _ => go m S hV hC hM, fun z => absurd rfl z⟩⟩⟩
  · exact fun _ => ⟨p1, p2, c_bill hC hV fun m1 f1 C1 => ⟨p1, p2, m_bill (hM.far hV f1) hV fun m2 f2 M2 => ⟨fun _ => go m2 _ hV (C1.far f2) M2, fun z => absurd rfl z⟩⟩⟩
  · exact fun _ => ⟨p1, c_over hC hV ⟨p1, m_over hM hV ⟨fun _ => go m S hV hC hM, fun z => absurd rfl z⟩⟩⟩
  · exact fun _ => ⟨p1, c_free hC hV ⟨p1, m_free hM hV ⟨fun _ => go m S hV hC hM, fun z => absurd rfl z⟩⟩⟩
  · exact fun _ => ⟨p1, c_reveal hC hV fun m1 f1 C1 => ⟨p1, m_reveal (hM.far hV f1) hV fun m2 f2 M2 => ⟨fun _ => go m2 _ hV (C1.far f2) M2, fun z => absurd rfl z⟩⟩⟩
  · exact fun _ => ⟨p1, c_peel hC hV fun m1 f1 C1 => ⟨p1, m_peel (hM.far hV f1) hV fun m2 f2 M2 => ⟨fun _ => go m2 _ hV.peel (C1.far f2) M2, fun z => absurd rfl z⟩⟩⟩
  · exact fun _ => ⟨p1, p2, c_tear hC hV fun m1 f1 C1 => ⟨p1, p2, m_tear (hM.far hV f1) hV fun m2 f2 M2 => ⟨fun _ => go m2 _ hV.tears (C1.far f2) M2, fun z => absurd rfl z⟩⟩⟩
  · exact fun _ => ⟨p1, c_rain hC hV fun m1 f1 C1 => ⟨p1, m_rain (hM.far hV f1) hV fun m2 f2 M2 => ⟨fun _ => go m2 _ hV.rains (C1.far f2) M2, fun z => absurd rfl z⟩⟩⟩
  · exact fun _ => ⟨p1, p2, c_owner hC hV fun m1 f1 C1 => ⟨p1, p2, m_owner (hM.far hV f1) hV fun m2 f2 M2 => ⟨fun _ => go m2 _ hV (C1.far f2) M2, fun z => absurd rfl z⟩⟩⟩
  · exact fun _ => ⟨p1, p2, p3, c_show hC hV fun m1 f1 C1 => ⟨p1, p2, p3, m_show (hM.far hV f1) hV fun m2 f2 M2 => ⟨fun _ => go m2 _ hV.show (C1.far f2) M2, fun z => absurd rfl z⟩⟩⟩
  · exact fun _ => ⟨p1, p2, p3, c_look hC hV fun m1 f1 C1 => ⟨p1, p2, p3, m_look (hM.far hV f1) hV fun m2 f2 M2 => ⟨fun _ => go m2 _ hV.look (C1.far f2) M2, fun z => absurd rfl z⟩⟩⟩
  · exact fun _ => c_burn hC fun m1 f1 C1 => m_burn (hM.far hV f1) hV fun m2 f2 M2 => ⟨fun _ => go m2 _ hV.burn (C1.far f2) M2, fun z => absurd rfl z⟩
  · exact fun _ => c_orders hC hV fun m1 f1 C1 => m_orders (hM.far hV f1) hV fun m2 f2 M2 => ⟨fun _ => go m2 _ hV (C1.far f2) M2, fun z => absurd rfl z⟩
  · exact fun _ => ⟨p1, c_order hC hV fun m1 f1 C1 => ⟨p1, m_order (hM.far hV f1) hV fun m2 f2 M2 => ⟨fun _ => go m2 _ hV (C1.far f2) M2, fun z => absurd rfl z⟩⟩⟩
  · exact fun _ => ⟨p1, p2, c_surely hC hV fun m1 f1 C1 => ⟨p1, p2, m_surely (hM.far hV f1) hV fun m2 f2 M2 => ⟨fun _ => go m2 _ hV (C1.far f2) M2, fun z => absurd rfl z⟩⟩⟩
  · exact fun _ => ⟨p1, p2, c_best hC hV fun m1 f1 C1 => ⟨p1, p2, m_best (hM.far hV f1) hV fun m2 f2 M2 => ⟨fun _ => go m2 _ hV (C1.far f2) M2, fun z => absurd rfl z⟩⟩⟩
  · exact fun _ => ⟨p1, p2, p3, c_two hC hV fun m1 f1 C1 => ⟨p1, p2, p3, m_two (hM.far hV f1) hV fun m2 f2 M2 => ⟨fun _ => go m2 _ hV (C1.far f2) M2, fun z => absurd rfl z⟩⟩⟩
  · exact fun _ => ⟨p1, p2, p3, p4, c_rivals hC hV fun m1 f1 C1 => ⟨p1, p2, p3, p4, m_rivals (hM.far hV f1) hV fun m2 f2 M2 => ⟨fun _ => go m2 _ hV (C1.far f2) M2, fun z => absurd rfl z⟩⟩⟩
  · exact fun _ => ⟨p1, c_seed hC fun m1 f1 C1 => ⟨p1, m_seed (hM.far hV f1) hV fun m2 f2 M2 => ⟨fun _ => go m2 _ hV.seed (C1.far f2) M2, fun z => absurd rfl z⟩⟩⟩
  · exact fun _ => ⟨p1, c_keep hC hV fun m1 f1 C1 => ⟨p1, m_keep (hM.far hV f1) hV fun m2 f2 M2 => ⟨fun _ => go m2 _ hV.keep (C1.far f2) M2, fun z => absurd rfl z⟩⟩⟩
  · exact fun _ => ⟨p1, c_goBack hC hV fun m1 f1 C1 => ⟨p1, m_goBack (hM.far hV f1) hV fun m2 f2 M2 => ⟨fun _ => go m2 _ hV.back (C1.far f2) M2, fun z => absurd rfl z⟩⟩⟩
  · exact fun _ => go m S hV hC hM
theorem law_loop (hL : L ≤ 2560) : ∀ d i, L + 5 ≤ d + i → i ≤ 2560 + 5 → LGo L xs (nI i) := by
  intro d
  induction d with
  | zero =>
    intro i h1 h2 m S hV hC hM
    have no : ¬ ¬ Int32.ofNat L - 5 < nI i := fun h => by
      have := on_far2 hL h2 h
      omega
    exact law_step (fun h => absurd h no) (fun h => absurd h no) (fun h => absurd h no) (fun h => absurd h no) (fun h => absurd h no) (fun h => absurd h no) hV hC hM
  | succ d ih =>
    intro i h1 h2 m S hV hC hM
    have far := fun h => on_far2 hL h2 (i := i) h
    exact law_step (fun h => vp_in_nI (by have := far h; omega) (by omega)) (fun h => vp_at (j := 1) hL (by have := far h; omega)) (fun h => vp_at (j := 2) hL (by have := far h; omega)) (fun h => vp_at (j := 3) hL (by have := far h; omega)) (fun h => vp_at (j := 4) hL (by have := far h; omega)) (fun h => by
      have := far h
      have g := ih (i + 5) (by omega) (by omega)
      rw [← nI_add] at g
      exact g) hV hC hM
end LOOP
