def a_ckI (b : ByteArray) (l : a_IL) : Bool := l.all (fun e => decide (decode b e.1 = .ok e.2))
theorem a_ck_cut {b : ByteArray} {l : a_IL} (n : Nat) (h1 : a_ckI b (l.take n) = true) (h2 : a_ckI b (l.drop n) = true) : a_ckI b l = true := by
  have h : a_ckI b (l.take n ++ l.drop n) = true := by
    unfold a_ckI at h1 h2 ⊢
    rw [List.all_append, h1, h2]
    rfl
  rw [List.take_append_drop] at h
  exact h

theorem cIX0_init : a_ckI (a_b mX0_init) (a_il mX0_init) = true := by decide +kernel
theorem cIX0_takeAllAway : a_ckI (a_b mX0_takeAllAway) (a_il mX0_takeAllAway) = true := by decide +kernel
theorem cIX0_copyFrom_0 : a_ckI (a_b mX0_copyFrom) ((a_il mX0_copyFrom).take 40) = true := by decide +kernel
theorem cIX0_copyFrom_1 : a_ckI (a_b mX0_copyFrom) ((a_il mX0_copyFrom).drop 40) = true := by decide +kernel
theorem cIX0_copyFrom : a_ckI (a_b mX0_copyFrom) (a_il mX0_copyFrom) = true := a_ck_cut 40 cIX0_copyFrom_0 (cIX0_copyFrom_1)
theorem cIX0_has : a_ckI (a_b mX0_has) (a_il mX0_has) = true := by decide +kernel
theorem cIX0_isFull : a_ckI (a_b mX0_isFull) (a_il mX0_isFull) = true := by decide +kernel
theorem cIX0_isOn : a_ckI (a_b mX0_isOn) (a_il mX0_isOn) = true := by decide +kernel
theorem cIX0_ownerOf : a_ckI (a_b mX0_ownerOf) (a_il mX0_ownerOf) = true := by decide +kernel
theorem cIX0_allCells : a_ckI (a_b mX0_allCells) (a_il mX0_allCells) = true := by decide +kernel
theorem cIX0_right : a_ckI (a_b mX0_right) (a_il mX0_right) = true := by decide +kernel
theorem cIX0_bottom : a_ckI (a_b mX0_bottom) (a_il mX0_bottom) = true := by decide +kernel
theorem cIX0_topAt : a_ckI (a_b mX0_topAt) (a_il mX0_topAt) = true := by decide +kernel
theorem cIX0_hang_0 : a_ckI (a_b mX0_hang) ((a_il mX0_hang).take 40) = true := by decide +kernel
theorem cIX0_hang_1 : a_ckI (a_b mX0_hang) ((a_il mX0_hang).drop 40) = true := by decide +kernel
theorem cIX0_hang : a_ckI (a_b mX0_hang) (a_il mX0_hang) = true := a_ck_cut 40 cIX0_hang_0 (cIX0_hang_1)
theorem cIX0_takeOff_0 : a_ckI (a_b mX0_takeOff) ((a_il mX0_takeOff).take 40) = true := by decide +kernel
theorem cIX0_takeOff_1 : a_ckI (a_b mX0_takeOff) ((a_il mX0_takeOff).drop 40) = true := by decide +kernel
theorem cIX0_takeOff : a_ckI (a_b mX0_takeOff) (a_il mX0_takeOff) = true := a_ck_cut 40 cIX0_takeOff_0 (cIX0_takeOff_1)
theorem cIX0_undoHang : a_ckI (a_b mX0_undoHang) (a_il mX0_undoHang) = true := by decide +kernel
theorem cIX0_tearTop : a_ckI (a_b mX0_tearTop) (a_il mX0_tearTop) = true := by decide +kernel
theorem cIX0_loosen : a_ckI (a_b mX0_loosen) (a_il mX0_loosen) = true := by decide +kernel
theorem cIX0_drawOfHundred : a_ckI (a_b mX0_drawOfHundred) (a_il mX0_drawOfHundred) = true := by decide +kernel
theorem cIX0_tornCells : a_ckI (a_b mX0_tornCells) (a_il mX0_tornCells) = true := by decide +kernel
theorem cIX0_hangingOf : a_ckI (a_b mX0_hangingOf) (a_il mX0_hangingOf) = true := by decide +kernel
theorem cIX0_coversOf : a_ckI (a_b mX0_coversOf) (a_il mX0_coversOf) = true := by decide +kernel
theorem cIX0_toFree : a_ckI (a_b mX0_toFree) (a_il mX0_toFree) = true := by decide +kernel
theorem cIX0_laterThan : a_ckI (a_b mX0_laterThan) (a_il mX0_laterThan) = true := by decide +kernel
theorem cIX1_init : a_ckI (a_b mX1_init) (a_il mX1_init) = true := by decide +kernel
theorem cIX2_init : a_ckI (a_b mX2_init) (a_il mX2_init) = true := by decide +kernel
theorem cIX2_toRead_0 : a_ckI (a_b mX2_toRead) ((a_il mX2_toRead).take 40) = true := by decide +kernel
theorem cIX2_toRead_1 : a_ckI (a_b mX2_toRead) ((a_il mX2_toRead).drop 40) = true := by decide +kernel
theorem cIX2_toRead : a_ckI (a_b mX2_toRead) (a_il mX2_toRead) = true := a_ck_cut 40 cIX2_toRead_0 (cIX2_toRead_1)
theorem cIX2_lookUnder_0 : a_ckI (a_b mX2_lookUnder) ((a_il mX2_lookUnder).take 40) = true := by decide +kernel
theorem cIX2_lookUnder_1 : a_ckI (a_b mX2_lookUnder) ((a_il mX2_lookUnder).drop 40) = true := by decide +kernel
theorem cIX2_lookUnder : a_ckI (a_b mX2_lookUnder) (a_il mX2_lookUnder) = true := a_ck_cut 40 cIX2_lookUnder_0 (cIX2_lookUnder_1)
theorem cIX2_isLiftable : a_ckI (a_b mX2_isLiftable) (a_il mX2_isLiftable) = true := by decide +kernel
theorem cIX2_seenWithout : a_ckI (a_b mX2_seenWithout) (a_il mX2_seenWithout) = true := by decide +kernel
theorem cIX3_init : a_ckI (a_b mX3_init) (a_il mX3_init) = true := by decide +kernel
theorem cIX3_forget : a_ckI (a_b mX3_forget) (a_il mX3_forget) = true := by decide +kernel
theorem cIX3_has : a_ckI (a_b mX3_has) (a_il mX3_has) = true := by decide +kernel
theorem cIX3_add_0 : a_ckI (a_b mX3_add) ((a_il mX3_add).take 40) = true := by decide +kernel
theorem cIX3_add_1 : a_ckI (a_b mX3_add) ((a_il mX3_add).drop 40) = true := by decide +kernel
theorem cIX3_add : a_ckI (a_b mX3_add) (a_il mX3_add) = true := a_ck_cut 40 cIX3_add_0 (cIX3_add_1)
theorem cIX3_countOrders_0 : a_ckI (a_b mX3_countOrders) ((a_il mX3_countOrders).take 40) = true := by decide +kernel
theorem cIX3_countOrders_1 : a_ckI (a_b mX3_countOrders) ((a_il mX3_countOrders).drop 40) = true := by decide +kernel
theorem cIX3_countOrders : a_ckI (a_b mX3_countOrders) (a_il mX3_countOrders) = true := a_ck_cut 40 cIX3_countOrders_0 (cIX3_countOrders_1)
theorem cIX3_firstOrderAt : a_ckI (a_b mX3_firstOrderAt) (a_il mX3_firstOrderAt) = true := by decide +kernel
theorem cIX3_liesOver : a_ckI (a_b mX3_liesOver) (a_il mX3_liesOver) = true := by decide +kernel
theorem cIX3_hasOrder : a_ckI (a_b mX3_hasOrder) (a_il mX3_hasOrder) = true := by decide +kernel
theorem cIX3_leastThatCanStand : a_ckI (a_b mX3_leastThatCanStand) (a_il mX3_leastThatCanStand) = true := by decide +kernel
theorem cIX3_relate_0 : a_ckI (a_b mX3_relate) ((a_il mX3_relate).take 40) = true := by decide +kernel
theorem cIX3_relate_1 : a_ckI (a_b mX3_relate) ((a_il mX3_relate).drop 40) = true := by decide +kernel
theorem cIX3_relate : a_ckI (a_b mX3_relate) (a_il mX3_relate) = true := a_ck_cut 40 cIX3_relate_0 (cIX3_relate_1)
theorem cIX4_init : a_ckI (a_b mX4_init) (a_il mX4_init) = true := by decide +kernel
theorem cIX4_findOne_0 : a_ckI (a_b mX4_findOne) ((a_il mX4_findOne).take 40) = true := by decide +kernel
theorem cIX4_findOne_1 : a_ckI (a_b mX4_findOne) ((a_il mX4_findOne).drop 40) = true := by decide +kernel
theorem cIX4_findOne : a_ckI (a_b mX4_findOne) (a_il mX4_findOne) = true := a_ck_cut 40 cIX4_findOne_0 (cIX4_findOne_1)
theorem cIX4_findTwo_0 : a_ckI (a_b mX4_findTwo) ((a_il mX4_findTwo).take 40) = true := by decide +kernel
theorem cIX4_findTwo_1 : a_ckI (a_b mX4_findTwo) ((a_il mX4_findTwo).drop 40) = true := by decide +kernel
theorem cIX4_findTwo : a_ckI (a_b mX4_findTwo) (a_il mX4_findTwo) = true := a_ck_cut 40 cIX4_findTwo_0 (cIX4_findTwo_1)
theorem cIX4_findSecond_0 : a_ckI (a_b mX4_findSecond) ((a_il mX4_findSecond).take 40) = true := by decide +kernel
theorem cIX4_findSecond_1 : a_ckI (a_b mX4_findSecond) ((a_il mX4_findSecond).drop 40) = true := by decide +kernel
theorem cIX4_findSecond : a_ckI (a_b mX4_findSecond) (a_il mX4_findSecond) = true := a_ck_cut 40 cIX4_findSecond_0 (cIX4_findSecond_1)
theorem cIX4_isBetter : a_ckI (a_b mX4_isBetter) (a_il mX4_isBetter) = true := by decide +kernel
theorem cIX4_compete : a_ckI (a_b mX4_compete) (a_il mX4_compete) = true := by decide +kernel
theorem cIX4_takeTurn : a_ckI (a_b mX4_takeTurn) (a_il mX4_takeTurn) = true := by decide +kernel
theorem cIX4_worthAtLast : a_ckI (a_b mX4_worthAtLast) (a_il mX4_worthAtLast) = true := by decide +kernel
theorem cIX5_init : a_ckI (a_b mX5_init) (a_il mX5_init) = true := by decide +kernel
theorem cIX5_untell : a_ckI (a_b mX5_untell) (a_il mX5_untell) = true := by decide +kernel
theorem cIX5_copyFrom_0 : a_ckI (a_b mX5_copyFrom) ((a_il mX5_copyFrom).take 40) = true := by decide +kernel
theorem cIX5_copyFrom_1 : a_ckI (a_b mX5_copyFrom) ((a_il mX5_copyFrom).drop 40) = true := by decide +kernel
theorem cIX5_copyFrom : a_ckI (a_b mX5_copyFrom) (a_il mX5_copyFrom) = true := a_ck_cut 40 cIX5_copyFrom_0 (cIX5_copyFrom_1)
theorem cIX5_addStrip : a_ckI (a_b mX5_addStrip) (a_il mX5_addStrip) = true := by decide +kernel
theorem cIX5_addKind : a_ckI (a_b mX5_addKind) (a_il mX5_addKind) = true := by decide +kernel
theorem cIX5_hasKind : a_ckI (a_b mX5_hasKind) (a_il mX5_hasKind) = true := by decide +kernel
theorem cIX5_hasCell : a_ckI (a_b mX5_hasCell) (a_il mX5_hasCell) = true := by decide +kernel
theorem cIX5_holds : a_ckI (a_b mX5_holds) (a_il mX5_holds) = true := by decide +kernel
theorem cIX5_isBarred : a_ckI (a_b mX5_isBarred) (a_il mX5_isBarred) = true := by decide +kernel
theorem cIX5_canRead : a_ckI (a_b mX5_canRead) (a_il mX5_canRead) = true := by decide +kernel
theorem cIX5_passersOf : a_ckI (a_b mX5_passersOf) (a_il mX5_passersOf) = true := by decide +kernel
theorem cIX6_init : a_ckI (a_b mX6_init) (a_il mX6_init) = true := by decide +kernel
theorem cIX6_append : a_ckI (a_b mX6_append) (a_il mX6_append) = true := by decide +kernel
theorem cIX6_readInto : a_ckI (a_b mX6_readInto) (a_il mX6_readInto) = true := by decide +kernel
theorem cIX6_isFaultless : a_ckI (a_b mX6_isFaultless) (a_il mX6_isFaultless) = true := by decide +kernel
theorem cIX6_fail : a_ckI (a_b mX6_fail) (a_il mX6_fail) = true := by decide +kernel
theorem cIX6_readClause : a_ckI (a_b mX6_readClause) (a_il mX6_readClause) = true := by decide +kernel
theorem cIX6_isSizeTooLate : a_ckI (a_b mX6_isSizeTooLate) (a_il mX6_isSizeTooLate) = true := by decide +kernel
theorem cIX6_isTold : a_ckI (a_b mX6_isTold) (a_il mX6_isTold) = true := by decide +kernel
theorem cIX6_readNumbers : a_ckI (a_b mX6_readNumbers) (a_il mX6_readNumbers) = true := by decide +kernel
theorem cIX6_readStrip : a_ckI (a_b mX6_readStrip) (a_il mX6_readStrip) = true := by decide +kernel
theorem cIX6_readPassers : a_ckI (a_b mX6_readPassers) (a_il mX6_readPassers) = true := by decide +kernel
theorem cIX6_readKind : a_ckI (a_b mX6_readKind) (a_il mX6_readKind) = true := by decide +kernel
theorem cIX6_readNumber_0 : a_ckI (a_b mX6_readNumber) ((a_il mX6_readNumber).take 40) = true := by decide +kernel
theorem cIX6_readNumber_1 : a_ckI (a_b mX6_readNumber) ((a_il mX6_readNumber).drop 40) = true := by decide +kernel
theorem cIX6_readNumber : a_ckI (a_b mX6_readNumber) (a_il mX6_readNumber) = true := a_ck_cut 40 cIX6_readNumber_0 (cIX6_readNumber_1)
theorem cIX6_readEnd : a_ckI (a_b mX6_readEnd) (a_il mX6_readEnd) = true := by decide +kernel
theorem cIX6_skipBlanks : a_ckI (a_b mX6_skipBlanks) (a_il mX6_skipBlanks) = true := by decide +kernel
theorem cIX6_readWord : a_ckI (a_b mX6_readWord) (a_il mX6_readWord) = true := by decide +kernel
theorem cIX6_spells : a_ckI (a_b mX6_spells) (a_il mX6_spells) = true := by decide +kernel
theorem cIX6_nameOf : a_ckI (a_b mX6_nameOf) (a_il mX6_nameOf) = true := by decide +kernel
theorem cIX6_isLetter : a_ckI (a_b mX6_isLetter) (a_il mX6_isLetter) = true := by decide +kernel
theorem cIX6_isFigure : a_ckI (a_b mX6_isFigure) (a_il mX6_isFigure) = true := by decide +kernel
theorem cIX7_init : a_ckI (a_b mX7_init) (a_il mX7_init) = true := by decide +kernel
theorem cIX7_lookAt_0 : a_ckI (a_b mX7_lookAt) ((a_il mX7_lookAt).take 40) = true := by decide +kernel
theorem cIX7_lookAt_1 : a_ckI (a_b mX7_lookAt) ((a_il mX7_lookAt).drop 40) = true := by decide +kernel
theorem cIX7_lookAt : a_ckI (a_b mX7_lookAt) (a_il mX7_lookAt) = true := a_ck_cut 40 cIX7_lookAt_0 (cIX7_lookAt_1)
theorem cIX7_worthOf : a_ckI (a_b mX7_worthOf) (a_il mX7_worthOf) = true := by decide +kernel
theorem cIX7_worthOfOwner : a_ckI (a_b mX7_worthOfOwner) (a_il mX7_worthOfOwner) = true := by decide +kernel
theorem cIX7_weigh_0 : a_ckI (a_b mX7_weigh) ((a_il mX7_weigh).take 40) = true := by decide +kernel
theorem cIX7_weigh_1 : a_ckI (a_b mX7_weigh) ((a_il mX7_weigh).drop 40) = true := by decide +kernel
theorem cIX7_weigh : a_ckI (a_b mX7_weigh) (a_il mX7_weigh) = true := a_ck_cut 40 cIX7_weigh_0 (cIX7_weigh_1)
theorem cIX7_hide_0 : a_ckI (a_b mX7_hide) ((a_il mX7_hide).take 40) = true := by decide +kernel
theorem cIX7_hide_1 : a_ckI (a_b mX7_hide) ((a_il mX7_hide).drop 40) = true := by decide +kernel
theorem cIX7_hide : a_ckI (a_b mX7_hide) (a_il mX7_hide) = true := a_ck_cut 40 cIX7_hide_0 (cIX7_hide_1)
theorem cIX7_weighLoss_0 : a_ckI (a_b mX7_weighLoss) ((a_il mX7_weighLoss).take 40) = true := by decide +kernel
theorem cIX7_weighLoss_1 : a_ckI (a_b mX7_weighLoss) ((a_il mX7_weighLoss).drop 40) = true := by decide +kernel
theorem cIX7_weighLoss : a_ckI (a_b mX7_weighLoss) (a_il mX7_weighLoss) = true := a_ck_cut 40 cIX7_weighLoss_0 (cIX7_weighLoss_1)
theorem cIX8_init_0 : a_ckI (a_b mX8_init) ((a_il mX8_init).take 40) = true := by decide +kernel
theorem cIX8_init_1 : a_ckI (a_b mX8_init) ((a_il mX8_init).drop 40) = true := by decide +kernel
theorem cIX8_init : a_ckI (a_b mX8_init) (a_il mX8_init) = true := a_ck_cut 40 cIX8_init_0 (cIX8_init_1)
theorem cIX8_feed : a_ckI (a_b mX8_feed) (a_il mX8_feed) = true := by decide +kernel
theorem cIX8_wall : a_ckI (a_b mX8_wall) (a_il mX8_wall) = true := by decide +kernel
theorem cIX8_fault : a_ckI (a_b mX8_fault) (a_il mX8_fault) = true := by decide +kernel
theorem cIX8_told : a_ckI (a_b mX8_told) (a_il mX8_told) = true := by decide +kernel
theorem cIX8_kind : a_ckI (a_b mX8_kind) (a_il mX8_kind) = true := by decide +kernel
theorem cIX8_passes : a_ckI (a_b mX8_passes) (a_il mX8_passes) = true := by decide +kernel
theorem cIX8_bare : a_ckI (a_b mX8_bare) (a_il mX8_bare) = true := by decide +kernel
theorem cIX8_paste_0 : a_ckI (a_b mX8_paste) ((a_il mX8_paste).take 40) = true := by decide +kernel
theorem cIX8_paste_1 : a_ckI (a_b mX8_paste) ((a_il mX8_paste).drop 40) = true := by decide +kernel
theorem cIX8_paste : a_ckI (a_b mX8_paste) (a_il mX8_paste) = true := a_ck_cut 40 cIX8_paste_0 (cIX8_paste_1)
theorem cIX8_days : a_ckI (a_b mX8_days) (a_il mX8_days) = true := by decide +kernel
theorem cIX8_above : a_ckI (a_b mX8_above) (a_il mX8_above) = true := by decide +kernel
theorem cIX8_bill_0 : a_ckI (a_b mX8_bill) ((a_il mX8_bill).take 40) = true := by decide +kernel
theorem cIX8_bill_1 : a_ckI (a_b mX8_bill) ((a_il mX8_bill).drop 40) = true := by decide +kernel
theorem cIX8_bill : a_ckI (a_b mX8_bill) (a_il mX8_bill) = true := a_ck_cut 40 cIX8_bill_0 (cIX8_bill_1)
theorem cIX8_over : a_ckI (a_b mX8_over) (a_il mX8_over) = true := by decide +kernel
theorem cIX8_free : a_ckI (a_b mX8_free) (a_il mX8_free) = true := by decide +kernel
theorem cIX8_reveal : a_ckI (a_b mX8_reveal) (a_il mX8_reveal) = true := by decide +kernel
theorem cIX8_peel : a_ckI (a_b mX8_peel) (a_il mX8_peel) = true := by decide +kernel
