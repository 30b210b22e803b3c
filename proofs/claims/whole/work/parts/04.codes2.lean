theorem cIX8_tear : a_ckI (a_b mX8_tear) (a_il mX8_tear) = true := by decide +kernel
theorem cIX8_rain : a_ckI (a_b mX8_rain) (a_il mX8_rain) = true := by decide +kernel
theorem cIX8_owner : a_ckI (a_b mX8_owner) (a_il mX8_owner) = true := by decide +kernel
theorem cIX8_show : a_ckI (a_b mX8_show) (a_il mX8_show) = true := by decide +kernel
theorem cIX8_look : a_ckI (a_b mX8_look) (a_il mX8_look) = true := by decide +kernel
theorem cIX8_burn : a_ckI (a_b mX8_burn) (a_il mX8_burn) = true := by decide +kernel
theorem cIX8_orders : a_ckI (a_b mX8_orders) (a_il mX8_orders) = true := by decide +kernel
theorem cIX8_order : a_ckI (a_b mX8_order) (a_il mX8_order) = true := by decide +kernel
theorem cIX8_surely : a_ckI (a_b mX8_surely) (a_il mX8_surely) = true := by decide +kernel
theorem cIX8_best : a_ckI (a_b mX8_best) (a_il mX8_best) = true := by decide +kernel
theorem cIX8_two_0 : a_ckI (a_b mX8_two) ((a_il mX8_two).take 40) = true := by decide +kernel
theorem cIX8_two_1 : a_ckI (a_b mX8_two) ((a_il mX8_two).drop 40) = true := by decide +kernel
theorem cIX8_two : a_ckI (a_b mX8_two) (a_il mX8_two) = true := a_ck_cut 40 cIX8_two_0 (cIX8_two_1)
theorem cIX8_rivals : a_ckI (a_b mX8_rivals) (a_il mX8_rivals) = true := by decide +kernel
theorem cIX8_seed : a_ckI (a_b mX8_seed) (a_il mX8_seed) = true := by decide +kernel
theorem cIX8_keep : a_ckI (a_b mX8_keep) (a_il mX8_keep) = true := by decide +kernel
theorem cIX8_goBack : a_ckI (a_b mX8_goBack) (a_il mX8_goBack) = true := by decide +kernel
theorem cIX8_imageOf : a_ckI (a_b mX8_imageOf) (a_il mX8_imageOf) = true := by decide +kernel
theorem cIX8_isIn : a_ckI (a_b mX8_isIn) (a_il mX8_isIn) = true := by decide +kernel
theorem cIX8_cellAt : a_ckI (a_b mX8_cellAt) (a_il mX8_cellAt) = true := by decide +kernel
theorem cIX9_init_0 : a_ckI (a_b mX9_init) ((a_il mX9_init).take 40) = true := by decide +kernel
theorem cIX9_init_1 : a_ckI (a_b mX9_init) (((a_il mX9_init).drop 40).take 40) = true := by decide +kernel
theorem cIX9_init_2 : a_ckI (a_b mX9_init) (((a_il mX9_init).drop 40).drop 40) = true := by decide +kernel
theorem cIX9_init : a_ckI (a_b mX9_init) (a_il mX9_init) = true := a_ck_cut 40 cIX9_init_0 (a_ck_cut 40 cIX9_init_1 (cIX9_init_2))
theorem cIX9_in : a_ckI (a_b mX9_in) (a_il mX9_in) = true := by decide +kernel
theorem cIX9_one : a_ckI (a_b mX9_one) (a_il mX9_one) = true := by decide +kernel
theorem cIX9_has : a_ckI (a_b mX9_has) (a_il mX9_has) = true := by decide +kernel
theorem cIX9_ones : a_ckI (a_b mX9_ones) (a_il mX9_ones) = true := by decide +kernel
theorem cIX9_untold : a_ckI (a_b mX9_untold) (a_il mX9_untold) = true := by decide +kernel
theorem cIX9_feed : a_ckI (a_b mX9_feed) (a_il mX9_feed) = true := by decide +kernel
theorem cIX9_here : a_ckI (a_b mX9_here) (a_il mX9_here) = true := by decide +kernel
theorem cIX9_want : a_ckI (a_b mX9_want) (a_il mX9_want) = true := by decide +kernel
theorem cIX9_takeWord : a_ckI (a_b mX9_takeWord) (a_il mX9_takeWord) = true := by decide +kernel
theorem cIX9_isWord_0 : a_ckI (a_b mX9_isWord) ((a_il mX9_isWord).take 40) = true := by decide +kernel
theorem cIX9_isWord_1 : a_ckI (a_b mX9_isWord) ((a_il mX9_isWord).drop 40) = true := by decide +kernel
theorem cIX9_isWord : a_ckI (a_b mX9_isWord) (a_il mX9_isWord) = true := a_ck_cut 40 cIX9_isWord_0 (cIX9_isWord_1)
theorem cIX9_takeNumber_0 : a_ckI (a_b mX9_takeNumber) ((a_il mX9_takeNumber).take 40) = true := by decide +kernel
theorem cIX9_takeNumber_1 : a_ckI (a_b mX9_takeNumber) (((a_il mX9_takeNumber).drop 40).take 40) = true := by decide +kernel
theorem cIX9_takeNumber_2 : a_ckI (a_b mX9_takeNumber) (((a_il mX9_takeNumber).drop 40).drop 40) = true := by decide +kernel
theorem cIX9_takeNumber : a_ckI (a_b mX9_takeNumber) (a_il mX9_takeNumber) = true := a_ck_cut 40 cIX9_takeNumber_0 (a_ck_cut 40 cIX9_takeNumber_1 (cIX9_takeNumber_2))
theorem cIX9_once : a_ckI (a_b mX9_once) (a_il mX9_once) = true := by decide +kernel
theorem cIX9_takeSize : a_ckI (a_b mX9_takeSize) (a_il mX9_takeSize) = true := by decide +kernel
theorem cIX9_takeBare_0 : a_ckI (a_b mX9_takeBare) ((a_il mX9_takeBare).take 40) = true := by decide +kernel
theorem cIX9_takeBare_1 : a_ckI (a_b mX9_takeBare) (((a_il mX9_takeBare).drop 40).take 40) = true := by decide +kernel
theorem cIX9_takeBare_2 : a_ckI (a_b mX9_takeBare) (((a_il mX9_takeBare).drop 40).drop 40) = true := by decide +kernel
theorem cIX9_takeBare : a_ckI (a_b mX9_takeBare) (a_il mX9_takeBare) = true := a_ck_cut 40 cIX9_takeBare_0 (a_ck_cut 40 cIX9_takeBare_1 (cIX9_takeBare_2))
theorem cIX9_takePass : a_ckI (a_b mX9_takePass) (a_il mX9_takePass) = true := by decide +kernel
theorem cIX9_takeKind_0 : a_ckI (a_b mX9_takeKind) ((a_il mX9_takeKind).take 40) = true := by decide +kernel
theorem cIX9_takeKind_1 : a_ckI (a_b mX9_takeKind) ((a_il mX9_takeKind).drop 40) = true := by decide +kernel
theorem cIX9_takeKind : a_ckI (a_b mX9_takeKind) (a_il mX9_takeKind) = true := a_ck_cut 40 cIX9_takeKind_0 (cIX9_takeKind_1)
theorem cIX9_takeClause_0 : a_ckI (a_b mX9_takeClause) ((a_il mX9_takeClause).take 40) = true := by decide +kernel
theorem cIX9_takeClause_1 : a_ckI (a_b mX9_takeClause) (((a_il mX9_takeClause).drop 40).take 40) = true := by decide +kernel
theorem cIX9_takeClause_2 : a_ckI (a_b mX9_takeClause) ((((a_il mX9_takeClause).drop 40).drop 40).take 40) = true := by decide +kernel
theorem cIX9_takeClause_3 : a_ckI (a_b mX9_takeClause) ((((a_il mX9_takeClause).drop 40).drop 40).drop 40) = true := by decide +kernel
theorem cIX9_takeClause : a_ckI (a_b mX9_takeClause) (a_il mX9_takeClause) = true := a_ck_cut 40 cIX9_takeClause_0 (a_ck_cut 40 cIX9_takeClause_1 (a_ck_cut 40 cIX9_takeClause_2 (cIX9_takeClause_3)))
theorem cIX9_wall_0 : a_ckI (a_b mX9_wall) ((a_il mX9_wall).take 40) = true := by decide +kernel
theorem cIX9_wall_1 : a_ckI (a_b mX9_wall) (((a_il mX9_wall).drop 40).take 40) = true := by decide +kernel
theorem cIX9_wall_2 : a_ckI (a_b mX9_wall) ((((a_il mX9_wall).drop 40).drop 40).take 40) = true := by decide +kernel
theorem cIX9_wall_3 : a_ckI (a_b mX9_wall) (((((a_il mX9_wall).drop 40).drop 40).drop 40).take 40) = true := by decide +kernel
theorem cIX9_wall_4 : a_ckI (a_b mX9_wall) ((((((a_il mX9_wall).drop 40).drop 40).drop 40).drop 40).take 40) = true := by decide +kernel
theorem cIX9_wall_5 : a_ckI (a_b mX9_wall) ((((((a_il mX9_wall).drop 40).drop 40).drop 40).drop 40).drop 40) = true := by decide +kernel
theorem cIX9_wall : a_ckI (a_b mX9_wall) (a_il mX9_wall) = true := a_ck_cut 40 cIX9_wall_0 (a_ck_cut 40 cIX9_wall_1 (a_ck_cut 40 cIX9_wall_2 (a_ck_cut 40 cIX9_wall_3 (a_ck_cut 40 cIX9_wall_4 (cIX9_wall_5)))))
theorem cIX9_fault : a_ckI (a_b mX9_fault) (a_il mX9_fault) = true := by decide +kernel
theorem cIX9_told : a_ckI (a_b mX9_told) (a_il mX9_told) = true := by decide +kernel
theorem cIX9_isKind : a_ckI (a_b mX9_isKind) (a_il mX9_isKind) = true := by decide +kernel
theorem cIX9_kind : a_ckI (a_b mX9_kind) (a_il mX9_kind) = true := by decide +kernel
theorem cIX9_passes : a_ckI (a_b mX9_passes) (a_il mX9_passes) = true := by decide +kernel
theorem cIX9_isCell : a_ckI (a_b mX9_isCell) (a_il mX9_isCell) = true := by decide +kernel
theorem cIX9_bare : a_ckI (a_b mX9_bare) (a_il mX9_bare) = true := by decide +kernel
theorem cIX9_copy : a_ckI (a_b mX9_copy) (a_il mX9_copy) = true := by decide +kernel
theorem cIX9_ownerOf : a_ckI (a_b mX9_ownerOf) (a_il mX9_ownerOf) = true := by decide +kernel
theorem cIX9_sizeOf : a_ckI (a_b mX9_sizeOf) (a_il mX9_sizeOf) = true := by decide +kernel
theorem cIX9_reaches : a_ckI (a_b mX9_reaches) (a_il mX9_reaches) = true := by decide +kernel
theorem cIX9_isTorn : a_ckI (a_b mX9_isTorn) (a_il mX9_isTorn) = true := by decide +kernel
theorem cIX9_lies : a_ckI (a_b mX9_lies) (a_il mX9_lies) = true := by decide +kernel
theorem cIX9_aboveAt : a_ckI (a_b mX9_aboveAt) (a_il mX9_aboveAt) = true := by decide +kernel
theorem cIX9_see_0 : a_ckI (a_b mX9_see) ((a_il mX9_see).take 40) = true := by decide +kernel
theorem cIX9_see_1 : a_ckI (a_b mX9_see) ((a_il mX9_see).drop 40) = true := by decide +kernel
theorem cIX9_see : a_ckI (a_b mX9_see) (a_il mX9_see) = true := a_ck_cut 40 cIX9_see_0 (cIX9_see_1)
theorem cIX9_isRead : a_ckI (a_b mX9_isRead) (a_il mX9_isRead) = true := by decide +kernel
theorem cIX9_worthOf : a_ckI (a_b mX9_worthOf) (a_il mX9_worthOf) = true := by decide +kernel
theorem cIX9_lay_0 : a_ckI (a_b mX9_lay) ((a_il mX9_lay).take 40) = true := by decide +kernel
theorem cIX9_lay_1 : a_ckI (a_b mX9_lay) (((a_il mX9_lay).drop 40).take 40) = true := by decide +kernel
theorem cIX9_lay_2 : a_ckI (a_b mX9_lay) ((((a_il mX9_lay).drop 40).drop 40).take 40) = true := by decide +kernel
theorem cIX9_lay_3 : a_ckI (a_b mX9_lay) (((((a_il mX9_lay).drop 40).drop 40).drop 40).take 40) = true := by decide +kernel
theorem cIX9_lay_4 : a_ckI (a_b mX9_lay) (((((a_il mX9_lay).drop 40).drop 40).drop 40).drop 40) = true := by decide +kernel
theorem cIX9_lay : a_ckI (a_b mX9_lay) (a_il mX9_lay) = true := a_ck_cut 40 cIX9_lay_0 (a_ck_cut 40 cIX9_lay_1 (a_ck_cut 40 cIX9_lay_2 (a_ck_cut 40 cIX9_lay_3 (cIX9_lay_4))))
theorem cIX9_isWithin : a_ckI (a_b mX9_isWithin) (a_il mX9_isWithin) = true := by decide +kernel
theorem cIX9_isClear : a_ckI (a_b mX9_isClear) (a_il mX9_isClear) = true := by decide +kernel
theorem cIX9_paste : a_ckI (a_b mX9_paste) (a_il mX9_paste) = true := by decide +kernel
theorem cIX9_days : a_ckI (a_b mX9_days) (a_il mX9_days) = true := by decide +kernel
theorem cIX9_above : a_ckI (a_b mX9_above) (a_il mX9_above) = true := by decide +kernel
theorem cIX9_isBill : a_ckI (a_b mX9_isBill) (a_il mX9_isBill) = true := by decide +kernel
theorem cIX9_tornMany : a_ckI (a_b mX9_tornMany) (a_il mX9_tornMany) = true := by decide +kernel
theorem cIX9_bill_0 : a_ckI (a_b mX9_bill) ((a_il mX9_bill).take 40) = true := by decide +kernel
theorem cIX9_bill_1 : a_ckI (a_b mX9_bill) ((a_il mX9_bill).drop 40) = true := by decide +kernel
theorem cIX9_bill : a_ckI (a_b mX9_bill) (a_il mX9_bill) = true := a_ck_cut 40 cIX9_bill_0 (cIX9_bill_1)
theorem cIX9_overOf : a_ckI (a_b mX9_overOf) (a_il mX9_overOf) = true := by decide +kernel
theorem cIX9_over : a_ckI (a_b mX9_over) (a_il mX9_over) = true := by decide +kernel
theorem cIX9_freeOf : a_ckI (a_b mX9_freeOf) (a_il mX9_freeOf) = true := by decide +kernel
theorem cIX9_free : a_ckI (a_b mX9_free) (a_il mX9_free) = true := by decide +kernel
theorem cIX9_isWhole : a_ckI (a_b mX9_isWhole) (a_il mX9_isWhole) = true := by decide +kernel
theorem cIX9_isReadWithout : a_ckI (a_b mX9_isReadWithout) (a_il mX9_isReadWithout) = true := by decide +kernel
theorem cIX9_reveal_0 : a_ckI (a_b mX9_reveal) ((a_il mX9_reveal).take 40) = true := by decide +kernel
theorem cIX9_reveal_1 : a_ckI (a_b mX9_reveal) ((a_il mX9_reveal).drop 40) = true := by decide +kernel
theorem cIX9_reveal : a_ckI (a_b mX9_reveal) (a_il mX9_reveal) = true := a_ck_cut 40 cIX9_reveal_0 (cIX9_reveal_1)
theorem cIX9_peel_0 : a_ckI (a_b mX9_peel) ((a_il mX9_peel).take 40) = true := by decide +kernel
theorem cIX9_peel_1 : a_ckI (a_b mX9_peel) ((a_il mX9_peel).drop 40) = true := by decide +kernel
theorem cIX9_peel : a_ckI (a_b mX9_peel) (a_il mX9_peel) = true := a_ck_cut 40 cIX9_peel_0 (cIX9_peel_1)
theorem cIX9_tearAt : a_ckI (a_b mX9_tearAt) (a_il mX9_tearAt) = true := by decide +kernel
theorem cIX9_tear : a_ckI (a_b mX9_tear) (a_il mX9_tear) = true := by decide +kernel
theorem cIX9_draw : a_ckI (a_b mX9_draw) (a_il mX9_draw) = true := by decide +kernel
theorem cIX9_rain : a_ckI (a_b mX9_rain) (a_il mX9_rain) = true := by decide +kernel
theorem cIX9_onMany : a_ckI (a_b mX9_onMany) (a_il mX9_onMany) = true := by decide +kernel
theorem cIX9_owner : a_ckI (a_b mX9_owner) (a_il mX9_owner) = true := by decide +kernel
theorem cIX9_show : a_ckI (a_b mX9_show) (a_il mX9_show) = true := by decide +kernel
theorem cIX9_look : a_ckI (a_b mX9_look) (a_il mX9_look) = true := by decide +kernel
theorem cIX9_burn : a_ckI (a_b mX9_burn) (a_il mX9_burn) = true := by decide +kernel
theorem cIX9_hasCell : a_ckI (a_b mX9_hasCell) (a_il mX9_hasCell) = true := by decide +kernel
theorem cIX9_findBelow_0 : a_ckI (a_b mX9_findBelow) ((a_il mX9_findBelow).take 40) = true := by decide +kernel
theorem cIX9_findBelow_1 : a_ckI (a_b mX9_findBelow) ((a_il mX9_findBelow).drop 40) = true := by decide +kernel
theorem cIX9_findBelow : a_ckI (a_b mX9_findBelow) (a_il mX9_findBelow) = true := a_ck_cut 40 cIX9_findBelow_0 (cIX9_findBelow_1)
theorem cIX9_ordersOf_0 : a_ckI (a_b mX9_ordersOf) ((a_il mX9_ordersOf).take 40) = true := by decide +kernel
theorem cIX9_ordersOf_1 : a_ckI (a_b mX9_ordersOf) ((a_il mX9_ordersOf).drop 40) = true := by decide +kernel
theorem cIX9_ordersOf : a_ckI (a_b mX9_ordersOf) (a_il mX9_ordersOf) = true := a_ck_cut 40 cIX9_ordersOf_0 (cIX9_ordersOf_1)
theorem cIX9_orders : a_ckI (a_b mX9_orders) (a_il mX9_orders) = true := by decide +kernel
theorem cIX9_order : a_ckI (a_b mX9_order) (a_il mX9_order) = true := by decide +kernel
theorem cIX9_surely_0 : a_ckI (a_b mX9_surely) ((a_il mX9_surely).take 40) = true := by decide +kernel
theorem cIX9_surely_1 : a_ckI (a_b mX9_surely) ((a_il mX9_surely).drop 40) = true := by decide +kernel
theorem cIX9_surely : a_ckI (a_b mX9_surely) (a_il mX9_surely) = true := a_ck_cut 40 cIX9_surely_0 (cIX9_surely_1)
theorem cIX9_undo : a_ckI (a_b mX9_undo) (a_il mX9_undo) = true := by decide +kernel
theorem cIX9_isPlace : a_ckI (a_b mX9_isPlace) (a_il mX9_isPlace) = true := by decide +kernel
theorem cIX9_findBest_0 : a_ckI (a_b mX9_findBest) ((a_il mX9_findBest).take 40) = true := by decide +kernel
theorem cIX9_findBest_1 : a_ckI (a_b mX9_findBest) ((a_il mX9_findBest).drop 40) = true := by decide +kernel
theorem cIX9_findBest : a_ckI (a_b mX9_findBest) (a_il mX9_findBest) = true := a_ck_cut 40 cIX9_findBest_0 (cIX9_findBest_1)
theorem cIX9_best_0 : a_ckI (a_b mX9_best) ((a_il mX9_best).take 40) = true := by decide +kernel
theorem cIX9_best_1 : a_ckI (a_b mX9_best) ((a_il mX9_best).drop 40) = true := by decide +kernel
theorem cIX9_best : a_ckI (a_b mX9_best) (a_il mX9_best) = true := a_ck_cut 40 cIX9_best_0 (cIX9_best_1)
theorem cIX9_two_0 : a_ckI (a_b mX9_two) ((a_il mX9_two).take 40) = true := by decide +kernel
theorem cIX9_two_1 : a_ckI (a_b mX9_two) (((a_il mX9_two).drop 40).take 40) = true := by decide +kernel
theorem cIX9_two_2 : a_ckI (a_b mX9_two) ((((a_il mX9_two).drop 40).drop 40).take 40) = true := by decide +kernel
theorem cIX9_two_3 : a_ckI (a_b mX9_two) ((((a_il mX9_two).drop 40).drop 40).drop 40) = true := by decide +kernel
theorem cIX9_two : a_ckI (a_b mX9_two) (a_il mX9_two) = true := a_ck_cut 40 cIX9_two_0 (a_ck_cut 40 cIX9_two_1 (a_ck_cut 40 cIX9_two_2 (cIX9_two_3)))
theorem cIX9_takeTurn : a_ckI (a_b mX9_takeTurn) (a_il mX9_takeTurn) = true := by decide +kernel
theorem cIX9_rivals_0 : a_ckI (a_b mX9_rivals) ((a_il mX9_rivals).take 40) = true := by decide +kernel
theorem cIX9_rivals_1 : a_ckI (a_b mX9_rivals) ((a_il mX9_rivals).drop 40) = true := by decide +kernel
theorem cIX9_rivals : a_ckI (a_b mX9_rivals) (a_il mX9_rivals) = true := a_ck_cut 40 cIX9_rivals_0 (cIX9_rivals_1)
theorem cIX9_seed : a_ckI (a_b mX9_seed) (a_il mX9_seed) = true := by decide +kernel
theorem cIX9_keep : a_ckI (a_b mX9_keep) (a_il mX9_keep) = true := by decide +kernel
theorem cIX9_goBack : a_ckI (a_b mX9_goBack) (a_il mX9_goBack) = true := by decide +kernel
theorem cIJ6_numberOfLeadingZeros_0f7a4 : a_ckI (a_b mJ6_numberOfLeadingZeros_0f7a4) (a_il mJ6_numberOfLeadingZeros_0f7a4) = true := by decide +kernel
theorem cIJ6_bitCount_0f7a4 : a_ckI (a_b mJ6_bitCount_0f7a4) (a_il mJ6_bitCount_0f7a4) = true := by decide +kernel
theorem cIJ7_fill_53178 : a_ckI (a_b mJ7_fill_53178) (a_il mJ7_fill_53178) = true := by decide +kernel
theorem cIL_law_0 : a_ckI (a_b mL_law) ((a_il mL_law).take 40) = true := by decide +kernel
theorem cIL_law_1 : a_ckI (a_b mL_law) (((a_il mL_law).drop 40).take 40) = true := by decide +kernel
theorem cIL_law_2 : a_ckI (a_b mL_law) ((((a_il mL_law).drop 40).drop 40).take 40) = true := by decide +kernel
theorem cIL_law_3 : a_ckI (a_b mL_law) (((((a_il mL_law).drop 40).drop 40).drop 40).take 40) = true := by decide +kernel
theorem cIL_law_4 : a_ckI (a_b mL_law) ((((((a_il mL_law).drop 40).drop 40).drop 40).drop 40).take 40) = true := by decide +kernel
theorem cIL_law_5 : a_ckI (a_b mL_law) (((((((a_il mL_law).drop 40).drop 40).drop 40).drop 40).drop 40).take 40) = true := by decide +kernel
theorem cIL_law_6 : a_ckI (a_b mL_law) ((((((((a_il mL_law).drop 40).drop 40).drop 40).drop 40).drop 40).drop 40).take 40) = true := by decide +kernel
theorem cIL_law_7 : a_ckI (a_b mL_law) (((((((((a_il mL_law).drop 40).drop 40).drop 40).drop 40).drop 40).drop 40).drop 40).take 40) = true := by decide +kernel
theorem cIL_law_8 : a_ckI (a_b mL_law) ((((((((((a_il mL_law).drop 40).drop 40).drop 40).drop 40).drop 40).drop 40).drop 40).drop 40).take 40) = true := by decide +kernel
theorem cIL_law_9 : a_ckI (a_b mL_law) (((((((((((a_il mL_law).drop 40).drop 40).drop 40).drop 40).drop 40).drop 40).drop 40).drop 40).drop 40).take 40) = true := by decide +kernel
theorem cIL_law_10 : a_ckI (a_b mL_law) ((((((((((((a_il mL_law).drop 40).drop 40).drop 40).drop 40).drop 40).drop 40).drop 40).drop 40).drop 40).drop 40).take 40) = true := by decide +kernel
theorem cIL_law_11 : a_ckI (a_b mL_law) (((((((((((((a_il mL_law).drop 40).drop 40).drop 40).drop 40).drop 40).drop 40).drop 40).drop 40).drop 40).drop 40).drop 40).take 40) = true := by decide +kernel
theorem cIL_law_12 : a_ckI (a_b mL_law) ((((((((((((((a_il mL_law).drop 40).drop 40).drop 40).drop 40).drop 40).drop 40).drop 40).drop 40).drop 40).drop 40).drop 40).drop 40).take 40) = true := by decide +kernel
theorem cIL_law_13 : a_ckI (a_b mL_law) (((((((((((((((a_il mL_law).drop 40).drop 40).drop 40).drop 40).drop 40).drop 40).drop 40).drop 40).drop 40).drop 40).drop 40).drop 40).drop 40).take 40) = true := by decide +kernel
theorem cIL_law_14 : a_ckI (a_b mL_law) ((((((((((((((((a_il mL_law).drop 40).drop 40).drop 40).drop 40).drop 40).drop 40).drop 40).drop 40).drop 40).drop 40).drop 40).drop 40).drop 40).drop 40).take 40) = true := by decide +kernel
theorem cIL_law_15 : a_ckI (a_b mL_law) (((((((((((((((((a_il mL_law).drop 40).drop 40).drop 40).drop 40).drop 40).drop 40).drop 40).drop 40).drop 40).drop 40).drop 40).drop 40).drop 40).drop 40).drop 40).take 40) = true := by decide +kernel
theorem cIL_law_16 : a_ckI (a_b mL_law) ((((((((((((((((((a_il mL_law).drop 40).drop 40).drop 40).drop 40).drop 40).drop 40).drop 40).drop 40).drop 40).drop 40).drop 40).drop 40).drop 40).drop 40).drop 40).drop 40).take 40) = true := by decide +kernel
theorem cIL_law_17 : a_ckI (a_b mL_law) ((((((((((((((((((a_il mL_law).drop 40).drop 40).drop 40).drop 40).drop 40).drop 40).drop 40).drop 40).drop 40).drop 40).drop 40).drop 40).drop 40).drop 40).drop 40).drop 40).drop 40) = true := by decide +kernel
theorem cIL_law : a_ckI (a_b mL_law) (a_il mL_law) = true := a_ck_cut 40 cIL_law_0 (a_ck_cut 40 cIL_law_1 (a_ck_cut 40 cIL_law_2 (a_ck_cut 40 cIL_law_3 (a_ck_cut 40 cIL_law_4 (a_ck_cut 40 cIL_law_5 (a_ck_cut 40 cIL_law_6 (a_ck_cut 40 cIL_law_7 (a_ck_cut 40 cIL_law_8 (a_ck_cut 40 cIL_law_9 (a_ck_cut 40 cIL_law_10 (a_ck_cut 40 cIL_law_11 (a_ck_cut 40 cIL_law_12 (a_ck_cut 40 cIL_law_13 (a_ck_cut 40 cIL_law_14 (a_ck_cut 40 cIL_law_15 (a_ck_cut 40 cIL_law_16 (cIL_law_17)))))))))))))))))
