theorem cIX8_tear : a_ckI (a_b mX8_tear) (a_il mX8_tear) = true := by decide +kernel
theorem cIX8_rain : a_ckI (a_b mX8_rain) (a_il mX8_rain) = true := by decide +kernel
theorem cIX8_owner : a_ckI (a_b mX8_owner) (a_il mX8_owner) = true := by decide +kernel
theorem cIX8_show : a_ckI (a_b mX8_show) (a_il mX8_show) = true := by decide +kernel
theorem cIX8_look : a_ckI (a_b mX8_look) (a_il mX8_look) = true := by decide +kernel
theorem cIX8_burn : a_ckI (a_b mX8_burn) (a_il mX8_burn) = true := by decide +kernel
theorem cIX8_orders : a_ckI (a_b mX8_orders) (a_il mX8_orders) = true := by decide +kernel
theorem cIX8_order : a_ckI (a_b mX8_order) (a_il mX8_order) = true := by decide +kernel
theorem cIX8_surely : a_ckI (a_b mX8_surely) (a_il mX8_surely) = true := by decide +kernel
theorem cIX8_best : a_ckI (a_b mX8_best) (a_il mX8_best) = true := by decide +kernel
theorem cIX8_two_0 : a_ckI (a_b mX8_two) ((a_il mX8_two).take 40) = true := by decide +kernel
theorem cIX8_two_1 : a_ckI (a_b mX8_two) ((a_il mX8_two).drop 40) = true := by decide +kernel
theorem cIX8_two : a_ckI (a_b mX8_two) (a_il mX8_two) = true := a_ck_cut 40 cIX8_two_0 (cIX8_two_1)
theorem cIX8_rivals : a_ckI (a_b mX8_rivals) (a_il mX8_rivals) = true := by decide +kernel
theorem cIX8_seed : a_ckI (a_b mX8_seed) (a_il mX8_seed) = true := by decide +kernel
theorem cIX8_keep : a_ckI (a_b mX8_keep) (a_il mX8_keep) = true := by decide +kernel
theorem cIX8_goBack : a_ckI (a_b mX8_goBack) (a_il mX8_goBack) = true := by decide +kernel
theorem cIX8_imageOf : a_ckI (a_b mX8_imageOf) (a_il mX8_imageOf) = true := by decide +kernel
theorem cIX8_isIn : a_ckI (a_b mX8_isIn) (a_il mX8_isIn) = true := by decide +kernel
theorem cIX8_cellAt : a_ckI (a_b mX8_cellAt) (a_il mX8_cellAt) = true := by decide +kernel
theorem cIX9_init_0 : a_ckI (a_b mX9_init) ((a_il mX9_init).take 40) = true := by decide +kernel
theorem cIX9_init_1 : a_ckI (a_b mX9_init) (((a_il mX9_init).drop 40).take 40) = true := by decide +kernel
theorem cIX9_init_2 : a_ckI (a_b mX9_init) (((a_il mX9_init).drop 40).drop 40) = true := by decide +kernel
theorem cIX9_init : a_ckI (a_b mX9_init) (a_il mX9_init) = true := a_ck_cut 40 cIX9_init_0 (a_ck_cut 40 cIX9_init_1 (cIX9_init_2))
theorem cIX9_in : a_ckI (a_b mX9_in) (a_il mX9_in) = true := by decide +kernel
theorem cIX9_one : a_ckI (a_b mX9_one) (a_il mX9_one) = true := by decide +kernel
theorem cIX9_has : a_ckI (a_b mX9_has) (a_il mX9_has) = true := by decide +kernel
theorem cIX9_ones : a_ckI (a_b mX9_ones) (a_il mX9_ones) = true := by decide +kernel
theorem cIX9_untold : a_ckI (a_b mX9_untold) (a_il mX9_untold) = true := by decide +kernel
theorem cIX9_feed : a_ckI (a_b mX9_feed) (a_il mX9_feed) = true := by decide +kernel
theorem cIX9_here : a_ckI (a_b mX9_here) (a_il mX9_here) = true := by decide +kernel
theorem cIX9_want : a_ckI (a_b mX9_want) (a_il mX9_want) = true := by decide +kernel
theorem cIX9_takeWord : a_ckI (a_b mX9_takeWord) (a_il mX9_takeWord) = true := by decide +kernel
theorem cIX9_isWord_0 : a_ckI (a_b mX9_isWord) ((a_il mX9_isWord).take 40) = true := by decide +kernel
theorem cIX9_isWord_1 : a_ckI (a_b mX9_isWord) ((a_il mX9_isWord).drop 40) = true := by decide +kernel
theorem cIX9_isWord : a_ckI (a_b mX9_isWord) (a_il mX9_isWord) = true := a_ck_cut 40 cIX9_isWord_0 (cIX9_isWord_1)
theorem cIX9_takeNumber_0 : a_ckI (a_b mX9_takeNumber) ((a_il mX9_takeNumber).take 40) = true := by decide +kernel
theorem cIX9_takeNumber_1 : a_ckI (a_b mX9_takeNumber) (((a_il mX9_takeNumber).drop 40).take 40) = true := by decide +kernel
theorem cIX9_takeNumber_2 : a_ckI (a_b mX9_takeNumber) (((a_il mX9_takeNumber).drop 40).drop 40) = true := by decide +kernel
theorem cIX9_takeNumber : a_ckI (a_b mX9_takeNumber) (a_il mX9_takeNumber) = true := a_ck_cut 40 cIX9_takeNumber_0 (a_ck_cut 40 cIX9_takeNumber_1 (cIX9_takeNumber_2))
theorem cIX9_once : a_ckI (a_b mX9_once) (a_il mX9_once) = true := by decide +kernel
theorem cIX9_takeSize : a_ckI (a_b mX9_takeSize) (a_il mX9_takeSize) = true := by decide +kernel
theorem cIX9_takeBare_0 : a_ckI (a_b mX9_takeBare) ((a_il mX9_takeBare).take 40) = true := by decide +kernel
theorem cIX9_takeBare_1 : a_ckI (a_b mX9_takeBare) (((a_il mX9_takeBare).drop 40).take 40) = true := by decide +kernel
theorem cIX9_takeBare_2 : a_ckI (a_b mX9_takeBare) (((a_il mX9_takeBare).drop 40).drop 40) = true := by decide +kernel
theorem cIX9_takeBare : a_ckI (a_b mX9_takeBare) (a_il mX9_takeBare) = true := a_ck_cut 40 cIX9_takeBare_0 (a_ck_cut 40 cIX9_takeBare_1 (cIX9_takeBare_2))
theorem cIX9_takePass : a_ckI (a_b mX9_takePass) (a_il mX9_takePass) = true := by decide +kernel
theorem cIX9_takeKind_0 : a_ckI (a_b mX9_takeKind) ((a_il mX9_takeKind).take 40) = true := by decide +kernel
theorem cIX9_takeKind_1 : a_ckI (a_b mX9_takeKind) ((a_il mX9_takeKind).drop 40) = true := by decide +kernel
theorem cIX9_takeKind : a_ckI (a_b mX9_takeKind) (a_il mX9_takeKind) = true := a_ck_cut 40 cIX9_takeKind_0 (cIX9_takeKind_1)
theorem cIX9_takeClause_0 : a_ckI (a_b mX9_takeClause) ((a_il mX9_takeClause).take 40) = true := by decide +kernel
theorem cIX9_takeClause_1 : a_ckI (a_b mX9_takeClause) (((a_il mX9_takeClause).drop 40).take 40) = true := by decide +kernel
theorem cIX9_takeClause_2 : a_ckI (a_b mX9_takeClause) ((((a_il mX9_takeClause).drop 40).drop 40).take 40) = true := by decide +kernel
theorem cIX9_takeClause_3 : a_ckI (a_b mX9_takeClause) ((((a_il mX9_takeClause).drop 40).drop 40).drop 40) = true := by decide +kernel
theorem cIX9_takeClause : a_ckI (a_b mX9_takeClause) (a_il mX9_takeClause) = true := a_ck_cut 40 cIX9_takeClause_0 (a_ck_cut 40 cIX9_takeClause_1 (a_ck_cut 40 cIX9_takeClause_2 (cIX9_takeClause_3)))
theorem cIX9_wall_0 : a_ckI (a_b mX9_wall) ((a_il mX9_wall).take 40) = true := by decide +kernel
theorem cIX9_wall_1 : a_ckI (a_b mX9_wall) (((a_il mX9_wall).drop 40).take 40) = true := by decide +kernel
theorem cIX9_wall_2 : a_ckI (a_b mX9_wall) ((((a_il mX9_wall).drop 40).drop 40).take 40) = true := by decide +kernel
theorem cIX9_wall_3 : a_ckI (a_b mX9_wall) (((((a_il mX9_wall).drop 40).drop 40).drop 40).take 40) = true := by decide +kernel
theorem cIX9_wall_4 : a_ckI (a_b mX9_wall) ((((((a_il mX9_wall).drop 40).drop 40).drop 40).drop 40).take 40) = true := by decide +kernel
theorem cIX9_wall_5 : a_ckI (a_b mX9_wall) ((((((a_il mX9_wall).drop 40).drop 40).drop 40).drop 40).drop 40) = true := by decide +kernel
theorem cIX9_wall : a_ckI (a_b mX9_wall) (a_il mX9_wall) = true := a_ck_cut 40 cIX9_wall_0 (a_ck_cut 40 cIX9_wall_1 (a_ck_cut 40 cIX9_wall_2 (a_ck_cut 40 cIX9_wall_3 (a_ck_cut 40 cIX9_wall_4 (cIX9_wall_5)))))
theorem cIX9_fault : a_ckI (a_b mX9_fault) (a_il mX9_fault) = true := by decide +kernel
theorem cIX9_told : a_ckI (a_b mX9_told) (a_il mX9_told) = true := by decide +kernel
theorem cIX9_isKind : a_ckI (a_b mX9_isKind) (a_il mX9_isKind) = true := by decide +kernel
theorem cIX9_kind : a_ckI (a_b mX9_kind) (a_il mX9_kind) = true := by decide +kernel
theorem cIX9_passes : a_ckI (a_b mX9_passes) (a_il mX9_passes) = true := by decide +kernel
theorem cIX9_isCell : a_ckI (a_b mX9_isCell) (a_il mX9_isCell) = true := by decide +kernel
theorem cIX9_bare : a_ckI (a_b mX9_bare) (a_il mX9_bare) = true := by decide +kernel
theorem cIX9_copy : a_ckI (a_b mX9_copy) (a_il mX9_copy) = true := by decide +kernel
theorem cIX9_ownerOf : a_ckI (a_b mX9_ownerOf) (a_il mX9_ownerOf) = true := by decide +kernel
theorem cIX9_sizeOf : a_ckI (a_b mX9_sizeOf) (a_il mX9_sizeOf) = true := by decide +kernel
theorem cIX9_reaches : a_ckI (a_b mX9_reaches) (a_il mX9_reaches) = true := by decide +kernel
theorem cIX9_isTorn : a_ckI (a_b mX9_isTorn) (a_il mX9_isTorn) = true := by decide +kernel
theorem cIX9_lies : a_ckI (a_b mX9_lies) (a_il mX9_lies) = true := by decide +kernel
theorem cIX9_aboveAt : a_ckI (a_b mX9_aboveAt) (a_il mX9_aboveAt) = true := by decide +kernel
theorem cIX9_see_0 : a_ckI (a_b mX9_see) ((a_il mX9_see).take 40) = true := by decide +kernel
theorem cIX9_see_1 : a_ckI (a_b mX9_see) ((a_il mX9_see).drop 40) = true := by decide +kernel
theorem cIX9_see : a_ckI (a_b mX9_see) (a_il mX9_see) = true := a_ck_cut 40 cIX9_see_0 (cIX9_see_1)
theorem cIX9_isRead : a_ckI (a_b mX9_isRead) (a_il mX9_isRead) = true := by decide +kernel
theorem cIX9_worthOf : a_ckI (a_b mX9_worthOf) (a_il mX9_worthOf) = true := by decide +kernel
theorem cIX9_lay_0 : a_ckI (a_b mX9_lay) ((a_il mX9_lay).take 40) = true := by decide +kernel
theorem cIX9_lay_1 : a_ckI (a_b mX9_lay) (((a_il mX9_lay).drop 40).take 40) = true := by decide +kernel
theorem cIX9_lay_2 : a_ckI (a_b mX9_lay) ((((a_il mX9_lay).drop 40).drop 40).take 40) = true := by decide +kernel
theorem cIX9_lay_3 : a_ckI (a_b mX9_lay) (((((a_il mX9_lay).drop 40).drop 40).drop 40).take 40) = true := by decide +kernel
theorem cIX9_lay_4 : a_ckI (a_b mX9_lay) (((((a_il mX9_lay).drop 40).drop 40).drop 40).drop 40) = true := by decide +kernel
theorem cIX9_lay : a_ckI (a_b mX9_lay) (a_il mX9_lay) = true := a_ck_cut 40 cIX9_lay_0 (a_ck_cut 40 cIX9_lay_1 (a_ck_cut 40 cIX9_lay_2 (a_ck_cut 40 cIX9_lay_3 (cIX9_lay_4))))
theorem cIX9_isWithin : a_ckI (a_b mX9_isWithin) (a_il mX9_isWithin) = true := by decide +kernel
theorem cIX9_isClear : a_ckI (a_b mX9_isClear) (a_il mX9_isClear) = true := by decide +kernel
theorem cIX9_paste : a_ckI (a_b mX9_paste) (a_il mX9_paste) = true := by decide +kernel
theorem cIX9_days : a_ckI (a_b mX9_days) (a_il mX9_days) = true := by decide +kernel
theorem cIX9_above : a_ckI (a_b mX9_above) (a_il mX9_above) = true := by decide +kernel
theorem cIX9_isBill : a_ckI (a_b mX9_isBill) (a_il mX9_isBill) = true := by decide +kernel
theorem cIX9_tornMany : a_ckI (a_b mX9_tornMany) (a_il mX9_tornMany) = true := by decide +kernel
theorem cIX9_bill_0 : a_ckI (a_b mX9_bill) ((a_il mX9_bill).take 40) = true := by decide +kernel
theorem cIX9_bill_1 : a_ckI (a_b mX9_bill) ((a_il mX9_bill).drop 40) = true := by decide +kernel
theorem cIX9_bill : a_ckI (a_b mX9_bill) (a_il mX9_bill) = true := a_ck_cut 40 cIX9_bill_0 (cIX9_bill_1)
theorem cIX9_overOf : a_ckI (a_b mX9_overOf) (a_il mX9_overOf) = true := by decide +kernel
theorem cIX9_over : a_ckI (a_b mX9_over) (a_il mX9_over) = true := by decide +kernel
theorem cIX9_freeOf : a_ckI (a_b mX9_freeOf) (a_il mX9_freeOf) = true := by decide +kernel
theorem cIX9_free : a_ckI (a_b mX9_free) (a_il mX9_free) = true := by decide +kernel
theorem cIX9_isWhole : a_ckI (a_b mX9_isWhole) (a_il mX9_isWhole) = true := by decide +kernel
theorem cIX9_isReadWithout : a_ckI (a_b mX9_isReadWithout) (a_il mX9_isReadWithout) = true := by decide +kernel
theorem cIX9_reveal_0 : a_ckI (a_b mX9_reveal) ((a_il mX9_reveal).take 40) = true := by decide +kernel
theorem cIX9_reveal_1 : a_ckI (a_b mX9_reveal) ((a_il mX9_reveal).drop 40) = true := by decide +kernel
theorem cIX9_reveal : a_ckI (a_b mX9_reveal) (a_il mX9_reveal) = true := a_ck_cut 40 cIX9_reveal_0 (cIX9_reveal_1)
theorem cIX9_peel_0 : a_ckI (a_b mX9_peel) ((a_il mX9_peel).take 40) = true := by decide +kernel
theorem cIX9_peel_1 : a_ckI (a_b mX9_peel) ((a_il mX9_peel).drop 40) = true := by decide +kernel
theorem cIX9_peel : a_ckI (a_b mX9_peel) (a_il mX9_peel) = true := a_ck_cut 40 cIX9_peel_0 (cIX9_peel_1)
theorem cIX9_tearAt : a_ckI (a_b mX9_tearAt) (a_il mX9_tearAt) = true := by decide +kernel
theorem cIX9_tear : a_ckI (a_b mX9_tear) (a_il mX9_tear) = true := by decide +kernel
theorem cIX9_draw : a_ckI (a_b mX9_draw) (a_il mX9_draw) = true := by decide +kernel
theorem cIX9_rain : a_ckI (a_b mX9_rain) (a_il mX9_rain) = true := by decide +kernel
theorem cIX9_onMany : a_ckI (a_b mX9_onMany) (a_il mX9_onMany) = true := by decide +kernel
theorem cIX9_owner : a_ckI (a_b mX9_owner) (a_il mX9_owner) = true := by decide +kernel
theorem cIX9_show : a_ckI (a_b mX9_show) (a_il mX9_show) = true := by decide +kernel
theorem cIX9_look : a_ckI (a_b mX9_look) (a_il mX9_look) = true := by decide +kernel
theorem cIX9_burn : a_ckI (a_b mX9_burn) (a_il mX9_burn) = true := by decide +kernel
theorem cIX9_hasCell : a_ckI (a_b mX9_hasCell) (a_il mX9_hasCell) = true := by decide +kernel
theorem cIX9_findBelow_0 : a_ckI (a_b mX9_findBelow) ((a_il mX9_findBelow).take 40) = true := by decide +kernel
theorem cIX9_findBelow_1 : a_ckI (a_b mX9_findBelow) ((a_il mX9_findBelow).drop 40) = true := by decide +kernel
theorem cIX9_findBelow : a_ckI (a_b mX9_findBelow) (a_il mX9_findBelow) = true := a_ck_cut 40 cIX9_findBelow_0 (cIX9_findBelow_1)
theorem cIX9_ordersOf_0 : a_ckI (a_b mX9_ordersOf) ((a_il mX9_ordersOf).take 40) = true := by decide +kernel
theorem cIX9_ordersOf_1 : a_ckI (a_b mX9_ordersOf) ((a_il mX9_ordersOf).drop 40) = true := by decide +kernel
theorem cIX9_ordersOf : a_ckI (a_b mX9_ordersOf) (a_il mX9_ordersOf) = true := a_ck_cut 40 cIX9_ordersOf_0 (cIX9_ordersOf_1)
theorem cIX9_orders : a_ckI (a_b mX9_orders) (a_il mX9_orders) = true := by decide +kernel
theorem cIX9_order : a_ckI (a_b mX9_order) (a_il mX9_order) = true := by decide +kernel
theorem cIX9_surely_0 : a_ckI (a_b mX9_surely) ((a_il mX9_surely).take 40) = true := by decide +kernel
theorem cIX9_surely_1 : a_ckI (a_b mX9_surely) ((a_il mX9_surely).drop 40) = true := by decide +kernel
theorem cIX9_surely : a_ckI (a_b mX9_surely) (a_il mX9_surely) = true := a_ck_cut 40 cIX9_surely_0 (cIX9_surely_1)
theorem cIX9_undo : a_ckI (a_b mX9_undo) (a_il mX9_undo) = true := by decide +kernel
theorem cIX9_isPlace : a_ckI (a_b mX9_isPlace) (a_il mX9_isPlace) = true := by decide +kernel
theorem cIX9_findBest_0 : a_ckI (a_b mX9_findBest) ((a_il mX9_findBest).take 40) = true := by decide +kernel
theorem cIX9_findBest_1 : a_ckI (a_b mX9_findBest) ((a_il mX9_findBest).drop 40) = true := by decide +kernel
theorem cIX9_findBest : a_ckI (a_b mX9_findBest) (a_il mX9_findBest) = true := a_ck_cut 40 cIX9_findBest_0 (cIX9_findBest_1)
theorem cIX9_best_0 : a_ckI (a_b mX9_best) ((a_il mX9_best).take 40) = true := by decide +kernel
theorem cIX9_best_1 : a_ckI (a_b mX9_best) ((a_il mX9_best).drop 40) = true := by decide +kernel
theorem cIX9_best : a_ckI (a_b mX9_best) (a_il mX9_best) = true := a_ck_cut 40 cIX9_best_0 (cIX9_best_1)
theorem cIX9_two_0 : a_ckI (a_b mX9_two) ((a_il mX9_two).take 40) = true := by decide +kernel
theorem cIX9_two_1 : a_ckI (a_b mX9_two) (((a_il mX9_two).drop 40).take 40) = true := by decide +kernel
theorem cIX9_two_2 : a_ckI (a_b mX9_two) ((((a_il mX9_two).drop 40).drop 40).take 40) = true := by decide +kernel
theorem cIX9_two_3 : a_ckI (a_b mX9_two) ((((a_il mX9_two).drop 40).drop 40).drop 40) = true := by decide +kernel
theorem cIX9_two : a_ckI (a_b mX9_two) (a_il mX9_two) = true := a_ck_cut 40 cIX9_two_0 (a_ck_cut 40 cIX9_two_1 (a_ck_cut 40 cIX9_two_2 (cIX9_two_3)))
theorem cIX9_takeTurn : a_ckI (a_b mX9_takeTurn) (a_il mX9_takeTurn) = true := by decide +kernel
theorem cIX9_rivals_0 : a_ckI (a_b mX9_rivals) ((a_il mX9_rivals).take 40) = true := by decide +kernel
theorem cIX9_rivals_1 : a_ckI (a_b mX9_rivals) ((a_il mX9_rivals).drop 40) = true := by decide +kernel
theorem cIX9_rivals : a_ckI (a_b mX9_rivals) (a_il mX9_rivals) = true := a_ck_cut 40 cIX9_rivals_0 (cIX9_rivals_1)
theorem cIX9_seed : a_ckI (a_b mX9_seed) (a_il mX9_seed) = true := by decide +kernel
theorem cIX9_keep : a_ckI (a_b mX9_keep) (a_il mX9_keep) = true := by decide +kernel
theorem cIX9_goBack : a_ckI (a_b mX9_goBack) (a_il mX9_goBack) = true := by decide +kernel
theorem cIJ6_numberOfLeadingZeros_0f7a4 : a_ckI (a_b mJ6_numberOfLeadingZeros_0f7a4) (a_il mJ6_numberOfLeadingZeros_0f7a4) = true := by decide +kernel
theorem cIJ6_bitCount_0f7a4 : a_ckI (a_b mJ6_bitCount_0f7a4) (a_il mJ6_bitCount_0f7a4) = true := by decide +kernel
theorem cIJ7_fill_53178 : a_ckI (a_b mJ7_fill_53178) (a_il mJ7_fill_53178) = true := by decide +kernel
theorem cIL_law_0 : a_ckI (a_b mL_law) ((a_il mL_law).take 40) = true := by decide +kernel
theorem cIL_law_1 : a_ckI (a_b mL_law) (((a_il mL_law).drop 40).take 40) = true := by decide +kernel
theorem cIL_law_2 : a_ckI (a_b mL_law) ((((a_il mL_law).drop 40).drop 40).take 40) = true := by decide +kernel
theorem cIL_law_3 : a_ckI (a_b mL_law) (((((a_il mL_law).drop 40).drop 40).drop 40).take 40) = true := by decide +kernel
theorem cIL_law_4 : a_ckI (a_b mL_law) ((((((a_il mL_law).drop 40).drop 40).drop 40).drop 40).take 40) = true := by decide +kernel
theorem cIL_law_5 : a_ckI (a_b mL_law) (((((((a_il mL_law).drop 40).drop 40).drop 40).drop 40).drop 40).take 40) = true := by decide +kernel
theorem cIL_law_6 : a_ckI (a_b mL_law) ((((((((a_il mL_law).drop 40).drop 40).drop 40).drop 40).drop 40).drop 40).take 40) = true := by decide +kernel
theorem cIL_law_7 : a_ckI (a_b mL_law) (((((((((a_il mL_law).drop 40).drop 40).drop 40).drop 40).drop 40).drop 40).drop 40).take 40) = true := by decide +kernel
theorem cIL_law_8 : a_ckI (a_b mL_law) ((((((((((a_il mL_law).drop 40).drop 40).drop 40).drop 40).drop 40).drop 40).drop 40).drop 40).take 40) = true := by decide +kernel
theorem cIL_law_9 : a_ckI (a_b mL_law) (((((((((((a_il mL_law).drop 40).drop 40).drop 40).drop 40).drop 40).drop 40).drop 40).drop 40).drop 40).take 40) = true := by decide +kernel
theorem cIL_law_10 : a_ckI (a_b mL_law) ((((((((((((a_il mL_law).drop 40).drop 40).drop 40).drop 40).drop 40).drop 40).drop 40).drop 40).drop 40).drop 40).take 40) = true := by decide +kernel
theorem cIL_law_11 : a_ckI (a_b mL_law) (((((((((((((a_il mL_law).drop 40).drop 40).drop 40).drop 40).drop 40).drop 40).drop 40).drop 40).drop 40).drop 40).drop 40).take 40) = true := by decide +kernel
theorem cIL_law_12 : a_ckI (a_b mL_law) ((((((((((((((a_il mL_law).drop 40).drop 40).drop 40).drop 40).drop 40).drop 40).drop 40).drop 40).drop 40).drop 40).drop 40).drop 40).take 40) = true := by decide +kernel
theorem cIL_law_13 : a_ckI (a_b mL_law) (((((((((((((((a_il mL_law).drop 40).drop 40).drop 40).drop 40).drop 40).drop 40).drop 40).drop 40).drop 40).drop 40).drop 40).drop 40).drop 40).take 40) = true := by decide +kernel
theorem cIL_law_14 : a_ckI (a_b mL_law) ((((((((((((((((a_il mL_law).drop 40).drop 40).drop 40).drop 40).drop 40).drop 40).drop 40).drop 40).drop 40).drop 40).drop 40).drop 40).drop 40).drop 40).take 40) = true := by decide +kernel
theorem cIL_law_15 : a_ckI (a_b mL_law) (((((((((((((((((a_il mL_law).drop 40).drop 40).drop 40).drop 40).drop 40).drop 40).drop 40).drop 40).drop 40).drop 40).drop 40).drop 40).drop 40).drop 40).drop 40).take 40) = true := by decide +kernel
theorem cIL_law_16 : a_ckI (a_b mL_law) ((((((((((((((((((a_il mL_law).drop 40).drop 40).drop 40).drop 40).drop 40).drop 40).drop 40).drop 40).drop 40).drop 40).drop 40).drop 40).drop 40).drop 40).drop 40).drop 40).take 40) = true := by decide +kernel
theorem cIL_law_17 : a_ckI (a_b mL_law) ((((((((((((((((((a_il mL_law).drop 40).drop 40).drop 40).drop 40).drop 40).drop 40).drop 40).drop 40).drop 40).drop 40).drop 40).drop 40).drop 40).drop 40).drop 40).drop 40).drop 40) = true := by decide +kernel
theorem cIL_law : a_ckI (a_b mL_law) (a_il mL_law) = true := a_ck_cut 40 cIL_law_0 (a_ck_cut 40 cIL_law_1 (a_ck_cut 40 cIL_law_2 (a_ck_cut 40 cIL_law_3 (a_ck_cut 40 cIL_law_4 (a_ck_cut 40 cIL_law_5 (a_ck_cut 40 cIL_law_6 (a_ck_cut 40 cIL_law_7 (a_ck_cut 40 cIL_law_8 (a_ck_cut 40 cIL_law_9 (a_ck_cut 40 cIL_law_10 (a_ck_cut 40 cIL_law_11 (a_ck_cut 40 cIL_law_12 (a_ck_cut 40 cIL_law_13 (a_ck_cut 40 cIL_law_14 (a_ck_cut 40 cIL_law_15 (a_ck_cut 40 cIL_law_16 (cIL_law_17)))))))))))))))))
theorem a_okl0 : ∀ M ∈ a_Ml0, a_okM M := (a_ok_c ⟨cIX0_init, by decide +kernel⟩ (a_ok_c ⟨cIX0_takeAllAway, by decide +kernel⟩ (a_ok_c ⟨cIX0_copyFrom, by decide +kernel⟩ (a_ok_c ⟨cIX0_has, by decide +kernel⟩ (a_ok_c ⟨cIX0_isFull, by decide +kernel⟩ (a_ok_c ⟨cIX0_isOn, by decide +kernel⟩ (a_ok_c ⟨cIX0_ownerOf, by decide +kernel⟩ (a_ok_c ⟨cIX0_allCells, by decide +kernel⟩ (a_ok_c ⟨cIX0_right, by decide +kernel⟩ (a_ok_c ⟨cIX0_bottom, by decide +kernel⟩ (a_ok_c ⟨cIX0_topAt, by decide +kernel⟩ (a_ok_c ⟨cIX0_hang, by decide +kernel⟩ (a_ok_c ⟨cIX0_takeOff, by decide +kernel⟩ (a_ok_c ⟨cIX0_undoHang, by decide +kernel⟩ (a_ok_c ⟨cIX0_tearTop, by decide +kernel⟩ (a_ok_c ⟨cIX0_loosen, by decide +kernel⟩ (a_ok_c ⟨cIX0_drawOfHundred, by decide +kernel⟩ (a_ok_c ⟨cIX0_tornCells, by decide +kernel⟩ (a_ok_c ⟨cIX0_hangingOf, by decide +kernel⟩ (a_ok_c ⟨cIX0_coversOf, by decide +kernel⟩ a_ok_0))))))))))))))))))))
theorem a_okl1 : ∀ M ∈ a_Ml1, a_okM M := (a_ok_c ⟨cIX0_toFree, by decide +kernel⟩ (a_ok_c ⟨cIX0_laterThan, by decide +kernel⟩ (a_ok_c ⟨cIX1_init, by decide +kernel⟩ (a_ok_c ⟨cIX2_init, by decide +kernel⟩ (a_ok_c ⟨cIX2_toRead, by decide +kernel⟩ (a_ok_c ⟨cIX2_lookUnder, by decide +kernel⟩ (a_ok_c ⟨cIX2_isLiftable, by decide +kernel⟩ (a_ok_c ⟨cIX2_seenWithout, by decide +kernel⟩ (a_ok_c ⟨cIX3_init, by decide +kernel⟩ (a_ok_c ⟨cIX3_forget, by decide +kernel⟩ (a_ok_c ⟨cIX3_has, by decide +kernel⟩ (a_ok_c ⟨cIX3_add, by decide +kernel⟩ (a_ok_c ⟨cIX3_countOrders, by decide +kernel⟩ (a_ok_c ⟨cIX3_firstOrderAt, by decide +kernel⟩ (a_ok_c ⟨cIX3_liesOver, by decide +kernel⟩ (a_ok_c ⟨cIX3_hasOrder, by decide +kernel⟩ (a_ok_c ⟨cIX3_leastThatCanStand, by decide +kernel⟩ (a_ok_c ⟨cIX3_relate, by decide +kernel⟩ (a_ok_c ⟨cIX4_init, by decide +kernel⟩ (a_ok_c ⟨cIX4_findOne, by decide +kernel⟩ a_ok_0))))))))))))))))))))
theorem a_okl2 : ∀ M ∈ a_Ml2, a_okM M := (a_ok_c ⟨cIX4_findTwo, by decide +kernel⟩ (a_ok_c ⟨cIX4_findSecond, by decide +kernel⟩ (a_ok_c ⟨cIX4_isBetter, by decide +kernel⟩ (a_ok_c ⟨cIX4_compete, by decide +kernel⟩ (a_ok_c ⟨cIX4_takeTurn, by decide +kernel⟩ (a_ok_c ⟨cIX4_worthAtLast, by decide +kernel⟩ (a_ok_c ⟨cIX5_init, by decide +kernel⟩ (a_ok_c ⟨cIX5_untell, by decide +kernel⟩ (a_ok_c ⟨cIX5_copyFrom, by decide +kernel⟩ (a_ok_c ⟨cIX5_addStrip, by decide +kernel⟩ (a_ok_c ⟨cIX5_addKind, by decide +kernel⟩ (a_ok_c ⟨cIX5_hasKind, by decide +kernel⟩ (a_ok_c ⟨cIX5_hasCell, by decide +kernel⟩ (a_ok_c ⟨cIX5_holds, by decide +kernel⟩ (a_ok_c ⟨cIX5_isBarred, by decide +kernel⟩ (a_ok_c ⟨cIX5_canRead, by decide +kernel⟩ (a_ok_c ⟨cIX5_passersOf, by decide +kernel⟩ (a_ok_c ⟨cIX6_init, by decide +kernel⟩ (a_ok_c ⟨cIX6_append, by decide +kernel⟩ (a_ok_c ⟨cIX6_readInto, by decide +kernel⟩ a_ok_0))))))))))))))))))))
theorem a_okl3 : ∀ M ∈ a_Ml3, a_okM M := (a_ok_c ⟨cIX6_isFaultless, by decide +kernel⟩ (a_ok_c ⟨cIX6_fail, by decide +kernel⟩ (a_ok_c ⟨cIX6_readClause, by decide +kernel⟩ (a_ok_c ⟨cIX6_isSizeTooLate, by decide +kernel⟩ (a_ok_c ⟨cIX6_isTold, by decide +kernel⟩ (a_ok_c ⟨cIX6_readNumbers, by decide +kernel⟩ (a_ok_c ⟨cIX6_readStrip, by decide +kernel⟩ (a_ok_c ⟨cIX6_readPassers, by decide +kernel⟩ (a_ok_c ⟨cIX6_readKind, by decide +kernel⟩ (a_ok_c ⟨cIX6_readNumber, by decide +kernel⟩ (a_ok_c ⟨cIX6_readEnd, by decide +kernel⟩ (a_ok_c ⟨cIX6_skipBlanks, by decide +kernel⟩ (a_ok_c ⟨cIX6_readWord, by decide +kernel⟩ (a_ok_c ⟨cIX6_spells, by decide +kernel⟩ (a_ok_c ⟨cIX6_nameOf, by decide +kernel⟩ (a_ok_c ⟨cIX6_isLetter, by decide +kernel⟩ (a_ok_c ⟨cIX6_isFigure, by decide +kernel⟩ (a_ok_c ⟨cIX7_init, by decide +kernel⟩ (a_ok_c ⟨cIX7_lookAt, by decide +kernel⟩ (a_ok_c ⟨cIX7_worthOf, by decide +kernel⟩ a_ok_0))))))))))))))))))))
theorem a_okl4 : ∀ M ∈ a_Ml4, a_okM M := (a_ok_c ⟨cIX7_worthOfOwner, by decide +kernel⟩ (a_ok_c ⟨cIX7_weigh, by decide +kernel⟩ (a_ok_c ⟨cIX7_hide, by decide +kernel⟩ (a_ok_c ⟨cIX7_weighLoss, by decide +kernel⟩ (a_ok_c ⟨cIX8_init, by decide +kernel⟩ (a_ok_c ⟨cIX8_feed, by decide +kernel⟩ (a_ok_c ⟨cIX8_wall, by decide +kernel⟩ (a_ok_c ⟨cIX8_fault, by decide +kernel⟩ (a_ok_c ⟨cIX8_told, by decide +kernel⟩ (a_ok_c ⟨cIX8_kind, by decide +kernel⟩ (a_ok_c ⟨cIX8_passes, by decide +kernel⟩ (a_ok_c ⟨cIX8_bare, by decide +kernel⟩ (a_ok_c ⟨cIX8_paste, by decide +kernel⟩ (a_ok_c ⟨cIX8_days, by decide +kernel⟩ (a_ok_c ⟨cIX8_above, by decide +kernel⟩ (a_ok_c ⟨cIX8_bill, by decide +kernel⟩ (a_ok_c ⟨cIX8_over, by decide +kernel⟩ (a_ok_c ⟨cIX8_free, by decide +kernel⟩ (a_ok_c ⟨cIX8_reveal, by decide +kernel⟩ (a_ok_c ⟨cIX8_peel, by decide +kernel⟩ a_ok_0))))))))))))))))))))
theorem a_okl5 : ∀ M ∈ a_Ml5, a_okM M := (a_ok_c ⟨cIX8_tear, by decide +kernel⟩ (a_ok_c ⟨cIX8_rain, by decide +kernel⟩ (a_ok_c ⟨cIX8_owner, by decide +kernel⟩ (a_ok_c ⟨cIX8_show, by decide +kernel⟩ (a_ok_c ⟨cIX8_look, by decide +kernel⟩ (a_ok_c ⟨cIX8_burn, by decide +kernel⟩ (a_ok_c ⟨cIX8_orders, by decide +kernel⟩ (a_ok_c ⟨cIX8_order, by decide +kernel⟩ (a_ok_c ⟨cIX8_surely, by decide +kernel⟩ (a_ok_c ⟨cIX8_best, by decide +kernel⟩ (a_ok_c ⟨cIX8_two, by decide +kernel⟩ (a_ok_c ⟨cIX8_rivals, by decide +kernel⟩ (a_ok_c ⟨cIX8_seed, by decide +kernel⟩ (a_ok_c ⟨cIX8_keep, by decide +kernel⟩ (a_ok_c ⟨cIX8_goBack, by decide +kernel⟩ (a_ok_c ⟨cIX8_imageOf, by decide +kernel⟩ (a_ok_c ⟨cIX8_isIn, by decide +kernel⟩ (a_ok_c ⟨cIX8_cellAt, by decide +kernel⟩ (a_ok_c ⟨cIX9_init, by decide +kernel⟩ (a_ok_c ⟨cIX9_in, by decide +kernel⟩ a_ok_0))))))))))))))))))))
theorem a_okl6 : ∀ M ∈ a_Ml6, a_okM M := (a_ok_c ⟨cIX9_one, by decide +kernel⟩ (a_ok_c ⟨cIX9_has, by decide +kernel⟩ (a_ok_c ⟨cIX9_ones, by decide +kernel⟩ (a_ok_c ⟨cIX9_untold, by decide +kernel⟩ (a_ok_c ⟨cIX9_feed, by decide +kernel⟩ (a_ok_c ⟨cIX9_here, by decide +kernel⟩ (a_ok_c ⟨cIX9_want, by decide +kernel⟩ (a_ok_c ⟨cIX9_takeWord, by decide +kernel⟩ (a_ok_c ⟨cIX9_isWord, by decide +kernel⟩ (a_ok_c ⟨cIX9_takeNumber, by decide +kernel⟩ (a_ok_c ⟨cIX9_once, by decide +kernel⟩ (a_ok_c ⟨cIX9_takeSize, by decide +kernel⟩ (a_ok_c ⟨cIX9_takeBare, by decide +kernel⟩ (a_ok_c ⟨cIX9_takePass, by decide +kernel⟩ (a_ok_c ⟨cIX9_takeKind, by decide +kernel⟩ (a_ok_c ⟨cIX9_takeClause, by decide +kernel⟩ (a_ok_c ⟨cIX9_wall, by decide +kernel⟩ (a_ok_c ⟨cIX9_fault, by decide +kernel⟩ (a_ok_c ⟨cIX9_told, by decide +kernel⟩ (a_ok_c ⟨cIX9_isKind, by decide +kernel⟩ a_ok_0))))))))))))))))))))
theorem a_okl7 : ∀ M ∈ a_Ml7, a_okM M := (a_ok_c ⟨cIX9_kind, by decide +kernel⟩ (a_ok_c ⟨cIX9_passes, by decide +kernel⟩ (a_ok_c ⟨cIX9_isCell, by decide +kernel⟩ (a_ok_c ⟨cIX9_bare, by decide +kernel⟩ (a_ok_c ⟨cIX9_copy, by decide +kernel⟩ (a_ok_c ⟨cIX9_ownerOf, by decide +kernel⟩ (a_ok_c ⟨cIX9_sizeOf, by decide +kernel⟩ (a_ok_c ⟨cIX9_reaches, by decide +kernel⟩ (a_ok_c ⟨cIX9_isTorn, by decide +kernel⟩ (a_ok_c ⟨cIX9_lies, by decide +kernel⟩ (a_ok_c ⟨cIX9_aboveAt, by decide +kernel⟩ (a_ok_c ⟨cIX9_see, by decide +kernel⟩ (a_ok_c ⟨cIX9_isRead, by decide +kernel⟩ (a_ok_c ⟨cIX9_worthOf, by decide +kernel⟩ (a_ok_c ⟨cIX9_lay, by decide +kernel⟩ (a_ok_c ⟨cIX9_isWithin, by decide +kernel⟩ (a_ok_c ⟨cIX9_isClear, by decide +kernel⟩ (a_ok_c ⟨cIX9_paste, by decide +kernel⟩ (a_ok_c ⟨cIX9_days, by decide +kernel⟩ (a_ok_c ⟨cIX9_above, by decide +kernel⟩ a_ok_0))))))))))))))))))))
theorem a_okl8 : ∀ M ∈ a_Ml8, a_okM M := (a_ok_c ⟨cIX9_isBill, by decide +kernel⟩ (a_ok_c ⟨cIX9_tornMany, by decide +kernel⟩ (a_ok_c ⟨cIX9_bill, by decide +kernel⟩ (a_ok_c ⟨cIX9_overOf, by decide +kernel⟩ (a_ok_c ⟨cIX9_over, by decide +kernel⟩ (a_ok_c ⟨cIX9_freeOf, by decide +kernel⟩ (a_ok_c ⟨cIX9_free, by decide +kernel⟩ (a_ok_c ⟨cIX9_isWhole, by decide +kernel⟩ (a_ok_c ⟨cIX9_isReadWithout, by decide +kernel⟩ (a_ok_c ⟨cIX9_reveal, by decide +kernel⟩ (a_ok_c ⟨cIX9_peel, by decide +kernel⟩ (a_ok_c ⟨cIX9_tearAt, by decide +kernel⟩ (a_ok_c ⟨cIX9_tear, by decide +kernel⟩ (a_ok_c ⟨cIX9_draw, by decide +kernel⟩ (a_ok_c ⟨cIX9_rain, by decide +kernel⟩ (a_ok_c ⟨cIX9_onMany, by decide +kernel⟩ (a_ok_c ⟨cIX9_owner, by decide +kernel⟩ (a_ok_c ⟨cIX9_show, by decide +kernel⟩ (a_ok_c ⟨cIX9_look, by decide +kernel⟩ (a_ok_c ⟨cIX9_burn, by decide +kernel⟩ a_ok_0))))))))))))))))))))
theorem a_okl9 : ∀ M ∈ a_Ml9, a_okM M := (a_ok_c ⟨cIX9_hasCell, by decide +kernel⟩ (a_ok_c ⟨cIX9_findBelow, by decide +kernel⟩ (a_ok_c ⟨cIX9_ordersOf, by decide +kernel⟩ (a_ok_c ⟨cIX9_orders, by decide +kernel⟩ (a_ok_c ⟨cIX9_order, by decide +kernel⟩ (a_ok_c ⟨cIX9_surely, by decide +kernel⟩ (a_ok_c ⟨cIX9_undo, by decide +kernel⟩ (a_ok_c ⟨cIX9_isPlace, by decide +kernel⟩ (a_ok_c ⟨cIX9_findBest, by decide +kernel⟩ (a_ok_c ⟨cIX9_best, by decide +kernel⟩ (a_ok_c ⟨cIX9_two, by decide +kernel⟩ (a_ok_c ⟨cIX9_takeTurn, by decide +kernel⟩ (a_ok_c ⟨cIX9_rivals, by decide +kernel⟩ (a_ok_c ⟨cIX9_seed, by decide +kernel⟩ (a_ok_c ⟨cIX9_keep, by decide +kernel⟩ (a_ok_c ⟨cIX9_goBack, by decide +kernel⟩ (a_ok_c ⟨cIJ6_numberOfLeadingZeros_0f7a4, by decide +kernel⟩ (a_ok_c ⟨cIJ6_bitCount_0f7a4, by decide +kernel⟩ (a_ok_c ⟨cIJ7_fill_53178, by decide +kernel⟩ a_ok_0)))))))))))))))))))
theorem a_M_ok {k : Nat} {M : a_Mth} (h : a_M k = some M) : a_okM M := by
  have hT : ∀ l : List a_Mth, (∀ N ∈ l, a_okM N) → l[k % 20]? = some M → a_okM M := fun l q z => q M (List.mem_of_getElem? z)
  unfold a_M at h
  split at h
  · exact hT _ a_okl0 h
  · exact hT _ a_okl1 h
  · exact hT _ a_okl2 h
  · exact hT _ a_okl3 h
  · exact hT _ a_okl4 h
  · exact hT _ a_okl5 h
  · exact hT _ a_okl6 h
  · exact hT _ a_okl7 h
  · exact hT _ a_okl8 h
  · exact hT _ a_okl9 h
  · cases h
