set_option maxRecDepth 20000 in
theorem ggX0_put_X10_isNumber : GoodIn wsX0_put wsX10_isNumber := goodIn_r _ [4] (by decide +kernel) (by decide +kernel)
set_option maxRecDepth 20000 in
theorem gX0_put_X10_isNumber_n15 : GoodIn wsX0_put (wsX10_isNumber) := ggX0_put_X10_isNumber
set_option maxRecDepth 20000 in
theorem ggX0_cases_X10_choose : GoodIn wsX0_cases wsX10_choose := goodIn_r _ [3] (by decide +kernel) (by decide +kernel)
set_option maxRecDepth 20000 in
theorem gX0_cases_X10_choose_n19 : GoodIn wsX0_cases (wsX10_choose) := ggX0_cases_X10_choose
set_option maxRecDepth 20000 in
theorem ggX0_cases_X10_power : GoodIn wsX0_cases wsX10_power := goodIn_r _ [5] (by decide +kernel) (by decide +kernel)
set_option maxRecDepth 20000 in
theorem gX0_cases_X10_power_n23 : GoodIn wsX0_cases (wsX10_power) := ggX0_cases_X10_power
set_option maxRecDepth 20000 in
theorem ggX0_rightTogether_X8_suits : GoodIn wsX0_rightTogether wsX8_suits := goodIn_r _ [6, 7, 18, 19, 20, 21] (by decide +kernel) (by decide +kernel)
set_option maxRecDepth 20000 in
theorem gX0_rightTogether_X8_suits : GoodIn wsX0_rightTogether (wsV RX0 27 RX8 yX8_suits wsX8_suits) := goodIn_app (goodIn_of _ (by decide +kernel)) ggX0_rightTogether_X8_suits
set_option maxRecDepth 20000 in
theorem ggX0_rightTogether_X0_cases : GoodIn wsX0_rightTogether wsX0_cases := goodIn_r _ [11, 12, 13, 14, 15, 16] (by decide +kernel) (by decide +kernel)
set_option maxRecDepth 20000 in
theorem gX0_rightTogether_X0_cases : GoodIn wsX0_rightTogether (va_wsS RX0 33 yX0_cases wsX0_cases) := goodIn_app (goodIn_of _ (by decide +kernel)) ggX0_rightTogether_X0_cases
set_option maxRecDepth 20000 in
theorem ggX0_rightThoughForgetting_X8_suits : GoodIn wsX0_rightThoughForgetting wsX8_suits := goodIn_r _ [5, 6, 16, 17, 18, 19] (by decide +kernel) (by decide +kernel)
set_option maxRecDepth 20000 in
theorem gX0_rightThoughForgetting_X8_suits : GoodIn wsX0_rightThoughForgetting (wsV RX0 27 RX8 yX8_suits wsX8_suits) := goodIn_app (goodIn_of _ (by decide +kernel)) ggX0_rightThoughForgetting_X8_suits
set_option maxRecDepth 20000 in
theorem ggX0_rightThoughForgetting_X0_cases : GoodIn wsX0_rightThoughForgetting wsX0_cases := goodIn_r _ [10, 11, 12, 13, 14, 15] (by decide +kernel) (by decide +kernel)
set_option maxRecDepth 20000 in
theorem gX0_rightThoughForgetting_X0_cases : GoodIn wsX0_rightThoughForgetting (va_wsS RX0 33 yX0_cases wsX0_cases) := goodIn_app (goodIn_of _ (by decide +kernel)) ggX0_rightThoughForgetting_X0_cases
set_option maxRecDepth 20000 in
theorem ggX1_gain_J7_fill_53178 : GoodIn wsX1_gain wsJ7_fill_53178 := goodIn_r _ [5] (by decide +kernel) (by decide +kernel)
set_option maxRecDepth 20000 in
theorem gX1_gain_J7_fill_53178 : GoodIn wsX1_gain (va_wsS RX1 19 yJ7_fill_53178 wsJ7_fill_53178) := goodIn_app (goodIn_of _ (by decide +kernel)) ggX1_gain_J7_fill_53178
set_option maxRecDepth 20000 in
theorem ggX1_gain_X1_drawn : GoodIn wsX1_gain wsX1_drawn := goodIn_r _ [10, 11, 12, 13, 14, 15, 16, 17, 18, 19, 20, 21, 22, 23, 24, 25, 26, 27, 28, 29, 30, 31, 32, 33, 34, 35, 36, 37, 61, 62, 63, 64, 65, 66] (by decide +kernel) (by decide +kernel)
set_option maxRecDepth 20000 in
theorem gX1_gain_X1_drawn : GoodIn wsX1_gain (wsV RX1 25 RX1 yX1_drawn wsX1_drawn) := goodIn_app (goodIn_of _ (by decide +kernel)) ggX1_gain_X1_drawn
set_option maxRecDepth 20000 in
theorem ggX1_gain_X10_isNumber : GoodIn wsX1_gain wsX10_isNumber := goodIn_r _ [37] (by decide +kernel) (by decide +kernel)
set_option maxRecDepth 20000 in
theorem gX1_gain_X10_isNumber_n29 : GoodIn wsX1_gain (wsX10_isNumber) := ggX1_gain_X10_isNumber
set_option maxRecDepth 20000 in
theorem ggX1_gain_X8_claims : GoodIn wsX1_gain wsX8_claims := goodIn_r _ [41, 42, 43, 44, 17, 45, 46, 47, 48, 49, 50, 51, 52, 53, 54, 55, 63, 64, 65, 66] (by decide +kernel) (by decide +kernel)
set_option maxRecDepth 20000 in
theorem gX1_gain_X8_claims : GoodIn wsX1_gain (wsV RX1 33 RX8 yX8_claims wsX8_claims) := goodIn_app (goodIn_of _ (by decide +kernel)) ggX1_gain_X8_claims
set_option maxRecDepth 20000 in
theorem ggX1_gain_X8_gain : GoodIn wsX1_gain wsX8_gain := goodIn_r _ [59, 60, 46, 47, 48, 17, 49, 50, 51, 52, 53, 54, 55, 63, 64, 65, 66] (by decide +kernel) (by decide +kernel)
set_option maxRecDepth 20000 in
theorem gX1_gain_X8_gain : GoodIn wsX1_gain (wsV RX1 39 RX8 yX8_gain wsX8_gain) := goodIn_app (goodIn_of _ (by decide +kernel)) ggX1_gain_X8_gain
set_option maxRecDepth 20000 in
theorem ggX1_drawn_X8_barredMany : GoodIn wsX1_drawn wsX8_barredMany := goodIn_r _ [8, 9, 10, 11, 12, 13, 14, 15, 16, 30, 31, 32, 33] (by decide +kernel) (by decide +kernel)
set_option maxRecDepth 20000 in
theorem gX1_drawn_X8_barredMany : GoodIn wsX1_drawn (wsV RX1 47 RX8 yX8_barredMany wsX8_barredMany) := goodIn_app (goodIn_of _ (by decide +kernel)) ggX1_drawn_X8_barredMany
set_option maxRecDepth 20000 in
theorem ggX1_drawn_X8_openAt : GoodIn wsX1_drawn wsX8_openAt := goodIn_r _ [20, 21, 22, 23, 7, 24, 9, 25, 26, 27, 30, 31, 32, 33] (by decide +kernel) (by decide +kernel)
set_option maxRecDepth 20000 in
theorem gX1_drawn_X8_openAt : GoodIn wsX1_drawn (wsV RX1 51 RX8 yX8_openAt wsX8_openAt) := goodIn_app (goodIn_of _ (by decide +kernel)) ggX1_drawn_X8_openAt
set_option maxRecDepth 20000 in
theorem ggX2_putSlot_X10_isSlot : GoodIn wsX2_putSlot wsX10_isSlot := goodIn_r _ [4] (by decide +kernel) (by decide +kernel)
set_option maxRecDepth 20000 in
theorem gX2_putSlot_X10_isSlot_n30 : GoodIn wsX2_putSlot (wsX10_isSlot) := ggX2_putSlot_X10_isSlot
set_option maxRecDepth 20000 in
theorem ggX2_slot_X10_isSlot : GoodIn wsX2_slot wsX10_isSlot := goodIn_r _ [5] (by decide +kernel) (by decide +kernel)
set_option maxRecDepth 20000 in
theorem gX2_slot_X10_isSlot_n30 : GoodIn wsX2_slot (wsX10_isSlot) := ggX2_slot_X10_isSlot
set_option maxRecDepth 20000 in
theorem ggX2_dropSlots_J7_fill_d0a16 : GoodIn wsX2_dropSlots wsJ7_fill_d0a16 := goodIn_r _ [6] (by decide +kernel) (by decide +kernel)
set_option maxRecDepth 20000 in
theorem gX2_dropSlots_J7_fill_d0a16 : GoodIn wsX2_dropSlots (va_wsS RX2 34 yJ7_fill_d0a16 wsJ7_fill_d0a16) := goodIn_app (goodIn_of _ (by decide +kernel)) ggX2_dropSlots_J7_fill_d0a16
set_option maxRecDepth 20000 in
theorem ggX3_correct_X5_counts : GoodIn wsX3_correct wsX5_counts := goodIn_r _ [10, 11, 54, 55, 56] (by decide +kernel) (by decide +kernel)
set_option maxRecDepth 20000 in
theorem gX3_correct_X5_counts : GoodIn wsX3_correct (wsV RX3 18 RX5 yX5_counts wsX5_counts) := goodIn_app (goodIn_of _ (by decide +kernel)) ggX3_correct_X5_counts
set_option maxRecDepth 20000 in
theorem ggX3_correct_X5_size : GoodIn wsX3_correct wsX5_size := goodIn_r _ [15, 16, 54, 55, 56] (by decide +kernel) (by decide +kernel)
set_option maxRecDepth 20000 in
theorem gX3_correct_X5_size : GoodIn wsX3_correct (wsV RX3 30 RX5 yX5_size wsX5_size) := goodIn_app (goodIn_of _ (by decide +kernel)) ggX3_correct_X5_size
set_option maxRecDepth 20000 in
theorem ggX3_correct_X5_numberOf : GoodIn wsX3_correct wsX5_numberOf := goodIn_r _ [20, 21, 22, 23, 24, 9, 25, 16, 54, 55, 56] (by decide +kernel) (by decide +kernel)
set_option maxRecDepth 20000 in
theorem gX3_correct_X5_numberOf : GoodIn wsX3_correct (wsV RX3 34 RX5 yX5_numberOf wsX5_numberOf) := goodIn_app (goodIn_of _ (by decide +kernel)) ggX3_correct_X5_numberOf
set_option maxRecDepth 20000 in
theorem ggX3_correct_X8_corrected : GoodIn wsX3_correct wsX8_corrected := goodIn_r _ [30, 31, 32, 33, 29, 34, 35, 36, 37, 38, 39, 40, 41, 42, 43, 44, 45, 46, 47, 57, 58, 59, 60] (by decide +kernel) (by decide +kernel)
set_option maxRecDepth 20000 in
theorem gX3_correct_X8_corrected : GoodIn wsX3_correct (wsV RX3 38 RX8 yX8_corrected wsX8_corrected) := goodIn_app (goodIn_of _ (by decide +kernel)) ggX3_correct_X8_corrected
set_option maxRecDepth 20000 in
theorem ggX3_correct_X5_rewrite : GoodIn wsX3_correct wsX5_rewrite := goodIn_r _ [51, 11, 21, 22, 23, 24, 9, 25, 16, 45, 46, 47, 54, 55, 56] (by decide +kernel) (by decide +kernel)
set_option maxRecDepth 20000 in
theorem gX3_correct_X5_rewrite : GoodIn wsX3_correct (wsV RX3 44 RX5 yX5_rewrite wsX5_rewrite) := goodIn_app (goodIn_of _ (by decide +kernel)) ggX3_correct_X5_rewrite
set_option maxRecDepth 20000 in
theorem ggX3_roundsTillRest_X3_changes : GoodIn wsX3_roundsTillRest wsX3_changes := goodIn_r _ [11, 6, 1, 12, 13, 14, 15, 16, 17, 18, 19, 20, 21, 22, 23, 24, 25, 26, 27, 28, 29, 30, 31, 32, 33, 34, 35, 36, 37, 38, 39, 40, 41, 42, 43] (by decide +kernel) (by decide +kernel)
set_option maxRecDepth 20000 in
theorem gX3_roundsTillRest_X3_changes : GoodIn wsX3_roundsTillRest (wsV RX3 48 RX3 yX3_changes wsX3_changes) := goodIn_app (goodIn_of _ (by decide +kernel)) ggX3_roundsTillRest_X3_changes
set_option maxRecDepth 20000 in
theorem ggX3_changes_J7_fill_53178 : GoodIn wsX3_changes wsJ7_fill_53178 := goodIn_r _ [6] (by decide +kernel) (by decide +kernel)
set_option maxRecDepth 20000 in
theorem gX3_changes_J7_fill_53178 : GoodIn wsX3_changes (va_wsS RX3 52 yJ7_fill_53178 wsJ7_fill_53178) := goodIn_app (goodIn_of _ (by decide +kernel)) ggX3_changes_J7_fill_53178
set_option maxRecDepth 20000 in
theorem ggX3_changes_X8_corrected : GoodIn wsX3_changes wsX8_corrected := goodIn_r _ [11, 12, 13, 14, 10, 15, 16, 17, 18, 19, 20, 21, 22, 23, 24, 25, 26, 27, 28, 31, 32, 33, 34] (by decide +kernel) (by decide +kernel)
set_option maxRecDepth 20000 in
theorem gX3_changes_X8_corrected : GoodIn wsX3_changes (wsV RX3 38 RX8 yX8_corrected wsX8_corrected) := goodIn_app (goodIn_of _ (by decide +kernel)) ggX3_changes_X8_corrected
set_option maxRecDepth 20000 in
theorem ggX3_changes_X10_isNumber : GoodIn wsX3_changes wsX10_isNumber := goodIn_r _ [28] (by decide +kernel) (by decide +kernel)
set_option maxRecDepth 20000 in
theorem gX3_changes_X10_isNumber_n58 : GoodIn wsX3_changes (wsX10_isNumber) := ggX3_changes_X10_isNumber
set_option maxRecDepth 20000 in
theorem ggX3_rowsAtRest_J7_fill_53178 : GoodIn wsX3_rowsAtRest wsJ7_fill_53178 := goodIn_r _ [5] (by decide +kernel) (by decide +kernel)
set_option maxRecDepth 20000 in
theorem gX3_rowsAtRest_J7_fill_53178 : GoodIn wsX3_rowsAtRest (va_wsS RX3 52 yJ7_fill_53178 wsJ7_fill_53178) := goodIn_app (goodIn_of _ (by decide +kernel)) ggX3_rowsAtRest_J7_fill_53178
set_option maxRecDepth 20000 in
theorem ggX3_rowsAtRest_X3_restingRows : GoodIn wsX3_rowsAtRest wsX3_restingRows := goodIn_r _ [9, 10, 11, 12, 13, 14, 15, 16, 17, 18, 19, 20, 21, 22, 23, 24, 25, 26, 27, 28, 29, 30, 31, 32, 33, 34, 35, 36, 37, 38, 39, 40, 41, 42, 43, 44, 45, 46, 47, 48, 49, 50, 51, 52, 53, 54, 55, 56, 57, 6, 7, 8, 58, 59, 60, 63, 64, 65, 66] (by decide +kernel) (by decide +kernel)
set_option maxRecDepth 20000 in
theorem gX3_rowsAtRest_X3_restingRows : GoodIn wsX3_rowsAtRest (va_wsS RX3 62 yX3_restingRows wsX3_restingRows) := goodIn_app (goodIn_of _ (by decide +kernel)) ggX3_rowsAtRest_X3_restingRows
set_option maxRecDepth 20000 in
theorem ggX3_restingRows_X8_areAtRest : GoodIn wsX3_restingRows wsX8_areAtRest := goodIn_r _ [5, 6, 7, 8, 4, 9, 10, 11, 12, 13, 14, 15, 16, 17, 18, 19, 20, 21, 22, 23, 24, 25, 26, 27, 28, 29, 30, 31, 32, 33, 34, 35, 36, 37, 38, 39, 40, 41, 42, 43, 44, 45, 46, 47, 48, 55, 56, 57, 58] (by decide +kernel) (by decide +kernel)
set_option maxRecDepth 20000 in
theorem gX3_restingRows_X8_areAtRest : GoodIn wsX3_restingRows (wsV RX3 66 RX8 yX8_areAtRest wsX8_areAtRest) := goodIn_app (goodIn_of _ (by decide +kernel)) ggX3_restingRows_X8_areAtRest
set_option maxRecDepth 20000 in
theorem ggX3_restingRows_X10_isNumber : GoodIn wsX3_restingRows wsX10_isNumber := goodIn_r _ [48] (by decide +kernel) (by decide +kernel)
set_option maxRecDepth 20000 in
theorem gX3_restingRows_X10_isNumber_n58 : GoodIn wsX3_restingRows (wsX10_isNumber) := ggX3_restingRows_X10_isNumber
set_option maxRecDepth 20000 in
theorem ggX3_restingRows_X3_restingRows : GoodIn wsX3_restingRows wsX3_restingRows := goodIn_r _ [0, 1, 2, 3, 4, 5, 6, 7, 8, 9, 10, 11, 12, 13, 14, 15, 16, 17, 18, 19, 20, 21, 22, 23, 24, 25, 26, 27, 28, 29, 30, 31, 32, 33, 34, 35, 36, 37, 38, 39, 40, 41, 42, 43, 44, 45, 46, 47, 48, 49, 50, 51, 52, 53, 54, 55, 56, 57, 58] (by decide +kernel) (by decide +kernel)
set_option maxRecDepth 20000 in
theorem gX3_restingRows_X3_restingRows : GoodIn wsX3_restingRows (va_wsS RX3 62 yX3_restingRows wsX3_restingRows) := goodIn_app (goodIn_of _ (by decide +kernel)) ggX3_restingRows_X3_restingRows
set_option maxRecDepth 20000 in
theorem ggX3_restingRows_X8_isOpen : GoodIn wsX3_restingRows wsX8_isOpen := goodIn_r _ [44, 45, 46, 47, 48, 55, 56, 57, 58] (by decide +kernel) (by decide +kernel)
set_option maxRecDepth 20000 in
theorem gX3_restingRows_X8_isOpen : GoodIn wsX3_restingRows (wsV RX3 70 RX8 yX8_isOpen wsX8_isOpen) := goodIn_app (goodIn_of _ (by decide +kernel)) ggX3_restingRows_X8_isOpen
set_option maxRecDepth 20000 in
theorem ggX3_restingRows_X10_choose : GoodIn wsX3_restingRows wsX10_choose := goodIn_r _ [54] (by decide +kernel) (by decide +kernel)
set_option maxRecDepth 20000 in
theorem gX3_restingRows_X10_choose_n73 : GoodIn wsX3_restingRows (wsX10_choose) := ggX3_restingRows_X10_choose
set_option maxRecDepth 20000 in
theorem ggX4_clear_J7_fill_53178 : GoodIn wsX4_clear wsJ7_fill_53178 := goodIn_r _ [6] (by decide +kernel) (by decide +kernel)
set_option maxRecDepth 20000 in
theorem gX4_clear_J7_fill_53178 : GoodIn wsX4_clear (va_wsS RX4 19 yJ7_fill_53178 wsJ7_fill_53178) := goodIn_app (goodIn_of _ (by decide +kernel)) ggX4_clear_J7_fill_53178
set_option maxRecDepth 20000 in
theorem ggX5_numberOf_X5_has : GoodIn wsX5_numberOf wsX5_has := goodIn_r _ [6, 7, 8, 9, 10] (by decide +kernel) (by decide +kernel)
set_option maxRecDepth 20000 in
theorem gX5_numberOf_X5_has : GoodIn wsX5_numberOf (wsV RX5 22 RX5 yX5_has wsX5_has) := goodIn_app (goodIn_of _ (by decide +kernel)) ggX5_numberOf_X5_has
set_option maxRecDepth 20000 in
theorem ggX5_many_X10_isNumber : GoodIn wsX5_many wsX10_isNumber := goodIn_r _ [4] (by decide +kernel) (by decide +kernel)
set_option maxRecDepth 20000 in
theorem gX5_many_X10_isNumber_n26 : GoodIn wsX5_many (wsX10_isNumber) := ggX5_many_X10_isNumber
set_option maxRecDepth 20000 in
theorem ggX5_clear_J7_fill_53178 : GoodIn wsX5_clear wsJ7_fill_53178 := goodIn_r _ [6] (by decide +kernel) (by decide +kernel)
set_option maxRecDepth 20000 in
theorem gX5_clear_J7_fill_53178 : GoodIn wsX5_clear (va_wsS RX5 29 yJ7_fill_53178 wsJ7_fill_53178) := goodIn_app (goodIn_of _ (by decide +kernel)) ggX5_clear_J7_fill_53178
set_option maxRecDepth 20000 in
theorem ggX5_add_X10_isNumber : GoodIn wsX5_add wsX10_isNumber := goodIn_r _ [6] (by decide +kernel) (by decide +kernel)
set_option maxRecDepth 20000 in
theorem gX5_add_X10_isNumber_n26 : GoodIn wsX5_add (wsX10_isNumber) := ggX5_add_X10_isNumber
set_option maxRecDepth 20000 in
theorem ggX5_rewrite_X5_has : GoodIn wsX5_rewrite wsX5_has := goodIn_r _ [7, 8, 12, 13, 14] (by decide +kernel) (by decide +kernel)
set_option maxRecDepth 20000 in
theorem gX5_rewrite_X5_has : GoodIn wsX5_rewrite (wsV RX5 22 RX5 yX5_has wsX5_has) := goodIn_app (goodIn_of _ (by decide +kernel)) ggX5_rewrite_X5_has
set_option maxRecDepth 20000 in
theorem ggX5_rewrite_X10_isNumber : GoodIn wsX5_rewrite wsX10_isNumber := goodIn_r _ [11] (by decide +kernel) (by decide +kernel)
set_option maxRecDepth 20000 in
theorem gX5_rewrite_X10_isNumber_n26 : GoodIn wsX5_rewrite (wsX10_isNumber) := ggX5_rewrite_X10_isNumber
set_option maxRecDepth 20000 in
theorem ggX5_drop_X5_has : GoodIn wsX5_drop wsX5_has := goodIn_r _ [8, 3, 9, 10, 11] (by decide +kernel) (by decide +kernel)
set_option maxRecDepth 20000 in
theorem gX5_drop_X5_has : GoodIn wsX5_drop (wsV RX5 22 RX5 yX5_has wsX5_has) := goodIn_app (goodIn_of _ (by decide +kernel)) ggX5_drop_X5_has
set_option maxRecDepth 20000 in
theorem ggX5_unpack_X5_clear : GoodIn wsX5_unpack wsX5_clear := goodIn_r _ [6, 7, 8, 9, 10, 11, 12, 21, 22, 23] (by decide +kernel) (by decide +kernel)
set_option maxRecDepth 20000 in
theorem gX5_unpack_X5_clear : GoodIn wsX5_unpack (wsV RX5 35 RX5 yX5_clear wsX5_clear) := goodIn_app (goodIn_of _ (by decide +kernel)) ggX5_unpack_X5_clear
set_option maxRecDepth 20000 in
theorem ggX5_unpack_X5_add : GoodIn wsX5_unpack wsX5_add := goodIn_r _ [16, 7, 17, 8, 18, 19, 20, 21, 22, 23] (by decide +kernel) (by decide +kernel)
set_option maxRecDepth 20000 in
theorem gX5_unpack_X5_add : GoodIn wsX5_unpack (wsV RX5 40 RX5 yX5_add wsX5_add) := goodIn_app (goodIn_of _ (by decide +kernel)) ggX5_unpack_X5_add
set_option maxRecDepth 20000 in
theorem ggX6_init_X8_init : GoodIn wsX6_init wsX8_init := goodIn_r _ [13, 14, 2, 3] (by decide +kernel) (by decide +kernel)
set_option maxRecDepth 20000 in
theorem gX6_init_X8_init_n11 : GoodIn wsX6_init (wsX8_init) := ggX6_init_X8_init
set_option maxRecDepth 20000 in
theorem ggX6_init_X5_init : GoodIn wsX6_init wsX5_init := goodIn_r _ [16, 17, 2, 3, 18, 19, 20, 28, 29, 30] (by decide +kernel) (by decide +kernel)
set_option maxRecDepth 20000 in
theorem gX6_init_X5_init_n20 : GoodIn wsX6_init (wsX5_init) := ggX6_init_X5_init
set_option maxRecDepth 20000 in
theorem ggX6_firstFault_X8_clear : GoodIn wsX6_firstFault wsX8_clear := goodIn_r _ [7, 8, 9, 10, 11, 110, 111, 112, 113] (by decide +kernel) (by decide +kernel)
set_option maxRecDepth 20000 in
theorem gX6_firstFault_X8_clear : GoodIn wsX6_firstFault (wsV RX6 25 RX8 yX8_clear wsX8_clear) := goodIn_app (goodIn_of _ (by decide +kernel)) ggX6_firstFault_X8_clear
set_option maxRecDepth 20000 in
theorem ggX6_firstFault_X5_clear : GoodIn wsX6_firstFault wsX5_clear := goodIn_r _ [16, 17, 18, 19, 20, 21, 22, 114, 115, 116] (by decide +kernel) (by decide +kernel)
set_option maxRecDepth 20000 in
theorem gX6_firstFault_X5_clear : GoodIn wsX6_firstFault (wsV RX6 28 RX5 yX5_clear wsX5_clear) := goodIn_app (goodIn_of _ (by decide +kernel)) ggX6_firstFault_X5_clear
set_option maxRecDepth 20000 in
theorem ggX6_firstFault_X9_length : GoodIn wsX6_firstFault wsX9_length := goodIn_r _ [27, 28, 117, 118] (by decide +kernel) (by decide +kernel)
set_option maxRecDepth 20000 in
theorem gX6_firstFault_X9_length : GoodIn wsX6_firstFault (wsV RX6 29 RX9 yX9_length wsX9_length) := goodIn_app (goodIn_of _ (by decide +kernel)) ggX6_firstFault_X9_length
set_option maxRecDepth 20000 in
theorem ggX6_firstFault_X9_at : GoodIn wsX6_firstFault wsX9_at := goodIn_r _ [32, 28, 33, 117, 118] (by decide +kernel) (by decide +kernel)
set_option maxRecDepth 20000 in
theorem gX6_firstFault_X9_at : GoodIn wsX6_firstFault (wsV RX6 35 RX9 yX9_at wsX9_at) := goodIn_app (goodIn_of _ (by decide +kernel)) ggX6_firstFault_X9_at
set_option maxRecDepth 20000 in
theorem ggX6_firstFault_X6_takes : GoodIn wsX6_firstFault wsX6_takes := goodIn_r _ [38, 39, 40, 41, 37, 42, 43, 2, 1, 44, 45, 46, 15, 47, 17, 48, 49, 50, 6, 51, 11, 52, 53, 54, 55, 56, 57, 58, 59, 60, 61, 62, 63, 64, 65, 66, 67, 68, 69, 70, 71, 72, 73, 74, 75, 76, 77, 18, 78, 79, 80, 81, 82, 83, 84, 85, 8, 86, 87, 88, 89, 9, 90, 91, 92, 93, 10, 94, 95, 96, 97, 98, 99, 100, 101, 102, 103, 104, 105, 106, 107, 108, 109, 114, 115, 116, 110, 111, 112, 113] (by decide +kernel) (by decide +kernel)
set_option maxRecDepth 20000 in
theorem gX6_firstFault_X6_takes : GoodIn wsX6_firstFault (wsV RX6 39 RX6 yX6_takes wsX6_takes) := goodIn_app (goodIn_of _ (by decide +kernel)) ggX6_firstFault_X6_takes
set_option maxRecDepth 20000 in
theorem ggX6_takes_X6_takesLetter : GoodIn wsX6_takes wsX6_takesLetter := goodIn_r _ [5, 6, 7, 8, 9, 10, 11, 12, 13, 14, 15, 16, 17, 18, 19, 20, 21, 22, 23, 24, 25, 26, 27, 28, 29, 30, 4, 31, 32, 33, 34, 35, 36, 37, 38, 39, 40, 41, 42, 43, 44, 45, 46, 47, 80, 81, 82, 83, 84, 85, 86, 87, 88, 89] (by decide +kernel) (by decide +kernel)
set_option maxRecDepth 20000 in
theorem gX6_takes_X6_takesLetter : GoodIn wsX6_takes (wsV RX6 43 RX6 yX6_takesLetter wsX6_takesLetter) := goodIn_app (goodIn_of _ (by decide +kernel)) ggX6_takes_X6_takesLetter
set_option maxRecDepth 20000 in
theorem ggX6_takes_X10_isNumber : GoodIn wsX6_takes wsX10_isNumber := goodIn_r _ [42] (by decide +kernel) (by decide +kernel)
set_option maxRecDepth 20000 in
theorem gX6_takes_X10_isNumber_n47 : GoodIn wsX6_takes (wsX10_isNumber) := ggX6_takes_X10_isNumber
set_option maxRecDepth 20000 in
theorem ggX6_takes_X6_takesHead : GoodIn wsX6_takes wsX6_takesHead := goodIn_r _ [51, 8, 52, 53, 54, 18, 55, 56, 57, 58, 59, 60, 61, 62, 63, 64, 65, 66, 80, 81, 82, 86, 87, 88, 89] (by decide +kernel) (by decide +kernel)
set_option maxRecDepth 20000 in
theorem gX6_takes_X6_takesHead : GoodIn wsX6_takes (wsV RX6 50 RX6 yX6_takesHead wsX6_takesHead) := goodIn_app (goodIn_of _ (by decide +kernel)) ggX6_takes_X6_takesHead
set_option maxRecDepth 20000 in
theorem ggX6_takes_X6_takesNumber : GoodIn wsX6_takes wsX6_takesNumber := goodIn_r _ [70, 6, 8, 7, 36, 37, 38, 18, 39, 20, 40, 41, 42, 71, 72, 73, 12, 74, 14, 75, 47, 32, 33, 34, 4, 35, 43, 44, 45, 46, 76, 77, 78, 79, 80, 81, 82, 86, 87, 88, 89, 83, 84, 85] (by decide +kernel) (by decide +kernel)
set_option maxRecDepth 20000 in
theorem gX6_takes_X6_takesNumber : GoodIn wsX6_takes (wsV RX6 53 RX6 yX6_takesNumber wsX6_takesNumber) := goodIn_app (goodIn_of _ (by decide +kernel)) ggX6_takes_X6_takesNumber
set_option maxRecDepth 20000 in
theorem ggX6_takesHead_X8_takeLaw : GoodIn wsX6_takesHead wsX8_takeLaw := goodIn_r _ [6, 7, 21, 22, 23, 24] (by decide +kernel) (by decide +kernel)
set_option maxRecDepth 20000 in
theorem gX6_takesHead_X8_takeLaw : GoodIn wsX6_takesHead (wsV RX6 56 RX8 yX8_takeLaw wsX8_takeLaw) := goodIn_app (goodIn_of _ (by decide +kernel)) ggX6_takesHead_X8_takeLaw
set_option maxRecDepth 20000 in
theorem ggX6_takesHead_X8_takeShare : GoodIn wsX6_takesHead wsX8_takeShare := goodIn_r _ [11, 12, 21, 22, 23, 24] (by decide +kernel) (by decide +kernel)
set_option maxRecDepth 20000 in
theorem gX6_takesHead_X8_takeShare : GoodIn wsX6_takesHead (wsV RX6 59 RX8 yX8_takeShare wsX8_takeShare) := goodIn_app (goodIn_of _ (by decide +kernel)) ggX6_takesHead_X8_takeShare
set_option maxRecDepth 20000 in
theorem ggX6_takesHead_X8_takePotFigure : GoodIn wsX6_takesHead wsX8_takePotFigure := goodIn_r _ [16, 17, 21, 22, 23, 24] (by decide +kernel) (by decide +kernel)
set_option maxRecDepth 20000 in
theorem gX6_takesHead_X8_takePotFigure : GoodIn wsX6_takesHead (wsV RX6 62 RX8 yX8_takePotFigure wsX8_takePotFigure) := goodIn_app (goodIn_of _ (by decide +kernel)) ggX6_takesHead_X8_takePotFigure
set_option maxRecDepth 20000 in
theorem ggX6_takesLetter_X5_size : GoodIn wsX6_takesLetter wsX5_size := goodIn_r _ [8, 9, 47, 48, 49] (by decide +kernel) (by decide +kernel)
set_option maxRecDepth 20000 in
theorem gX6_takesLetter_X5_size : GoodIn wsX6_takesLetter (wsV RX6 70 RX5 yX5_size wsX5_size) := goodIn_app (goodIn_of _ (by decide +kernel)) ggX6_takesLetter_X5_size
set_option maxRecDepth 20000 in
theorem ggX6_takesLetter_X8_barredMany : GoodIn wsX6_takesLetter wsX8_barredMany := goodIn_r _ [14, 15, 16, 17, 18, 19, 20, 21, 22, 50, 51, 52, 53] (by decide +kernel) (by decide +kernel)
set_option maxRecDepth 20000 in
theorem gX6_takesLetter_X8_barredMany : GoodIn wsX6_takesLetter (wsV RX6 73 RX8 yX8_barredMany wsX8_barredMany) := goodIn_app (goodIn_of _ (by decide +kernel)) ggX6_takesLetter_X8_barredMany
set_option maxRecDepth 20000 in
theorem ggX6_takesLetter_X6_someCanBeBarred : GoodIn wsX6_takesLetter wsX6_someCanBeBarred := goodIn_r _ [27, 28, 29, 30, 26, 31, 3, 2, 32, 33, 34, 13, 35, 15, 36, 37, 38, 39, 40, 41, 7, 42, 43, 44, 45, 46, 50, 51, 52, 53, 47, 48, 49] (by decide +kernel) (by decide +kernel)
set_option maxRecDepth 20000 in
theorem gX6_takesLetter_X6_someCanBeBarred : GoodIn wsX6_takesLetter (wsV RX6 76 RX6 yX6_someCanBeBarred wsX6_someCanBeBarred) := goodIn_app (goodIn_of _ (by decide +kernel)) ggX6_takesLetter_X6_someCanBeBarred
set_option maxRecDepth 20000 in
theorem ggX6_someCanBeBarred_X6_canBeBarred : GoodIn wsX6_someCanBeBarred wsX6_canBeBarred := goodIn_r _ [5, 6, 7, 8, 9, 10, 11, 12, 13, 14, 15, 16, 17, 18, 19, 20, 21, 22, 23, 24, 25, 26, 27, 28, 29, 30, 31, 32] (by decide +kernel) (by decide +kernel)
set_option maxRecDepth 20000 in
theorem gX6_someCanBeBarred_X6_canBeBarred : GoodIn wsX6_someCanBeBarred (wsV RX6 80 RX6 yX6_canBeBarred wsX6_canBeBarred) := goodIn_app (goodIn_of _ (by decide +kernel)) ggX6_someCanBeBarred_X6_canBeBarred
set_option maxRecDepth 20000 in
theorem ggX6_canBeBarred_X8_isOpen : GoodIn wsX6_canBeBarred wsX8_isOpen := goodIn_r _ [7, 8, 9, 10, 11, 21, 22, 23, 24] (by decide +kernel) (by decide +kernel)
set_option maxRecDepth 20000 in
theorem gX6_canBeBarred_X8_isOpen : GoodIn wsX6_canBeBarred (wsV RX6 83 RX8 yX8_isOpen wsX8_isOpen) := goodIn_app (goodIn_of _ (by decide +kernel)) ggX6_canBeBarred_X8_isOpen
set_option maxRecDepth 20000 in
theorem ggX6_canBeBarred_X5_many : GoodIn wsX6_canBeBarred wsX5_many := goodIn_r _ [16, 17, 9, 10, 11, 25, 26, 27] (by decide +kernel) (by decide +kernel)
set_option maxRecDepth 20000 in
theorem gX6_canBeBarred_X5_many : GoodIn wsX6_canBeBarred (wsV RX6 86 RX5 yX5_many wsX5_many) := goodIn_app (goodIn_of _ (by decide +kernel)) ggX6_canBeBarred_X5_many
set_option maxRecDepth 20000 in
theorem ggX6_takesNumber_X8_isOpen : GoodIn wsX6_takesNumber wsX8_isOpen := goodIn_r _ [8, 9, 10, 11, 12, 37, 38, 39, 40] (by decide +kernel) (by decide +kernel)
set_option maxRecDepth 20000 in
theorem gX6_takesNumber_X8_isOpen : GoodIn wsX6_takesNumber (wsV RX6 83 RX8 yX8_isOpen wsX8_isOpen) := goodIn_app (goodIn_of _ (by decide +kernel)) ggX6_takesNumber_X8_isOpen
set_option maxRecDepth 20000 in
theorem ggX6_takesNumber_X5_add : GoodIn wsX6_takesNumber wsX5_add := goodIn_r _ [17, 18, 19, 20, 10, 11, 12, 41, 42, 43] (by decide +kernel) (by decide +kernel)
set_option maxRecDepth 20000 in
theorem gX6_takesNumber_X5_add : GoodIn wsX6_takesNumber (wsV RX6 89 RX5 yX5_add wsX5_add) := goodIn_app (goodIn_of _ (by decide +kernel)) ggX6_takesNumber_X5_add
set_option maxRecDepth 20000 in
theorem ggX6_takesNumber_X6_canBeBarred : GoodIn wsX6_takesNumber wsX6_canBeBarred := goodIn_r _ [25, 2, 3, 4, 5, 6, 7, 8, 9, 10, 11, 12, 26, 27, 28, 16, 29, 20, 34, 35, 36, 37, 38, 39, 40, 41, 42, 43] (by decide +kernel) (by decide +kernel)
set_option maxRecDepth 20000 in
theorem gX6_takesNumber_X6_canBeBarred : GoodIn wsX6_takesNumber (wsV RX6 80 RX6 yX6_canBeBarred wsX6_canBeBarred) := goodIn_app (goodIn_of _ (by decide +kernel)) ggX6_takesNumber_X6_canBeBarred
set_option maxRecDepth 20000 in
theorem ggX6_takesNumber_X8_bar : GoodIn wsX6_takesNumber wsX8_bar := goodIn_r _ [33, 9, 37, 38, 39, 40] (by decide +kernel) (by decide +kernel)
set_option maxRecDepth 20000 in
theorem gX6_takesNumber_X8_bar : GoodIn wsX6_takesNumber (wsV RX6 92 RX8 yX8_bar wsX8_bar) := goodIn_app (goodIn_of _ (by decide +kernel)) ggX6_takesNumber_X8_bar
set_option maxRecDepth 20000 in
theorem ggX7_allRightRows_X8_isOpen : GoodIn wsX7_allRightRows wsX8_isOpen := goodIn_r _ [6, 7, 8, 9, 10, 36, 37, 38, 39] (by decide +kernel) (by decide +kernel)
set_option maxRecDepth 20000 in
theorem gX7_allRightRows_X8_isOpen : GoodIn wsX7_allRightRows (wsV RX7 25 RX8 yX8_isOpen wsX8_isOpen) := goodIn_app (goodIn_of _ (by decide +kernel)) ggX7_allRightRows_X8_isOpen
set_option maxRecDepth 20000 in
theorem ggX7_allRightRows_X7_weighted : GoodIn wsX7_allRightRows wsX7_weighted := goodIn_r _ [15, 16, 17, 9, 18, 19, 20, 21, 22, 23, 24, 25, 14, 26, 27, 28, 29, 5, 30, 31, 32, 33, 34, 35, 36, 37, 38, 39] (by decide +kernel) (by decide +kernel)
set_option maxRecDepth 20000 in
theorem gX7_allRightRows_X7_weighted : GoodIn wsX7_allRightRows (wsV RX7 31 RX7 yX7_weighted wsX7_weighted) := goodIn_app (goodIn_of _ (by decide +kernel)) ggX7_allRightRows_X7_weighted
set_option maxRecDepth 20000 in
theorem ggX7_weighted_X10_isCrowd : GoodIn wsX7_weighted wsX10_isCrowd := goodIn_r _ [4] (by decide +kernel) (by decide +kernel)
set_option maxRecDepth 20000 in
theorem gX7_weighted_X10_isCrowd_n35 : GoodIn wsX7_weighted (wsX10_isCrowd) := ggX7_weighted_X10_isCrowd
set_option maxRecDepth 20000 in
theorem ggX7_weighted_J7_fill_d0a16 : GoodIn wsX7_weighted wsJ7_fill_d0a16 := goodIn_r _ [8] (by decide +kernel) (by decide +kernel)
set_option maxRecDepth 20000 in
theorem gX7_weighted_J7_fill_d0a16 : GoodIn wsX7_weighted (va_wsS RX7 38 yJ7_fill_d0a16 wsJ7_fill_d0a16) := goodIn_app (goodIn_of _ (by decide +kernel)) ggX7_weighted_J7_fill_d0a16
set_option maxRecDepth 20000 in
theorem ggX7_weighted_X7_weightedWith : GoodIn wsX7_weighted wsX7_weightedWith := goodIn_r _ [13, 1, 14, 15, 16, 17, 18, 19, 20, 21, 22, 23, 24, 25, 26, 27] (by decide +kernel) (by decide +kernel)
set_option maxRecDepth 20000 in
theorem gX7_weighted_X7_weightedWith : GoodIn wsX7_weighted (wsV RX7 44 RX7 yX7_weightedWith wsX7_weightedWith) := goodIn_app (goodIn_of _ (by decide +kernel)) ggX7_weighted_X7_weightedWith
set_option maxRecDepth 20000 in
theorem ggX7_weightedWith_X8_suits : GoodIn wsX7_weightedWith wsX8_suits := goodIn_r _ [6, 7, 12, 13, 14, 15] (by decide +kernel) (by decide +kernel)
set_option maxRecDepth 20000 in
theorem gX7_weightedWith_X8_suits : GoodIn wsX7_weightedWith (wsV RX7 48 RX8 yX8_suits wsX8_suits) := goodIn_app (goodIn_of _ (by decide +kernel)) ggX7_weightedWith_X8_suits
set_option maxRecDepth 20000 in
theorem ggX7_fewestNotRight_X10_isCrowd : GoodIn wsX7_fewestNotRight wsX10_isCrowd := goodIn_r _ [4] (by decide +kernel) (by decide +kernel)
set_option maxRecDepth 20000 in
theorem gX7_fewestNotRight_X10_isCrowd_n35 : GoodIn wsX7_fewestNotRight (wsX10_isCrowd) := ggX7_fewestNotRight_X10_isCrowd
set_option maxRecDepth 20000 in
theorem ggX7_fewestNotRight_X7_startCosts : GoodIn wsX7_fewestNotRight wsX7_startCosts := goodIn_r _ [9, 1, 10, 11, 12, 13, 35, 36, 37, 38] (by decide +kernel) (by decide +kernel)
set_option maxRecDepth 20000 in
theorem gX7_fewestNotRight_X7_startCosts : GoodIn wsX7_fewestNotRight (wsV RX7 52 RX7 yX7_startCosts wsX7_startCosts) := goodIn_app (goodIn_of _ (by decide +kernel)) ggX7_fewestNotRight_X7_startCosts
set_option maxRecDepth 20000 in
theorem ggX7_fewestNotRight_X8_isOpen : GoodIn wsX7_fewestNotRight wsX8_isOpen := goodIn_r _ [18, 19, 20, 3, 21, 39, 40, 41, 42] (by decide +kernel) (by decide +kernel)
set_option maxRecDepth 20000 in
theorem gX7_fewestNotRight_X8_isOpen : GoodIn wsX7_fewestNotRight (wsV RX7 25 RX8 yX8_isOpen wsX8_isOpen) := goodIn_app (goodIn_of _ (by decide +kernel)) ggX7_fewestNotRight_X8_isOpen
set_option maxRecDepth 20000 in
theorem ggX7_fewestNotRight_X7_leastNotRight : GoodIn wsX7_fewestNotRight wsX7_leastNotRight := goodIn_r _ [25, 1, 26, 27, 28, 29, 30, 31, 32, 17, 33, 34, 35, 36, 37, 38, 39, 40, 41, 42] (by decide +kernel) (by decide +kernel)
set_option maxRecDepth 20000 in
theorem gX7_fewestNotRight_X7_leastNotRight : GoodIn wsX7_fewestNotRight (wsV RX7 55 RX7 yX7_leastNotRight wsX7_leastNotRight) := goodIn_app (goodIn_of _ (by decide +kernel)) ggX7_fewestNotRight_X7_leastNotRight
set_option maxRecDepth 20000 in
theorem ggX7_leastNotRight_X8_suits : GoodIn wsX7_leastNotRight wsX8_suits := goodIn_r _ [10, 11, 16, 17, 18, 19] (by decide +kernel) (by decide +kernel)
set_option maxRecDepth 20000 in
theorem gX7_leastNotRight_X8_suits : GoodIn wsX7_leastNotRight (wsV RX7 48 RX8 yX8_suits wsX8_suits) := goodIn_app (goodIn_of _ (by decide +kernel)) ggX7_leastNotRight_X8_suits
set_option maxRecDepth 20000 in
theorem ggX7_fewestAnew_X7_startCosts : GoodIn wsX7_fewestAnew wsX7_startCosts := goodIn_r _ [6, 1, 7, 8, 9, 10, 36, 37, 38, 39] (by decide +kernel) (by decide +kernel)
set_option maxRecDepth 20000 in
theorem gX7_fewestAnew_X7_startCosts : GoodIn wsX7_fewestAnew (wsV RX7 52 RX7 yX7_startCosts wsX7_startCosts) := goodIn_app (goodIn_of _ (by decide +kernel)) ggX7_fewestAnew_X7_startCosts
set_option maxRecDepth 20000 in
theorem ggX7_fewestAnew_X8_isOpen : GoodIn wsX7_fewestAnew wsX8_isOpen := goodIn_r _ [15, 16, 17, 18, 19, 40, 41, 42, 43] (by decide +kernel) (by decide +kernel)
set_option maxRecDepth 20000 in
theorem gX7_fewestAnew_X8_isOpen : GoodIn wsX7_fewestAnew (wsV RX7 25 RX8 yX8_isOpen wsX8_isOpen) := goodIn_app (goodIn_of _ (by decide +kernel)) ggX7_fewestAnew_X8_isOpen
set_option maxRecDepth 20000 in
theorem ggX7_fewestAnew_X7_leastAnew : GoodIn wsX7_fewestAnew wsX7_leastAnew := goodIn_r _ [23, 1, 24, 25, 26, 27, 28, 29, 30, 31, 32, 33, 14, 34, 35, 36, 37, 38, 39, 40, 41, 42, 43] (by decide +kernel) (by decide +kernel)
set_option maxRecDepth 20000 in
theorem gX7_fewestAnew_X7_leastAnew : GoodIn wsX7_fewestAnew (wsV RX7 65 RX7 yX7_leastAnew wsX7_leastAnew) := goodIn_app (goodIn_of _ (by decide +kernel)) ggX7_fewestAnew_X7_leastAnew
set_option maxRecDepth 20000 in
theorem ggX7_leastAnew_X8_suits : GoodIn wsX7_leastAnew wsX8_suits := goodIn_r _ [13, 14, 19, 20, 21, 22] (by decide +kernel) (by decide +kernel)
set_option maxRecDepth 20000 in
theorem gX7_leastAnew_X8_suits : GoodIn wsX7_leastAnew (wsV RX7 48 RX8 yX8_suits wsX8_suits) := goodIn_app (goodIn_of _ (by decide +kernel)) ggX7_leastAnew_X8_suits
set_option maxRecDepth 20000 in
theorem ggX7_startCosts_J7_fill_53178 : GoodIn wsX7_startCosts wsJ7_fill_53178 := goodIn_r _ [5] (by decide +kernel) (by decide +kernel)
set_option maxRecDepth 20000 in
theorem gX7_startCosts_J7_fill_53178 : GoodIn wsX7_startCosts (va_wsS RX7 72 yJ7_fill_53178 wsJ7_fill_53178) := goodIn_app (goodIn_of _ (by decide +kernel)) ggX7_startCosts_J7_fill_53178
set_option maxRecDepth 20000 in
theorem ggX7_firstAllRight_J7_fill_53178 : GoodIn wsX7_firstAllRight wsJ7_fill_53178 := goodIn_r _ [5] (by decide +kernel) (by decide +kernel)
set_option maxRecDepth 20000 in
theorem gX7_firstAllRight_J7_fill_53178 : GoodIn wsX7_firstAllRight (va_wsS RX7 72 yJ7_fill_53178 wsJ7_fill_53178) := goodIn_app (goodIn_of _ (by decide +kernel)) ggX7_firstAllRight_J7_fill_53178
set_option maxRecDepth 20000 in
theorem ggX7_firstAllRight_X7_leastFrom : GoodIn wsX7_firstAllRight wsX7_leastFrom := goodIn_r _ [10, 11, 12, 13, 14, 1, 15, 16, 17, 18, 19, 20, 21, 22, 23, 24, 25, 26, 9, 27, 28, 29, 30, 31, 32, 33, 34, 35, 36, 37, 38, 39, 40, 41, 42, 43, 44] (by decide +kernel) (by decide +kernel)
set_option maxRecDepth 20000 in
theorem gX7_firstAllRight_X7_leastFrom : GoodIn wsX7_firstAllRight (wsV RX7 75 RX7 yX7_leastFrom wsX7_leastFrom) := goodIn_app (goodIn_of _ (by decide +kernel)) ggX7_firstAllRight_X7_leastFrom
set_option maxRecDepth 20000 in
theorem ggX7_leastFrom_X8_isOpen : GoodIn wsX7_leastFrom wsX8_isOpen := goodIn_r _ [10, 11, 12, 13, 14, 33, 34, 35, 36] (by decide +kernel) (by decide +kernel)
set_option maxRecDepth 20000 in
theorem gX7_leastFrom_X8_isOpen : GoodIn wsX7_leastFrom (wsV RX7 25 RX8 yX8_isOpen wsX8_isOpen) := goodIn_app (goodIn_of _ (by decide +kernel)) ggX7_leastFrom_X8_isOpen
set_option maxRecDepth 20000 in
theorem ggX7_leastFrom_X7_canBeFilled : GoodIn wsX7_leastFrom wsX7_canBeFilled := goodIn_r _ [19, 6, 7, 8, 9, 10, 11, 12, 13, 14, 20, 21, 22, 18, 23, 5, 1, 2, 3, 4, 24, 25, 26, 27, 28, 33, 34, 35, 36, 29, 30, 31, 32] (by decide +kernel) (by decide +kernel)
set_option maxRecDepth 20000 in
theorem gX7_leastFrom_X7_canBeFilled : GoodIn wsX7_leastFrom (wsV RX7 78 RX7 yX7_canBeFilled wsX7_canBeFilled) := goodIn_app (goodIn_of _ (by decide +kernel)) ggX7_leastFrom_X7_canBeFilled
set_option maxRecDepth 20000 in
theorem ggX7_canBeFilled_X8_isOpen : GoodIn wsX7_canBeFilled wsX8_isOpen := goodIn_r _ [5, 6, 7, 8, 9, 25, 26, 27, 28] (by decide +kernel) (by decide +kernel)
set_option maxRecDepth 20000 in
theorem gX7_canBeFilled_X8_isOpen : GoodIn wsX7_canBeFilled (wsV RX7 25 RX8 yX8_isOpen wsX8_isOpen) := goodIn_app (goodIn_of _ (by decide +kernel)) ggX7_canBeFilled_X8_isOpen
set_option maxRecDepth 20000 in
theorem ggX7_canBeFilled_X7_reachedWith : GoodIn wsX7_canBeFilled wsX7_reachedWith := goodIn_r _ [14, 15, 16, 17, 18, 19, 7, 8, 9, 20, 21, 22, 4, 23, 24, 29, 30, 31, 32, 25, 26, 27, 28] (by decide +kernel) (by decide +kernel)
set_option maxRecDepth 20000 in
theorem gX7_canBeFilled_X7_reachedWith : GoodIn wsX7_canBeFilled (wsV RX7 82 RX7 yX7_reachedWith wsX7_reachedWith) := goodIn_app (goodIn_of _ (by decide +kernel)) ggX7_canBeFilled_X7_reachedWith
set_option maxRecDepth 20000 in
theorem ggX7_reachedWith_X10_isNumber : GoodIn wsX7_reachedWith wsX10_isNumber := goodIn_r _ [8] (by decide +kernel) (by decide +kernel)
set_option maxRecDepth 20000 in
theorem gX7_reachedWith_X10_isNumber_n85 : GoodIn wsX7_reachedWith (wsX10_isNumber) := ggX7_reachedWith_X10_isNumber
set_option maxRecDepth 20000 in
theorem ggX7_reachedWith_X8_suits : GoodIn wsX7_reachedWith wsX8_suits := goodIn_r _ [13, 14, 19, 20, 21, 22] (by decide +kernel) (by decide +kernel)
set_option maxRecDepth 20000 in
theorem gX7_reachedWith_X8_suits : GoodIn wsX7_reachedWith (wsV RX7 48 RX8 yX8_suits wsX8_suits) := goodIn_app (goodIn_of _ (by decide +kernel)) ggX7_reachedWith_X8_suits
set_option maxRecDepth 20000 in
theorem ggX8_barredMany_J6_bitCount_0f7a4 : GoodIn wsX8_barredMany wsJ6_bitCount_0f7a4 := goodIn_r _ [5, 6, 7, 8] (by decide +kernel) (by decide +kernel)
set_option maxRecDepth 20000 in
theorem gX8_barredMany_J6_bitCount_0f7a4 : GoodIn wsX8_barredMany (va_wsS RX8 24 yJ6_bitCount_0f7a4 wsJ6_bitCount_0f7a4) := goodIn_app (goodIn_of _ (by decide +kernel)) ggX8_barredMany_J6_bitCount_0f7a4
set_option maxRecDepth 20000 in
theorem ggX8_isOpen_X10_isNumber : GoodIn wsX8_isOpen wsX10_isNumber := goodIn_r _ [4] (by decide +kernel) (by decide +kernel)
set_option maxRecDepth 20000 in
theorem gX8_isOpen_X10_isNumber_n30 : GoodIn wsX8_isOpen (wsX10_isNumber) := ggX8_isOpen_X10_isNumber
set_option maxRecDepth 20000 in
theorem ggX8_openAt_X8_isOpen : GoodIn wsX8_openAt wsX8_isOpen := goodIn_r _ [5, 6, 7, 8, 9, 10, 11, 12, 13] (by decide +kernel) (by decide +kernel)
set_option maxRecDepth 20000 in
theorem gX8_openAt_X8_isOpen : GoodIn wsX8_openAt (wsV RX8 34 RX8 yX8_isOpen wsX8_isOpen) := goodIn_app (goodIn_of _ (by decide +kernel)) ggX8_openAt_X8_isOpen
set_option maxRecDepth 20000 in
theorem ggX8_claim_X8_suits : GoodIn wsX8_claim wsX8_suits := goodIn_r _ [5, 6, 12, 13, 14, 15] (by decide +kernel) (by decide +kernel)
set_option maxRecDepth 20000 in
theorem gX8_claim_X8_suits : GoodIn wsX8_claim (wsV RX8 37 RX8 yX8_suits wsX8_suits) := goodIn_app (goodIn_of _ (by decide +kernel)) ggX8_claim_X8_suits
set_option maxRecDepth 20000 in
theorem ggX8_claim_X8_weight : GoodIn wsX8_claim wsX8_weight := goodIn_r _ [10, 11, 12, 13, 14, 15] (by decide +kernel) (by decide +kernel)
set_option maxRecDepth 20000 in
theorem gX8_claim_X8_weight : GoodIn wsX8_claim (wsV RX8 41 RX8 yX8_weight wsX8_weight) := goodIn_app (goodIn_of _ (by decide +kernel)) ggX8_claim_X8_weight
set_option maxRecDepth 20000 in
theorem ggX8_claims_X8_claim : GoodIn wsX8_claims wsX8_claim := goodIn_r _ [5, 6, 7, 8, 4, 9, 10, 11, 12, 13, 14, 15, 16, 17, 18, 19] (by decide +kernel) (by decide +kernel)
set_option maxRecDepth 20000 in
theorem gX8_claims_X8_claim : GoodIn wsX8_claims (wsV RX8 44 RX8 yX8_claim wsX8_claim) := goodIn_app (goodIn_of _ (by decide +kernel)) ggX8_claims_X8_claim
set_option maxRecDepth 20000 in
theorem ggX8_gain_X8_suits : GoodIn wsX8_gain wsX8_suits := goodIn_r _ [6, 7, 13, 14, 15, 16] (by decide +kernel) (by decide +kernel)
set_option maxRecDepth 20000 in
theorem gX8_gain_X8_suits : GoodIn wsX8_gain (wsV RX8 37 RX8 yX8_suits wsX8_suits) := goodIn_app (goodIn_of _ (by decide +kernel)) ggX8_gain_X8_suits
set_option maxRecDepth 20000 in
theorem ggX8_gain_X8_weight : GoodIn wsX8_gain wsX8_weight := goodIn_r _ [11, 12, 13, 14, 15, 16] (by decide +kernel) (by decide +kernel)
set_option maxRecDepth 20000 in
theorem gX8_gain_X8_weight : GoodIn wsX8_gain (wsV RX8 41 RX8 yX8_weight wsX8_weight) := goodIn_app (goodIn_of _ (by decide +kernel)) ggX8_gain_X8_weight
set_option maxRecDepth 20000 in
theorem ggX8_gainBy_X8_suits : GoodIn wsX8_gainBy wsX8_suits := goodIn_r _ [5, 6, 21, 22, 23, 24] (by decide +kernel) (by decide +kernel)
set_option maxRecDepth 20000 in
theorem gX8_gainBy_X8_suits : GoodIn wsX8_gainBy (wsV RX8 37 RX8 yX8_suits wsX8_suits) := goodIn_app (goodIn_of _ (by decide +kernel)) ggX8_gainBy_X8_suits
set_option maxRecDepth 20000 in
theorem ggX8_gainBy_X8_claim : GoodIn wsX8_gainBy wsX8_claim := goodIn_r _ [10, 1, 2, 3, 4, 5, 6, 11, 12, 13, 14, 15, 21, 22, 23, 24] (by decide +kernel) (by decide +kernel)
set_option maxRecDepth 20000 in
theorem gX8_gainBy_X8_claim : GoodIn wsX8_gainBy (wsV RX8 44 RX8 yX8_claim wsX8_claim) := goodIn_app (goodIn_of _ (by decide +kernel)) ggX8_gainBy_X8_claim
set_option maxRecDepth 20000 in
theorem ggX8_gainBy_X8_gain : GoodIn wsX8_gainBy wsX8_gain := goodIn_r _ [19, 20, 1, 2, 3, 4, 5, 6, 11, 12, 13, 14, 15, 21, 22, 23, 24] (by decide +kernel) (by decide +kernel)
set_option maxRecDepth 20000 in
theorem gX8_gainBy_X8_gain : GoodIn wsX8_gainBy (wsV RX8 48 RX8 yX8_gain wsX8_gain) := goodIn_app (goodIn_of _ (by decide +kernel)) ggX8_gainBy_X8_gain
set_option maxRecDepth 20000 in
theorem ggX8_wanted_X8_others : GoodIn wsX8_wanted wsX8_others := goodIn_r _ [5] (by decide +kernel) (by decide +kernel)
set_option maxRecDepth 20000 in
theorem gX8_wanted_X8_others : GoodIn wsX8_wanted (wsV RX8 52 RX8 yX8_others wsX8_others) := goodIn_app (goodIn_of _ (by decide +kernel)) ggX8_wanted_X8_others
set_option maxRecDepth 20000 in
theorem ggX8_wanted_X8_claims : GoodIn wsX8_wanted wsX8_claims := goodIn_r _ [9, 10, 11, 12, 4, 13, 14, 15, 16, 17, 18, 19, 20, 21, 22, 23, 41, 42, 43, 44] (by decide +kernel) (by decide +kernel)
set_option maxRecDepth 20000 in
theorem gX8_wanted_X8_claims : GoodIn wsX8_wanted (wsV RX8 56 RX8 yX8_claims wsX8_claims) := goodIn_app (goodIn_of _ (by decide +kernel)) ggX8_wanted_X8_claims
set_option maxRecDepth 20000 in
theorem ggX8_wanted_X8_claim : GoodIn wsX8_wanted wsX8_claim := goodIn_r _ [13, 14, 15, 16, 4, 17, 18, 19, 20, 21, 22, 23, 41, 42, 43, 44] (by decide +kernel) (by decide +kernel)
set_option maxRecDepth 20000 in
theorem gX8_wanted_X8_claim : GoodIn wsX8_wanted (wsV RX8 44 RX8 yX8_claim wsX8_claim) := goodIn_app (goodIn_of _ (by decide +kernel)) ggX8_wanted_X8_claim
set_option maxRecDepth 20000 in
theorem ggX8_wanted_X8_gainBy : GoodIn wsX8_wanted wsX8_gainBy := goodIn_r _ [27, 14, 15, 16, 4, 17, 18, 10, 11, 12, 13, 19, 20, 21, 22, 23, 28, 29, 30, 31, 32, 41, 42, 43, 44] (by decide +kernel) (by decide +kernel)
set_option maxRecDepth 20000 in
theorem gX8_wanted_X8_gainBy : GoodIn wsX8_wanted (wsV RX8 60 RX8 yX8_gainBy wsX8_gainBy) := goodIn_app (goodIn_of _ (by decide +kernel)) ggX8_wanted_X8_gainBy
set_option maxRecDepth 20000 in
theorem ggX8_wanted_X8_isOpen : GoodIn wsX8_wanted wsX8_isOpen := goodIn_r _ [36, 37, 38, 39, 40, 41, 42, 43, 44] (by decide +kernel) (by decide +kernel)
set_option maxRecDepth 20000 in
theorem gX8_wanted_X8_isOpen : GoodIn wsX8_wanted (wsV RX8 34 RX8 yX8_isOpen wsX8_isOpen) := goodIn_app (goodIn_of _ (by decide +kernel)) ggX8_wanted_X8_isOpen
set_option maxRecDepth 20000 in
theorem ggX8_areAtRest_X8_wanted : GoodIn wsX8_areAtRest wsX8_wanted := goodIn_r _ [5, 6, 7, 8, 4, 9, 10, 11, 12, 13, 14, 15, 16, 17, 18, 19, 20, 21, 22, 23, 24, 25, 26, 27, 28, 29, 30, 31, 32, 33, 34, 35, 36, 37, 38, 39, 40, 41, 42, 43, 44, 45, 46, 47, 48] (by decide +kernel) (by decide +kernel)
set_option maxRecDepth 20000 in
theorem gX8_areAtRest_X8_wanted : GoodIn wsX8_areAtRest (wsV RX8 63 RX8 yX8_wanted wsX8_wanted) := goodIn_app (goodIn_of _ (by decide +kernel)) ggX8_areAtRest_X8_wanted
set_option maxRecDepth 20000 in
theorem ggX8_corrected_X8_others : GoodIn wsX8_corrected wsX8_others := goodIn_r _ [5] (by decide +kernel) (by decide +kernel)
set_option maxRecDepth 20000 in
theorem gX8_corrected_X8_others : GoodIn wsX8_corrected (wsV RX8 52 RX8 yX8_others wsX8_others) := goodIn_app (goodIn_of _ (by decide +kernel)) ggX8_corrected_X8_others
set_option maxRecDepth 20000 in
theorem ggX8_corrected_X8_suits : GoodIn wsX8_corrected wsX8_suits := goodIn_r _ [9, 10, 19, 20, 21, 22] (by decide +kernel) (by decide +kernel)
set_option maxRecDepth 20000 in
theorem gX8_corrected_X8_suits : GoodIn wsX8_corrected (wsV RX8 37 RX8 yX8_suits wsX8_suits) := goodIn_app (goodIn_of _ (by decide +kernel)) ggX8_corrected_X8_suits
set_option maxRecDepth 20000 in
theorem ggX8_corrected_X8_isOpen : GoodIn wsX8_corrected wsX8_isOpen := goodIn_r _ [14, 15, 16, 17, 18, 19, 20, 21, 22] (by decide +kernel) (by decide +kernel)
set_option maxRecDepth 20000 in
theorem gX8_corrected_X8_isOpen : GoodIn wsX8_corrected (wsV RX8 34 RX8 yX8_isOpen wsX8_isOpen) := goodIn_app (goodIn_of _ (by decide +kernel)) ggX8_corrected_X8_isOpen
set_option maxRecDepth 20000 in
theorem ggX10_init_X9_init : GoodIn wsX10_init wsX9_init := goodIn_r _ [45, 46, 2, 3, 47, 48, 95, 96] (by decide +kernel) (by decide +kernel)
set_option maxRecDepth 20000 in
theorem gX10_init_X9_init_n9 : GoodIn wsX10_init (wsX9_init) := ggX10_init_X9_init
set_option maxRecDepth 20000 in
theorem ggX10_init_X6_init : GoodIn wsX10_init wsX6_init := goodIn_r _ [50, 51, 2, 3, 52, 13, 14, 53, 54, 17, 18, 55, 56, 57, 58, 59, 60, 61, 47, 62, 63, 110, 111, 112, 113, 107, 108, 109, 114, 115, 116] (by decide +kernel) (by decide +kernel)
set_option maxRecDepth 20000 in
theorem gX10_init_X6_init_n18 : GoodIn wsX10_init (wsX6_init) := ggX10_init_X6_init
set_option maxRecDepth 20000 in
theorem ggX10_init_X8_init : GoodIn wsX10_init wsX8_init := goodIn_r _ [57, 58, 2, 3] (by decide +kernel) (by decide +kernel)
set_option maxRecDepth 20000 in
theorem gX10_init_X8_init_n25 : GoodIn wsX10_init (wsX8_init) := ggX10_init_X8_init
set_option maxRecDepth 20000 in
theorem ggX10_init_X5_init : GoodIn wsX10_init wsX5_init := goodIn_r _ [60, 61, 2, 3, 47, 62, 63, 114, 115, 116] (by decide +kernel) (by decide +kernel)
set_option maxRecDepth 20000 in
theorem gX10_init_X5_init_n32 : GoodIn wsX10_init (wsX5_init) := ggX10_init_X5_init
set_option maxRecDepth 20000 in
theorem ggX10_init_X2_init : GoodIn wsX10_init wsX2_init := goodIn_r _ [65, 66, 2, 3, 67, 68, 69, 70, 117, 118, 119] (by decide +kernel) (by decide +kernel)
set_option maxRecDepth 20000 in
theorem gX10_init_X2_init_n39 : GoodIn wsX10_init (wsX2_init) := ggX10_init_X2_init
set_option maxRecDepth 20000 in
theorem ggX10_init_X7_init : GoodIn wsX10_init wsX7_init := goodIn_r _ [72, 73, 2, 3, 67, 74, 47, 75, 76, 77, 120, 121, 122, 123] (by decide +kernel) (by decide +kernel)
set_option maxRecDepth 20000 in
theorem gX10_init_X7_init_n46 : GoodIn wsX10_init (wsX7_init) := ggX10_init_X7_init
set_option maxRecDepth 20000 in
theorem ggX10_init_X0_init : GoodIn wsX10_init wsX0_init := goodIn_r _ [79, 80, 2, 3, 47, 81, 124] (by decide +kernel) (by decide +kernel)
set_option maxRecDepth 20000 in
theorem gX10_init_X0_init_n53 : GoodIn wsX10_init (wsX0_init) := ggX10_init_X0_init
set_option maxRecDepth 20000 in
theorem ggX10_init_X3_init : GoodIn wsX10_init wsX3_init := goodIn_r _ [83, 84, 2, 3, 47, 85, 86, 125, 126] (by decide +kernel) (by decide +kernel)
set_option maxRecDepth 20000 in
theorem gX10_init_X3_init_n60 : GoodIn wsX10_init (wsX3_init) := ggX10_init_X3_init
set_option maxRecDepth 20000 in
theorem ggX10_init_X4_init : GoodIn wsX10_init wsX4_init := goodIn_r _ [88, 89, 2, 3, 47, 90, 127, 128] (by decide +kernel) (by decide +kernel)
set_option maxRecDepth 20000 in
theorem gX10_init_X4_init_n67 : GoodIn wsX10_init (wsX4_init) := ggX10_init_X4_init
set_option maxRecDepth 20000 in
theorem ggX10_init_X1_init : GoodIn wsX10_init wsX1_init := goodIn_r _ [92, 93, 2, 3, 47, 94, 129, 130] (by decide +kernel) (by decide +kernel)
set_option maxRecDepth 20000 in
theorem gX10_init_X1_init_n74 : GoodIn wsX10_init (wsX1_init) := ggX10_init_X1_init
set_option maxRecDepth 20000 in
theorem ggX10_write_X9_length : GoodIn wsX10_write wsX9_length := goodIn_r _ [6, 7, 23, 24] (by decide +kernel) (by decide +kernel)
set_option maxRecDepth 20000 in
theorem gX10_write_X9_length : GoodIn wsX10_write (wsV RX10 79 RX9 yX9_length wsX9_length) := goodIn_app (goodIn_of _ (by decide +kernel)) ggX10_write_X9_length
set_option maxRecDepth 20000 in
theorem ggX10_write_X9_add : GoodIn wsX10_write wsX9_add := goodIn_r _ [11, 7, 12, 23, 24] (by decide +kernel) (by decide +kernel)
set_option maxRecDepth 20000 in
theorem gX10_write_X9_add : GoodIn wsX10_write (wsV RX10 83 RX9 yX9_add wsX9_add) := goodIn_app (goodIn_of _ (by decide +kernel)) ggX10_write_X9_add
set_option maxRecDepth 20000 in
theorem ggX10_wipe_X9_length : GoodIn wsX10_wipe wsX9_length := goodIn_r _ [6, 7, 22, 23] (by decide +kernel) (by decide +kernel)
set_option maxRecDepth 20000 in
theorem gX10_wipe_X9_length : GoodIn wsX10_wipe (wsV RX10 79 RX9 yX9_length wsX9_length) := goodIn_app (goodIn_of _ (by decide +kernel)) ggX10_wipe_X9_length
set_option maxRecDepth 20000 in
theorem ggX10_wipe_X9_clear : GoodIn wsX10_wipe wsX9_clear := goodIn_r _ [11, 7, 22, 23] (by decide +kernel) (by decide +kernel)
set_option maxRecDepth 20000 in
theorem gX10_wipe_X9_clear : GoodIn wsX10_wipe (wsV RX10 87 RX9 yX9_clear wsX9_clear) := goodIn_app (goodIn_of _ (by decide +kernel)) ggX10_wipe_X9_clear
set_option maxRecDepth 20000 in
theorem ggX10_fault_X6_firstFault : GoodIn wsX10_fault wsX6_firstFault := goodIn_r _ [7, 8, 9, 10, 11, 12, 13, 14, 15, 16, 17, 18, 19, 20, 21, 22, 23, 24, 25, 26, 27, 28, 29, 30, 31, 32, 33, 34, 35, 36, 37, 38, 39, 40, 41, 42, 43, 6, 44, 45, 46, 47, 48, 49, 50, 51, 52, 53, 54, 55, 56, 57, 58, 59, 60, 61, 62, 63, 64, 65, 66, 67, 68, 69, 70, 71, 72, 73, 74, 75, 76, 77, 78, 79, 80, 81, 82, 83, 84, 85, 86, 87, 88, 89, 90, 91, 92, 93, 94, 95, 96, 97, 98, 99, 100, 101, 102, 103, 104, 105, 106, 107, 108, 109, 110, 111, 112, 123, 124, 125, 126, 127, 128, 129, 130, 131, 132, 133, 134] (by decide +kernel) (by decide +kernel)
set_option maxRecDepth 20000 in
theorem gX10_fault_X6_firstFault : GoodIn wsX10_fault (wsV RX10 90 RX6 yX6_firstFault wsX6_firstFault) := goodIn_app (goodIn_of _ (by decide +kernel)) ggX10_fault_X6_firstFault
set_option maxRecDepth 20000 in
theorem ggX10_table_X6_firstFault : GoodIn wsX10_table wsX6_firstFault := goodIn_r _ [10, 11, 12, 13, 14, 15, 16, 17, 18, 19, 20, 21, 22, 23, 24, 25, 26, 27, 28, 29, 30, 31, 32, 33, 34, 35, 36, 37, 38, 39, 40, 41, 42, 43, 44, 45, 46, 9, 47, 48, 49, 50, 51, 52, 53, 54, 55, 56, 57, 58, 59, 60, 61, 62, 63, 64, 65, 66, 67, 68, 69, 70, 71, 72, 73, 74, 75, 76, 77, 78, 79, 80, 81, 82, 83, 84, 85, 86, 87, 88, 89, 90, 91, 92, 93, 94, 95, 96, 97, 98, 99, 100, 101, 102, 103, 104, 105, 106, 107, 108, 109, 110, 111, 112, 113, 114, 115, 165, 166, 167, 168, 169, 170, 171, 172, 173, 174, 175, 176] (by decide +kernel) (by decide +kernel)
set_option maxRecDepth 20000 in
theorem gX10_table_X6_firstFault : GoodIn wsX10_table (wsV RX10 90 RX6 yX6_firstFault wsX6_firstFault) := goodIn_app (goodIn_of _ (by decide +kernel)) ggX10_table_X6_firstFault
set_option maxRecDepth 20000 in
theorem ggX10_table_X6_readRules : GoodIn wsX10_table wsX6_readRules := goodIn_r _ [119, 11, 165, 166, 167] (by decide +kernel) (by decide +kernel)
set_option maxRecDepth 20000 in
theorem gX10_table_X6_readRules : GoodIn wsX10_table (wsV RX10 94 RX6 yX6_readRules wsX6_readRules) := goodIn_app (goodIn_of _ (by decide +kernel)) ggX10_table_X6_readRules
set_option maxRecDepth 20000 in
theorem ggX10_table_X8_become : GoodIn wsX10_table wsX8_become := goodIn_r _ [123, 18, 19, 20, 21, 168, 169, 170, 171] (by decide +kernel) (by decide +kernel)
set_option maxRecDepth 20000 in
theorem gX10_table_X8_become : GoodIn wsX10_table (wsV RX10 98 RX8 yX8_become wsX8_become) := goodIn_app (goodIn_of _ (by decide +kernel)) ggX10_table_X8_become
set_option maxRecDepth 20000 in
theorem ggX10_table_X6_readPeople : GoodIn wsX10_table wsX6_readPeople := goodIn_r _ [127, 12, 165, 166, 167] (by decide +kernel) (by decide +kernel)
set_option maxRecDepth 20000 in
theorem gX10_table_X6_readPeople : GoodIn wsX10_table (wsV RX10 102 RX6 yX6_readPeople wsX6_readPeople) := goodIn_app (goodIn_of _ (by decide +kernel)) ggX10_table_X6_readPeople
set_option maxRecDepth 20000 in
theorem ggX10_table_X5_pack : GoodIn wsX10_table wsX5_pack := goodIn_r _ [131, 27, 111, 172, 173, 174] (by decide +kernel) (by decide +kernel)
set_option maxRecDepth 20000 in
theorem gX10_table_X5_pack : GoodIn wsX10_table (wsV RX10 106 RX5 yX5_pack wsX5_pack) := goodIn_app (goodIn_of _ (by decide +kernel)) ggX10_table_X5_pack
set_option maxRecDepth 20000 in
theorem ggX10_table_X5_unpack : GoodIn wsX10_table wsX5_unpack := goodIn_r _ [135, 136, 137, 23, 24, 25, 26, 27, 28, 29, 30, 31, 32, 138, 108, 109, 110, 111, 80, 81, 82, 172, 173, 174] (by decide +kernel) (by decide +kernel)
set_option maxRecDepth 20000 in
theorem gX10_table_X5_unpack : GoodIn wsX10_table (wsV RX10 110 RX5 yX5_unpack wsX5_unpack) := goodIn_app (goodIn_of _ (by decide +kernel)) ggX10_table_X5_unpack
set_option maxRecDepth 20000 in
theorem ggX10_table_X2_dropActs : GoodIn wsX10_table wsX2_dropActs := goodIn_r _ [143, 144, 177, 178, 179] (by decide +kernel) (by decide +kernel)
set_option maxRecDepth 20000 in
theorem gX10_table_X2_dropActs : GoodIn wsX10_table (wsV RX10 114 RX2 yX2_dropActs wsX2_dropActs) := goodIn_app (goodIn_of _ (by decide +kernel)) ggX10_table_X2_dropActs
set_option maxRecDepth 20000 in
theorem ggX10_table_X2_dropSlots : GoodIn wsX10_table wsX2_dropSlots := goodIn_r _ [148, 149, 150, 151, 152, 31, 153, 177, 178, 179] (by decide +kernel) (by decide +kernel)
set_option maxRecDepth 20000 in
theorem gX10_table_X2_dropSlots : GoodIn wsX10_table (wsV RX10 117 RX2 yX2_dropSlots wsX2_dropSlots) := goodIn_app (goodIn_of _ (by decide +kernel)) ggX10_table_X2_dropSlots
set_option maxRecDepth 20000 in
theorem ggX10_table_X5_size : GoodIn wsX10_table wsX5_size := goodIn_r _ [56, 27, 172, 173, 174] (by decide +kernel) (by decide +kernel)
set_option maxRecDepth 20000 in
theorem gX10_table_X5_size : GoodIn wsX10_table (wsV RX10 120 RX5 yX5_size wsX5_size) := goodIn_app (goodIn_of _ (by decide +kernel)) ggX10_table_X5_size
set_option maxRecDepth 20000 in
theorem ggX10_person_X5_has : GoodIn wsX10_person wsX5_has := goodIn_r _ [7, 8, 85, 86, 87] (by decide +kernel) (by decide +kernel)
set_option maxRecDepth 20000 in
theorem gX10_person_X5_has : GoodIn wsX10_person (wsV RX10 123 RX5 yX5_has wsX5_has) := goodIn_app (goodIn_of _ (by decide +kernel)) ggX10_person_X5_has
set_option maxRecDepth 20000 in
theorem ggX10_person_X5_numberOf : GoodIn wsX10_person wsX5_numberOf := goodIn_r _ [12, 13, 14, 4, 5, 6, 7, 8, 85, 86, 87] (by decide +kernel) (by decide +kernel)
set_option maxRecDepth 20000 in
theorem gX10_person_X5_numberOf : GoodIn wsX10_person (wsV RX10 127 RX5 yX5_numberOf wsX5_numberOf) := goodIn_app (goodIn_of _ (by decide +kernel)) ggX10_person_X5_numberOf
set_option maxRecDepth 20000 in
theorem ggX10_person_X5_many : GoodIn wsX10_person wsX5_many := goodIn_r _ [18, 19, 20, 21, 22, 85, 86, 87] (by decide +kernel) (by decide +kernel)
set_option maxRecDepth 20000 in
theorem gX10_person_X5_many : GoodIn wsX10_person (wsV RX10 131 RX5 yX5_many wsX5_many) := goodIn_app (goodIn_of _ (by decide +kernel)) ggX10_person_X5_many
set_option maxRecDepth 20000 in
theorem ggX10_person_X8_suits : GoodIn wsX10_person wsX8_suits := goodIn_r _ [27, 28, 88, 89, 90, 91] (by decide +kernel) (by decide +kernel)
set_option maxRecDepth 20000 in
theorem gX10_person_X8_suits : GoodIn wsX10_person (wsV RX10 134 RX8 yX8_suits wsX8_suits) := goodIn_app (goodIn_of _ (by decide +kernel)) ggX10_person_X8_suits
set_option maxRecDepth 20000 in
theorem ggX10_person_X10_gainOf : GoodIn wsX10_person wsX10_gainOf := goodIn_r _ [32, 1, 2, 9, 10, 11, 6, 12, 13, 14, 4, 5, 7, 8, 15, 16, 17, 18, 19, 20, 21, 22, 33, 34, 35, 36, 37, 38, 39, 26, 40, 41, 42, 43, 44, 45, 24, 25, 27, 28, 46, 47, 48, 49, 50, 51, 52, 53, 54, 55, 75, 76, 77, 78, 79, 80, 81, 82, 83, 84, 85, 86, 87, 88, 89, 90, 91] (by decide +kernel) (by decide +kernel)
set_option maxRecDepth 20000 in
theorem gX10_person_X10_gainOf : GoodIn wsX10_person (wsV RX10 138 RX10 yX10_gainOf wsX10_gainOf) := goodIn_app (goodIn_of _ (by decide +kernel)) ggX10_person_X10_gainOf
set_option maxRecDepth 20000 in
theorem ggX10_person_X5_counts : GoodIn wsX10_person wsX5_counts := goodIn_r _ [36, 19, 85, 86, 87] (by decide +kernel) (by decide +kernel)
set_option maxRecDepth 20000 in
theorem gX10_person_X5_counts : GoodIn wsX10_person (wsV RX10 141 RX5 yX5_counts wsX5_counts) := goodIn_app (goodIn_of _ (by decide +kernel)) ggX10_person_X5_counts
set_option maxRecDepth 20000 in
theorem ggX10_person_X8_wanted : GoodIn wsX10_person wsX8_wanted := goodIn_r _ [59, 60, 61, 62, 26, 63, 64, 38, 39, 40, 41, 42, 43, 44, 45, 24, 25, 27, 28, 46, 47, 48, 49, 50, 65, 66, 67, 68, 69, 52, 53, 54, 55, 70, 71, 72, 73, 74, 20, 21, 22, 88, 89, 90, 91] (by decide +kernel) (by decide +kernel)
set_option maxRecDepth 20000 in
theorem gX10_person_X8_wanted : GoodIn wsX10_person (wsV RX10 145 RX8 yX8_wanted wsX8_wanted) := goodIn_app (goodIn_of _ (by decide +kernel)) ggX10_person_X8_wanted
set_option maxRecDepth 20000 in
theorem ggX10_wrote_X10_isNumber : GoodIn wsX10_wrote wsX10_isNumber := goodIn_r _ [5] (by decide +kernel) (by decide +kernel)
set_option maxRecDepth 20000 in
theorem gX10_wrote_X10_isNumber : GoodIn wsX10_wrote (va_wsS RX10 149 yX10_isNumber wsX10_isNumber) := goodIn_app (goodIn_of _ (by decide +kernel)) ggX10_wrote_X10_isNumber
set_option maxRecDepth 20000 in
theorem ggX10_wrote_X5_many : GoodIn wsX10_wrote wsX5_many := goodIn_r _ [10, 11, 3, 4, 5, 22, 23, 24] (by decide +kernel) (by decide +kernel)
set_option maxRecDepth 20000 in
theorem gX10_wrote_X5_many : GoodIn wsX10_wrote (wsV RX10 131 RX5 yX5_many wsX5_many) := goodIn_app (goodIn_of _ (by decide +kernel)) ggX10_wrote_X5_many
set_option maxRecDepth 20000 in
theorem ggX10_slip_X5_has : GoodIn wsX10_slip wsX5_has := goodIn_r _ [7, 8, 60, 61, 62] (by decide +kernel) (by decide +kernel)
set_option maxRecDepth 20000 in
theorem gX10_slip_X5_has : GoodIn wsX10_slip (wsV RX10 123 RX5 yX5_has wsX5_has) := goodIn_app (goodIn_of _ (by decide +kernel)) ggX10_slip_X5_has
set_option maxRecDepth 20000 in
theorem ggX10_slip_X10_refusalOfNumber : GoodIn wsX10_slip wsX10_refusalOfNumber := goodIn_r _ [13, 14, 15, 16, 12, 17, 18, 19, 20, 21, 22, 23, 50, 51, 52, 53, 54, 55, 56, 57, 58, 59, 63, 64, 65, 66] (by decide +kernel) (by decide +kernel)
set_option maxRecDepth 20000 in
theorem gX10_slip_X10_refusalOfNumber : GoodIn wsX10_slip (wsV RX10 152 RX10 yX10_refusalOfNumber wsX10_refusalOfNumber) := goodIn_app (goodIn_of _ (by decide +kernel)) ggX10_slip_X10_refusalOfNumber
set_option maxRecDepth 20000 in
theorem ggX10_slip_X5_numberOf : GoodIn wsX10_slip wsX5_numberOf := goodIn_r _ [27, 28, 29, 4, 5, 6, 7, 8, 60, 61, 62] (by decide +kernel) (by decide +kernel)
set_option maxRecDepth 20000 in
theorem gX10_slip_X5_numberOf : GoodIn wsX10_slip (wsV RX10 127 RX5 yX5_numberOf wsX5_numberOf) := goodIn_app (goodIn_of _ (by decide +kernel)) ggX10_slip_X5_numberOf
set_option maxRecDepth 20000 in
theorem ggX10_slip_X5_pack : GoodIn wsX10_slip wsX5_pack := goodIn_r _ [33, 8, 28, 60, 61, 62] (by decide +kernel) (by decide +kernel)
set_option maxRecDepth 20000 in
theorem gX10_slip_X5_pack : GoodIn wsX10_slip (wsV RX10 106 RX5 yX5_pack wsX5_pack) := goodIn_app (goodIn_of _ (by decide +kernel)) ggX10_slip_X5_pack
set_option maxRecDepth 20000 in
theorem ggX10_slip_X2_addAct : GoodIn wsX10_slip wsX2_addAct := goodIn_r _ [38, 39, 40, 41, 42, 43, 44, 67, 68, 69] (by decide +kernel) (by decide +kernel)
set_option maxRecDepth 20000 in
theorem gX10_slip_X2_addAct : GoodIn wsX10_slip (wsV RX10 155 RX2 yX2_addAct wsX2_addAct) := goodIn_app (goodIn_of _ (by decide +kernel)) ggX10_slip_X2_addAct
set_option maxRecDepth 20000 in
theorem ggX10_slip_X5_rewrite : GoodIn wsX10_slip wsX5_rewrite := goodIn_r _ [48, 49, 28, 29, 4, 5, 6, 7, 8, 16, 12, 17, 60, 61, 62] (by decide +kernel) (by decide +kernel)
set_option maxRecDepth 20000 in
theorem gX10_slip_X5_rewrite : GoodIn wsX10_slip (wsV RX10 158 RX5 yX5_rewrite wsX5_rewrite) := goodIn_app (goodIn_of _ (by decide +kernel)) ggX10_slip_X5_rewrite
set_option maxRecDepth 20000 in
theorem ggX10_come_X10_refusalOfNumber : GoodIn wsX10_come wsX10_refusalOfNumber := goodIn_r _ [7, 8, 9, 10, 6, 11, 12, 13, 14, 15, 16, 17, 45, 46, 47, 48, 49, 50, 51, 52, 53, 54, 55, 56, 57, 58] (by decide +kernel) (by decide +kernel)
set_option maxRecDepth 20000 in
theorem gX10_come_X10_refusalOfNumber : GoodIn wsX10_come (wsV RX10 152 RX10 yX10_refusalOfNumber wsX10_refusalOfNumber) := goodIn_app (goodIn_of _ (by decide +kernel)) ggX10_come_X10_refusalOfNumber
set_option maxRecDepth 20000 in
theorem ggX10_come_X5_size : GoodIn wsX10_come wsX5_size := goodIn_r _ [22, 23, 59, 60, 61] (by decide +kernel) (by decide +kernel)
set_option maxRecDepth 20000 in
theorem gX10_come_X5_size : GoodIn wsX10_come (wsV RX10 120 RX5 yX5_size wsX5_size) := goodIn_app (goodIn_of _ (by decide +kernel)) ggX10_come_X5_size
set_option maxRecDepth 20000 in
theorem ggX10_come_X5_pack : GoodIn wsX10_come wsX5_pack := goodIn_r _ [27, 23, 28, 59, 60, 61] (by decide +kernel) (by decide +kernel)
set_option maxRecDepth 20000 in
theorem gX10_come_X5_pack : GoodIn wsX10_come (wsV RX10 106 RX5 yX5_pack wsX5_pack) := goodIn_app (goodIn_of _ (by decide +kernel)) ggX10_come_X5_pack
set_option maxRecDepth 20000 in
theorem ggX10_come_X2_addAct : GoodIn wsX10_come wsX2_addAct := goodIn_r _ [33, 34, 35, 36, 37, 38, 39, 62, 63, 64] (by decide +kernel) (by decide +kernel)
set_option maxRecDepth 20000 in
theorem gX10_come_X2_addAct : GoodIn wsX10_come (wsV RX10 155 RX2 yX2_addAct wsX2_addAct) := goodIn_app (goodIn_of _ (by decide +kernel)) ggX10_come_X2_addAct
set_option maxRecDepth 20000 in
theorem ggX10_come_X5_add : GoodIn wsX10_come wsX5_add := goodIn_r _ [43, 23, 28, 44, 10, 6, 11, 59, 60, 61] (by decide +kernel) (by decide +kernel)
set_option maxRecDepth 20000 in
theorem gX10_come_X5_add : GoodIn wsX10_come (wsV RX10 162 RX5 yX5_add wsX5_add) := goodIn_app (goodIn_of _ (by decide +kernel)) ggX10_come_X5_add
set_option maxRecDepth 20000 in
theorem ggX10_leave_X5_has : GoodIn wsX10_leave wsX5_has := goodIn_r _ [7, 8, 45, 46, 47] (by decide +kernel) (by decide +kernel)
set_option maxRecDepth 20000 in
theorem gX10_leave_X5_has : GoodIn wsX10_leave (wsV RX10 123 RX5 yX5_has wsX5_has) := goodIn_app (goodIn_of _ (by decide +kernel)) ggX10_leave_X5_has
set_option maxRecDepth 20000 in
theorem ggX10_leave_X5_numberOf : GoodIn wsX10_leave wsX5_numberOf := goodIn_r _ [12, 13, 14, 4, 5, 6, 7, 8, 45, 46, 47] (by decide +kernel) (by decide +kernel)
set_option maxRecDepth 20000 in
theorem gX10_leave_X5_numberOf : GoodIn wsX10_leave (wsV RX10 127 RX5 yX5_numberOf wsX5_numberOf) := goodIn_app (goodIn_of _ (by decide +kernel)) ggX10_leave_X5_numberOf
set_option maxRecDepth 20000 in
theorem ggX10_leave_X5_pack : GoodIn wsX10_leave wsX5_pack := goodIn_r _ [18, 8, 13, 45, 46, 47] (by decide +kernel) (by decide +kernel)
set_option maxRecDepth 20000 in
theorem gX10_leave_X5_pack : GoodIn wsX10_leave (wsV RX10 106 RX5 yX5_pack wsX5_pack) := goodIn_app (goodIn_of _ (by decide +kernel)) ggX10_leave_X5_pack
set_option maxRecDepth 20000 in
theorem ggX10_leave_X2_addAct : GoodIn wsX10_leave wsX2_addAct := goodIn_r _ [23, 24, 25, 26, 27, 28, 29, 48, 49, 50] (by decide +kernel) (by decide +kernel)
set_option maxRecDepth 20000 in
theorem gX10_leave_X2_addAct : GoodIn wsX10_leave (wsV RX10 155 RX2 yX2_addAct wsX2_addAct) := goodIn_app (goodIn_of _ (by decide +kernel)) ggX10_leave_X2_addAct
set_option maxRecDepth 20000 in
theorem ggX10_leave_X5_drop : GoodIn wsX10_leave wsX5_drop := goodIn_r _ [33, 34, 13, 8, 14, 4, 5, 6, 7, 45, 46, 47] (by decide +kernel) (by decide +kernel)
set_option maxRecDepth 20000 in
theorem gX10_leave_X5_drop : GoodIn wsX10_leave (wsV RX10 165 RX5 yX5_drop wsX5_drop) := goodIn_app (goodIn_of _ (by decide +kernel)) ggX10_leave_X5_drop
set_option maxRecDepth 20000 in
theorem ggX10_round_X5_pack : GoodIn wsX10_round wsX5_pack := goodIn_r _ [9, 10, 11, 83, 84, 85] (by decide +kernel) (by decide +kernel)
set_option maxRecDepth 20000 in
theorem gX10_round_X5_pack : GoodIn wsX10_round (wsV RX10 106 RX5 yX5_pack wsX5_pack) := goodIn_app (goodIn_of _ (by decide +kernel)) ggX10_round_X5_pack
set_option maxRecDepth 20000 in
theorem ggX10_round_X2_addAct : GoodIn wsX10_round wsX2_addAct := goodIn_r _ [16, 17, 18, 19, 20, 21, 22, 86, 87, 88] (by decide +kernel) (by decide +kernel)
set_option maxRecDepth 20000 in
theorem gX10_round_X2_addAct : GoodIn wsX10_round (wsV RX10 155 RX2 yX2_addAct wsX2_addAct) := goodIn_app (goodIn_of _ (by decide +kernel)) ggX10_round_X2_addAct
set_option maxRecDepth 20000 in
theorem ggX10_round_X3_correct : GoodIn wsX10_round wsX3_correct := goodIn_r _ [27, 28, 29, 20, 21, 22, 30, 31, 32, 8, 33, 34, 35, 36, 37, 38, 10, 39, 40, 41, 42, 11, 43, 44, 45, 46, 47, 48, 49, 50, 51, 52, 53, 54, 55, 56, 57, 58, 59, 60, 61, 62, 63, 64, 65, 66, 67, 68, 69, 70, 71, 72, 89, 90, 83, 84, 85, 91, 92, 93, 94] (by decide +kernel) (by decide +kernel)
set_option maxRecDepth 20000 in
theorem gX10_round_X3_correct : GoodIn wsX10_round (wsV RX10 168 RX3 yX3_correct wsX3_correct) := goodIn_app (goodIn_of _ (by decide +kernel)) ggX10_round_X3_correct
set_option maxRecDepth 20000 in
theorem ggX10_undo_X2_acts : GoodIn wsX10_undo wsX2_acts := goodIn_r _ [7, 8, 48, 49, 50] (by decide +kernel) (by decide +kernel)
set_option maxRecDepth 20000 in
theorem gX10_undo_X2_acts : GoodIn wsX10_undo (wsV RX10 172 RX2 yX2_acts wsX2_acts) := goodIn_app (goodIn_of _ (by decide +kernel)) ggX10_undo_X2_acts
set_option maxRecDepth 20000 in
theorem ggX10_undo_X2_takeAct : GoodIn wsX10_undo wsX2_takeAct := goodIn_r _ [12, 8, 13, 48, 49, 50] (by decide +kernel) (by decide +kernel)
set_option maxRecDepth 20000 in
theorem gX10_undo_X2_takeAct : GoodIn wsX10_undo (wsV RX10 175 RX2 yX2_takeAct wsX2_takeAct) := goodIn_app (goodIn_of _ (by decide +kernel)) ggX10_undo_X2_takeAct
set_option maxRecDepth 20000 in
theorem ggX10_undo_X5_unpack : GoodIn wsX10_undo wsX5_unpack := goodIn_r _ [18, 19, 20, 21, 22, 17, 23, 24, 25, 26, 27, 28, 29, 30, 31, 32, 33, 34, 35, 36, 37, 51, 52, 53] (by decide +kernel) (by decide +kernel)
set_option maxRecDepth 20000 in
theorem gX10_undo_X5_unpack : GoodIn wsX10_undo (wsV RX10 110 RX5 yX5_unpack wsX5_unpack) := goodIn_app (goodIn_of _ (by decide +kernel)) ggX10_undo_X5_unpack
set_option maxRecDepth 20000 in
theorem ggX10_settled_X5_counts : GoodIn wsX10_settled wsX5_counts := goodIn_r _ [8, 9, 61, 62, 63] (by decide +kernel) (by decide +kernel)
set_option maxRecDepth 20000 in
theorem gX10_settled_X5_counts : GoodIn wsX10_settled (wsV RX10 141 RX5 yX5_counts wsX5_counts) := goodIn_app (goodIn_of _ (by decide +kernel)) ggX10_settled_X5_counts
set_option maxRecDepth 20000 in
theorem ggX10_settled_X3_roundsTillRest : GoodIn wsX10_settled wsX3_roundsTillRest := goodIn_r _ [14, 15, 16, 17, 18, 19, 20, 21, 22, 23, 13, 24, 25, 26, 27, 28, 29, 30, 31, 32, 33, 34, 35, 36, 37, 38, 39, 40, 41, 42, 43, 44, 45, 46, 47, 48, 49, 50, 64, 65, 66, 67, 68, 69] (by decide +kernel) (by decide +kernel)
set_option maxRecDepth 20000 in
theorem gX10_settled_X3_roundsTillRest : GoodIn wsX10_settled (wsV RX10 178 RX3 yX3_roundsTillRest wsX3_roundsTillRest) := goodIn_app (goodIn_of _ (by decide +kernel)) ggX10_settled_X3_roundsTillRest
set_option maxRecDepth 20000 in
theorem ggX10_ways_X10_isCrowd : GoodIn wsX10_ways wsX10_isCrowd := goodIn_r _ [6] (by decide +kernel) (by decide +kernel)
set_option maxRecDepth 20000 in
theorem gX10_ways_X10_isCrowd : GoodIn wsX10_ways (va_wsS RX10 182 yX10_isCrowd wsX10_isCrowd) := goodIn_app (goodIn_of _ (by decide +kernel)) ggX10_ways_X10_isCrowd
set_option maxRecDepth 20000 in
theorem ggX10_ways_X7_allRightRows : GoodIn wsX10_ways wsX7_allRightRows := goodIn_r _ [11, 12, 13, 14, 15, 16, 17, 18, 19, 5, 20, 21, 22, 23, 10, 24, 25, 4, 6, 26, 27, 28, 29, 30, 31, 32, 33, 34, 35, 36, 37, 38, 49, 50, 51, 52, 53, 54, 55, 56] (by decide +kernel) (by decide +kernel)
set_option maxRecDepth 20000 in
theorem gX10_ways_X7_allRightRows : GoodIn wsX10_ways (wsV RX10 185 RX7 yX7_allRightRows wsX7_allRightRows) := goodIn_app (goodIn_of _ (by decide +kernel)) ggX10_ways_X7_allRightRows
set_option maxRecDepth 20000 in
theorem ggX10_wrong_X10_isCrowd : GoodIn wsX10_wrong wsX10_isCrowd := goodIn_r _ [6] (by decide +kernel) (by decide +kernel)
set_option maxRecDepth 20000 in
theorem gX10_wrong_X10_isCrowd : GoodIn wsX10_wrong (va_wsS RX10 182 yX10_isCrowd wsX10_isCrowd) := goodIn_app (goodIn_of _ (by decide +kernel)) ggX10_wrong_X10_isCrowd
set_option maxRecDepth 20000 in
theorem ggX10_wrong_X7_fewestNotRight : GoodIn wsX10_wrong wsX7_fewestNotRight := goodIn_r _ [11, 12, 4, 5, 6, 13, 14, 15, 10, 16, 17, 18, 19, 20, 21, 22, 23, 24, 25, 26, 27, 28, 29, 30, 31, 32, 33, 34, 35, 36, 37, 38, 39, 40, 41, 52, 53, 54, 55, 56, 57, 58, 59] (by decide +kernel) (by decide +kernel)
set_option maxRecDepth 20000 in
theorem gX10_wrong_X7_fewestNotRight : GoodIn wsX10_wrong (wsV RX10 189 RX7 yX7_fewestNotRight wsX7_fewestNotRight) := goodIn_app (goodIn_of _ (by decide +kernel)) ggX10_wrong_X7_fewestNotRight
set_option maxRecDepth 20000 in
theorem ggX10_agreed_X5_has : GoodIn wsX10_agreed wsX5_has := goodIn_r _ [8, 9, 64, 65, 66] (by decide +kernel) (by decide +kernel)
set_option maxRecDepth 20000 in
theorem gX10_agreed_X5_has : GoodIn wsX10_agreed (wsV RX10 123 RX5 yX5_has wsX5_has) := goodIn_app (goodIn_of _ (by decide +kernel)) ggX10_agreed_X5_has
set_option maxRecDepth 20000 in
theorem ggX10_agreed_X5_size : GoodIn wsX10_agreed wsX5_size := goodIn_r _ [13, 9, 64, 65, 66] (by decide +kernel) (by decide +kernel)
set_option maxRecDepth 20000 in
theorem gX10_agreed_X5_size : GoodIn wsX10_agreed (wsV RX10 120 RX5 yX5_size wsX5_size) := goodIn_app (goodIn_of _ (by decide +kernel)) ggX10_agreed_X5_size
set_option maxRecDepth 20000 in
theorem ggX10_agreed_X7_firstAllRight : GoodIn wsX10_agreed wsX7_firstAllRight := goodIn_r _ [18, 19, 20, 21, 22, 23, 24, 25, 26, 17, 27, 28, 29, 30, 31, 32, 33, 34, 35, 36, 37, 38, 39, 40, 41, 42, 43, 44, 45, 46, 47, 48, 49, 50, 51, 52, 53, 67, 68, 69, 70, 71, 72, 73, 74] (by decide +kernel) (by decide +kernel)
set_option maxRecDepth 20000 in
theorem gX10_agreed_X7_firstAllRight : GoodIn wsX10_agreed (wsV RX10 192 RX7 yX7_firstAllRight wsX7_firstAllRight) := goodIn_app (goodIn_of _ (by decide +kernel)) ggX10_agreed_X7_firstAllRight
set_option maxRecDepth 20000 in
theorem ggX10_late_X5_size : GoodIn wsX10_late wsX5_size := goodIn_r _ [8, 9, 64, 65, 66] (by decide +kernel) (by decide +kernel)
set_option maxRecDepth 20000 in
theorem gX10_late_X5_size : GoodIn wsX10_late (wsV RX10 120 RX5 yX5_size wsX5_size) := goodIn_app (goodIn_of _ (by decide +kernel)) ggX10_late_X5_size
set_option maxRecDepth 20000 in
theorem ggX10_late_X5_counts : GoodIn wsX10_late wsX5_counts := goodIn_r _ [13, 14, 64, 65, 66] (by decide +kernel) (by decide +kernel)
set_option maxRecDepth 20000 in
theorem gX10_late_X5_counts : GoodIn wsX10_late (wsV RX10 141 RX5 yX5_counts wsX5_counts) := goodIn_app (goodIn_of _ (by decide +kernel)) ggX10_late_X5_counts
set_option maxRecDepth 20000 in
theorem ggX10_late_X7_fewestAnew : GoodIn wsX10_late wsX7_fewestAnew := goodIn_r _ [19, 20, 21, 22, 23, 18, 24, 25, 26, 27, 28, 29, 30, 31, 32, 33, 34, 35, 36, 37, 38, 39, 40, 41, 42, 43, 44, 45, 46, 47, 48, 49, 50, 51, 52, 53, 67, 68, 69, 70, 71, 72, 73, 74] (by decide +kernel) (by decide +kernel)
set_option maxRecDepth 20000 in
theorem gX10_late_X7_fewestAnew : GoodIn wsX10_late (wsV RX10 196 RX7 yX7_fewestAnew wsX7_fewestAnew) := goodIn_app (goodIn_of _ (by decide +kernel)) ggX10_late_X7_fewestAnew
set_option maxRecDepth 20000 in
theorem ggX10_tenths_X10_isNumber : GoodIn wsX10_tenths wsX10_isNumber := goodIn_r _ [5] (by decide +kernel) (by decide +kernel)
set_option maxRecDepth 20000 in
theorem gX10_tenths_X10_isNumber : GoodIn wsX10_tenths (va_wsS RX10 149 yX10_isNumber wsX10_isNumber) := goodIn_app (goodIn_of _ (by decide +kernel)) ggX10_tenths_X10_isNumber
set_option maxRecDepth 20000 in
theorem ggX10_tenths_X0_put : GoodIn wsX10_tenths wsX0_put := goodIn_r _ [10, 11, 3, 4, 5, 22] (by decide +kernel) (by decide +kernel)
set_option maxRecDepth 20000 in
theorem gX10_tenths_X0_put : GoodIn wsX10_tenths (wsV RX10 200 RX0 yX0_put wsX0_put) := goodIn_app (goodIn_of _ (by decide +kernel)) ggX10_tenths_X0_put
set_option maxRecDepth 20000 in
theorem ggX10_allRight_X10_refusalOfChances : GoodIn wsX10_allRight wsX10_refusalOfChances := goodIn_r _ [9, 3, 10, 11, 8, 12, 13, 14, 15, 16, 17, 18, 53, 54, 55, 56, 57, 58, 59, 60, 61, 62, 63] (by decide +kernel) (by decide +kernel)
set_option maxRecDepth 20000 in
theorem gX10_allRight_X10_refusalOfChances : GoodIn wsX10_allRight (wsV RX10 204 RX10 yX10_refusalOfChances wsX10_refusalOfChances) := goodIn_app (goodIn_of _ (by decide +kernel)) ggX10_allRight_X10_refusalOfChances
set_option maxRecDepth 20000 in
theorem ggX10_allRight_X0_weights : GoodIn wsX10_allRight wsX0_weights := goodIn_r _ [22, 18, 63] (by decide +kernel) (by decide +kernel)
set_option maxRecDepth 20000 in
theorem gX10_allRight_X0_weights : GoodIn wsX10_allRight (wsV RX10 207 RX0 yX0_weights wsX0_weights) := goodIn_app (goodIn_of _ (by decide +kernel)) ggX10_allRight_X0_weights
set_option maxRecDepth 20000 in
theorem ggX10_allRight_X7_weighted : GoodIn wsX10_allRight wsX7_weighted := goodIn_r _ [27, 28, 11, 8, 12, 29, 30, 31, 32, 33, 34, 35, 26, 36, 37, 38, 39, 40, 41, 42, 64, 65, 66, 67, 68, 69, 70, 71] (by decide +kernel) (by decide +kernel)
set_option maxRecDepth 20000 in
theorem gX10_allRight_X7_weighted : GoodIn wsX10_allRight (wsV RX10 210 RX7 yX7_weighted wsX7_weighted) := goodIn_app (goodIn_of _ (by decide +kernel)) ggX10_allRight_X7_weighted
set_option maxRecDepth 20000 in
theorem ggX10_allRight_X10_power : GoodIn wsX10_allRight wsX10_power := goodIn_r _ [45] (by decide +kernel) (by decide +kernel)
set_option maxRecDepth 20000 in
theorem gX10_allRight_X10_power : GoodIn wsX10_allRight (va_wsS RX10 216 yX10_power wsX10_power) := goodIn_app (goodIn_of _ (by decide +kernel)) ggX10_allRight_X10_power
set_option maxRecDepth 20000 in
theorem ggX10_allRight_X10_leastTerms : GoodIn wsX10_allRight wsX10_leastTerms := goodIn_r _ [48, 49, 50, 51, 8, 52] (by decide +kernel) (by decide +kernel)
set_option maxRecDepth 20000 in
theorem gX10_allRight_X10_leastTerms : GoodIn wsX10_allRight (va_wsS RX10 220 yX10_leastTerms wsX10_leastTerms) := goodIn_app (goodIn_of _ (by decide +kernel)) ggX10_allRight_X10_leastTerms
set_option maxRecDepth 20000 in
theorem ggX10_mean_X10_refusalOfChances : GoodIn wsX10_mean wsX10_refusalOfChances := goodIn_r _ [8, 1, 9, 10, 7, 11, 12, 13, 14, 15, 16, 17, 43, 44, 45, 46, 47, 48, 49, 50, 51, 52, 53] (by decide +kernel) (by decide +kernel)
set_option maxRecDepth 20000 in
theorem gX10_mean_X10_refusalOfChances : GoodIn wsX10_mean (wsV RX10 204 RX10 yX10_refusalOfChances wsX10_refusalOfChances) := goodIn_app (goodIn_of _ (by decide +kernel)) ggX10_mean_X10_refusalOfChances
set_option maxRecDepth 20000 in
theorem ggX10_mean_X0_rightTogether : GoodIn wsX10_mean wsX0_rightTogether := goodIn_r _ [21, 17, 22, 23, 24, 25, 26, 27, 28, 29, 15, 30, 31, 7, 32, 33, 34, 53, 54, 55, 56, 57] (by decide +kernel) (by decide +kernel)
set_option maxRecDepth 20000 in
theorem gX10_mean_X0_rightTogether : GoodIn wsX10_mean (wsV RX10 224 RX0 yX0_rightTogether wsX0_rightTogether) := goodIn_app (goodIn_of _ (by decide +kernel)) ggX10_mean_X0_rightTogether
set_option maxRecDepth 20000 in
theorem ggX10_mean_X10_power : GoodIn wsX10_mean wsX10_power := goodIn_r _ [34] (by decide +kernel) (by decide +kernel)
set_option maxRecDepth 20000 in
theorem gX10_mean_X10_power : GoodIn wsX10_mean (va_wsS RX10 216 yX10_power wsX10_power) := goodIn_app (goodIn_of _ (by decide +kernel)) ggX10_mean_X10_power
set_option maxRecDepth 20000 in
theorem ggX10_mean_X10_leastTerms : GoodIn wsX10_mean wsX10_leastTerms := goodIn_r _ [38, 39, 40, 41, 7, 42] (by decide +kernel) (by decide +kernel)
set_option maxRecDepth 20000 in
theorem gX10_mean_X10_leastTerms : GoodIn wsX10_mean (va_wsS RX10 220 yX10_leastTerms wsX10_leastTerms) := goodIn_app (goodIn_of _ (by decide +kernel)) ggX10_mean_X10_leastTerms
set_option maxRecDepth 20000 in
theorem ggX10_forget_X5_has : GoodIn wsX10_forget wsX5_has := goodIn_r _ [11, 12, 63, 64, 65] (by decide +kernel) (by decide +kernel)
set_option maxRecDepth 20000 in
theorem gX10_forget_X5_has : GoodIn wsX10_forget (wsV RX10 123 RX5 yX5_has wsX5_has) := goodIn_app (goodIn_of _ (by decide +kernel)) ggX10_forget_X5_has
set_option maxRecDepth 20000 in
theorem ggX10_forget_X5_numberOf : GoodIn wsX10_forget wsX5_numberOf := goodIn_r _ [16, 17, 18, 8, 9, 10, 11, 12, 63, 64, 65] (by decide +kernel) (by decide +kernel)
set_option maxRecDepth 20000 in
theorem gX10_forget_X5_numberOf : GoodIn wsX10_forget (wsV RX10 127 RX5 yX5_numberOf wsX5_numberOf) := goodIn_app (goodIn_of _ (by decide +kernel)) ggX10_forget_X5_numberOf
set_option maxRecDepth 20000 in
theorem ggX10_forget_X5_many : GoodIn wsX10_forget wsX5_many := goodIn_r _ [22, 23, 24, 25, 26, 63, 64, 65] (by decide +kernel) (by decide +kernel)
set_option maxRecDepth 20000 in
theorem gX10_forget_X5_many : GoodIn wsX10_forget (wsV RX10 131 RX5 yX5_many wsX5_many) := goodIn_app (goodIn_of _ (by decide +kernel)) ggX10_forget_X5_many
set_option maxRecDepth 20000 in
theorem ggX10_forget_X0_rightThoughForgetting : GoodIn wsX10_forget wsX0_rightThoughForgetting := goodIn_r _ [31, 32, 33, 34, 35, 36, 37, 38, 39, 30, 40, 41, 25, 42, 43, 44, 66, 67, 68, 69] (by decide +kernel) (by decide +kernel)
set_option maxRecDepth 20000 in
theorem gX10_forget_X0_rightThoughForgetting : GoodIn wsX10_forget (wsV RX10 232 RX0 yX0_rightThoughForgetting wsX0_rightThoughForgetting) := goodIn_app (goodIn_of _ (by decide +kernel)) ggX10_forget_X0_rightThoughForgetting
set_option maxRecDepth 20000 in
theorem ggX10_forget_X10_power : GoodIn wsX10_forget wsX10_power := goodIn_r _ [44] (by decide +kernel) (by decide +kernel)
set_option maxRecDepth 20000 in
theorem gX10_forget_X10_power : GoodIn wsX10_forget (va_wsS RX10 216 yX10_power wsX10_power) := goodIn_app (goodIn_of _ (by decide +kernel)) ggX10_forget_X10_power
set_option maxRecDepth 20000 in
theorem ggX10_forget_X10_leastTerms : GoodIn wsX10_forget wsX10_leastTerms := goodIn_r _ [48, 49, 50, 51, 25, 52] (by decide +kernel) (by decide +kernel)
set_option maxRecDepth 20000 in
theorem gX10_forget_X10_leastTerms : GoodIn wsX10_forget (va_wsS RX10 220 yX10_leastTerms wsX10_leastTerms) := goodIn_app (goodIn_of _ (by decide +kernel)) ggX10_forget_X10_leastTerms
set_option maxRecDepth 20000 in
theorem ggX10_rests_X3_rowsAtRest : GoodIn wsX10_rests wsX3_rowsAtRest := goodIn_r _ [7, 8, 9, 10, 11, 12, 13, 14, 6, 15, 16, 17, 18, 19, 20, 21, 22, 23, 24, 25, 26, 27, 28, 29, 30, 31, 32, 33, 34, 35, 36, 37, 38, 39, 40, 41, 42, 43, 44, 45, 46, 47, 48, 49, 50, 51, 52, 53, 54, 55, 56, 57, 58, 59, 60, 61, 62, 63, 64, 65, 66, 77, 78, 79, 80, 81, 82] (by decide +kernel) (by decide +kernel)
set_option maxRecDepth 20000 in
theorem gX10_rests_X3_rowsAtRest : GoodIn wsX10_rests (wsV RX10 236 RX3 yX3_rowsAtRest wsX3_rowsAtRest) := goodIn_app (goodIn_of _ (by decide +kernel)) ggX10_rests_X3_rowsAtRest
set_option maxRecDepth 20000 in
theorem ggX10_pay_X4_told : GoodIn wsX10_pay wsX4_told := goodIn_r _ [6, 7, 23, 24] (by decide +kernel) (by decide +kernel)
set_option maxRecDepth 20000 in
theorem gX10_pay_X4_told : GoodIn wsX10_pay (wsV RX10 239 RX4 yX4_told wsX4_told) := goodIn_app (goodIn_of _ (by decide +kernel)) ggX10_pay_X4_told
set_option maxRecDepth 20000 in
theorem ggX10_pay_X4_tell : GoodIn wsX10_pay wsX4_tell := goodIn_r _ [11, 12, 7, 23, 24] (by decide +kernel) (by decide +kernel)
set_option maxRecDepth 20000 in
theorem gX10_pay_X4_tell : GoodIn wsX10_pay (wsV RX10 242 RX4 yX4_tell wsX4_tell) := goodIn_app (goodIn_of _ (by decide +kernel)) ggX10_pay_X4_tell
set_option maxRecDepth 20000 in
theorem ggX10_unpay_X4_told : GoodIn wsX10_unpay wsX4_told := goodIn_r _ [6, 7, 27, 28] (by decide +kernel) (by decide +kernel)
set_option maxRecDepth 20000 in
theorem gX10_unpay_X4_told : GoodIn wsX10_unpay (wsV RX10 239 RX4 yX4_told wsX4_told) := goodIn_app (goodIn_of _ (by decide +kernel)) ggX10_unpay_X4_told
set_option maxRecDepth 20000 in
theorem ggX10_unpay_X4_clear : GoodIn wsX10_unpay wsX4_clear := goodIn_r _ [11, 12, 7, 13, 14, 15, 16, 27, 28] (by decide +kernel) (by decide +kernel)
set_option maxRecDepth 20000 in
theorem gX10_unpay_X4_clear : GoodIn wsX10_unpay (wsV RX10 245 RX4 yX4_clear wsX4_clear) := goodIn_app (goodIn_of _ (by decide +kernel)) ggX10_unpay_X4_clear
set_option maxRecDepth 20000 in
theorem ggX10_cheated_X5_size : GoodIn wsX10_cheated wsX5_size := goodIn_r _ [7, 8, 75, 76, 77] (by decide +kernel) (by decide +kernel)
set_option maxRecDepth 20000 in
theorem gX10_cheated_X5_size : GoodIn wsX10_cheated (wsV RX10 120 RX5 yX5_size wsX5_size) := goodIn_app (goodIn_of _ (by decide +kernel)) ggX10_cheated_X5_size
set_option maxRecDepth 20000 in
theorem ggX10_cheated_X10_gainOf : GoodIn wsX10_cheated wsX10_gainOf := goodIn_r _ [13, 1, 14, 15, 16, 17, 6, 18, 19, 20, 21, 22, 23, 8, 24, 25, 26, 27, 28, 29, 12, 30, 31, 32, 33, 34, 35, 36, 37, 38, 39, 40, 41, 42, 43, 44, 45, 46, 47, 48, 49, 50, 51, 52, 53, 54, 55, 56, 57, 58, 65, 66, 67, 68, 69, 70, 71, 72, 73, 74, 75, 76, 77, 78, 79, 80, 81] (by decide +kernel) (by decide +kernel)
set_option maxRecDepth 20000 in
theorem gX10_cheated_X10_gainOf : GoodIn wsX10_cheated (wsV RX10 138 RX10 yX10_gainOf wsX10_gainOf) := goodIn_app (goodIn_of _ (by decide +kernel)) ggX10_cheated_X10_gainOf
set_option maxRecDepth 20000 in
theorem ggX10_cheated_X4_differs : GoodIn wsX10_cheated wsX4_differs := goodIn_r _ [63, 64, 82, 83] (by decide +kernel) (by decide +kernel)
set_option maxRecDepth 20000 in
theorem gX10_cheated_X4_differs : GoodIn wsX10_cheated (wsV RX10 246 RX4 yX4_differs wsX4_differs) := goodIn_app (goodIn_of _ (by decide +kernel)) ggX10_cheated_X4_differs
set_option maxRecDepth 20000 in
theorem ggX10_seed_X1_sow : GoodIn wsX10_seed wsX1_sow := goodIn_r _ [6, 7, 18, 19] (by decide +kernel) (by decide +kernel)
set_option maxRecDepth 20000 in
theorem gX10_seed_X1_sow : GoodIn wsX10_seed (wsV RX10 249 RX1 yX1_sow wsX1_sow) := goodIn_app (goodIn_of _ (by decide +kernel)) ggX10_seed_X1_sow
set_option maxRecDepth 20000 in
theorem ggX10_won_X5_has : GoodIn wsX10_won wsX5_has := goodIn_r _ [8, 9, 88, 89, 90] (by decide +kernel) (by decide +kernel)
set_option maxRecDepth 20000 in
theorem gX10_won_X5_has : GoodIn wsX10_won (wsV RX10 123 RX5 yX5_has wsX5_has) := goodIn_app (goodIn_of _ (by decide +kernel)) ggX10_won_X5_has
set_option maxRecDepth 20000 in
theorem ggX10_won_X5_size : GoodIn wsX10_won wsX5_size := goodIn_r _ [13, 9, 88, 89, 90] (by decide +kernel) (by decide +kernel)
set_option maxRecDepth 20000 in
theorem gX10_won_X5_size : GoodIn wsX10_won (wsV RX10 120 RX5 yX5_size wsX5_size) := goodIn_app (goodIn_of _ (by decide +kernel)) ggX10_won_X5_size
set_option maxRecDepth 20000 in
theorem ggX10_won_X1_gain : GoodIn wsX10_won wsX1_gain := goodIn_r _ [18, 19, 20, 21, 22, 23, 24, 25, 26, 17, 27, 28, 29, 30, 31, 32, 33, 34, 35, 36, 37, 38, 39, 40, 41, 42, 43, 44, 45, 46, 47, 48, 49, 50, 51, 52, 53, 54, 55, 56, 57, 58, 59, 60, 61, 62, 63, 64, 65, 66, 67, 68, 69, 70, 71, 72, 73, 74, 75, 76, 77, 91, 92, 93, 94, 95, 96] (by decide +kernel) (by decide +kernel)
set_option maxRecDepth 20000 in
theorem gX10_won_X1_gain : GoodIn wsX10_won (wsV RX10 253 RX1 yX1_gain wsX1_gain) := goodIn_app (goodIn_of _ (by decide +kernel)) ggX10_won_X1_gain
set_option maxRecDepth 20000 in
theorem ggX10_keep_X10_isSlot : GoodIn wsX10_keep wsX10_isSlot := goodIn_r _ [6] (by decide +kernel) (by decide +kernel)
set_option maxRecDepth 20000 in
theorem gX10_keep_X10_isSlot : GoodIn wsX10_keep (va_wsS RX10 256 yX10_isSlot wsX10_isSlot) := goodIn_app (goodIn_of _ (by decide +kernel)) ggX10_keep_X10_isSlot
set_option maxRecDepth 20000 in
theorem ggX10_keep_X5_pack : GoodIn wsX10_keep wsX5_pack := goodIn_r _ [11, 12, 13, 34, 35, 36] (by decide +kernel) (by decide +kernel)
set_option maxRecDepth 20000 in
theorem gX10_keep_X5_pack : GoodIn wsX10_keep (wsV RX10 106 RX5 yX5_pack wsX5_pack) := goodIn_app (goodIn_of _ (by decide +kernel)) ggX10_keep_X5_pack
set_option maxRecDepth 20000 in
theorem ggX10_keep_X2_putSlot : GoodIn wsX10_keep wsX2_putSlot := goodIn_r _ [18, 19, 4, 5, 6, 37, 38, 39] (by decide +kernel) (by decide +kernel)
set_option maxRecDepth 20000 in
theorem gX10_keep_X2_putSlot : GoodIn wsX10_keep (wsV RX10 259 RX2 yX2_putSlot wsX2_putSlot) := goodIn_app (goodIn_of _ (by decide +kernel)) ggX10_keep_X2_putSlot
set_option maxRecDepth 20000 in
theorem ggX10_keep_X5_size : GoodIn wsX10_keep wsX5_size := goodIn_r _ [23, 12, 34, 35, 36] (by decide +kernel) (by decide +kernel)
set_option maxRecDepth 20000 in
theorem gX10_keep_X5_size : GoodIn wsX10_keep (wsV RX10 120 RX5 yX5_size wsX5_size) := goodIn_app (goodIn_of _ (by decide +kernel)) ggX10_keep_X5_size
set_option maxRecDepth 20000 in
theorem ggX10_again_X10_isSlot : GoodIn wsX10_again wsX10_isSlot := goodIn_r _ [7] (by decide +kernel) (by decide +kernel)
set_option maxRecDepth 20000 in
theorem gX10_again_X10_isSlot : GoodIn wsX10_again (va_wsS RX10 256 yX10_isSlot wsX10_isSlot) := goodIn_app (goodIn_of _ (by decide +kernel)) ggX10_again_X10_isSlot
set_option maxRecDepth 20000 in
theorem ggX10_again_X2_slot : GoodIn wsX10_again wsX2_slot := goodIn_r _ [12, 13, 14, 5, 6, 7, 57, 58, 59] (by decide +kernel) (by decide +kernel)
set_option maxRecDepth 20000 in
theorem gX10_again_X2_slot : GoodIn wsX10_again (wsV RX10 262 RX2 yX2_slot wsX2_slot) := goodIn_app (goodIn_of _ (by decide +kernel)) ggX10_again_X2_slot
set_option maxRecDepth 20000 in
theorem ggX10_again_X5_unpack : GoodIn wsX10_again wsX5_unpack := goodIn_r _ [19, 20, 21, 22, 23, 18, 24, 25, 26, 27, 28, 29, 30, 31, 32, 33, 34, 35, 36, 6, 37, 60, 61, 62] (by decide +kernel) (by decide +kernel)
set_option maxRecDepth 20000 in
theorem gX10_again_X5_unpack : GoodIn wsX10_again (wsV RX10 110 RX5 yX5_unpack wsX5_unpack) := goodIn_app (goodIn_of _ (by decide +kernel)) ggX10_again_X5_unpack
set_option maxRecDepth 20000 in
theorem ggX10_again_X2_dropActs : GoodIn wsX10_again wsX2_dropActs := goodIn_r _ [41, 42, 57, 58, 59] (by decide +kernel) (by decide +kernel)
set_option maxRecDepth 20000 in
theorem gX10_again_X2_dropActs : GoodIn wsX10_again (wsV RX10 114 RX2 yX2_dropActs wsX2_dropActs) := goodIn_app (goodIn_of _ (by decide +kernel)) ggX10_again_X2_dropActs
set_option maxRecDepth 20000 in
theorem ggX10_again_X5_size : GoodIn wsX10_again wsX5_size := goodIn_r _ [46, 25, 60, 61, 62] (by decide +kernel) (by decide +kernel)
set_option maxRecDepth 20000 in
theorem gX10_again_X5_size : GoodIn wsX10_again (wsV RX10 120 RX5 yX5_size wsX5_size) := goodIn_app (goodIn_of _ (by decide +kernel)) ggX10_again_X5_size
set_option maxRecDepth 20000 in
theorem ggX10_count_X9_length : GoodIn wsX10_count wsX9_length := goodIn_r _ [10, 11, 115, 116] (by decide +kernel) (by decide +kernel)
set_option maxRecDepth 20000 in
theorem gX10_count_X9_length : GoodIn wsX10_count (wsV RX10 79 RX9 yX9_length wsX9_length) := goodIn_app (goodIn_of _ (by decide +kernel)) ggX10_count_X9_length
set_option maxRecDepth 20000 in
theorem ggX10_count_X5_size : GoodIn wsX10_count wsX5_size := goodIn_r _ [16, 17, 117, 118, 119] (by decide +kernel) (by decide +kernel)
set_option maxRecDepth 20000 in
theorem gX10_count_X5_size : GoodIn wsX10_count (wsV RX10 120 RX5 yX5_size wsX5_size) := goodIn_app (goodIn_of _ (by decide +kernel)) ggX10_count_X5_size
set_option maxRecDepth 20000 in
theorem ggX10_count_X10_rightBits : GoodIn wsX10_count wsX10_rightBits := goodIn_r _ [22, 2, 3, 12, 13, 14, 15, 16, 17, 23, 24, 25, 26, 27, 28, 29, 30, 31, 32, 33, 34, 35, 36, 37, 21, 38, 39, 40, 41, 42, 43, 44, 105, 106, 107, 108, 109, 110, 111, 112, 113, 114, 117, 118, 119, 120, 121, 122, 123] (by decide +kernel) (by decide +kernel)
set_option maxRecDepth 20000 in
theorem gX10_count_X10_rightBits : GoodIn wsX10_count (wsV RX10 266 RX10 yX10_rightBits wsX10_rightBits) := goodIn_app (goodIn_of _ (by decide +kernel)) ggX10_count_X10_rightBits
set_option maxRecDepth 20000 in
theorem ggX10_count_X8_barredBits : GoodIn wsX10_count wsX8_barredBits := goodIn_r _ [48, 49, 120, 121, 122, 123] (by decide +kernel) (by decide +kernel)
set_option maxRecDepth 20000 in
theorem gX10_count_X8_barredBits : GoodIn wsX10_count (wsV RX10 269 RX8 yX8_barredBits wsX8_barredBits) := goodIn_app (goodIn_of _ (by decide +kernel)) ggX10_count_X8_barredBits
set_option maxRecDepth 20000 in
theorem ggX10_count_X2_acts : GoodIn wsX10_count wsX2_acts := goodIn_r _ [54, 55, 124, 125, 126] (by decide +kernel) (by decide +kernel)
set_option maxRecDepth 20000 in
theorem gX10_count_X2_acts : GoodIn wsX10_count (wsV RX10 172 RX2 yX2_acts wsX2_acts) := goodIn_app (goodIn_of _ (by decide +kernel)) ggX10_count_X2_acts
set_option maxRecDepth 20000 in
theorem ggX10_count_X4_told : GoodIn wsX10_count wsX4_told := goodIn_r _ [60, 61, 127, 128] (by decide +kernel) (by decide +kernel)
set_option maxRecDepth 20000 in
theorem gX10_count_X4_told : GoodIn wsX10_count (wsV RX10 239 RX4 yX4_told wsX4_told) := goodIn_app (goodIn_of _ (by decide +kernel)) ggX10_count_X4_told
set_option maxRecDepth 20000 in
theorem ggX10_count_X8_potWhole : GoodIn wsX10_count wsX8_potWhole := goodIn_r _ [65, 66, 120, 121, 122, 123] (by decide +kernel) (by decide +kernel)
set_option maxRecDepth 20000 in
theorem gX10_count_X8_potWhole : GoodIn wsX10_count (wsV RX10 272 RX8 yX8_potWhole wsX8_potWhole) := goodIn_app (goodIn_of _ (by decide +kernel)) ggX10_count_X8_potWhole
set_option maxRecDepth 20000 in
theorem ggX10_count_X8_lawKind : GoodIn wsX10_count wsX8_lawKind := goodIn_r _ [70, 44, 120, 121, 122, 123] (by decide +kernel) (by decide +kernel)
set_option maxRecDepth 20000 in
theorem gX10_count_X8_lawKind : GoodIn wsX10_count (wsV RX10 275 RX8 yX8_lawKind wsX8_lawKind) := goodIn_app (goodIn_of _ (by decide +kernel)) ggX10_count_X8_lawKind
set_option maxRecDepth 20000 in
theorem ggX10_count_X8_shareKind : GoodIn wsX10_count wsX8_shareKind := goodIn_r _ [74, 75, 120, 121, 122, 123] (by decide +kernel) (by decide +kernel)
set_option maxRecDepth 20000 in
theorem gX10_count_X8_shareKind : GoodIn wsX10_count (wsV RX10 278 RX8 yX8_shareKind wsX8_shareKind) := goodIn_app (goodIn_of _ (by decide +kernel)) ggX10_count_X8_shareKind
set_option maxRecDepth 20000 in
theorem ggX10_count_X10_leftOfPot : GoodIn wsX10_count wsX10_leftOfPot := goodIn_r _ [79, 3, 2, 62, 63, 64, 42, 65, 66, 12, 13, 14, 15, 16, 17, 80, 81, 82, 21, 83, 23, 24, 25, 26, 27, 28, 29, 30, 31, 32, 33, 34, 35, 36, 37, 38, 84, 85, 86, 87, 88, 89, 90, 91, 92, 93, 94, 95, 96, 40, 41, 43, 44, 97, 98, 99, 100, 75, 101, 102, 103, 104, 105, 106, 107, 108, 109, 110, 111, 112, 113, 114, 120, 121, 122, 123, 117, 118, 119] (by decide +kernel) (by decide +kernel)
set_option maxRecDepth 20000 in
theorem gX10_count_X10_leftOfPot : GoodIn wsX10_count (wsV RX10 281 RX10 yX10_leftOfPot wsX10_leftOfPot) := goodIn_app (goodIn_of _ (by decide +kernel)) ggX10_count_X10_leftOfPot
set_option maxRecDepth 20000 in
theorem ggX10_refusalOfNumber_X10_isNumber : GoodIn wsX10_refusalOfNumber wsX10_isNumber := goodIn_r _ [5] (by decide +kernel) (by decide +kernel)
set_option maxRecDepth 20000 in
theorem gX10_refusalOfNumber_X10_isNumber : GoodIn wsX10_refusalOfNumber (va_wsS RX10 149 yX10_isNumber wsX10_isNumber) := goodIn_app (goodIn_of _ (by decide +kernel)) ggX10_refusalOfNumber_X10_isNumber
set_option maxRecDepth 20000 in
theorem ggX10_refusalOfNumber_X8_isOpen : GoodIn wsX10_refusalOfNumber wsX8_isOpen := goodIn_r _ [10, 11, 3, 4, 5, 22, 23, 24, 25] (by decide +kernel) (by decide +kernel)
set_option maxRecDepth 20000 in
theorem gX10_refusalOfNumber_X8_isOpen : GoodIn wsX10_refusalOfNumber (wsV RX10 284 RX8 yX8_isOpen wsX8_isOpen) := goodIn_app (goodIn_of _ (by decide +kernel)) ggX10_refusalOfNumber_X8_isOpen
set_option maxRecDepth 20000 in
theorem ggX10_refusalOfChances_X10_isCrowd : GoodIn wsX10_refusalOfChances wsX10_isCrowd := goodIn_r _ [5] (by decide +kernel) (by decide +kernel)
set_option maxRecDepth 20000 in
theorem gX10_refusalOfChances_X10_isCrowd : GoodIn wsX10_refusalOfChances (va_wsS RX10 182 yX10_isCrowd wsX10_isCrowd) := goodIn_app (goodIn_of _ (by decide +kernel)) ggX10_refusalOfChances_X10_isCrowd
set_option maxRecDepth 20000 in
theorem ggX10_refusalOfChances_X0_areWhole : GoodIn wsX10_refusalOfChances wsX0_areWhole := goodIn_r _ [10, 11, 22] (by decide +kernel) (by decide +kernel)
set_option maxRecDepth 20000 in
theorem gX10_refusalOfChances_X0_areWhole : GoodIn wsX10_refusalOfChances (wsV RX10 287 RX0 yX0_areWhole wsX0_areWhole) := goodIn_app (goodIn_of _ (by decide +kernel)) ggX10_refusalOfChances_X0_areWhole
set_option maxRecDepth 20000 in
theorem ggX10_gainOf_X5_numberOf : GoodIn wsX10_gainOf wsX5_numberOf := goodIn_r _ [7, 8, 9, 10, 11, 6, 12, 13, 60, 61, 62] (by decide +kernel) (by decide +kernel)
set_option maxRecDepth 20000 in
theorem gX10_gainOf_X5_numberOf : GoodIn wsX10_gainOf (wsV RX10 127 RX5 yX5_numberOf wsX5_numberOf) := goodIn_app (goodIn_of _ (by decide +kernel)) ggX10_gainOf_X5_numberOf
set_option maxRecDepth 20000 in
theorem ggX10_gainOf_X5_many : GoodIn wsX10_gainOf wsX5_many := goodIn_r _ [17, 18, 19, 20, 21, 60, 61, 62] (by decide +kernel) (by decide +kernel)
set_option maxRecDepth 20000 in
theorem gX10_gainOf_X5_many : GoodIn wsX10_gainOf (wsV RX10 131 RX5 yX5_many wsX5_many) := goodIn_app (goodIn_of _ (by decide +kernel)) ggX10_gainOf_X5_many
set_option maxRecDepth 20000 in
theorem ggX10_gainOf_X5_counts : GoodIn wsX10_gainOf wsX5_counts := goodIn_r _ [25, 18, 60, 61, 62] (by decide +kernel) (by decide +kernel)
set_option maxRecDepth 20000 in
theorem gX10_gainOf_X5_counts : GoodIn wsX10_gainOf (wsV RX10 141 RX5 yX5_counts wsX5_counts) := goodIn_app (goodIn_of _ (by decide +kernel)) ggX10_gainOf_X5_counts
set_option maxRecDepth 20000 in
theorem ggX10_gainOf_X8_claims : GoodIn wsX10_gainOf wsX8_claims := goodIn_r _ [30, 31, 32, 33, 29, 34, 35, 36, 37, 38, 39, 40, 41, 42, 43, 44, 63, 64, 65, 66] (by decide +kernel) (by decide +kernel)
set_option maxRecDepth 20000 in
theorem gX10_gainOf_X8_claims : GoodIn wsX10_gainOf (wsV RX10 291 RX8 yX8_claims wsX8_claims) := goodIn_app (goodIn_of _ (by decide +kernel)) ggX10_gainOf_X8_claims
set_option maxRecDepth 20000 in
theorem ggX10_gainOf_X8_gain : GoodIn wsX10_gainOf wsX8_gain := goodIn_r _ [48, 49, 35, 36, 37, 29, 38, 39, 40, 41, 42, 43, 44, 63, 64, 65, 66] (by decide +kernel) (by decide +kernel)
set_option maxRecDepth 20000 in
theorem gX10_gainOf_X8_gain : GoodIn wsX10_gainOf (wsV RX10 295 RX8 yX8_gain wsX8_gain) := goodIn_app (goodIn_of _ (by decide +kernel)) ggX10_gainOf_X8_gain
set_option maxRecDepth 20000 in
theorem ggX10_rightBits_X5_size : GoodIn wsX10_rightBits wsX5_size := goodIn_r _ [7, 8, 42, 43, 44] (by decide +kernel) (by decide +kernel)
set_option maxRecDepth 20000 in
theorem gX10_rightBits_X5_size : GoodIn wsX10_rightBits (wsV RX10 120 RX5 yX5_size wsX5_size) := goodIn_app (goodIn_of _ (by decide +kernel)) ggX10_rightBits_X5_size
set_option maxRecDepth 20000 in
theorem ggX10_rightBits_X5_numberOf : GoodIn wsX10_rightBits wsX5_numberOf := goodIn_r _ [12, 13, 14, 15, 16, 6, 17, 8, 42, 43, 44] (by decide +kernel) (by decide +kernel)
set_option maxRecDepth 20000 in
theorem gX10_rightBits_X5_numberOf : GoodIn wsX10_rightBits (wsV RX10 127 RX5 yX5_numberOf wsX5_numberOf) := goodIn_app (goodIn_of _ (by decide +kernel)) ggX10_rightBits_X5_numberOf
set_option maxRecDepth 20000 in
theorem ggX10_rightBits_X5_many : GoodIn wsX10_rightBits wsX5_many := goodIn_r _ [21, 22, 23, 24, 25, 42, 43, 44] (by decide +kernel) (by decide +kernel)
set_option maxRecDepth 20000 in
theorem gX10_rightBits_X5_many : GoodIn wsX10_rightBits (wsV RX10 131 RX5 yX5_many wsX5_many) := goodIn_app (goodIn_of _ (by decide +kernel)) ggX10_rightBits_X5_many
set_option maxRecDepth 20000 in
theorem ggX10_rightBits_X8_suits : GoodIn wsX10_rightBits wsX8_suits := goodIn_r _ [30, 31, 45, 46, 47, 48] (by decide +kernel) (by decide +kernel)
set_option maxRecDepth 20000 in
theorem gX10_rightBits_X8_suits : GoodIn wsX10_rightBits (wsV RX10 134 RX8 yX8_suits wsX8_suits) := goodIn_app (goodIn_of _ (by decide +kernel)) ggX10_rightBits_X8_suits
set_option maxRecDepth 20000 in
theorem ggX10_leftOfPot_X8_potWhole : GoodIn wsX10_leftOfPot wsX8_potWhole := goodIn_r _ [7, 8, 72, 73, 74, 75] (by decide +kernel) (by decide +kernel)
set_option maxRecDepth 20000 in
theorem gX10_leftOfPot_X8_potWhole : GoodIn wsX10_leftOfPot (wsV RX10 272 RX8 yX8_potWhole wsX8_potWhole) := goodIn_app (goodIn_of _ (by decide +kernel)) ggX10_leftOfPot_X8_potWhole
set_option maxRecDepth 20000 in
theorem ggX10_leftOfPot_X5_size : GoodIn wsX10_leftOfPot wsX5_size := goodIn_r _ [13, 14, 76, 77, 78] (by decide +kernel) (by decide +kernel)
set_option maxRecDepth 20000 in
theorem gX10_leftOfPot_X5_size : GoodIn wsX10_leftOfPot (wsV RX10 120 RX5 yX5_size wsX5_size) := goodIn_app (goodIn_of _ (by decide +kernel)) ggX10_leftOfPot_X5_size
set_option maxRecDepth 20000 in
theorem ggX10_leftOfPot_X10_gainOf : GoodIn wsX10_leftOfPot wsX10_gainOf := goodIn_r _ [19, 2, 1, 20, 21, 22, 12, 23, 24, 25, 26, 27, 28, 14, 29, 30, 31, 32, 33, 34, 18, 35, 36, 37, 38, 39, 40, 41, 42, 6, 43, 44, 45, 46, 47, 48, 49, 50, 51, 52, 53, 54, 55, 56, 57, 58, 59, 60, 61, 8, 62, 63, 64, 65, 66, 67, 68, 69, 70, 71, 76, 77, 78, 72, 73, 74, 75] (by decide +kernel) (by decide +kernel)
set_option maxRecDepth 20000 in
theorem gX10_leftOfPot_X10_gainOf : GoodIn wsX10_leftOfPot (wsV RX10 138 RX10 yX10_gainOf wsX10_gainOf) := goodIn_app (goodIn_of _ (by decide +kernel)) ggX10_leftOfPot_X10_gainOf
set_option maxRecDepth 20000 in
theorem ggX10_leastTerms_X10_commonDivisor : GoodIn wsX10_leastTerms wsX10_commonDivisor := goodIn_r _ [5] (by decide +kernel) (by decide +kernel)
set_option maxRecDepth 20000 in
theorem gX10_leastTerms_X10_commonDivisor : GoodIn wsX10_leastTerms (va_wsS RX10 298 yX10_commonDivisor wsX10_commonDivisor) := goodIn_app (goodIn_of _ (by decide +kernel)) ggX10_leastTerms_X10_commonDivisor
set_option maxRecDepth 20000 in
theorem ggX11_write_X11_in : GoodIn wsX11_write wsX11_in := goodIn_r _ [8] (by decide +kernel) (by decide +kernel)
set_option maxRecDepth 20000 in
theorem gX11_write_X11_in : GoodIn wsX11_write (va_wsS RX11 62 yX11_in wsX11_in) := goodIn_app (goodIn_of _ (by decide +kernel)) ggX11_write_X11_in
set_option maxRecDepth 20000 in
theorem ggX11_figure_X11_in : GoodIn wsX11_figure wsX11_in := goodIn_r _ [9] (by decide +kernel) (by decide +kernel)
set_option maxRecDepth 20000 in
theorem gX11_figure_X11_in : GoodIn wsX11_figure (va_wsS RX11 62 yX11_in wsX11_in) := goodIn_app (goodIn_of _ (by decide +kernel)) ggX11_figure_X11_in
set_option maxRecDepth 20000 in
theorem ggX11_free_X11_ones : GoodIn wsX11_free wsX11_ones := goodIn_r _ [7] (by decide +kernel) (by decide +kernel)
set_option maxRecDepth 20000 in
theorem gX11_free_X11_ones : GoodIn wsX11_free (va_wsS RX11 86 yX11_ones wsX11_ones) := goodIn_app (goodIn_of _ (by decide +kernel)) ggX11_free_X11_ones
set_option maxRecDepth 20000 in
theorem ggX11_readText_X11_figure : GoodIn wsX11_readText wsX11_figure := goodIn_r _ [15, 2, 1, 5, 6, 16, 17, 18, 14, 19, 27, 28, 29, 30, 31, 32, 33, 34, 35, 36, 37, 38, 39, 40, 41, 42, 43, 44, 45, 46, 47, 48, 49, 50, 51, 52, 53, 54, 55, 56, 57, 58, 59, 60] (by decide +kernel) (by decide +kernel)
set_option maxRecDepth 20000 in
theorem gX11_readText_X11_figure : GoodIn wsX11_readText (wsV RX11 90 RX11 yX11_figure wsX11_figure) := goodIn_app (goodIn_of _ (by decide +kernel)) ggX11_readText_X11_figure
set_option maxRecDepth 20000 in
theorem ggX11_readText_X11_free : GoodIn wsX11_readText wsX11_free := goodIn_r _ [23, 4, 3, 10, 24, 25, 14, 26, 27, 28, 29, 30, 31, 32, 33, 34, 35, 36, 37, 38, 39, 40, 41, 42, 43, 44, 45, 46, 47, 48, 49, 50, 51, 52, 53, 54, 55, 56, 57, 58, 59, 60] (by decide +kernel) (by decide +kernel)
set_option maxRecDepth 20000 in
theorem gX11_readText_X11_free : GoodIn wsX11_readText (wsV RX11 102 RX11 yX11_free wsX11_free) := goodIn_app (goodIn_of _ (by decide +kernel)) ggX11_readText_X11_free
set_option maxRecDepth 20000 in
theorem ggX11_fault_X11_readText : GoodIn wsX11_fault wsX11_readText := goodIn_r _ [5, 6, 7, 8, 9, 10, 11, 12, 13, 14, 15, 16, 17, 18, 4, 19, 20, 21, 22, 23, 24, 25, 26, 27, 28, 29, 30, 31, 32, 33, 34, 35, 36, 37, 38, 39, 40, 41, 42, 43, 44, 45, 46, 47, 48, 49, 50, 51, 52, 53, 54, 55, 56, 57, 58, 59, 60, 61, 62, 63, 64] (by decide +kernel) (by decide +kernel)
set_option maxRecDepth 20000 in
theorem gX11_fault_X11_readText : GoodIn wsX11_fault (wsV RX11 106 RX11 yX11_readText wsX11_readText) := goodIn_app (goodIn_of _ (by decide +kernel)) ggX11_fault_X11_readText
set_option maxRecDepth 20000 in
theorem ggX11_table_X11_readText : GoodIn wsX11_table wsX11_readText := goodIn_r _ [19, 20, 21, 1, 3, 22, 23, 5, 7, 9, 12, 24, 25, 26, 18, 27, 28, 29, 30, 31, 32, 33, 34, 35, 36, 37, 38, 39, 40, 41, 42, 43, 44, 45, 46, 47, 48, 49, 50, 51, 52, 53, 54, 55, 56, 57, 58, 59, 60, 61, 62, 63, 64, 65, 66, 67, 68, 69, 70, 71, 72] (by decide +kernel) (by decide +kernel)
set_option maxRecDepth 20000 in
theorem gX11_table_X11_readText : GoodIn wsX11_table (wsV RX11 106 RX11 yX11_readText wsX11_readText) := goodIn_app (goodIn_of _ (by decide +kernel)) ggX11_table_X11_readText
set_option maxRecDepth 20000 in
theorem ggX11_isPerson_X11_in : GoodIn wsX11_isPerson wsX11_in := goodIn_r _ [5] (by decide +kernel) (by decide +kernel)
set_option maxRecDepth 20000 in
theorem gX11_isPerson_X11_in : GoodIn wsX11_isPerson (va_wsS RX11 62 yX11_in wsX11_in) := goodIn_app (goodIn_of _ (by decide +kernel)) ggX11_isPerson_X11_in
set_option maxRecDepth 20000 in
theorem ggX11_isRight_X11_wroteIn : GoodIn wsX11_isRight wsX11_wroteIn := goodIn_r _ [6, 7, 1, 13, 14, 15, 16, 17, 18, 19, 20, 21, 22, 23, 24, 25, 26, 27, 28, 29, 30, 31, 32, 33, 34, 35, 36, 37, 38, 39, 40, 41, 42, 43, 44, 45, 46] (by decide +kernel) (by decide +kernel)
set_option maxRecDepth 20000 in
theorem gX11_isRight_X11_wroteIn : GoodIn wsX11_isRight (wsV RX11 130 RX11 yX11_wroteIn wsX11_wroteIn) := goodIn_app (goodIn_of _ (by decide +kernel)) ggX11_isRight_X11_wroteIn
set_option maxRecDepth 20000 in
theorem ggX11_isRight_X11_isFine : GoodIn wsX11_isRight wsX11_isFine := goodIn_r _ [11, 12, 13, 14, 15, 16, 17, 18, 19, 20, 21, 22, 23, 24, 25, 26, 27, 28, 29, 30, 31, 32, 33, 34, 35, 36, 37, 38, 39, 40, 41, 42, 43, 44, 45, 46] (by decide +kernel) (by decide +kernel)
set_option maxRecDepth 20000 in
theorem gX11_isRight_X11_isFine : GoodIn wsX11_isRight (wsV RX11 133 RX11 yX11_isFine wsX11_isFine) := goodIn_app (goodIn_of _ (by decide +kernel)) ggX11_isRight_X11_isFine
set_option maxRecDepth 20000 in
theorem ggX11_getsOf_X11_isRight : GoodIn wsX11_getsOf wsX11_isRight := goodIn_r _ [9, 2, 10, 11, 12, 8, 13, 1, 14, 15, 16, 17, 18, 19, 20, 21, 22, 23, 24, 25, 26, 27, 28, 29, 30, 31, 32, 33, 34, 35, 36, 37, 38, 39, 40, 41, 42, 43, 44, 45, 46, 47, 48, 49, 50, 51, 52] (by decide +kernel) (by decide +kernel)
set_option maxRecDepth 20000 in
theorem gX11_getsOf_X11_isRight : GoodIn wsX11_getsOf (wsV RX11 137 RX11 yX11_isRight wsX11_isRight) := goodIn_app (goodIn_of _ (by decide +kernel)) ggX11_getsOf_X11_isRight
set_option maxRecDepth 20000 in
theorem ggX11_wantOf_X11_getsOf : GoodIn wsX11_wantOf wsX11_getsOf := goodIn_r _ [6, 7, 1, 8, 9, 10, 11, 12, 5, 13, 14, 15, 16, 17, 18, 19, 20, 21, 22, 28, 29, 30, 31, 32, 33, 34, 35, 36, 37, 38, 39, 40, 41, 42, 43, 44, 45, 46, 47, 48, 49, 50, 51, 52, 53, 54, 55, 56, 57, 58, 59, 60, 61] (by decide +kernel) (by decide +kernel)
set_option maxRecDepth 20000 in
theorem gX11_wantOf_X11_getsOf : GoodIn wsX11_wantOf (wsV RX11 141 RX11 yX11_getsOf wsX11_getsOf) := goodIn_app (goodIn_of _ (by decide +kernel)) ggX11_wantOf_X11_getsOf
set_option maxRecDepth 20000 in
theorem ggX11_wantOf_X11_isBarred : GoodIn wsX11_wantOf wsX11_isBarred := goodIn_r _ [26, 27, 28, 29, 30, 31, 32, 33, 34, 35, 36, 37, 38, 39, 40, 41, 42, 43, 44, 45, 46, 47, 48, 49, 50, 51, 52, 53, 54, 55, 56, 57, 58, 59, 60, 61] (by decide +kernel) (by decide +kernel)
set_option maxRecDepth 20000 in
theorem gX11_wantOf_X11_isBarred : GoodIn wsX11_wantOf (wsV RX11 144 RX11 yX11_isBarred wsX11_isBarred) := goodIn_app (goodIn_of _ (by decide +kernel)) ggX11_wantOf_X11_isBarred
set_option maxRecDepth 20000 in
theorem ggX11_person_X11_isPerson : GoodIn wsX11_person wsX11_isPerson := goodIn_r _ [6, 7, 8, 9, 5, 10, 45, 46, 47, 48, 49, 50, 51, 52, 53, 54, 55, 56, 57, 58, 59, 60, 61, 62, 63, 64, 65, 66, 67, 68, 69, 70, 71, 72, 73, 74, 75, 76, 77, 78] (by decide +kernel) (by decide +kernel)
set_option maxRecDepth 20000 in
theorem gX11_person_X11_isPerson : GoodIn wsX11_person (wsV RX11 147 RX11 yX11_isPerson wsX11_isPerson) := goodIn_app (goodIn_of _ (by decide +kernel)) ggX11_person_X11_isPerson
set_option maxRecDepth 20000 in
theorem ggX11_person_X11_takeSlips : GoodIn wsX11_person wsX11_takeSlips := goodIn_r _ [14, 7, 15, 16, 1, 45, 46, 47, 48, 49, 50, 51, 52, 53, 54, 55, 56, 57, 58, 59, 60, 61, 62, 63, 64, 65, 66, 67, 68, 69, 70, 71, 72, 73, 74, 75, 76, 77, 78] (by decide +kernel) (by decide +kernel)
set_option maxRecDepth 20000 in
theorem gX11_person_X11_takeSlips : GoodIn wsX11_person (wsV RX11 150 RX11 yX11_takeSlips wsX11_takeSlips) := goodIn_app (goodIn_of _ (by decide +kernel)) ggX11_person_X11_takeSlips
set_option maxRecDepth 20000 in
theorem ggX11_person_X11_isRight : GoodIn wsX11_person wsX11_isRight := goodIn_r _ [20, 16, 21, 22, 23, 5, 24, 15, 25, 26, 27, 28, 29, 45, 46, 47, 48, 49, 50, 51, 52, 53, 54, 55, 56, 57, 58, 59, 60, 61, 62, 63, 64, 65, 66, 67, 68, 69, 70, 71, 72, 73, 74, 75, 76, 77, 78] (by decide +kernel) (by decide +kernel)
set_option maxRecDepth 20000 in
theorem gX11_person_X11_isRight : GoodIn wsX11_person (wsV RX11 137 RX11 yX11_isRight wsX11_isRight) := goodIn_app (goodIn_of _ (by decide +kernel)) ggX11_person_X11_isRight
set_option maxRecDepth 20000 in
theorem ggX11_person_X11_getsOf : GoodIn wsX11_person wsX11_getsOf := goodIn_r _ [33, 15, 16, 34, 35, 17, 18, 19, 5, 20, 21, 22, 23, 24, 25, 26, 27, 28, 29, 45, 46, 47, 48, 49, 50, 51, 52, 53, 54, 55, 56, 57, 58, 59, 60, 61, 62, 63, 64, 65, 66, 67, 68, 69, 70, 71, 72, 73, 74, 75, 76, 77, 78] (by decide +kernel) (by decide +kernel)
set_option maxRecDepth 20000 in
theorem gX11_person_X11_getsOf : GoodIn wsX11_person (wsV RX11 141 RX11 yX11_getsOf wsX11_getsOf) := goodIn_app (goodIn_of _ (by decide +kernel)) ggX11_person_X11_getsOf
set_option maxRecDepth 20000 in
theorem ggX11_person_X11_wantOf : GoodIn wsX11_person wsX11_wantOf := goodIn_r _ [39, 16, 30, 31, 32, 5, 33, 15, 34, 35, 17, 18, 19, 20, 21, 22, 23, 24, 25, 26, 27, 28, 29, 40, 41, 42, 43, 44, 45, 46, 47, 48, 49, 50, 51, 52, 53, 54, 55, 56, 57, 58, 59, 60, 61, 62, 63, 64, 65, 66, 67, 68, 69, 70, 71, 72, 73, 74, 75, 76, 77, 78] (by decide +kernel) (by decide +kernel)
set_option maxRecDepth 20000 in
theorem gX11_person_X11_wantOf : GoodIn wsX11_person (wsV RX11 153 RX11 yX11_wantOf wsX11_wantOf) := goodIn_app (goodIn_of _ (by decide +kernel)) ggX11_person_X11_wantOf
set_option maxRecDepth 20000 in
theorem ggX11_wrote_X11_in : GoodIn wsX11_wrote wsX11_in := goodIn_r _ [5] (by decide +kernel) (by decide +kernel)
set_option maxRecDepth 20000 in
theorem gX11_wrote_X11_in : GoodIn wsX11_wrote (va_wsS RX11 62 yX11_in wsX11_in) := goodIn_app (goodIn_of _ (by decide +kernel)) ggX11_wrote_X11_in
set_option maxRecDepth 20000 in
theorem ggX11_wrote_X11_takeSlips : GoodIn wsX11_wrote wsX11_takeSlips := goodIn_r _ [9, 10, 11, 12, 13, 18, 19, 20, 21, 22, 23, 24, 25, 26, 27, 28, 29, 30, 31, 32, 33, 34, 35, 36, 37, 38, 39, 40, 41, 42, 43, 44, 45, 46, 47, 48, 49, 50, 51] (by decide +kernel) (by decide +kernel)
set_option maxRecDepth 20000 in
theorem gX11_wrote_X11_takeSlips : GoodIn wsX11_wrote (wsV RX11 150 RX11 yX11_takeSlips wsX11_takeSlips) := goodIn_app (goodIn_of _ (by decide +kernel)) ggX11_wrote_X11_takeSlips
set_option maxRecDepth 20000 in
theorem ggX11_wrote_X11_wroteIn : GoodIn wsX11_wrote wsX11_wroteIn := goodIn_r _ [17, 11, 12, 18, 19, 20, 21, 22, 23, 24, 25, 26, 27, 28, 29, 30, 31, 32, 33, 34, 35, 36, 37, 38, 39, 40, 41, 42, 43, 44, 45, 46, 47, 48, 49, 50, 51] (by decide +kernel) (by decide +kernel)
set_option maxRecDepth 20000 in
theorem gX11_wrote_X11_wroteIn : GoodIn wsX11_wrote (wsV RX11 130 RX11 yX11_wroteIn wsX11_wroteIn) := goodIn_app (goodIn_of _ (by decide +kernel)) ggX11_wrote_X11_wroteIn
set_option maxRecDepth 20000 in
theorem ggX11_slip_X11_isPerson : GoodIn wsX11_slip wsX11_isPerson := goodIn_r _ [7, 8, 9, 10, 6, 11, 24, 25, 26, 27, 28, 29, 30, 31, 32, 33, 34, 35, 36, 37, 38, 39, 40, 41, 42, 43, 44, 45, 46, 47, 48, 49, 50, 51, 52, 53, 54, 55, 56, 57] (by decide +kernel) (by decide +kernel)
set_option maxRecDepth 20000 in
theorem gX11_slip_X11_isPerson : GoodIn wsX11_slip (wsV RX11 147 RX11 yX11_isPerson wsX11_isPerson) := goodIn_app (goodIn_of _ (by decide +kernel)) ggX11_slip_X11_isPerson
set_option maxRecDepth 20000 in
theorem ggX11_slip_X11_in : GoodIn wsX11_slip wsX11_in := goodIn_r _ [11] (by decide +kernel) (by decide +kernel)
set_option maxRecDepth 20000 in
theorem gX11_slip_X11_in : GoodIn wsX11_slip (va_wsS RX11 62 yX11_in wsX11_in) := goodIn_app (goodIn_of _ (by decide +kernel)) ggX11_slip_X11_in
set_option maxRecDepth 20000 in
theorem ggX11_slip_X11_isBarred : GoodIn wsX11_slip wsX11_isBarred := goodIn_r _ [15, 16, 24, 25, 26, 27, 28, 29, 30, 31, 32, 33, 34, 35, 36, 37, 38, 39, 40, 41, 42, 43, 44, 45, 46, 47, 48, 49, 50, 51, 52, 53, 54, 55, 56, 57] (by decide +kernel) (by decide +kernel)
set_option maxRecDepth 20000 in
theorem gX11_slip_X11_isBarred : GoodIn wsX11_slip (wsV RX11 144 RX11 yX11_isBarred wsX11_isBarred) := goodIn_app (goodIn_of _ (by decide +kernel)) ggX11_slip_X11_isBarred
set_option maxRecDepth 20000 in
theorem ggX11_slip_X11_keepAct : GoodIn wsX11_slip wsX11_keepAct := goodIn_r _ [20, 21, 22, 2, 8, 23, 24, 25, 26, 27, 28, 29, 30, 31, 32, 33, 34, 35, 36, 37, 38, 39, 40, 41, 42, 43, 44, 45, 46, 47, 48, 49, 50, 51, 52, 53, 54, 55, 56, 57] (by decide +kernel) (by decide +kernel)
set_option maxRecDepth 20000 in
theorem gX11_slip_X11_keepAct : GoodIn wsX11_slip (wsV RX11 159 RX11 yX11_keepAct wsX11_keepAct) := goodIn_app (goodIn_of _ (by decide +kernel)) ggX11_slip_X11_keepAct
set_option maxRecDepth 20000 in
theorem ggX11_come_X11_in : GoodIn wsX11_come wsX11_in := goodIn_r _ [7] (by decide +kernel) (by decide +kernel)
set_option maxRecDepth 20000 in
theorem gX11_come_X11_in : GoodIn wsX11_come (va_wsS RX11 62 yX11_in wsX11_in) := goodIn_app (goodIn_of _ (by decide +kernel)) ggX11_come_X11_in
set_option maxRecDepth 20000 in
theorem ggX11_come_X11_isBarred : GoodIn wsX11_come wsX11_isBarred := goodIn_r _ [11, 12, 20, 21, 22, 23, 24, 25, 26, 27, 28, 29, 30, 31, 32, 33, 34, 35, 36, 37, 38, 39, 40, 41, 42, 43, 44, 45, 46, 47, 48, 49, 50, 51, 52, 53] (by decide +kernel) (by decide +kernel)
set_option maxRecDepth 20000 in
theorem gX11_come_X11_isBarred : GoodIn wsX11_come (wsV RX11 144 RX11 yX11_isBarred wsX11_isBarred) := goodIn_app (goodIn_of _ (by decide +kernel)) ggX11_come_X11_isBarred
set_option maxRecDepth 20000 in
theorem ggX11_come_X11_keepAct : GoodIn wsX11_come wsX11_keepAct := goodIn_r _ [16, 17, 18, 3, 2, 19, 20, 21, 22, 23, 24, 25, 26, 27, 28, 29, 30, 31, 32, 33, 34, 35, 36, 37, 38, 39, 40, 41, 42, 43, 44, 45, 46, 47, 48, 49, 50, 51, 52, 53] (by decide +kernel) (by decide +kernel)
set_option maxRecDepth 20000 in
theorem gX11_come_X11_keepAct : GoodIn wsX11_come (wsV RX11 159 RX11 yX11_keepAct wsX11_keepAct) := goodIn_app (goodIn_of _ (by decide +kernel)) ggX11_come_X11_keepAct
set_option maxRecDepth 20000 in
theorem ggX11_leave_X11_isPerson : GoodIn wsX11_leave wsX11_isPerson := goodIn_r _ [7, 2, 8, 9, 6, 10, 18, 19, 20, 21, 22, 23, 24, 25, 26, 27, 28, 29, 30, 31, 32, 33, 34, 35, 36, 37, 38, 39, 40, 41, 42, 43, 44, 45, 46, 47, 48, 49, 50, 51] (by decide +kernel) (by decide +kernel)
set_option maxRecDepth 20000 in
theorem gX11_leave_X11_isPerson : GoodIn wsX11_leave (wsV RX11 147 RX11 yX11_isPerson wsX11_isPerson) := goodIn_app (goodIn_of _ (by decide +kernel)) ggX11_leave_X11_isPerson
set_option maxRecDepth 20000 in
theorem ggX11_leave_X11_keepAct : GoodIn wsX11_leave wsX11_keepAct := goodIn_r _ [14, 15, 16, 1, 2, 17, 18, 19, 20, 21, 22, 23, 24, 25, 26, 27, 28, 29, 30, 31, 32, 33, 34, 35, 36, 37, 38, 39, 40, 41, 42, 43, 44, 45, 46, 47, 48, 49, 50, 51] (by decide +kernel) (by decide +kernel)
set_option maxRecDepth 20000 in
theorem gX11_leave_X11_keepAct : GoodIn wsX11_leave (wsV RX11 159 RX11 yX11_keepAct wsX11_keepAct) := goodIn_app (goodIn_of _ (by decide +kernel)) ggX11_leave_X11_keepAct
set_option maxRecDepth 20000 in
theorem ggX11_goRound_X11_isRight : GoodIn wsX11_goRound wsX11_isRight := goodIn_r _ [8, 3, 9, 10, 11, 7, 12, 1, 13, 14, 15, 16, 17, 27, 28, 29, 30, 31, 32, 33, 34, 35, 36, 37, 38, 39, 40, 41, 42, 43, 44, 45, 46, 47, 48, 49, 50, 51, 52, 53, 54, 55, 56, 57, 58, 59, 60] (by decide +kernel) (by decide +kernel)
set_option maxRecDepth 20000 in
theorem gX11_goRound_X11_isRight : GoodIn wsX11_goRound (wsV RX11 137 RX11 yX11_isRight wsX11_isRight) := goodIn_app (goodIn_of _ (by decide +kernel)) ggX11_goRound_X11_isRight
set_option maxRecDepth 20000 in
theorem ggX11_goRound_X11_rightFor : GoodIn wsX11_goRound wsX11_rightFor := goodIn_r _ [21, 3, 22, 23, 24, 7, 25, 26, 4, 5, 6, 8, 9, 10, 11, 12, 1, 13, 14, 15, 16, 17, 27, 28, 29, 30, 31, 32, 33, 34, 35, 36, 37, 38, 39, 40, 41, 42, 43, 44, 45, 46, 47, 48, 49, 50, 51, 52, 53, 54, 55, 56, 57, 58, 59, 60] (by decide +kernel) (by decide +kernel)
set_option maxRecDepth 20000 in
theorem gX11_goRound_X11_rightFor : GoodIn wsX11_goRound (wsV RX11 162 RX11 yX11_rightFor wsX11_rightFor) := goodIn_app (goodIn_of _ (by decide +kernel)) ggX11_goRound_X11_rightFor
set_option maxRecDepth 20000 in
theorem ggX11_rightFor_X11_isBarred : GoodIn wsX11_rightFor wsX11_isBarred := goodIn_r _ [6, 7, 22, 23, 24, 25, 26, 27, 28, 29, 30, 31, 32, 33, 34, 35, 36, 37, 38, 39, 40, 41, 42, 43, 44, 45, 46, 47, 48, 49, 50, 51, 52, 53, 54, 55] (by decide +kernel) (by decide +kernel)
set_option maxRecDepth 20000 in
theorem gX11_rightFor_X11_isBarred : GoodIn wsX11_rightFor (wsV RX11 144 RX11 yX11_isBarred wsX11_isBarred) := goodIn_app (goodIn_of _ (by decide +kernel)) ggX11_rightFor_X11_isBarred
set_option maxRecDepth 20000 in
theorem ggX11_rightFor_X11_isRight : GoodIn wsX11_rightFor wsX11_isRight := goodIn_r _ [11, 1, 12, 13, 14, 5, 15, 16, 17, 18, 19, 20, 21, 22, 23, 24, 25, 26, 27, 28, 29, 30, 31, 32, 33, 34, 35, 36, 37, 38, 39, 40, 41, 42, 43, 44, 45, 46, 47, 48, 49, 50, 51, 52, 53, 54, 55] (by decide +kernel) (by decide +kernel)
set_option maxRecDepth 20000 in
theorem gX11_rightFor_X11_isRight : GoodIn wsX11_rightFor (wsV RX11 137 RX11 yX11_isRight wsX11_isRight) := goodIn_app (goodIn_of _ (by decide +kernel)) ggX11_rightFor_X11_isRight
set_option maxRecDepth 20000 in
theorem ggX11_round_X11_keepAct : GoodIn wsX11_round wsX11_keepAct := goodIn_r _ [8, 9, 10, 2, 1, 11, 44, 45, 46, 47, 48, 49, 50, 51, 52, 53, 54, 55, 56, 57, 58, 59, 60, 61, 62, 63, 64, 65, 66, 67, 68, 69, 70, 71, 72, 73, 74, 75, 76, 77] (by decide +kernel) (by decide +kernel)
set_option maxRecDepth 20000 in
theorem gX11_round_X11_keepAct : GoodIn wsX11_round (wsV RX11 159 RX11 yX11_keepAct wsX11_keepAct) := goodIn_app (goodIn_of _ (by decide +kernel)) ggX11_round_X11_keepAct
set_option maxRecDepth 20000 in
theorem ggX11_round_X11_takeSlips : GoodIn wsX11_round wsX11_takeSlips := goodIn_r _ [15, 1, 16, 3, 2, 44, 45, 46, 47, 48, 49, 50, 51, 52, 53, 54, 55, 56, 57, 58, 59, 60, 61, 62, 63, 64, 65, 66, 67, 68, 69, 70, 71, 72, 73, 74, 75, 76, 77] (by decide +kernel) (by decide +kernel)
set_option maxRecDepth 20000 in
theorem gX11_round_X11_takeSlips : GoodIn wsX11_round (wsV RX11 150 RX11 yX11_takeSlips wsX11_takeSlips) := goodIn_app (goodIn_of _ (by decide +kernel)) ggX11_round_X11_takeSlips
set_option maxRecDepth 20000 in
theorem ggX11_round_X11_goRound : GoodIn wsX11_round wsX11_goRound := goodIn_r _ [20, 16, 21, 3, 22, 23, 24, 7, 25, 26, 27, 28, 29, 30, 31, 32, 33, 34, 35, 36, 37, 38, 39, 40, 41, 42, 43, 44, 45, 46, 47, 48, 49, 50, 51, 52, 53, 54, 55, 56, 57, 58, 59, 60, 61, 62, 63, 64, 65, 66, 67, 68, 69, 70, 71, 72, 73, 74, 75, 76, 77] (by decide +kernel) (by decide +kernel)
set_option maxRecDepth 20000 in
theorem gX11_round_X11_goRound : GoodIn wsX11_round (wsV RX11 165 RX11 yX11_goRound wsX11_goRound) := goodIn_app (goodIn_of _ (by decide +kernel)) ggX11_round_X11_goRound
set_option maxRecDepth 20000 in
theorem ggX11_settled_X11_takeSlips : GoodIn wsX11_settled wsX11_takeSlips := goodIn_r _ [5, 6, 7, 8, 9, 37, 38, 39, 40, 41, 42, 43, 44, 45, 46, 47, 48, 49, 50, 51, 52, 53, 54, 55, 56, 57, 58, 59, 60, 61, 62, 63, 64, 65, 66, 67, 68, 69, 70] (by decide +kernel) (by decide +kernel)
set_option maxRecDepth 20000 in
theorem gX11_settled_X11_takeSlips : GoodIn wsX11_settled (wsV RX11 150 RX11 yX11_takeSlips wsX11_takeSlips) := goodIn_app (goodIn_of _ (by decide +kernel)) ggX11_settled_X11_takeSlips
set_option maxRecDepth 20000 in
theorem ggX11_settled_X11_goRound : GoodIn wsX11_settled wsX11_goRound := goodIn_r _ [13, 7, 14, 8, 15, 16, 17, 4, 18, 19, 20, 21, 22, 23, 24, 25, 26, 27, 28, 29, 30, 31, 32, 33, 34, 35, 36, 37, 38, 39, 40, 41, 42, 43, 44, 45, 46, 47, 48, 49, 50, 51, 52, 53, 54, 55, 56, 57, 58, 59, 60, 61, 62, 63, 64, 65, 66, 67, 68, 69, 70] (by decide +kernel) (by decide +kernel)
set_option maxRecDepth 20000 in
theorem gX11_settled_X11_goRound : GoodIn wsX11_settled (wsV RX11 165 RX11 yX11_goRound wsX11_goRound) := goodIn_app (goodIn_of _ (by decide +kernel)) ggX11_settled_X11_goRound
set_option maxRecDepth 20000 in
theorem ggX11_layWays_X11_isBarred : GoodIn wsX11_layWays wsX11_isBarred := goodIn_r _ [8, 9, 21, 22, 23, 24, 25, 26, 27, 28, 29, 30, 31, 32, 33, 34, 35, 36, 37, 38, 39, 40, 41, 42, 43, 44, 45, 46, 47, 48, 49, 50, 51, 52, 53, 54] (by decide +kernel) (by decide +kernel)
set_option maxRecDepth 20000 in
theorem gX11_layWays_X11_isBarred : GoodIn wsX11_layWays (wsV RX11 144 RX11 yX11_isBarred wsX11_isBarred) := goodIn_app (goodIn_of _ (by decide +kernel)) ggX11_layWays_X11_isBarred
set_option maxRecDepth 20000 in
theorem ggX11_layWays_X11_isFine : GoodIn wsX11_layWays wsX11_isFine := goodIn_r _ [13, 14, 21, 22, 23, 24, 25, 26, 27, 28, 29, 30, 31, 32, 33, 34, 35, 36, 37, 38, 39, 40, 41, 42, 43, 44, 45, 46, 47, 48, 49, 50, 51, 52, 53, 54] (by decide +kernel) (by decide +kernel)
set_option maxRecDepth 20000 in
theorem gX11_layWays_X11_isFine : GoodIn wsX11_layWays (wsV RX11 133 RX11 yX11_isFine wsX11_isFine) := goodIn_app (goodIn_of _ (by decide +kernel)) ggX11_layWays_X11_isFine
set_option maxRecDepth 20000 in
theorem ggX11_layWays_X11_over : GoodIn wsX11_layWays wsX11_over := goodIn_r _ [17] (by decide +kernel) (by decide +kernel)
set_option maxRecDepth 20000 in
theorem gX11_layWays_X11_over : GoodIn wsX11_layWays (va_wsS RX11 168 yX11_over wsX11_over) := goodIn_app (goodIn_of _ (by decide +kernel)) ggX11_layWays_X11_over
set_option maxRecDepth 20000 in
theorem ggX11_layWays_X11_power : GoodIn wsX11_layWays wsX11_power := goodIn_r _ [20] (by decide +kernel) (by decide +kernel)
set_option maxRecDepth 20000 in
theorem gX11_layWays_X11_power : GoodIn wsX11_layWays (va_wsS RX11 172 yX11_power wsX11_power) := goodIn_app (goodIn_of _ (by decide +kernel)) ggX11_layWays_X11_power
set_option maxRecDepth 20000 in
theorem ggX11_ways_X11_in : GoodIn wsX11_ways wsX11_in := goodIn_r _ [5] (by decide +kernel) (by decide +kernel)
set_option maxRecDepth 20000 in
theorem gX11_ways_X11_in : GoodIn wsX11_ways (va_wsS RX11 62 yX11_in wsX11_in) := goodIn_app (goodIn_of _ (by decide +kernel)) ggX11_ways_X11_in
set_option maxRecDepth 20000 in
theorem ggX11_ways_X11_layWays : GoodIn wsX11_ways wsX11_layWays := goodIn_r _ [9, 10, 11, 12, 13, 14, 15, 4, 16, 17, 18, 19, 20, 21, 22, 23, 24, 25, 26, 27, 28, 29, 30, 31, 32, 33, 34, 35, 36, 37, 38, 39, 40, 41, 42, 43, 44, 45, 46, 47, 48, 49, 50, 51, 52, 53, 54, 55, 56, 57, 58, 59, 60, 61, 62] (by decide +kernel) (by decide +kernel)
set_option maxRecDepth 20000 in
theorem gX11_ways_X11_layWays : GoodIn wsX11_ways (wsV RX11 175 RX11 yX11_layWays wsX11_layWays) := goodIn_app (goodIn_of _ (by decide +kernel)) ggX11_ways_X11_layWays
set_option maxRecDepth 20000 in
theorem ggX11_wrong_X11_in : GoodIn wsX11_wrong wsX11_in := goodIn_r _ [7] (by decide +kernel) (by decide +kernel)
set_option maxRecDepth 20000 in
theorem gX11_wrong_X11_in : GoodIn wsX11_wrong (va_wsS RX11 62 yX11_in wsX11_in) := goodIn_app (goodIn_of _ (by decide +kernel)) ggX11_wrong_X11_in
set_option maxRecDepth 20000 in
theorem ggX11_wrong_X11_isBarred : GoodIn wsX11_wrong wsX11_isBarred := goodIn_r _ [11, 12, 18, 19, 20, 21, 22, 23, 24, 25, 26, 27, 28, 29, 30, 31, 32, 33, 34, 35, 36, 37, 38, 39, 40, 41, 42, 43, 44, 45, 46, 47, 48, 49, 50, 51] (by decide +kernel) (by decide +kernel)
set_option maxRecDepth 20000 in
theorem gX11_wrong_X11_isBarred : GoodIn wsX11_wrong (wsV RX11 144 RX11 yX11_isBarred wsX11_isBarred) := goodIn_app (goodIn_of _ (by decide +kernel)) ggX11_wrong_X11_isBarred
set_option maxRecDepth 20000 in
theorem ggX11_wrong_X11_isFine : GoodIn wsX11_wrong wsX11_isFine := goodIn_r _ [16, 17, 18, 19, 20, 21, 22, 23, 24, 25, 26, 27, 28, 29, 30, 31, 32, 33, 34, 35, 36, 37, 38, 39, 40, 41, 42, 43, 44, 45, 46, 47, 48, 49, 50, 51] (by decide +kernel) (by decide +kernel)
set_option maxRecDepth 20000 in
theorem gX11_wrong_X11_isFine : GoodIn wsX11_wrong (wsV RX11 133 RX11 yX11_isFine wsX11_isFine) := goodIn_app (goodIn_of _ (by decide +kernel)) ggX11_wrong_X11_isFine
set_option maxRecDepth 20000 in
theorem ggX11_canBe_X11_isBarred : GoodIn wsX11_canBe wsX11_isBarred := goodIn_r _ [8, 9, 15, 16, 17, 18, 19, 20, 21, 22, 23, 24, 25, 26, 27, 28, 29, 30, 31, 32, 33, 34, 35, 36, 37, 38, 39, 40, 41, 42, 43, 44, 45, 46, 47, 48] (by decide +kernel) (by decide +kernel)
set_option maxRecDepth 20000 in
theorem gX11_canBe_X11_isBarred : GoodIn wsX11_canBe (wsV RX11 144 RX11 yX11_isBarred wsX11_isBarred) := goodIn_app (goodIn_of _ (by decide +kernel)) ggX11_canBe_X11_isBarred
set_option maxRecDepth 20000 in
theorem ggX11_canBe_X11_isFine : GoodIn wsX11_canBe wsX11_isFine := goodIn_r _ [13, 14, 15, 16, 17, 18, 19, 20, 21, 22, 23, 24, 25, 26, 27, 28, 29, 30, 31, 32, 33, 34, 35, 36, 37, 38, 39, 40, 41, 42, 43, 44, 45, 46, 47, 48] (by decide +kernel) (by decide +kernel)
set_option maxRecDepth 20000 in
theorem gX11_canBe_X11_isFine : GoodIn wsX11_canBe (wsV RX11 133 RX11 yX11_isFine wsX11_isFine) := goodIn_app (goodIn_of _ (by decide +kernel)) ggX11_canBe_X11_isFine
set_option maxRecDepth 20000 in
theorem ggX11_agreed_X11_isPerson : GoodIn wsX11_agreed wsX11_isPerson := goodIn_r _ [7, 2, 8, 9, 6, 10, 27, 28, 29, 30, 31, 32, 33, 34, 35, 36, 37, 38, 39, 40, 41, 42, 43, 44, 45, 46, 47, 48, 49, 50, 51, 52, 53, 54, 55, 56, 57, 58, 59, 60] (by decide +kernel) (by decide +kernel)
set_option maxRecDepth 20000 in
theorem gX11_agreed_X11_isPerson : GoodIn wsX11_agreed (wsV RX11 147 RX11 yX11_isPerson wsX11_isPerson) := goodIn_app (goodIn_of _ (by decide +kernel)) ggX11_agreed_X11_isPerson
set_option maxRecDepth 20000 in
theorem ggX11_agreed_X11_canBe : GoodIn wsX11_agreed wsX11_canBe := goodIn_r _ [14, 15, 16, 1, 17, 18, 19, 6, 20, 21, 22, 23, 24, 25, 26, 27, 28, 29, 30, 31, 32, 33, 34, 35, 36, 37, 38, 39, 40, 41, 42, 43, 44, 45, 46, 47, 48, 49, 50, 51, 52, 53, 54, 55, 56, 57, 58, 59, 60] (by decide +kernel) (by decide +kernel)
set_option maxRecDepth 20000 in
theorem gX11_agreed_X11_canBe : GoodIn wsX11_agreed (wsV RX11 179 RX11 yX11_canBe wsX11_canBe) := goodIn_app (goodIn_of _ (by decide +kernel)) ggX11_agreed_X11_canBe
set_option maxRecDepth 20000 in
theorem ggX11_late_X11_takeSlips : GoodIn wsX11_late wsX11_takeSlips := goodIn_r _ [8, 1, 9, 10, 11, 26, 27, 28, 29, 30, 31, 32, 33, 34, 35, 36, 37, 38, 39, 40, 41, 42, 43, 44, 45, 46, 47, 48, 49, 50, 51, 52, 53, 54, 55, 56, 57, 58, 59] (by decide +kernel) (by decide +kernel)
set_option maxRecDepth 20000 in
theorem gX11_late_X11_takeSlips : GoodIn wsX11_late (wsV RX11 150 RX11 yX11_takeSlips wsX11_takeSlips) := goodIn_app (goodIn_of _ (by decide +kernel)) ggX11_late_X11_takeSlips
set_option maxRecDepth 20000 in
theorem ggX11_late_X11_wroteIn : GoodIn wsX11_late wsX11_wroteIn := goodIn_r _ [15, 9, 10, 26, 27, 28, 29, 30, 31, 32, 33, 34, 35, 36, 37, 38, 39, 40, 41, 42, 43, 44, 45, 46, 47, 48, 49, 50, 51, 52, 53, 54, 55, 56, 57, 58, 59] (by decide +kernel) (by decide +kernel)
set_option maxRecDepth 20000 in
theorem gX11_late_X11_wroteIn : GoodIn wsX11_late (wsV RX11 130 RX11 yX11_wroteIn wsX11_wroteIn) := goodIn_app (goodIn_of _ (by decide +kernel)) ggX11_late_X11_wroteIn
set_option maxRecDepth 20000 in
theorem ggX11_late_X11_isBarred : GoodIn wsX11_late wsX11_isBarred := goodIn_r _ [19, 20, 26, 27, 28, 29, 30, 31, 32, 33, 34, 35, 36, 37, 38, 39, 40, 41, 42, 43, 44, 45, 46, 47, 48, 49, 50, 51, 52, 53, 54, 55, 56, 57, 58, 59] (by decide +kernel) (by decide +kernel)
set_option maxRecDepth 20000 in
theorem gX11_late_X11_isBarred : GoodIn wsX11_late (wsV RX11 144 RX11 yX11_isBarred wsX11_isBarred) := goodIn_app (goodIn_of _ (by decide +kernel)) ggX11_late_X11_isBarred
set_option maxRecDepth 20000 in
theorem ggX11_late_X11_isFine : GoodIn wsX11_late wsX11_isFine := goodIn_r _ [24, 25, 26, 27, 28, 29, 30, 31, 32, 33, 34, 35, 36, 37, 38, 39, 40, 41, 42, 43, 44, 45, 46, 47, 48, 49, 50, 51, 52, 53, 54, 55, 56, 57, 58, 59] (by decide +kernel) (by decide +kernel)
set_option maxRecDepth 20000 in
theorem gX11_late_X11_isFine : GoodIn wsX11_late (wsV RX11 133 RX11 yX11_isFine wsX11_isFine) := goodIn_app (goodIn_of _ (by decide +kernel)) ggX11_late_X11_isFine
set_option maxRecDepth 20000 in
theorem ggX11_tenths_X11_in : GoodIn wsX11_tenths wsX11_in := goodIn_r _ [7] (by decide +kernel) (by decide +kernel)
set_option maxRecDepth 20000 in
theorem gX11_tenths_X11_in : GoodIn wsX11_tenths (va_wsS RX11 62 yX11_in wsX11_in) := goodIn_app (goodIn_of _ (by decide +kernel)) ggX11_tenths_X11_in
set_option maxRecDepth 20000 in
theorem ggX11_allRight_X11_in : GoodIn wsX11_allRight wsX11_in := goodIn_r _ [7] (by decide +kernel) (by decide +kernel)
set_option maxRecDepth 20000 in
theorem gX11_allRight_X11_in : GoodIn wsX11_allRight (va_wsS RX11 62 yX11_in wsX11_in) := goodIn_app (goodIn_of _ (by decide +kernel)) ggX11_allRight_X11_in
set_option maxRecDepth 20000 in
theorem ggX11_allRight_X11_areTen : GoodIn wsX11_allRight wsX11_areTen := goodIn_r _ [11, 12, 38, 39, 40, 41, 42, 43, 44, 45, 46, 47, 48, 49, 50, 51, 52, 53, 54, 55, 56, 57, 58, 59, 60, 61, 62, 63, 64, 65, 66, 67, 68, 69, 70, 71] (by decide +kernel) (by decide +kernel)
set_option maxRecDepth 20000 in
theorem gX11_allRight_X11_areTen : GoodIn wsX11_allRight (wsV RX11 186 RX11 yX11_areTen wsX11_areTen) := goodIn_app (goodIn_of _ (by decide +kernel)) ggX11_allRight_X11_areTen
set_option maxRecDepth 20000 in
theorem ggX11_allRight_X11_layWays : GoodIn wsX11_allRight wsX11_layWays := goodIn_r _ [16, 17, 18, 12, 19, 20, 21, 6, 22, 23, 24, 25, 26, 27, 28, 29, 30, 31, 32, 33, 34, 38, 39, 40, 41, 42, 43, 44, 45, 46, 47, 48, 49, 50, 51, 52, 53, 54, 55, 56, 57, 58, 59, 60, 61, 62, 63, 64, 65, 66, 67, 68, 69, 70, 71] (by decide +kernel) (by decide +kernel)
set_option maxRecDepth 20000 in
theorem gX11_allRight_X11_layWays : GoodIn wsX11_allRight (wsV RX11 175 RX11 yX11_layWays wsX11_layWays) := goodIn_app (goodIn_of _ (by decide +kernel)) ggX11_allRight_X11_layWays
set_option maxRecDepth 20000 in
theorem ggX11_allRight_X11_power : GoodIn wsX11_allRight wsX11_power := goodIn_r _ [34] (by decide +kernel) (by decide +kernel)
set_option maxRecDepth 20000 in
theorem gX11_allRight_X11_power : GoodIn wsX11_allRight (va_wsS RX11 172 yX11_power wsX11_power) := goodIn_app (goodIn_of _ (by decide +kernel)) ggX11_allRight_X11_power
set_option maxRecDepth 20000 in
theorem ggX11_allRight_X11_part : GoodIn wsX11_allRight wsX11_part := goodIn_r _ [37] (by decide +kernel) (by decide +kernel)
set_option maxRecDepth 20000 in
theorem gX11_allRight_X11_part : GoodIn wsX11_allRight (va_wsS RX11 190 yX11_part wsX11_part) := goodIn_app (goodIn_of _ (by decide +kernel)) ggX11_allRight_X11_part
set_option maxRecDepth 20000 in
theorem ggX11_mean_X11_in : GoodIn wsX11_mean wsX11_in := goodIn_r _ [8] (by decide +kernel) (by decide +kernel)
set_option maxRecDepth 20000 in
theorem gX11_mean_X11_in : GoodIn wsX11_mean (va_wsS RX11 62 yX11_in wsX11_in) := goodIn_app (goodIn_of _ (by decide +kernel)) ggX11_mean_X11_in
set_option maxRecDepth 20000 in
theorem ggX11_mean_X11_areTen : GoodIn wsX11_mean wsX11_areTen := goodIn_r _ [12, 4, 27, 28, 29, 30, 31, 32, 33, 34, 35, 36, 37, 38, 39, 40, 41, 42, 43, 44, 45, 46, 47, 48, 49, 50, 51, 52, 53, 54, 55, 56, 57, 58, 59, 60] (by decide +kernel) (by decide +kernel)
set_option maxRecDepth 20000 in
theorem gX11_mean_X11_areTen : GoodIn wsX11_mean (wsV RX11 186 RX11 yX11_areTen wsX11_areTen) := goodIn_app (goodIn_of _ (by decide +kernel)) ggX11_mean_X11_areTen
set_option maxRecDepth 20000 in
theorem ggX11_mean_X11_isFine : GoodIn wsX11_mean wsX11_isFine := goodIn_r _ [16, 17, 27, 28, 29, 30, 31, 32, 33, 34, 35, 36, 37, 38, 39, 40, 41, 42, 43, 44, 45, 46, 47, 48, 49, 50, 51, 52, 53, 54, 55, 56, 57, 58, 59, 60] (by decide +kernel) (by decide +kernel)
set_option maxRecDepth 20000 in
theorem gX11_mean_X11_isFine : GoodIn wsX11_mean (wsV RX11 133 RX11 yX11_isFine wsX11_isFine) := goodIn_app (goodIn_of _ (by decide +kernel)) ggX11_mean_X11_isFine
set_option maxRecDepth 20000 in
theorem ggX11_mean_X11_over : GoodIn wsX11_mean wsX11_over := goodIn_r _ [20] (by decide +kernel) (by decide +kernel)
set_option maxRecDepth 20000 in
theorem gX11_mean_X11_over : GoodIn wsX11_mean (va_wsS RX11 168 yX11_over wsX11_over) := goodIn_app (goodIn_of _ (by decide +kernel)) ggX11_mean_X11_over
set_option maxRecDepth 20000 in
theorem ggX11_mean_X11_power : GoodIn wsX11_mean wsX11_power := goodIn_r _ [23] (by decide +kernel) (by decide +kernel)
set_option maxRecDepth 20000 in
theorem gX11_mean_X11_power : GoodIn wsX11_mean (va_wsS RX11 172 yX11_power wsX11_power) := goodIn_app (goodIn_of _ (by decide +kernel)) ggX11_mean_X11_power
set_option maxRecDepth 20000 in
theorem ggX11_mean_X11_part : GoodIn wsX11_mean wsX11_part := goodIn_r _ [26] (by decide +kernel) (by decide +kernel)
set_option maxRecDepth 20000 in
theorem gX11_mean_X11_part : GoodIn wsX11_mean (va_wsS RX11 190 yX11_part wsX11_part) := goodIn_app (goodIn_of _ (by decide +kernel)) ggX11_mean_X11_part
set_option maxRecDepth 20000 in
theorem ggX11_forget_X11_isPerson : GoodIn wsX11_forget wsX11_isPerson := goodIn_r _ [9, 10, 11, 12, 8, 13, 38, 39, 40, 41, 42, 43, 44, 45, 46, 47, 48, 49, 50, 51, 52, 53, 54, 55, 56, 57, 58, 59, 60, 61, 62, 63, 64, 65, 66, 67, 68, 69, 70, 71] (by decide +kernel) (by decide +kernel)
set_option maxRecDepth 20000 in
theorem gX11_forget_X11_isPerson : GoodIn wsX11_forget (wsV RX11 147 RX11 yX11_isPerson wsX11_isPerson) := goodIn_app (goodIn_of _ (by decide +kernel)) ggX11_forget_X11_isPerson
set_option maxRecDepth 20000 in
theorem ggX11_forget_X11_in : GoodIn wsX11_forget wsX11_in := goodIn_r _ [13] (by decide +kernel) (by decide +kernel)
set_option maxRecDepth 20000 in
theorem gX11_forget_X11_in : GoodIn wsX11_forget (va_wsS RX11 62 yX11_in wsX11_in) := goodIn_app (goodIn_of _ (by decide +kernel)) ggX11_forget_X11_in
set_option maxRecDepth 20000 in
theorem ggX11_forget_X11_takeSlips : GoodIn wsX11_forget wsX11_takeSlips := goodIn_r _ [17, 10, 18, 19, 4, 38, 39, 40, 41, 42, 43, 44, 45, 46, 47, 48, 49, 50, 51, 52, 53, 54, 55, 56, 57, 58, 59, 60, 61, 62, 63, 64, 65, 66, 67, 68, 69, 70, 71] (by decide +kernel) (by decide +kernel)
set_option maxRecDepth 20000 in
theorem gX11_forget_X11_takeSlips : GoodIn wsX11_forget (wsV RX11 150 RX11 yX11_takeSlips wsX11_takeSlips) := goodIn_app (goodIn_of _ (by decide +kernel)) ggX11_forget_X11_takeSlips
set_option maxRecDepth 20000 in
theorem ggX11_forget_X11_wroteIn : GoodIn wsX11_forget wsX11_wroteIn := goodIn_r _ [23, 18, 19, 38, 39, 40, 41, 42, 43, 44, 45, 46, 47, 48, 49, 50, 51, 52, 53, 54, 55, 56, 57, 58, 59, 60, 61, 62, 63, 64, 65, 66, 67, 68, 69, 70, 71] (by decide +kernel) (by decide +kernel)
set_option maxRecDepth 20000 in
theorem gX11_forget_X11_wroteIn : GoodIn wsX11_forget (wsV RX11 130 RX11 yX11_wroteIn wsX11_wroteIn) := goodIn_app (goodIn_of _ (by decide +kernel)) ggX11_forget_X11_wroteIn
set_option maxRecDepth 20000 in
theorem ggX11_forget_X11_isFine : GoodIn wsX11_forget wsX11_isFine := goodIn_r _ [27, 28, 38, 39, 40, 41, 42, 43, 44, 45, 46, 47, 48, 49, 50, 51, 52, 53, 54, 55, 56, 57, 58, 59, 60, 61, 62, 63, 64, 65, 66, 67, 68, 69, 70, 71] (by decide +kernel) (by decide +kernel)
set_option maxRecDepth 20000 in
theorem gX11_forget_X11_isFine : GoodIn wsX11_forget (wsV RX11 133 RX11 yX11_isFine wsX11_isFine) := goodIn_app (goodIn_of _ (by decide +kernel)) ggX11_forget_X11_isFine
set_option maxRecDepth 20000 in
theorem ggX11_forget_X11_over : GoodIn wsX11_forget wsX11_over := goodIn_r _ [31] (by decide +kernel) (by decide +kernel)
set_option maxRecDepth 20000 in
theorem gX11_forget_X11_over : GoodIn wsX11_forget (va_wsS RX11 168 yX11_over wsX11_over) := goodIn_app (goodIn_of _ (by decide +kernel)) ggX11_forget_X11_over
set_option maxRecDepth 20000 in
theorem ggX11_forget_X11_power : GoodIn wsX11_forget wsX11_power := goodIn_r _ [34] (by decide +kernel) (by decide +kernel)
set_option maxRecDepth 20000 in
theorem gX11_forget_X11_power : GoodIn wsX11_forget (va_wsS RX11 172 yX11_power wsX11_power) := goodIn_app (goodIn_of _ (by decide +kernel)) ggX11_forget_X11_power
set_option maxRecDepth 20000 in
theorem ggX11_forget_X11_part : GoodIn wsX11_forget wsX11_part := goodIn_r _ [37] (by decide +kernel) (by decide +kernel)
set_option maxRecDepth 20000 in
theorem gX11_forget_X11_part : GoodIn wsX11_forget (va_wsS RX11 190 yX11_part wsX11_part) := goodIn_app (goodIn_of _ (by decide +kernel)) ggX11_forget_X11_part
set_option maxRecDepth 20000 in
theorem ggX11_rests_X11_in : GoodIn wsX11_rests wsX11_in := goodIn_r _ [7] (by decide +kernel) (by decide +kernel)
set_option maxRecDepth 20000 in
theorem gX11_rests_X11_in : GoodIn wsX11_rests (va_wsS RX11 62 yX11_in wsX11_in) := goodIn_app (goodIn_of _ (by decide +kernel)) ggX11_rests_X11_in
set_option maxRecDepth 20000 in
theorem ggX11_rests_X11_power : GoodIn wsX11_rests wsX11_power := goodIn_r _ [10] (by decide +kernel) (by decide +kernel)
set_option maxRecDepth 20000 in
theorem gX11_rests_X11_power : GoodIn wsX11_rests (va_wsS RX11 172 yX11_power wsX11_power) := goodIn_app (goodIn_of _ (by decide +kernel)) ggX11_rests_X11_power
set_option maxRecDepth 20000 in
theorem ggX11_rests_X11_isBarred : GoodIn wsX11_rests wsX11_isBarred := goodIn_r _ [14, 15, 39, 40, 41, 42, 43, 44, 45, 46, 47, 48, 49, 50, 51, 52, 53, 54, 55, 56, 57, 58, 59, 60, 61, 62, 63, 64, 65, 66, 67, 68, 69, 70, 71, 72] (by decide +kernel) (by decide +kernel)
set_option maxRecDepth 20000 in
theorem gX11_rests_X11_isBarred : GoodIn wsX11_rests (wsV RX11 144 RX11 yX11_isBarred wsX11_isBarred) := goodIn_app (goodIn_of _ (by decide +kernel)) ggX11_rests_X11_isBarred
set_option maxRecDepth 20000 in
theorem ggX11_rests_X11_wantOf : GoodIn wsX11_rests wsX11_wantOf := goodIn_r _ [19, 3, 20, 21, 22, 6, 23, 2, 24, 25, 26, 27, 28, 29, 30, 31, 32, 33, 34, 35, 36, 37, 38, 11, 12, 13, 14, 15, 39, 40, 41, 42, 43, 44, 45, 46, 47, 48, 49, 50, 51, 52, 53, 54, 55, 56, 57, 58, 59, 60, 61, 62, 63, 64, 65, 66, 67, 68, 69, 70, 71, 72] (by decide +kernel) (by decide +kernel)
set_option maxRecDepth 20000 in
theorem gX11_rests_X11_wantOf : GoodIn wsX11_rests (wsV RX11 153 RX11 yX11_wantOf wsX11_wantOf) := goodIn_app (goodIn_of _ (by decide +kernel)) ggX11_rests_X11_wantOf
set_option maxRecDepth 20000 in
theorem ggX11_pay_X11_in : GoodIn wsX11_pay wsX11_in := goodIn_r _ [9] (by decide +kernel) (by decide +kernel)
set_option maxRecDepth 20000 in
theorem gX11_pay_X11_in : GoodIn wsX11_pay (va_wsS RX11 62 yX11_in wsX11_in) := goodIn_app (goodIn_of _ (by decide +kernel)) ggX11_pay_X11_in
set_option maxRecDepth 20000 in
theorem ggX11_cheated_X11_takeSlips : GoodIn wsX11_cheated wsX11_takeSlips := goodIn_r _ [9, 1, 10, 11, 12, 32, 33, 34, 35, 36, 37, 38, 39, 40, 41, 42, 43, 44, 45, 46, 47, 48, 49, 50, 51, 52, 53, 54, 55, 56, 57, 58, 59, 60, 61, 62, 63, 64, 65] (by decide +kernel) (by decide +kernel)
set_option maxRecDepth 20000 in
theorem gX11_cheated_X11_takeSlips : GoodIn wsX11_cheated (wsV RX11 150 RX11 yX11_takeSlips wsX11_takeSlips) := goodIn_app (goodIn_of _ (by decide +kernel)) ggX11_cheated_X11_takeSlips
set_option maxRecDepth 20000 in
theorem ggX11_cheated_X11_getsOf : GoodIn wsX11_cheated wsX11_getsOf := goodIn_r _ [16, 10, 11, 17, 18, 19, 20, 21, 8, 22, 23, 24, 25, 26, 27, 28, 29, 30, 31, 32, 33, 34, 35, 36, 37, 38, 39, 40, 41, 42, 43, 44, 45, 46, 47, 48, 49, 50, 51, 52, 53, 54, 55, 56, 57, 58, 59, 60, 61, 62, 63, 64, 65] (by decide +kernel) (by decide +kernel)
set_option maxRecDepth 20000 in
theorem gX11_cheated_X11_getsOf : GoodIn wsX11_cheated (wsV RX11 141 RX11 yX11_getsOf wsX11_getsOf) := goodIn_app (goodIn_of _ (by decide +kernel)) ggX11_cheated_X11_getsOf
set_option maxRecDepth 20000 in
theorem ggX11_open_X11_isBarred : GoodIn wsX11_open wsX11_isBarred := goodIn_r _ [5, 6, 7, 8, 9, 10, 11, 12, 13, 14, 15, 16, 17, 18, 19, 20, 21, 22, 23, 24, 25, 26, 27, 28, 29, 30, 31, 32, 33, 34, 35, 36, 37, 38, 39, 40] (by decide +kernel) (by decide +kernel)
set_option maxRecDepth 20000 in
theorem gX11_open_X11_isBarred : GoodIn wsX11_open (wsV RX11 144 RX11 yX11_isBarred wsX11_isBarred) := goodIn_app (goodIn_of _ (by decide +kernel)) ggX11_open_X11_isBarred
set_option maxRecDepth 20000 in
theorem ggX11_won_X11_isPerson : GoodIn wsX11_won wsX11_isPerson := goodIn_r _ [13, 2, 14, 15, 12, 16, 47, 48, 49, 50, 51, 52, 53, 54, 55, 56, 57, 58, 59, 60, 61, 62, 63, 64, 65, 66, 67, 68, 69, 70, 71, 72, 73, 74, 75, 76, 77, 78, 79, 80] (by decide +kernel) (by decide +kernel)
set_option maxRecDepth 20000 in
theorem gX11_won_X11_isPerson : GoodIn wsX11_won (wsV RX11 147 RX11 yX11_isPerson wsX11_isPerson) := goodIn_app (goodIn_of _ (by decide +kernel)) ggX11_won_X11_isPerson
set_option maxRecDepth 20000 in
theorem ggX11_won_X11_in : GoodIn wsX11_won wsX11_in := goodIn_r _ [16] (by decide +kernel) (by decide +kernel)
set_option maxRecDepth 20000 in
theorem gX11_won_X11_in : GoodIn wsX11_won (va_wsS RX11 62 yX11_in wsX11_in) := goodIn_app (goodIn_of _ (by decide +kernel)) ggX11_won_X11_in
set_option maxRecDepth 20000 in
theorem ggX11_won_X11_ones : GoodIn wsX11_won wsX11_ones := goodIn_r _ [19] (by decide +kernel) (by decide +kernel)
set_option maxRecDepth 20000 in
theorem gX11_won_X11_ones : GoodIn wsX11_won (va_wsS RX11 86 yX11_ones wsX11_ones) := goodIn_app (goodIn_of _ (by decide +kernel)) ggX11_won_X11_ones
set_option maxRecDepth 20000 in
theorem ggX11_won_X11_open : GoodIn wsX11_won wsX11_open := goodIn_r _ [23, 24, 25, 26, 12, 27, 8, 47, 48, 49, 50, 51, 52, 53, 54, 55, 56, 57, 58, 59, 60, 61, 62, 63, 64, 65, 66, 67, 68, 69, 70, 71, 72, 73, 74, 75, 76, 77, 78, 79, 80] (by decide +kernel) (by decide +kernel)
set_option maxRecDepth 20000 in
theorem gX11_won_X11_open : GoodIn wsX11_won (wsV RX11 215 RX11 yX11_open wsX11_open) := goodIn_app (goodIn_of _ (by decide +kernel)) ggX11_won_X11_open
set_option maxRecDepth 20000 in
theorem ggX11_won_X11_getsOf : GoodIn wsX11_won wsX11_getsOf := goodIn_r _ [31, 3, 7, 32, 33, 34, 35, 36, 12, 37, 38, 39, 40, 41, 42, 43, 44, 45, 46, 47, 48, 49, 50, 51, 52, 53, 54, 55, 56, 57, 58, 59, 60, 61, 62, 63, 64, 65, 66, 67, 68, 69, 70, 71, 72, 73, 74, 75, 76, 77, 78, 79, 80] (by decide +kernel) (by decide +kernel)
set_option maxRecDepth 20000 in
theorem gX11_won_X11_getsOf : GoodIn wsX11_won (wsV RX11 141 RX11 yX11_getsOf wsX11_getsOf) := goodIn_app (goodIn_of _ (by decide +kernel)) ggX11_won_X11_getsOf
set_option maxRecDepth 20000 in
theorem ggX11_keep_X11_in : GoodIn wsX11_keep wsX11_in := goodIn_r _ [8] (by decide +kernel) (by decide +kernel)
set_option maxRecDepth 20000 in
theorem gX11_keep_X11_in : GoodIn wsX11_keep (va_wsS RX11 62 yX11_in wsX11_in) := goodIn_app (goodIn_of _ (by decide +kernel)) ggX11_keep_X11_in
set_option maxRecDepth 20000 in
theorem ggX11_again_X11_in : GoodIn wsX11_again wsX11_in := goodIn_r _ [9] (by decide +kernel) (by decide +kernel)
set_option maxRecDepth 20000 in
theorem gX11_again_X11_in : GoodIn wsX11_again (va_wsS RX11 62 yX11_in wsX11_in) := goodIn_app (goodIn_of _ (by decide +kernel)) ggX11_again_X11_in
set_option maxRecDepth 20000 in
theorem ggX11_count_X11_takeSlips : GoodIn wsX11_count wsX11_takeSlips := goodIn_r _ [13, 2, 14, 15, 16, 33, 34, 35, 36, 37, 38, 39, 40, 41, 42, 43, 44, 45, 46, 47, 48, 49, 50, 51, 52, 53, 54, 55, 56, 57, 58, 59, 60, 61, 62, 63, 64, 65, 66] (by decide +kernel) (by decide +kernel)
set_option maxRecDepth 20000 in
theorem gX11_count_X11_takeSlips : GoodIn wsX11_count (wsV RX11 150 RX11 yX11_takeSlips wsX11_takeSlips) := goodIn_app (goodIn_of _ (by decide +kernel)) ggX11_count_X11_takeSlips
set_option maxRecDepth 20000 in
theorem ggX11_count_X11_isRight : GoodIn wsX11_count wsX11_isRight := goodIn_r _ [20, 15, 21, 22, 23, 12, 24, 14, 25, 26, 27, 28, 7, 33, 34, 35, 36, 37, 38, 39, 40, 41, 42, 43, 44, 45, 46, 47, 48, 49, 50, 51, 52, 53, 54, 55, 56, 57, 58, 59, 60, 61, 62, 63, 64, 65, 66] (by decide +kernel) (by decide +kernel)
set_option maxRecDepth 20000 in
theorem gX11_count_X11_isRight : GoodIn wsX11_count (wsV RX11 137 RX11 yX11_isRight wsX11_isRight) := goodIn_app (goodIn_of _ (by decide +kernel)) ggX11_count_X11_isRight
set_option maxRecDepth 20000 in
theorem ggX11_count_X11_getsOf : GoodIn wsX11_count wsX11_getsOf := goodIn_r _ [32, 14, 15, 8, 1, 17, 18, 19, 12, 20, 21, 22, 23, 24, 25, 26, 27, 28, 7, 33, 34, 35, 36, 37, 38, 39, 40, 41, 42, 43, 44, 45, 46, 47, 48, 49, 50, 51, 52, 53, 54, 55, 56, 57, 58, 59, 60, 61, 62, 63, 64, 65, 66] (by decide +kernel) (by decide +kernel)
set_option maxRecDepth 20000 in
theorem gX11_count_X11_getsOf : GoodIn wsX11_count (wsV RX11 141 RX11 yX11_getsOf wsX11_getsOf) := goodIn_app (goodIn_of _ (by decide +kernel)) ggX11_count_X11_getsOf
abbrev vwCl : List vw_C := [(RX0, TX0, 1), (RX1, TX1, 2), (RX2, TX2, 3), (RX3, TX3, 2), (RX4, TX4, 2), (RX5, TX5, 3), (RX6, TX6, 3), (RX7, TX7, 4), (RX8, TX8, 4), (RX9, TX9, 2), (RX10, TX10, 10), (RX11, TX11, 34)]
