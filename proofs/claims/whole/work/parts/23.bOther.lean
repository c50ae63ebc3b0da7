theorem tbX2_put : rx_tab.getD mX2_put [] = rt_X2_put := rfl
theorem ndX2_put : rx_inc rt_X2_put = true := by decide +kernel
theorem tbX6_collect : rx_tab.getD mX6_collect [] = rt_X6_collect := rfl
theorem ndX6_collect : rx_inc rt_X6_collect = true := by decide +kernel
theorem tbX3_extend : rx_tab.getD mX3_extend [] = rt_X3_extend := rfl
theorem ndX3_extend : rx_inc rt_X3_extend = true := by decide +kernel
theorem tbX6_nextOrder : rx_tab.getD mX6_nextOrder [] = rt_X6_nextOrder := rfl
theorem ndX6_nextOrder : rx_inc rt_X6_nextOrder = true := by decide +kernel
theorem tbX5_keyHere : rx_tab.getD mX5_keyHere [] = rt_X5_keyHere := rfl
theorem ndX5_keyHere : rx_inc rt_X5_keyHere = true := by decide +kernel
theorem tbX8_refusalAs : rx_tab.getD mX8_refusalAs [] = rt_X8_refusalAs := rfl
theorem ndX8_refusalAs : rx_inc rt_X8_refusalAs = true := by decide +kernel
theorem tbX7_isMissing : rx_tab.getD mX7_isMissing [] = rt_X7_isMissing := rfl
theorem ndX7_isMissing : rx_inc rt_X7_isMissing = true := by decide +kernel
theorem tbX0_harmOf : rx_tab.getD mX0_harmOf [] = rt_X0_harmOf := rfl
theorem ndX0_harmOf : rx_inc rt_X0_harmOf = true := by decide +kernel
theorem tbX2_apply : rx_tab.getD mX2_apply [] = rt_X2_apply := rfl
theorem ndX2_apply : rx_inc rt_X2_apply = true := by decide +kernel
theorem tbX2_valueOf : rx_tab.getD mX2_valueOf [] = rt_X2_valueOf := rfl
theorem ndX2_valueOf : rx_inc rt_X2_valueOf = true := by decide +kernel
theorem tbX5_writeLeaf : rx_tab.getD mX5_writeLeaf [] = rt_X5_writeLeaf := rfl
theorem ndX5_writeLeaf : rx_inc rt_X5_writeLeaf = true := by decide +kernel
theorem tbX3_search : rx_tab.getD mX3_search [] = rt_X3_search := rfl
theorem ndX3_search : rx_inc rt_X3_search = true := by decide +kernel
theorem tbX5_chain : rx_tab.getD mX5_chain [] = rt_X5_chain := rfl
theorem ndX5_chain : rx_inc rt_X5_chain = true := by decide +kernel
theorem tbX0_reckon : rx_tab.getD mX0_reckon [] = rt_X0_reckon := rfl
theorem ndX0_reckon : rx_inc rt_X0_reckon = true := by decide +kernel
theorem tbX7_takeFrom : rx_tab.getD mX7_takeFrom [] = rt_X7_takeFrom := rfl
theorem ndX7_takeFrom : rx_inc rt_X7_takeFrom = true := by decide +kernel
theorem tbX5_levelOf : rx_tab.getD mX5_levelOf [] = rt_X5_levelOf := rfl
theorem ndX5_levelOf : rx_inc rt_X5_levelOf = true := by decide +kernel
theorem tbX7_become : rx_tab.getD mX7_become [] = rt_X7_become := rfl
theorem ndX7_become : rx_inc rt_X7_become = true := by decide +kernel
theorem tbX5_write : rx_tab.getD mX5_write [] = rt_X5_write := rfl
theorem ndX5_write : rx_inc rt_X5_write = true := by decide +kernel
theorem tbX5_fail : rx_tab.getD mX5_fail [] = rt_X5_fail := rfl
theorem ndX5_fail : rx_inc rt_X5_fail = true := by decide +kernel
theorem tbX5_behindRow : rx_tab.getD mX5_behindRow [] = rt_X5_behindRow := rfl
theorem ndX5_behindRow : rx_inc rt_X5_behindRow = true := by decide +kernel
theorem tbX5_nameHere : rx_tab.getD mX5_nameHere [] = rt_X5_nameHere := rfl
theorem ndX5_nameHere : rx_inc rt_X5_nameHere = true := by decide +kernel
theorem tbX0_straightSumOf : rx_tab.getD mX0_straightSumOf [] = rt_X0_straightSumOf := rfl
theorem ndX0_straightSumOf : rx_inc rt_X0_straightSumOf = true := by decide +kernel
theorem tbX5_feedNumber : rx_tab.getD mX5_feedNumber [] = rt_X5_feedNumber := rfl
theorem ndX5_feedNumber : rx_inc rt_X5_feedNumber = true := by decide +kernel
theorem tbX7_isOrderOf : rx_tab.getD mX7_isOrderOf [] = rt_X7_isOrderOf := rfl
theorem ndX7_isOrderOf : rx_inc rt_X7_isOrderOf = true := by decide +kernel
theorem tbX3_costOfNext : rx_tab.getD mX3_costOfNext [] = rt_X3_costOfNext := rfl
theorem ndX3_costOfNext : rx_inc rt_X3_costOfNext = true := by decide +kernel
theorem tbX9_search : rx_tab.getD mX9_search [] = rt_X9_search := rfl
theorem ndX9_search : rx_inc rt_X9_search = true := by decide +kernel
theorem tbX3_costOfOpen : rx_tab.getD mX3_costOfOpen [] = rt_X3_costOfOpen := rfl
theorem ndX3_costOfOpen : rx_inc rt_X3_costOfOpen = true := by decide +kernel
theorem tbX5_read : rx_tab.getD mX5_read [] = rt_X5_read := rfl
theorem ndX5_read : rx_inc rt_X5_read = true := by decide +kernel
theorem tbX5_next : rx_tab.getD mX5_next [] = rt_X5_next := rfl
theorem ndX5_next : rx_inc rt_X5_next = true := by decide +kernel
theorem tbX4_paint : rx_tab.getD mX4_paint [] = rt_X4_paint := rfl
theorem ndX4_paint : rx_inc rt_X4_paint = true := by decide +kernel
theorem tbX7_hasNoNumber : rx_tab.getD mX7_hasNoNumber [] = rt_X7_hasNoNumber := rfl
theorem ndX7_hasNoNumber : rx_inc rt_X7_hasNoNumber = true := by decide +kernel
theorem tbX6_exchange : rx_tab.getD mX6_exchange [] = rt_X6_exchange := rfl
theorem ndX6_exchange : rx_inc rt_X6_exchange = true := by decide +kernel
theorem tbX7_hasPlaces : rx_tab.getD mX7_hasPlaces [] = rt_X7_hasPlaces := rfl
theorem ndX7_hasPlaces : rx_inc rt_X7_hasPlaces = true := by decide +kernel
theorem tbX7_hasPlace : rx_tab.getD mX7_hasPlace [] = rt_X7_hasPlace := rfl
theorem ndX7_hasPlace : rx_inc rt_X7_hasPlace = true := by decide +kernel
theorem tbX2_answer : rx_tab.getD mX2_answer [] = rt_X2_answer := rfl
theorem ndX2_answer : rx_inc rt_X2_answer = true := by decide +kernel
theorem tbX9_pair : rx_tab.getD mX9_pair [] = rt_X9_pair := rfl
theorem ndX9_pair : rx_inc rt_X9_pair = true := by decide +kernel
theorem tbX2_lastOf : rx_tab.getD mX2_lastOf [] = rt_X2_lastOf := rfl
theorem ndX2_lastOf : rx_inc rt_X2_lastOf = true := by decide +kernel
theorem tbX5_isHere : rx_tab.getD mX5_isHere [] = rt_X5_isHere := rfl
theorem ndX5_isHere : rx_inc rt_X5_isHere = true := by decide +kernel
theorem tbX5_isWithin : rx_tab.getD mX5_isWithin [] = rt_X5_isWithin := rfl
theorem ndX5_isWithin : rx_inc rt_X5_isWithin = true := by decide +kernel
theorem tbJ7_fill_53178 : rx_tab.getD mJ7_fill_53178 [] = rt_J7_fill_53178 := rfl
theorem ndJ7_fill_53178 : rx_inc rt_J7_fill_53178 = true := by decide +kernel
theorem tbX0_sum : rx_tab.getD mX0_sum [] = rt_X0_sum := rfl
theorem ndX0_sum : rx_inc rt_X0_sum = true := by decide +kernel
theorem tbX5_piece : rx_tab.getD mX5_piece [] = rt_X5_piece := rfl
theorem ndX5_piece : rx_inc rt_X5_piece = true := by decide +kernel
theorem tbX6_search : rx_tab.getD mX6_search [] = rt_X6_search := rfl
theorem ndX6_search : rx_inc rt_X6_search = true := by decide +kernel
theorem tbX4_search : rx_tab.getD mX4_search [] = rt_X4_search := rfl
theorem ndX4_search : rx_inc rt_X4_search = true := by decide +kernel
theorem tbX4_clashesOf : rx_tab.getD mX4_clashesOf [] = rt_X4_clashesOf := rfl
theorem ndX4_clashesOf : rx_inc rt_X4_clashesOf = true := by decide +kernel
theorem tbX5_numberHere : rx_tab.getD mX5_numberHere [] = rt_X5_numberHere := rfl
theorem ndX5_numberHere : rx_inc rt_X5_numberHere = true := by decide +kernel
theorem iX0_harmOf_0 : rx_ins mX0_harmOf 0 = some (3, 1, 0, 0, 0, []) := rx_at tbX0_harmOf ndX0_harmOf (j := 0) rfl
theorem iX0_harmOf_1 : rx_ins mX0_harmOf 1 = some (18, 4, 0, 0, 0, [(12, 0)]) := rx_at tbX0_harmOf ndX0_harmOf (j := 1) rfl
theorem iX0_harmOf_4 : rx_ins mX0_harmOf 4 = some (3, 5, 0, 1, 0, []) := rx_at tbX0_harmOf ndX0_harmOf (j := 2) rfl
theorem iX0_harmOf_5 : rx_ins mX0_harmOf 5 = some (17, 8, 0, 1, 12, [(27, 1)]) := rx_at tbX0_harmOf ndX0_harmOf (j := 3) rfl
theorem iX0_harmOf_8 : rx_ins mX0_harmOf 8 = some (1, 9, 0, 0, 0, []) := rx_at tbX0_harmOf ndX0_harmOf (j := 4) rfl
theorem iX0_harmOf_9 : rx_ins mX0_harmOf 9 = some (28, 12, 4, 36, 3, [(33, 86)]) := rx_at tbX0_harmOf ndX0_harmOf (j := 5) rfl
theorem iX0_harmOf_12 : rx_ins mX0_harmOf 12 = some (4, 13, 0, 3, 0, []) := rx_at tbX0_harmOf ndX0_harmOf (j := 6) rfl
theorem iX0_harmOf_13 : rx_ins mX0_harmOf 13 = some (3, 14, 0, 1, 0, []) := rx_at tbX0_harmOf ndX0_harmOf (j := 7) rfl
theorem iX0_harmOf_14 : rx_ins mX0_harmOf 14 = some (18, 17, 0, 1, 10, [(37, 2)]) := rx_at tbX0_harmOf ndX0_harmOf (j := 8) rfl
theorem iX0_harmOf_17 : rx_ins mX0_harmOf 17 = some (2, 18, 0, 2, 0, []) := rx_at tbX0_harmOf ndX0_harmOf (j := 9) rfl
theorem iX0_harmOf_18 : rx_ins mX0_harmOf 18 = some (20, 19, 0, 0, 0, []) := rx_at tbX0_harmOf ndX0_harmOf (j := 10) rfl
theorem iX0_harmOf_19 : rx_ins mX0_harmOf 19 = some (4, 21, 1, 4, 0, []) := rx_at tbX0_harmOf ndX0_harmOf (j := 11) rfl
theorem iX0_harmOf_21 : rx_ins mX0_harmOf 21 = some (2, 22, 0, 3, 0, []) := rx_at tbX0_harmOf ndX0_harmOf (j := 12) rfl
theorem iX0_harmOf_22 : rx_ins mX0_harmOf 22 = some (13, 25, 8, 3, 30, []) := rx_at tbX0_harmOf ndX0_harmOf (j := 13) rfl
theorem iX0_harmOf_30 : rx_ins mX0_harmOf 30 = some (3, 31, 0, 0, 0, []) := rx_at tbX0_harmOf ndX0_harmOf (j := 16) rfl
theorem iX0_harmOf_31 : rx_ins mX0_harmOf 31 = some (18, 34, 0, 0, 0, [(12, 0)]) := rx_at tbX0_harmOf ndX0_harmOf (j := 17) rfl
theorem iX0_harmOf_34 : rx_ins mX0_harmOf 34 = some (2, 35, 0, 3, 0, []) := rx_at tbX0_harmOf ndX0_harmOf (j := 18) rfl
theorem iX0_harmOf_35 : rx_ins mX0_harmOf 35 = some (2, 37, 1, 4, 0, []) := rx_at tbX0_harmOf ndX0_harmOf (j := 19) rfl
theorem iX0_harmOf_37 : rx_ins mX0_harmOf 37 = some (3, 38, 0, 1, 0, []) := rx_at tbX0_harmOf ndX0_harmOf (j := 20) rfl
theorem iX0_harmOf_38 : rx_ins mX0_harmOf 38 = some (18, 41, 0, 1, 8, [(40, 3)]) := rx_at tbX0_harmOf ndX0_harmOf (j := 21) rfl
theorem iX0_harmOf_41 : rx_ins mX0_harmOf 41 = some (2, 42, 0, 2, 0, []) := rx_at tbX0_harmOf ndX0_harmOf (j := 22) rfl
theorem iX0_harmOf_42 : rx_ins mX0_harmOf 42 = some (20, 43, 0, 0, 0, []) := rx_at tbX0_harmOf ndX0_harmOf (j := 23) rfl
theorem iX0_harmOf_43 : rx_ins mX0_harmOf 43 = some (3, 44, 0, 1, 0, []) := rx_at tbX0_harmOf ndX0_harmOf (j := 24) rfl
theorem iX0_harmOf_44 : rx_ins mX0_harmOf 44 = some (18, 47, 0, 1, 9, [(43, 4)]) := rx_at tbX0_harmOf ndX0_harmOf (j := 25) rfl
theorem iX0_harmOf_47 : rx_ins mX0_harmOf 47 = some (2, 48, 0, 2, 0, []) := rx_at tbX0_harmOf ndX0_harmOf (j := 26) rfl
theorem iX0_harmOf_48 : rx_ins mX0_harmOf 48 = some (20, 49, 0, 0, 0, []) := rx_at tbX0_harmOf ndX0_harmOf (j := 27) rfl
theorem iX0_harmOf_49 : rx_ins mX0_harmOf 49 = some (28, 52, 4, 37, 5, [(46, 87)]) := rx_at tbX0_harmOf ndX0_harmOf (j := 28) rfl
theorem iX0_harmOf_52 : rx_ins mX0_harmOf 52 = some (1, 54, 99, 1, 0, []) := rx_at tbX0_harmOf ndX0_harmOf (j := 29) rfl
theorem iX0_harmOf_54 : rx_ins mX0_harmOf 54 = some (28, 57, 1, 129, 2, [(50, 88)]) := rx_at tbX0_harmOf ndX0_harmOf (j := 30) rfl
theorem iX0_harmOf_57 : rx_ins mX0_harmOf 57 = some (4, 59, 1, 5, 0, []) := rx_at tbX0_harmOf ndX0_harmOf (j := 31) rfl
theorem iX0_harmOf_59 : rx_ins mX0_harmOf 59 = some (3, 60, 0, 1, 0, []) := rx_at tbX0_harmOf ndX0_harmOf (j := 32) rfl
theorem iX0_harmOf_60 : rx_ins mX0_harmOf 60 = some (18, 63, 0, 1, 7, [(53, 5)]) := rx_at tbX0_harmOf ndX0_harmOf (j := 33) rfl
theorem iX0_harmOf_63 : rx_ins mX0_harmOf 63 = some (2, 64, 0, 2, 0, []) := rx_at tbX0_harmOf ndX0_harmOf (j := 34) rfl
theorem iX0_harmOf_64 : rx_ins mX0_harmOf 64 = some (20, 65, 0, 0, 0, []) := rx_at tbX0_harmOf ndX0_harmOf (j := 35) rfl
theorem iX0_harmOf_65 : rx_ins mX0_harmOf 65 = some (2, 67, 1, 5, 0, []) := rx_at tbX0_harmOf ndX0_harmOf (j := 36) rfl
theorem iX0_harmOf_67 : rx_ins mX0_harmOf 67 = some (2, 69, 1, 4, 0, []) := rx_at tbX0_harmOf ndX0_harmOf (j := 37) rfl
theorem iX0_harmOf_69 : rx_ins mX0_harmOf 69 = some (28, 72, 1, 131, 3, [(56, 89)]) := rx_at tbX0_harmOf ndX0_harmOf (j := 38) rfl
theorem iX0_harmOf_72 : rx_ins mX0_harmOf 72 = some (29, 73, 0, 0, 0, []) := rx_at tbX0_harmOf ndX0_harmOf (j := 39) rfl
theorem iX0_harmOf_25 : rx_ins mX0_harmOf 25 = some (2, 27, 1, 4, 0, []) := rx_at tbX0_harmOf ndX0_harmOf (j := 14) rfl
theorem iX0_harmOf_27 : rx_ins mX0_harmOf 27 = some (15, 30, 30, 0, 57, []) := rx_at tbX0_harmOf ndX0_harmOf (j := 15) rfl
theorem iX0_reckon_0 : rx_ins mX0_reckon 0 = some (1, 1, 0, 0, 0, []) := rx_at tbX0_reckon ndX0_reckon (j := 0) rfl
theorem iX0_reckon_1 : rx_ins mX0_reckon 1 = some (4, 2, 0, 2, 0, []) := rx_at tbX0_reckon ndX0_reckon (j := 1) rfl
theorem iX0_reckon_2 : rx_ins mX0_reckon 2 = some (2, 3, 0, 2, 0, []) := rx_at tbX0_reckon ndX0_reckon (j := 2) rfl
theorem iX0_reckon_3 : rx_ins mX0_reckon 3 = some (3, 4, 0, 1, 0, []) := rx_at tbX0_reckon ndX0_reckon (j := 3) rfl
theorem iX0_reckon_4 : rx_ins mX0_reckon 4 = some (17, 7, 0, 1, 6, [(60, 6)]) := rx_at tbX0_reckon ndX0_reckon (j := 4) rfl
theorem iX0_reckon_7 : rx_ins mX0_reckon 7 = some (14, 10, 21, 3, 28, []) := rx_at tbX0_reckon ndX0_reckon (j := 5) rfl
theorem iX0_reckon_28 : rx_ins mX0_reckon 28 = some (3, 29, 0, 0, 0, []) := rx_at tbX0_reckon ndX0_reckon (j := 16) rfl
theorem iX0_reckon_29 : rx_ins mX0_reckon 29 = some (18, 32, 0, 0, 0, [(12, 0)]) := rx_at tbX0_reckon ndX0_reckon (j := 17) rfl
theorem iX0_reckon_32 : rx_ins mX0_reckon 32 = some (3, 33, 0, 1, 0, []) := rx_at tbX0_reckon ndX0_reckon (j := 18) rfl
theorem iX0_reckon_33 : rx_ins mX0_reckon 33 = some (17, 36, 0, 1, 12, [(27, 1)]) := rx_at tbX0_reckon ndX0_reckon (j := 19) rfl
theorem iX0_reckon_36 : rx_ins mX0_reckon 36 = some (1, 37, 1, 0, 0, []) := rx_at tbX0_reckon ndX0_reckon (j := 20) rfl
theorem iX0_reckon_37 : rx_ins mX0_reckon 37 = some (28, 40, 4, 36, 3, [(33, 86)]) := rx_at tbX0_reckon ndX0_reckon (j := 21) rfl
theorem iX0_reckon_40 : rx_ins mX0_reckon 40 = some (4, 41, 0, 2, 0, []) := rx_at tbX0_reckon ndX0_reckon (j := 22) rfl
theorem iX0_reckon_41 : rx_ins mX0_reckon 41 = some (1, 42, 0, 0, 0, []) := rx_at tbX0_reckon ndX0_reckon (j := 23) rfl
theorem iX0_reckon_42 : rx_ins mX0_reckon 42 = some (4, 43, 0, 3, 0, []) := rx_at tbX0_reckon ndX0_reckon (j := 24) rfl
theorem iX0_reckon_10 : rx_ins mX0_reckon 10 = some (3, 11, 0, 0, 0, []) := rx_at tbX0_reckon ndX0_reckon (j := 6) rfl
theorem iX0_reckon_11 : rx_ins mX0_reckon 11 = some (18, 14, 0, 0, 1, [(18, 7)]) := rx_at tbX0_reckon ndX0_reckon (j := 7) rfl
theorem iX0_reckon_14 : rx_ins mX0_reckon 14 = some (2, 15, 0, 2, 0, []) := rx_at tbX0_reckon ndX0_reckon (j := 8) rfl
theorem iX0_reckon_15 : rx_ins mX0_reckon 15 = some (3, 16, 0, 0, 0, []) := rx_at tbX0_reckon ndX0_reckon (j := 9) rfl
theorem iX0_reckon_16 : rx_ins mX0_reckon 16 = some (3, 17, 0, 1, 0, []) := rx_at tbX0_reckon ndX0_reckon (j := 10) rfl
theorem iX0_reckon_17 : rx_ins mX0_reckon 17 = some (2, 18, 0, 2, 0, []) := rx_at tbX0_reckon ndX0_reckon (j := 11) rfl
theorem iX0_reckon_18 : rx_ins mX0_reckon 18 = some (28, 21, 2, 1, 3, [(63, 90)]) := rx_at tbX0_reckon ndX0_reckon (j := 12) rfl
theorem iX0_reckon_21 : rx_ins mX0_reckon 21 = some (21, 22, 0, 0, 0, []) := rx_at tbX0_reckon ndX0_reckon (j := 13) rfl
theorem iX0_reckon_22 : rx_ins mX0_reckon 22 = some (6, 25, 1, 2, 0, []) := rx_at tbX0_reckon ndX0_reckon (j := 14) rfl
theorem iX0_reckon_25 : rx_ins mX0_reckon 25 = some (15, 28, (-23), 0, 2, []) := rx_at tbX0_reckon ndX0_reckon (j := 15) rfl
theorem iX0_reckon_43 : rx_ins mX0_reckon 43 = some (2, 44, 0, 3, 0, []) := rx_at tbX0_reckon ndX0_reckon (j := 25) rfl
theorem iX0_reckon_44 : rx_ins mX0_reckon 44 = some (3, 45, 0, 1, 0, []) := rx_at tbX0_reckon ndX0_reckon (j := 26) rfl
theorem iX0_reckon_45 : rx_ins mX0_reckon 45 = some (17, 48, 0, 1, 6, [(60, 6)]) := rx_at tbX0_reckon ndX0_reckon (j := 27) rfl
theorem iX0_reckon_48 : rx_ins mX0_reckon 48 = some (14, 51, 109, 3, 157, []) := rx_at tbX0_reckon ndX0_reckon (j := 28) rfl
theorem iX0_reckon_157 : rx_ins mX0_reckon 157 = some (30, 158, 0, 0, 0, []) := rx_at tbX0_reckon ndX0_reckon (j := 88) rfl
theorem iX0_reckon_51 : rx_ins mX0_reckon 51 = some (2, 52, 0, 3, 0, []) := rx_at tbX0_reckon ndX0_reckon (j := 29) rfl
theorem iX0_reckon_52 : rx_ins mX0_reckon 52 = some (1, 53, 1, 0, 0, []) := rx_at tbX0_reckon ndX0_reckon (j := 30) rfl
theorem iX0_reckon_53 : rx_ins mX0_reckon 53 = some (7, 54, 0, 0, 0, []) := rx_at tbX0_reckon ndX0_reckon (j := 31) rfl
theorem iX0_reckon_54 : rx_ins mX0_reckon 54 = some (4, 56, 1, 4, 0, []) := rx_at tbX0_reckon ndX0_reckon (j := 32) rfl
theorem iX0_reckon_56 : rx_ins mX0_reckon 56 = some (2, 58, 1, 4, 0, []) := rx_at tbX0_reckon ndX0_reckon (j := 33) rfl
theorem iX0_reckon_58 : rx_ins mX0_reckon 58 = some (3, 59, 0, 1, 0, []) := rx_at tbX0_reckon ndX0_reckon (j := 34) rfl
theorem iX0_reckon_59 : rx_ins mX0_reckon 59 = some (17, 62, 0, 1, 6, [(60, 6)]) := rx_at tbX0_reckon ndX0_reckon (j := 35) rfl
theorem iX0_reckon_62 : rx_ins mX0_reckon 62 = some (14, 65, 89, 3, 151, []) := rx_at tbX0_reckon ndX0_reckon (j := 36) rfl
theorem iX0_reckon_151 : rx_ins mX0_reckon 151 = some (6, 154, 1, 3, 0, []) := rx_at tbX0_reckon ndX0_reckon (j := 86) rfl
theorem iX0_reckon_154 : rx_ins mX0_reckon 154 = some (15, 157, (-111), 0, 43, []) := rx_at tbX0_reckon ndX0_reckon (j := 87) rfl
theorem iX0_reckon_65 : rx_ins mX0_reckon 65 = some (2, 66, 0, 2, 0, []) := rx_at tbX0_reckon ndX0_reckon (j := 37) rfl
theorem iX0_reckon_66 : rx_ins mX0_reckon 66 = some (13, 69, 20, 3, 86, []) := rx_at tbX0_reckon ndX0_reckon (j := 38) rfl
theorem iX0_reckon_86 : rx_ins mX0_reckon 86 = some (3, 87, 0, 0, 0, []) := rx_at tbX0_reckon ndX0_reckon (j := 49) rfl
theorem iX0_reckon_87 : rx_ins mX0_reckon 87 = some (18, 90, 0, 0, 0, [(12, 0)]) := rx_at tbX0_reckon ndX0_reckon (j := 50) rfl
theorem iX0_reckon_90 : rx_ins mX0_reckon 90 = some (2, 91, 0, 2, 0, []) := rx_at tbX0_reckon ndX0_reckon (j := 51) rfl
theorem iX0_reckon_91 : rx_ins mX0_reckon 91 = some (3, 92, 0, 0, 0, []) := rx_at tbX0_reckon ndX0_reckon (j := 52) rfl
theorem iX0_reckon_92 : rx_ins mX0_reckon 92 = some (18, 95, 0, 0, 1, [(18, 7)]) := rx_at tbX0_reckon ndX0_reckon (j := 53) rfl
theorem iX0_reckon_95 : rx_ins mX0_reckon 95 = some (2, 96, 0, 3, 0, []) := rx_at tbX0_reckon ndX0_reckon (j := 54) rfl
theorem iX0_reckon_96 : rx_ins mX0_reckon 96 = some (20, 97, 0, 0, 0, []) := rx_at tbX0_reckon ndX0_reckon (j := 55) rfl
theorem iX0_reckon_97 : rx_ins mX0_reckon 97 = some (3, 98, 0, 0, 0, []) := rx_at tbX0_reckon ndX0_reckon (j := 56) rfl
theorem iX0_reckon_98 : rx_ins mX0_reckon 98 = some (18, 101, 0, 0, 1, [(18, 7)]) := rx_at tbX0_reckon ndX0_reckon (j := 57) rfl
theorem iX0_reckon_101 : rx_ins mX0_reckon 101 = some (2, 103, 1, 4, 0, []) := rx_at tbX0_reckon ndX0_reckon (j := 58) rfl
theorem iX0_reckon_103 : rx_ins mX0_reckon 103 = some (20, 104, 0, 0, 0, []) := rx_at tbX0_reckon ndX0_reckon (j := 59) rfl
theorem iX0_reckon_104 : rx_ins mX0_reckon 104 = some (1, 105, 0, 0, 0, []) := rx_at tbX0_reckon ndX0_reckon (j := 60) rfl
theorem iX0_reckon_105 : rx_ins mX0_reckon 105 = some (28, 108, 4, 37, 5, [(46, 87)]) := rx_at tbX0_reckon ndX0_reckon (j := 61) rfl
theorem iX0_reckon_108 : rx_ins mX0_reckon 108 = some (4, 110, 1, 5, 0, []) := rx_at tbX0_reckon ndX0_reckon (j := 62) rfl
theorem iX0_reckon_69 : rx_ins mX0_reckon 69 = some (3, 70, 0, 0, 0, []) := rx_at tbX0_reckon ndX0_reckon (j := 39) rfl
theorem iX0_reckon_70 : rx_ins mX0_reckon 70 = some (18, 73, 0, 0, 1, [(18, 7)]) := rx_at tbX0_reckon ndX0_reckon (j := 40) rfl
theorem iX0_reckon_73 : rx_ins mX0_reckon 73 = some (2, 74, 0, 3, 0, []) := rx_at tbX0_reckon ndX0_reckon (j := 41) rfl
theorem iX0_reckon_74 : rx_ins mX0_reckon 74 = some (20, 75, 0, 0, 0, []) := rx_at tbX0_reckon ndX0_reckon (j := 42) rfl
theorem iX0_reckon_75 : rx_ins mX0_reckon 75 = some (3, 76, 0, 0, 0, []) := rx_at tbX0_reckon ndX0_reckon (j := 43) rfl
theorem iX0_reckon_76 : rx_ins mX0_reckon 76 = some (18, 79, 0, 0, 1, [(18, 7)]) := rx_at tbX0_reckon ndX0_reckon (j := 44) rfl
theorem iX0_reckon_79 : rx_ins mX0_reckon 79 = some (2, 81, 1, 4, 0, []) := rx_at tbX0_reckon ndX0_reckon (j := 45) rfl
theorem iX0_reckon_81 : rx_ins mX0_reckon 81 = some (20, 82, 0, 0, 0, []) := rx_at tbX0_reckon ndX0_reckon (j := 46) rfl
theorem iX0_reckon_82 : rx_ins mX0_reckon 82 = some (7, 83, 0, 0, 0, []) := rx_at tbX0_reckon ndX0_reckon (j := 47) rfl
theorem iX0_reckon_83 : rx_ins mX0_reckon 83 = some (15, 86, 25, 0, 108, []) := rx_at tbX0_reckon ndX0_reckon (j := 48) rfl
theorem iX0_reckon_110 : rx_ins mX0_reckon 110 = some (3, 111, 0, 0, 0, []) := rx_at tbX0_reckon ndX0_reckon (j := 63) rfl
theorem iX0_reckon_111 : rx_ins mX0_reckon 111 = some (18, 114, 0, 0, 2, [(24, 8)]) := rx_at tbX0_reckon ndX0_reckon (j := 64) rfl
theorem iX0_reckon_114 : rx_ins mX0_reckon 114 = some (2, 115, 0, 3, 0, []) := rx_at tbX0_reckon ndX0_reckon (j := 65) rfl
theorem iX0_reckon_115 : rx_ins mX0_reckon 115 = some (22, 116, 0, 0, 0, []) := rx_at tbX0_reckon ndX0_reckon (j := 66) rfl
theorem iX0_reckon_116 : rx_ins mX0_reckon 116 = some (2, 118, 1, 4, 0, []) := rx_at tbX0_reckon ndX0_reckon (j := 67) rfl
theorem iX0_reckon_118 : rx_ins mX0_reckon 118 = some (2, 120, 1, 5, 0, []) := rx_at tbX0_reckon ndX0_reckon (j := 68) rfl
theorem iX0_reckon_120 : rx_ins mX0_reckon 120 = some (1, 123, 999, 2, 0, []) := rx_at tbX0_reckon ndX0_reckon (j := 69) rfl
theorem iX0_reckon_123 : rx_ins mX0_reckon 123 = some (28, 126, 1, 129, 2, [(50, 88)]) := rx_at tbX0_reckon ndX0_reckon (j := 70) rfl
theorem iX0_reckon_126 : rx_ins mX0_reckon 126 = some (21, 127, 0, 0, 0, []) := rx_at tbX0_reckon ndX0_reckon (j := 71) rfl
theorem iX0_reckon_127 : rx_ins mX0_reckon 127 = some (3, 128, 0, 0, 0, []) := rx_at tbX0_reckon ndX0_reckon (j := 72) rfl
theorem iX0_reckon_128 : rx_ins mX0_reckon 128 = some (18, 131, 0, 0, 2, [(24, 8)]) := rx_at tbX0_reckon ndX0_reckon (j := 73) rfl
theorem iX0_reckon_131 : rx_ins mX0_reckon 131 = some (2, 133, 1, 4, 0, []) := rx_at tbX0_reckon ndX0_reckon (j := 74) rfl
theorem iX0_reckon_133 : rx_ins mX0_reckon 133 = some (22, 134, 0, 0, 0, []) := rx_at tbX0_reckon ndX0_reckon (j := 75) rfl
theorem iX0_reckon_134 : rx_ins mX0_reckon 134 = some (2, 135, 0, 3, 0, []) := rx_at tbX0_reckon ndX0_reckon (j := 76) rfl
theorem iX0_reckon_135 : rx_ins mX0_reckon 135 = some (3, 136, 0, 0, 0, []) := rx_at tbX0_reckon ndX0_reckon (j := 77) rfl
theorem iX0_reckon_136 : rx_ins mX0_reckon 136 = some (18, 139, 0, 0, 2, [(24, 8)]) := rx_at tbX0_reckon ndX0_reckon (j := 78) rfl
theorem iX0_reckon_139 : rx_ins mX0_reckon 139 = some (2, 140, 0, 3, 0, []) := rx_at tbX0_reckon ndX0_reckon (j := 79) rfl
theorem iX0_reckon_140 : rx_ins mX0_reckon 140 = some (22, 141, 0, 0, 0, []) := rx_at tbX0_reckon ndX0_reckon (j := 80) rfl
theorem iX0_reckon_141 : rx_ins mX0_reckon 141 = some (2, 143, 1, 4, 0, []) := rx_at tbX0_reckon ndX0_reckon (j := 81) rfl
theorem iX0_reckon_143 : rx_ins mX0_reckon 143 = some (20, 144, 0, 0, 0, []) := rx_at tbX0_reckon ndX0_reckon (j := 82) rfl
theorem iX0_reckon_144 : rx_ins mX0_reckon 144 = some (21, 145, 0, 0, 0, []) := rx_at tbX0_reckon ndX0_reckon (j := 83) rfl
theorem iX0_reckon_145 : rx_ins mX0_reckon 145 = some (6, 148, 1, 4, 0, []) := rx_at tbX0_reckon ndX0_reckon (j := 84) rfl
theorem iX0_reckon_148 : rx_ins mX0_reckon 148 = some (15, 151, (-92), 0, 56, []) := rx_at tbX0_reckon ndX0_reckon (j := 85) rfl
theorem iX0_sum_0 : rx_ins mX0_sum 0 = some (1, 1, 0, 0, 0, []) := rx_at tbX0_sum ndX0_sum (j := 0) rfl
theorem iX0_sum_1 : rx_ins mX0_sum 1 = some (4, 3, 1, 4, 0, []) := rx_at tbX0_sum ndX0_sum (j := 1) rfl
theorem iX0_sum_3 : rx_ins mX0_sum 3 = some (1, 4, 0, 0, 0, []) := rx_at tbX0_sum ndX0_sum (j := 2) rfl
theorem iX0_sum_4 : rx_ins mX0_sum 4 = some (4, 6, 1, 5, 0, []) := rx_at tbX0_sum ndX0_sum (j := 3) rfl
theorem iX0_sum_6 : rx_ins mX0_sum 6 = some (2, 8, 1, 5, 0, []) := rx_at tbX0_sum ndX0_sum (j := 4) rfl
theorem iX0_sum_8 : rx_ins mX0_sum 8 = some (3, 9, 0, 1, 0, []) := rx_at tbX0_sum ndX0_sum (j := 5) rfl
theorem iX0_sum_9 : rx_ins mX0_sum 9 = some (17, 12, 0, 1, 6, [(60, 6)]) := rx_at tbX0_sum ndX0_sum (j := 6) rfl
theorem iX0_sum_12 : rx_ins mX0_sum 12 = some (14, 15, 76, 3, 88, []) := rx_at tbX0_sum ndX0_sum (j := 7) rfl
theorem iX0_sum_88 : rx_ins mX0_sum 88 = some (2, 90, 1, 4, 0, []) := rx_at tbX0_sum ndX0_sum (j := 45) rfl
theorem iX0_sum_90 : rx_ins mX0_sum 90 = some (29, 91, 0, 0, 0, []) := rx_at tbX0_sum ndX0_sum (j := 46) rfl
theorem iX0_sum_15 : rx_ins mX0_sum 15 = some (2, 17, 1, 4, 0, []) := rx_at tbX0_sum ndX0_sum (j := 8) rfl
theorem iX0_sum_17 : rx_ins mX0_sum 17 = some (2, 18, 0, 3, 0, []) := rx_at tbX0_sum ndX0_sum (j := 9) rfl
theorem iX0_sum_18 : rx_ins mX0_sum 18 = some (14, 21, 70, 3, 88, []) := rx_at tbX0_sum ndX0_sum (j := 10) rfl
theorem iX0_sum_21 : rx_ins mX0_sum 21 = some (2, 23, 1, 5, 0, []) := rx_at tbX0_sum ndX0_sum (j := 11) rfl
theorem iX0_sum_23 : rx_ins mX0_sum 23 = some (1, 24, 1, 0, 0, []) := rx_at tbX0_sum ndX0_sum (j := 12) rfl
theorem iX0_sum_24 : rx_ins mX0_sum 24 = some (7, 25, 0, 0, 0, []) := rx_at tbX0_sum ndX0_sum (j := 13) rfl
theorem iX0_sum_25 : rx_ins mX0_sum 25 = some (4, 27, 1, 6, 0, []) := rx_at tbX0_sum ndX0_sum (j := 14) rfl
theorem iX0_sum_27 : rx_ins mX0_sum 27 = some (2, 29, 1, 6, 0, []) := rx_at tbX0_sum ndX0_sum (j := 15) rfl
theorem iX0_sum_29 : rx_ins mX0_sum 29 = some (3, 30, 0, 1, 0, []) := rx_at tbX0_sum ndX0_sum (j := 16) rfl
theorem iX0_sum_30 : rx_ins mX0_sum 30 = some (17, 33, 0, 1, 6, [(60, 6)]) := rx_at tbX0_sum ndX0_sum (j := 17) rfl
theorem iX0_sum_33 : rx_ins mX0_sum 33 = some (14, 36, 49, 3, 82, []) := rx_at tbX0_sum ndX0_sum (j := 18) rfl
theorem iX0_sum_82 : rx_ins mX0_sum 82 = some (6, 85, 1, 5, 0, []) := rx_at tbX0_sum ndX0_sum (j := 43) rfl
theorem iX0_sum_85 : rx_ins mX0_sum 85 = some (15, 88, (-79), 0, 6, []) := rx_at tbX0_sum ndX0_sum (j := 44) rfl
theorem iX0_sum_36 : rx_ins mX0_sum 36 = some (3, 37, 0, 0, 0, []) := rx_at tbX0_sum ndX0_sum (j := 19) rfl
theorem iX0_sum_37 : rx_ins mX0_sum 37 = some (18, 40, 0, 0, 2, [(24, 8)]) := rx_at tbX0_sum ndX0_sum (j := 20) rfl
theorem iX0_sum_40 : rx_ins mX0_sum 40 = some (2, 42, 1, 5, 0, []) := rx_at tbX0_sum ndX0_sum (j := 21) rfl
theorem iX0_sum_42 : rx_ins mX0_sum 42 = some (22, 43, 0, 0, 0, []) := rx_at tbX0_sum ndX0_sum (j := 22) rfl
theorem iX0_sum_43 : rx_ins mX0_sum 43 = some (2, 45, 1, 6, 0, []) := rx_at tbX0_sum ndX0_sum (j := 23) rfl
theorem iX0_sum_45 : rx_ins mX0_sum 45 = some (20, 46, 0, 0, 0, []) := rx_at tbX0_sum ndX0_sum (j := 24) rfl
theorem iX0_sum_46 : rx_ins mX0_sum 46 = some (13, 49, 30, 0, 76, []) := rx_at tbX0_sum ndX0_sum (j := 25) rfl
theorem iX0_sum_76 : rx_ins mX0_sum 76 = some (6, 79, 1, 6, 0, []) := rx_at tbX0_sum ndX0_sum (j := 41) rfl
theorem iX0_sum_79 : rx_ins mX0_sum 79 = some (15, 82, (-52), 0, 27, []) := rx_at tbX0_sum ndX0_sum (j := 42) rfl
theorem iX0_sum_49 : rx_ins mX0_sum 49 = some (3, 50, 0, 1, 0, []) := rx_at tbX0_sum ndX0_sum (j := 26) rfl
theorem iX0_sum_50 : rx_ins mX0_sum 50 = some (2, 51, 0, 2, 0, []) := rx_at tbX0_sum ndX0_sum (j := 27) rfl
theorem iX0_sum_51 : rx_ins mX0_sum 51 = some (2, 53, 1, 5, 0, []) := rx_at tbX0_sum ndX0_sum (j := 28) rfl
theorem iX0_sum_53 : rx_ins mX0_sum 53 = some (2, 55, 1, 6, 0, []) := rx_at tbX0_sum ndX0_sum (j := 29) rfl
theorem iX0_sum_55 : rx_ins mX0_sum 55 = some (28, 58, 3, 26, 4, [(67, 91)]) := rx_at tbX0_sum ndX0_sum (j := 30) rfl
theorem iX0_sum_58 : rx_ins mX0_sum 58 = some (13, 61, 18, 0, 76, []) := rx_at tbX0_sum ndX0_sum (j := 31) rfl
theorem iX0_sum_61 : rx_ins mX0_sum 61 = some (2, 63, 1, 4, 0, []) := rx_at tbX0_sum ndX0_sum (j := 32) rfl
theorem iX0_sum_63 : rx_ins mX0_sum 63 = some (3, 64, 0, 0, 0, []) := rx_at tbX0_sum ndX0_sum (j := 33) rfl
theorem iX0_sum_64 : rx_ins mX0_sum 64 = some (18, 67, 0, 0, 2, [(24, 8)]) := rx_at tbX0_sum ndX0_sum (j := 34) rfl
theorem iX0_sum_67 : rx_ins mX0_sum 67 = some (2, 69, 1, 5, 0, []) := rx_at tbX0_sum ndX0_sum (j := 35) rfl
theorem iX0_sum_69 : rx_ins mX0_sum 69 = some (22, 70, 0, 0, 0, []) := rx_at tbX0_sum ndX0_sum (j := 36) rfl
theorem iX0_sum_70 : rx_ins mX0_sum 70 = some (2, 72, 1, 6, 0, []) := rx_at tbX0_sum ndX0_sum (j := 37) rfl
theorem iX0_sum_72 : rx_ins mX0_sum 72 = some (20, 73, 0, 0, 0, []) := rx_at tbX0_sum ndX0_sum (j := 38) rfl
theorem iX0_sum_73 : rx_ins mX0_sum 73 = some (7, 74, 0, 0, 0, []) := rx_at tbX0_sum ndX0_sum (j := 39) rfl
theorem iX0_sum_74 : rx_ins mX0_sum 74 = some (4, 76, 1, 4, 0, []) := rx_at tbX0_sum ndX0_sum (j := 40) rfl
theorem iX0_straightSumOf_0 : rx_ins mX0_straightSumOf 0 = some (1, 1, 0, 0, 0, []) := rx_at tbX0_straightSumOf ndX0_straightSumOf (j := 0) rfl
theorem iX0_straightSumOf_1 : rx_ins mX0_straightSumOf 1 = some (4, 2, 0, 3, 0, []) := rx_at tbX0_straightSumOf ndX0_straightSumOf (j := 1) rfl
theorem iX0_straightSumOf_2 : rx_ins mX0_straightSumOf 2 = some (1, 3, 0, 0, 0, []) := rx_at tbX0_straightSumOf ndX0_straightSumOf (j := 2) rfl
theorem iX0_straightSumOf_3 : rx_ins mX0_straightSumOf 3 = some (4, 5, 1, 4, 0, []) := rx_at tbX0_straightSumOf ndX0_straightSumOf (j := 3) rfl
theorem iX0_straightSumOf_5 : rx_ins mX0_straightSumOf 5 = some (2, 7, 1, 4, 0, []) := rx_at tbX0_straightSumOf ndX0_straightSumOf (j := 4) rfl
theorem iX0_straightSumOf_7 : rx_ins mX0_straightSumOf 7 = some (3, 8, 0, 1, 0, []) := rx_at tbX0_straightSumOf ndX0_straightSumOf (j := 5) rfl
theorem iX0_straightSumOf_8 : rx_ins mX0_straightSumOf 8 = some (17, 11, 0, 1, 6, [(60, 6)]) := rx_at tbX0_straightSumOf ndX0_straightSumOf (j := 6) rfl
theorem iX0_straightSumOf_11 : rx_ins mX0_straightSumOf 11 = some (14, 14, 38, 3, 49, []) := rx_at tbX0_straightSumOf ndX0_straightSumOf (j := 7) rfl
theorem iX0_straightSumOf_49 : rx_ins mX0_straightSumOf 49 = some (2, 50, 0, 3, 0, []) := rx_at tbX0_straightSumOf ndX0_straightSumOf (j := 28) rfl
theorem iX0_straightSumOf_50 : rx_ins mX0_straightSumOf 50 = some (29, 51, 0, 0, 0, []) := rx_at tbX0_straightSumOf ndX0_straightSumOf (j := 29) rfl
theorem iX0_straightSumOf_14 : rx_ins mX0_straightSumOf 14 = some (2, 16, 1, 4, 0, []) := rx_at tbX0_straightSumOf ndX0_straightSumOf (j := 8) rfl
theorem iX0_straightSumOf_16 : rx_ins mX0_straightSumOf 16 = some (2, 17, 0, 2, 0, []) := rx_at tbX0_straightSumOf ndX0_straightSumOf (j := 9) rfl
theorem iX0_straightSumOf_17 : rx_ins mX0_straightSumOf 17 = some (14, 20, 26, 0, 43, []) := rx_at tbX0_straightSumOf ndX0_straightSumOf (j := 10) rfl
theorem iX0_straightSumOf_43 : rx_ins mX0_straightSumOf 43 = some (6, 46, 1, 4, 0, []) := rx_at tbX0_straightSumOf ndX0_straightSumOf (j := 26) rfl
theorem iX0_straightSumOf_46 : rx_ins mX0_straightSumOf 46 = some (15, 49, (-41), 0, 5, []) := rx_at tbX0_straightSumOf ndX0_straightSumOf (j := 27) rfl
theorem iX0_straightSumOf_20 : rx_ins mX0_straightSumOf 20 = some (3, 21, 0, 1, 0, []) := rx_at tbX0_straightSumOf ndX0_straightSumOf (j := 11) rfl
theorem iX0_straightSumOf_21 : rx_ins mX0_straightSumOf 21 = some (1, 22, 0, 0, 0, []) := rx_at tbX0_straightSumOf ndX0_straightSumOf (j := 12) rfl
theorem iX0_straightSumOf_22 : rx_ins mX0_straightSumOf 22 = some (2, 23, 0, 2, 0, []) := rx_at tbX0_straightSumOf ndX0_straightSumOf (j := 13) rfl
theorem iX0_straightSumOf_23 : rx_ins mX0_straightSumOf 23 = some (2, 25, 1, 4, 0, []) := rx_at tbX0_straightSumOf ndX0_straightSumOf (j := 14) rfl
theorem iX0_straightSumOf_25 : rx_ins mX0_straightSumOf 25 = some (28, 28, 3, 26, 4, [(67, 91)]) := rx_at tbX0_straightSumOf ndX0_straightSumOf (j := 15) rfl
theorem iX0_straightSumOf_28 : rx_ins mX0_straightSumOf 28 = some (13, 31, 15, 0, 43, []) := rx_at tbX0_straightSumOf ndX0_straightSumOf (j := 16) rfl
theorem iX0_straightSumOf_31 : rx_ins mX0_straightSumOf 31 = some (2, 32, 0, 3, 0, []) := rx_at tbX0_straightSumOf ndX0_straightSumOf (j := 17) rfl
theorem iX0_straightSumOf_32 : rx_ins mX0_straightSumOf 32 = some (3, 33, 0, 0, 0, []) := rx_at tbX0_straightSumOf ndX0_straightSumOf (j := 18) rfl
theorem iX0_straightSumOf_33 : rx_ins mX0_straightSumOf 33 = some (18, 36, 0, 0, 2, [(24, 8)]) := rx_at tbX0_straightSumOf ndX0_straightSumOf (j := 19) rfl
theorem iX0_straightSumOf_36 : rx_ins mX0_straightSumOf 36 = some (2, 37, 0, 2, 0, []) := rx_at tbX0_straightSumOf ndX0_straightSumOf (j := 20) rfl
theorem iX0_straightSumOf_37 : rx_ins mX0_straightSumOf 37 = some (22, 38, 0, 0, 0, []) := rx_at tbX0_straightSumOf ndX0_straightSumOf (j := 21) rfl
theorem iX0_straightSumOf_38 : rx_ins mX0_straightSumOf 38 = some (2, 40, 1, 4, 0, []) := rx_at tbX0_straightSumOf ndX0_straightSumOf (j := 22) rfl
theorem iX0_straightSumOf_40 : rx_ins mX0_straightSumOf 40 = some (20, 41, 0, 0, 0, []) := rx_at tbX0_straightSumOf ndX0_straightSumOf (j := 23) rfl
theorem iX0_straightSumOf_41 : rx_ins mX0_straightSumOf 41 = some (7, 42, 0, 0, 0, []) := rx_at tbX0_straightSumOf ndX0_straightSumOf (j := 24) rfl
theorem iX0_straightSumOf_42 : rx_ins mX0_straightSumOf 42 = some (4, 43, 0, 3, 0, []) := rx_at tbX0_straightSumOf ndX0_straightSumOf (j := 25) rfl
theorem iX2_put_0 : rx_ins mX2_put 0 = some (3, 1, 0, 0, 0, []) := rx_at tbX2_put ndX2_put (j := 0) rfl
theorem iX2_put_1 : rx_ins mX2_put 1 = some (18, 4, 0, 2, 0, [(9, 23)]) := rx_at tbX2_put ndX2_put (j := 1) rfl
theorem iX2_put_4 : rx_ins mX2_put 4 = some (2, 5, 0, 1, 0, []) := rx_at tbX2_put ndX2_put (j := 2) rfl
theorem iX2_put_5 : rx_ins mX2_put 5 = some (3, 6, 0, 2, 0, []) := rx_at tbX2_put ndX2_put (j := 3) rfl
theorem iX2_put_6 : rx_ins mX2_put 6 = some (17, 9, 0, 5, 1, [(29, 24)]) := rx_at tbX2_put ndX2_put (j := 4) rfl
theorem iX2_put_9 : rx_ins mX2_put 9 = some (21, 10, 0, 0, 0, []) := rx_at tbX2_put ndX2_put (j := 5) rfl
theorem iX2_put_10 : rx_ins mX2_put 10 = some (3, 11, 0, 0, 0, []) := rx_at tbX2_put ndX2_put (j := 6) rfl
theorem iX2_put_11 : rx_ins mX2_put 11 = some (18, 14, 0, 2, 1, [(15, 25)]) := rx_at tbX2_put ndX2_put (j := 7) rfl
theorem iX2_put_14 : rx_ins mX2_put 14 = some (2, 15, 0, 1, 0, []) := rx_at tbX2_put ndX2_put (j := 8) rfl
theorem iX2_put_15 : rx_ins mX2_put 15 = some (3, 16, 0, 2, 0, []) := rx_at tbX2_put ndX2_put (j := 9) rfl
theorem iX2_put_16 : rx_ins mX2_put 16 = some (17, 19, 0, 5, 2, [(35, 26)]) := rx_at tbX2_put ndX2_put (j := 10) rfl
theorem iX2_put_19 : rx_ins mX2_put 19 = some (21, 20, 0, 0, 0, []) := rx_at tbX2_put ndX2_put (j := 11) rfl
theorem iX2_put_20 : rx_ins mX2_put 20 = some (3, 21, 0, 0, 0, []) := rx_at tbX2_put ndX2_put (j := 12) rfl
theorem iX2_put_21 : rx_ins mX2_put 21 = some (18, 24, 0, 2, 2, [(18, 27)]) := rx_at tbX2_put ndX2_put (j := 13) rfl
theorem iX2_put_24 : rx_ins mX2_put 24 = some (2, 25, 0, 1, 0, []) := rx_at tbX2_put ndX2_put (j := 14) rfl
theorem iX2_put_25 : rx_ins mX2_put 25 = some (3, 26, 0, 2, 0, []) := rx_at tbX2_put ndX2_put (j := 15) rfl
theorem iX2_put_26 : rx_ins mX2_put 26 = some (17, 29, 0, 5, 3, [(37, 28)]) := rx_at tbX2_put ndX2_put (j := 16) rfl
theorem iX2_put_29 : rx_ins mX2_put 29 = some (21, 30, 0, 0, 0, []) := rx_at tbX2_put ndX2_put (j := 17) rfl
theorem iX2_put_30 : rx_ins mX2_put 30 = some (3, 31, 0, 2, 0, []) := rx_at tbX2_put ndX2_put (j := 18) rfl
theorem iX2_put_31 : rx_ins mX2_put 31 = some (18, 34, 0, 5, 4, [(40, 29)]) := rx_at tbX2_put ndX2_put (j := 19) rfl
theorem iX2_put_34 : rx_ins mX2_put 34 = some (1, 35, 0, 0, 0, []) := rx_at tbX2_put ndX2_put (j := 20) rfl
theorem iX2_put_35 : rx_ins mX2_put 35 = some (3, 36, 0, 0, 0, []) := rx_at tbX2_put ndX2_put (j := 21) rfl
theorem iX2_put_36 : rx_ins mX2_put 36 = some (18, 39, 0, 2, 3, [(23, 30)]) := rx_at tbX2_put ndX2_put (j := 22) rfl
theorem iX2_put_39 : rx_ins mX2_put 39 = some (2, 40, 0, 1, 0, []) := rx_at tbX2_put ndX2_put (j := 23) rfl
theorem iX2_put_40 : rx_ins mX2_put 40 = some (22, 41, 0, 0, 0, []) := rx_at tbX2_put ndX2_put (j := 24) rfl
theorem iX2_put_41 : rx_ins mX2_put 41 = some (1, 42, 0, 0, 0, []) := rx_at tbX2_put ndX2_put (j := 25) rfl
theorem iX2_put_42 : rx_ins mX2_put 42 = some (3, 43, 0, 2, 0, []) := rx_at tbX2_put ndX2_put (j := 26) rfl
theorem iX2_put_43 : rx_ins mX2_put 43 = some (17, 46, 0, 5, 3, [(37, 28)]) := rx_at tbX2_put ndX2_put (j := 27) rfl
theorem iX2_put_46 : rx_ins mX2_put 46 = some (25, 49, 0, 0, 0, [(43, 1)]) := rx_at tbX2_put ndX2_put (j := 28) rfl
theorem iX2_put_49 : rx_ins mX2_put 49 = some (30, 50, 0, 0, 0, []) := rx_at tbX2_put ndX2_put (j := 29) rfl
theorem iX2_lastOf_0 : rx_ins mX2_lastOf 0 = some (2, 1, 0, 1, 0, []) := rx_at tbX2_lastOf ndX2_lastOf (j := 0) rfl
theorem iX2_lastOf_1 : rx_ins mX2_lastOf 1 = some (1, 3, 14, 1, 0, []) := rx_at tbX2_lastOf ndX2_lastOf (j := 1) rfl
theorem iX2_lastOf_3 : rx_ins mX2_lastOf 3 = some (31, 6, 0, 1, 0, [(49, 3)]) := rx_at tbX2_lastOf ndX2_lastOf (j := 2) rfl
theorem iX2_lastOf_6 : rx_ins mX2_lastOf 6 = some (1, 7, 1, 0, 0, []) := rx_at tbX2_lastOf ndX2_lastOf (j := 3) rfl
theorem iX2_lastOf_7 : rx_ins mX2_lastOf 7 = some (7, 8, 0, 1, 0, []) := rx_at tbX2_lastOf ndX2_lastOf (j := 4) rfl
theorem iX2_lastOf_8 : rx_ins mX2_lastOf 8 = some (4, 9, 0, 3, 0, []) := rx_at tbX2_lastOf ndX2_lastOf (j := 5) rfl
theorem iX2_lastOf_9 : rx_ins mX2_lastOf 9 = some (2, 10, 0, 3, 0, []) := rx_at tbX2_lastOf ndX2_lastOf (j := 6) rfl
theorem iX2_lastOf_10 : rx_ins mX2_lastOf 10 = some (13, 13, 21, 2, 31, []) := rx_at tbX2_lastOf ndX2_lastOf (j := 7) rfl
theorem iX2_lastOf_31 : rx_ins mX2_lastOf 31 = some (1, 32, (-1), 0, 0, []) := rx_at tbX2_lastOf ndX2_lastOf (j := 18) rfl
theorem iX2_lastOf_32 : rx_ins mX2_lastOf 32 = some (29, 33, 0, 0, 0, []) := rx_at tbX2_lastOf ndX2_lastOf (j := 19) rfl
theorem iX2_lastOf_13 : rx_ins mX2_lastOf 13 = some (3, 14, 0, 0, 0, []) := rx_at tbX2_lastOf ndX2_lastOf (j := 8) rfl
theorem iX2_lastOf_14 : rx_ins mX2_lastOf 14 = some (18, 17, 0, 2, 0, [(9, 23)]) := rx_at tbX2_lastOf ndX2_lastOf (j := 9) rfl
theorem iX2_lastOf_17 : rx_ins mX2_lastOf 17 = some (2, 18, 0, 3, 0, []) := rx_at tbX2_lastOf ndX2_lastOf (j := 10) rfl
theorem iX2_lastOf_18 : rx_ins mX2_lastOf 18 = some (20, 19, 0, 0, 0, []) := rx_at tbX2_lastOf ndX2_lastOf (j := 11) rfl
theorem iX2_lastOf_19 : rx_ins mX2_lastOf 19 = some (2, 20, 0, 2, 0, []) := rx_at tbX2_lastOf ndX2_lastOf (j := 12) rfl
theorem iX2_lastOf_20 : rx_ins mX2_lastOf 20 = some (14, 23, 5, 1, 25, []) := rx_at tbX2_lastOf ndX2_lastOf (j := 13) rfl
theorem iX2_lastOf_25 : rx_ins mX2_lastOf 25 = some (6, 28, (-1), 3, 0, []) := rx_at tbX2_lastOf ndX2_lastOf (j := 16) rfl
theorem iX2_lastOf_28 : rx_ins mX2_lastOf 28 = some (15, 31, (-19), 0, 9, []) := rx_at tbX2_lastOf ndX2_lastOf (j := 17) rfl
theorem iX2_lastOf_23 : rx_ins mX2_lastOf 23 = some (2, 24, 0, 3, 0, []) := rx_at tbX2_lastOf ndX2_lastOf (j := 14) rfl
theorem iX2_lastOf_24 : rx_ins mX2_lastOf 24 = some (29, 25, 0, 0, 0, []) := rx_at tbX2_lastOf ndX2_lastOf (j := 15) rfl
theorem iX2_answer_0 : rx_ins mX2_answer 0 = some (3, 1, 0, 0, 0, []) := rx_at tbX2_answer ndX2_answer (j := 0) rfl
theorem iX2_answer_1 : rx_ins mX2_answer 1 = some (18, 4, 0, 2, 3, [(23, 30)]) := rx_at tbX2_answer ndX2_answer (j := 1) rfl
theorem iX2_answer_4 : rx_ins mX2_answer 4 = some (2, 5, 0, 1, 0, []) := rx_at tbX2_answer ndX2_answer (j := 2) rfl
theorem iX2_answer_5 : rx_ins mX2_answer 5 = some (22, 6, 0, 0, 0, []) := rx_at tbX2_answer ndX2_answer (j := 3) rfl
theorem iX2_answer_6 : rx_ins mX2_answer 6 = some (5, 8, 1, 5, 0, []) := rx_at tbX2_answer ndX2_answer (j := 4) rfl
theorem iX2_answer_8 : rx_ins mX2_answer 8 = some (1, 9, 0, 0, 0, []) := rx_at tbX2_answer ndX2_answer (j := 5) rfl
theorem iX2_answer_9 : rx_ins mX2_answer 9 = some (4, 11, 1, 6, 0, []) := rx_at tbX2_answer ndX2_answer (j := 6) rfl
theorem iX2_answer_11 : rx_ins mX2_answer 11 = some (1, 12, 0, 0, 0, []) := rx_at tbX2_answer ndX2_answer (j := 7) rfl
theorem iX2_answer_12 : rx_ins mX2_answer 12 = some (4, 14, 1, 7, 0, []) := rx_at tbX2_answer ndX2_answer (j := 8) rfl
theorem iX2_answer_14 : rx_ins mX2_answer 14 = some (2, 16, 1, 7, 0, []) := rx_at tbX2_answer ndX2_answer (j := 9) rfl
theorem iX2_answer_16 : rx_ins mX2_answer 16 = some (3, 17, 0, 0, 0, []) := rx_at tbX2_answer ndX2_answer (j := 10) rfl
theorem iX2_answer_17 : rx_ins mX2_answer 17 = some (18, 20, 0, 2, 2, [(18, 27)]) := rx_at tbX2_answer ndX2_answer (j := 11) rfl
theorem iX2_answer_20 : rx_ins mX2_answer 20 = some (2, 21, 0, 1, 0, []) := rx_at tbX2_answer ndX2_answer (j := 12) rfl
theorem iX2_answer_21 : rx_ins mX2_answer 21 = some (20, 22, 0, 0, 0, []) := rx_at tbX2_answer ndX2_answer (j := 13) rfl
theorem iX2_answer_22 : rx_ins mX2_answer 22 = some (14, 25, 133, 3, 155, []) := rx_at tbX2_answer ndX2_answer (j := 14) rfl
theorem iX2_answer_155 : rx_ins mX2_answer 155 = some (3, 156, 0, 0, 0, []) := rx_at tbX2_answer ndX2_answer (j := 83) rfl
theorem iX2_answer_156 : rx_ins mX2_answer 156 = some (18, 159, 0, 2, 4, [(26, 31)]) := rx_at tbX2_answer ndX2_answer (j := 84) rfl
theorem iX2_answer_159 : rx_ins mX2_answer 159 = some (1, 160, 0, 0, 0, []) := rx_at tbX2_answer ndX2_answer (j := 85) rfl
theorem iX2_answer_160 : rx_ins mX2_answer 160 = some (20, 161, 0, 0, 0, []) := rx_at tbX2_answer ndX2_answer (j := 86) rfl
theorem iX2_answer_161 : rx_ins mX2_answer 161 = some (29, 162, 0, 0, 0, []) := rx_at tbX2_answer ndX2_answer (j := 87) rfl
theorem iX2_answer_25 : rx_ins mX2_answer 25 = some (3, 27, 1, 5, 0, []) := rx_at tbX2_answer ndX2_answer (j := 15) rfl
theorem iX2_answer_27 : rx_ins mX2_answer 27 = some (2, 29, 1, 7, 0, []) := rx_at tbX2_answer ndX2_answer (j := 16) rfl
theorem iX2_answer_29 : rx_ins mX2_answer 29 = some (20, 30, 0, 0, 0, []) := rx_at tbX2_answer ndX2_answer (j := 17) rfl
theorem iX2_answer_30 : rx_ins mX2_answer 30 = some (4, 32, 1, 8, 0, []) := rx_at tbX2_answer ndX2_answer (j := 18) rfl
theorem iX2_answer_32 : rx_ins mX2_answer 32 = some (2, 34, 1, 8, 0, []) := rx_at tbX2_answer ndX2_answer (j := 19) rfl
theorem iX2_answer_34 : rx_ins mX2_answer 34 = some (1, 36, (-3), 1, 0, []) := rx_at tbX2_answer ndX2_answer (j := 20) rfl
theorem iX2_answer_36 : rx_ins mX2_answer 36 = some (14, 39, 32, 2, 68, []) := rx_at tbX2_answer ndX2_answer (j := 21) rfl
theorem iX2_answer_68 : rx_ins mX2_answer 68 = some (2, 70, 1, 8, 0, []) := rx_at tbX2_answer ndX2_answer (j := 36) rfl
theorem iX2_answer_70 : rx_ins mX2_answer 70 = some (1, 72, (-33), 1, 0, []) := rx_at tbX2_answer ndX2_answer (j := 37) rfl
theorem iX2_answer_72 : rx_ins mX2_answer 72 = some (14, 75, 37, 1, 109, []) := rx_at tbX2_answer ndX2_answer (j := 38) rfl
theorem iX2_answer_109 : rx_ins mX2_answer 109 = some (2, 111, 1, 6, 0, []) := rx_at tbX2_answer ndX2_answer (j := 58) rfl
theorem iX2_answer_111 : rx_ins mX2_answer 111 = some (1, 112, 1, 0, 0, []) := rx_at tbX2_answer ndX2_answer (j := 59) rfl
theorem iX2_answer_112 : rx_ins mX2_answer 112 = some (14, 115, 37, 5, 149, []) := rx_at tbX2_answer ndX2_answer (j := 60) rfl
theorem iX2_answer_115 : rx_ins mX2_answer 115 = some (6, 118, (-1), 6, 0, []) := rx_at tbX2_answer ndX2_answer (j := 61) rfl
theorem iX2_answer_118 : rx_ins mX2_answer 118 = some (3, 119, 0, 0, 0, []) := rx_at tbX2_answer ndX2_answer (j := 62) rfl
theorem iX2_answer_119 : rx_ins mX2_answer 119 = some (18, 122, 0, 2, 4, [(26, 31)]) := rx_at tbX2_answer ndX2_answer (j := 63) rfl
theorem iX2_answer_122 : rx_ins mX2_answer 122 = some (2, 124, 1, 6, 0, []) := rx_at tbX2_answer ndX2_answer (j := 64) rfl
theorem iX2_answer_124 : rx_ins mX2_answer 124 = some (1, 125, 1, 0, 0, []) := rx_at tbX2_answer ndX2_answer (j := 65) rfl
theorem iX2_answer_125 : rx_ins mX2_answer 125 = some (7, 126, 0, 1, 0, []) := rx_at tbX2_answer ndX2_answer (j := 66) rfl
theorem iX2_answer_126 : rx_ins mX2_answer 126 = some (2, 128, 1, 8, 0, []) := rx_at tbX2_answer ndX2_answer (j := 67) rfl
theorem iX2_answer_128 : rx_ins mX2_answer 128 = some (9, 129, 0, 0, 0, []) := rx_at tbX2_answer ndX2_answer (j := 68) rfl
theorem iX2_answer_129 : rx_ins mX2_answer 129 = some (3, 130, 0, 0, 0, []) := rx_at tbX2_answer ndX2_answer (j := 69) rfl
theorem iX2_answer_130 : rx_ins mX2_answer 130 = some (18, 133, 0, 2, 4, [(26, 31)]) := rx_at tbX2_answer ndX2_answer (j := 70) rfl
theorem iX2_answer_133 : rx_ins mX2_answer 133 = some (2, 135, 1, 6, 0, []) := rx_at tbX2_answer ndX2_answer (j := 71) rfl
theorem iX2_answer_135 : rx_ins mX2_answer 135 = some (1, 136, 1, 0, 0, []) := rx_at tbX2_answer ndX2_answer (j := 72) rfl
theorem iX2_answer_136 : rx_ins mX2_answer 136 = some (7, 137, 0, 1, 0, []) := rx_at tbX2_answer ndX2_answer (j := 73) rfl
theorem iX2_answer_137 : rx_ins mX2_answer 137 = some (20, 138, 0, 0, 0, []) := rx_at tbX2_answer ndX2_answer (j := 74) rfl
theorem iX2_answer_138 : rx_ins mX2_answer 138 = some (3, 139, 0, 0, 0, []) := rx_at tbX2_answer ndX2_answer (j := 75) rfl
theorem iX2_answer_139 : rx_ins mX2_answer 139 = some (18, 142, 0, 2, 4, [(26, 31)]) := rx_at tbX2_answer ndX2_answer (j := 76) rfl
theorem iX2_answer_142 : rx_ins mX2_answer 142 = some (2, 144, 1, 6, 0, []) := rx_at tbX2_answer ndX2_answer (j := 77) rfl
theorem iX2_answer_144 : rx_ins mX2_answer 144 = some (20, 145, 0, 0, 0, []) := rx_at tbX2_answer ndX2_answer (j := 78) rfl
theorem iX2_answer_145 : rx_ins mX2_answer 145 = some (28, 148, 0, 39, 3, [(59, 114)]) := rx_at tbX2_answer ndX2_answer (j := 79) rfl
theorem iX2_answer_148 : rx_ins mX2_answer 148 = some (21, 149, 0, 0, 0, []) := rx_at tbX2_answer ndX2_answer (j := 80) rfl
theorem iX2_answer_75 : rx_ins mX2_answer 75 = some (2, 77, 1, 6, 0, []) := rx_at tbX2_answer ndX2_answer (j := 39) rfl
theorem iX2_answer_77 : rx_ins mX2_answer 77 = some (13, 80, 72, 5, 149, []) := rx_at tbX2_answer ndX2_answer (j := 40) rfl
theorem iX2_answer_80 : rx_ins mX2_answer 80 = some (3, 81, 0, 0, 0, []) := rx_at tbX2_answer ndX2_answer (j := 41) rfl
theorem iX2_answer_81 : rx_ins mX2_answer 81 = some (18, 84, 0, 2, 4, [(26, 31)]) := rx_at tbX2_answer ndX2_answer (j := 42) rfl
theorem iX2_answer_84 : rx_ins mX2_answer 84 = some (2, 86, 1, 6, 0, []) := rx_at tbX2_answer ndX2_answer (j := 43) rfl
theorem iX2_answer_86 : rx_ins mX2_answer 86 = some (1, 87, 1, 0, 0, []) := rx_at tbX2_answer ndX2_answer (j := 44) rfl
theorem iX2_answer_87 : rx_ins mX2_answer 87 = some (7, 88, 0, 1, 0, []) := rx_at tbX2_answer ndX2_answer (j := 45) rfl
theorem iX2_answer_88 : rx_ins mX2_answer 88 = some (3, 89, 0, 0, 0, []) := rx_at tbX2_answer ndX2_answer (j := 46) rfl
theorem iX2_answer_89 : rx_ins mX2_answer 89 = some (18, 92, 0, 2, 4, [(26, 31)]) := rx_at tbX2_answer ndX2_answer (j := 47) rfl
theorem iX2_answer_92 : rx_ins mX2_answer 92 = some (2, 94, 1, 6, 0, []) := rx_at tbX2_answer ndX2_answer (j := 48) rfl
theorem iX2_answer_94 : rx_ins mX2_answer 94 = some (1, 95, 1, 0, 0, []) := rx_at tbX2_answer ndX2_answer (j := 49) rfl
theorem iX2_answer_95 : rx_ins mX2_answer 95 = some (7, 96, 0, 1, 0, []) := rx_at tbX2_answer ndX2_answer (j := 50) rfl
theorem iX2_answer_96 : rx_ins mX2_answer 96 = some (20, 97, 0, 0, 0, []) := rx_at tbX2_answer ndX2_answer (j := 51) rfl
theorem iX2_answer_97 : rx_ins mX2_answer 97 = some (13, 100, 7, 1, 104, []) := rx_at tbX2_answer ndX2_answer (j := 52) rfl
theorem iX2_answer_104 : rx_ins mX2_answer 104 = some (1, 105, 0, 0, 0, []) := rx_at tbX2_answer ndX2_answer (j := 55) rfl
theorem iX2_answer_105 : rx_ins mX2_answer 105 = some (21, 106, 0, 0, 0, []) := rx_at tbX2_answer ndX2_answer (j := 56) rfl
theorem iX2_answer_100 : rx_ins mX2_answer 100 = some (1, 101, 1, 0, 0, []) := rx_at tbX2_answer ndX2_answer (j := 53) rfl
theorem iX2_answer_101 : rx_ins mX2_answer 101 = some (15, 104, 4, 0, 105, []) := rx_at tbX2_answer ndX2_answer (j := 54) rfl
theorem iX2_answer_39 : rx_ins mX2_answer 39 = some (2, 41, 1, 6, 0, []) := rx_at tbX2_answer ndX2_answer (j := 22) rfl
theorem iX2_answer_41 : rx_ins mX2_answer 41 = some (1, 43, 96, 1, 0, []) := rx_at tbX2_answer ndX2_answer (j := 23) rfl
theorem iX2_answer_43 : rx_ins mX2_answer 43 = some (14, 46, 106, 3, 149, []) := rx_at tbX2_answer ndX2_answer (j := 24) rfl
theorem iX2_answer_46 : rx_ins mX2_answer 46 = some (3, 47, 0, 0, 0, []) := rx_at tbX2_answer ndX2_answer (j := 25) rfl
theorem iX2_answer_47 : rx_ins mX2_answer 47 = some (18, 50, 0, 2, 4, [(26, 31)]) := rx_at tbX2_answer ndX2_answer (j := 26) rfl
theorem iX2_answer_50 : rx_ins mX2_answer 50 = some (2, 52, 1, 6, 0, []) := rx_at tbX2_answer ndX2_answer (j := 27) rfl
theorem iX2_answer_52 : rx_ins mX2_answer 52 = some (2, 54, 1, 8, 0, []) := rx_at tbX2_answer ndX2_answer (j := 28) rfl
theorem iX2_answer_54 : rx_ins mX2_answer 54 = some (2, 55, 0, 2, 0, []) := rx_at tbX2_answer ndX2_answer (j := 29) rfl
theorem iX2_answer_55 : rx_ins mX2_answer 55 = some (2, 56, 0, 3, 0, []) := rx_at tbX2_answer ndX2_answer (j := 30) rfl
theorem iX2_answer_56 : rx_ins mX2_answer 56 = some (2, 58, 1, 4, 0, []) := rx_at tbX2_answer ndX2_answer (j := 31) rfl
theorem iX2_answer_58 : rx_ins mX2_answer 58 = some (28, 61, 0, 38, 4, [(55, 113)]) := rx_at tbX2_answer ndX2_answer (j := 32) rfl
theorem iX2_answer_61 : rx_ins mX2_answer 61 = some (21, 62, 0, 0, 0, []) := rx_at tbX2_answer ndX2_answer (j := 33) rfl
theorem iX2_answer_62 : rx_ins mX2_answer 62 = some (6, 65, 1, 6, 0, []) := rx_at tbX2_answer ndX2_answer (j := 34) rfl
theorem iX2_answer_65 : rx_ins mX2_answer 65 = some (15, 68, 84, 0, 149, []) := rx_at tbX2_answer ndX2_answer (j := 35) rfl
theorem iX2_answer_149 : rx_ins mX2_answer 149 = some (6, 152, 1, 7, 0, []) := rx_at tbX2_answer ndX2_answer (j := 81) rfl
theorem iX2_answer_152 : rx_ins mX2_answer 152 = some (15, 155, (-138), 0, 14, []) := rx_at tbX2_answer ndX2_answer (j := 82) rfl
theorem iX2_answer_106 : rx_ins mX2_answer 106 = some (15, 109, 43, 0, 149, []) := rx_at tbX2_answer ndX2_answer (j := 57) rfl
theorem iX2_valueOf_0 : rx_ins mX2_valueOf 0 = some (2, 1, 0, 0, 0, []) := rx_at tbX2_valueOf ndX2_valueOf (j := 0) rfl
theorem iX2_valueOf_1 : rx_ins mX2_valueOf 1 = some (16, 28, 0, 0, 34, [((-3), 32), ((-2), 30), ((-1), 28)]) := rx_at tbX2_valueOf ndX2_valueOf (j := 1) rfl
theorem iX2_valueOf_32 : rx_ins mX2_valueOf 32 = some (2, 33, 0, 3, 0, []) := rx_at tbX2_valueOf ndX2_valueOf (j := 6) rfl
theorem iX2_valueOf_33 : rx_ins mX2_valueOf 33 = some (29, 34, 0, 0, 0, []) := rx_at tbX2_valueOf ndX2_valueOf (j := 7) rfl
theorem iX2_valueOf_30 : rx_ins mX2_valueOf 30 = some (2, 31, 0, 2, 0, []) := rx_at tbX2_valueOf ndX2_valueOf (j := 4) rfl
theorem iX2_valueOf_31 : rx_ins mX2_valueOf 31 = some (29, 32, 0, 0, 0, []) := rx_at tbX2_valueOf ndX2_valueOf (j := 5) rfl
theorem iX2_valueOf_28 : rx_ins mX2_valueOf 28 = some (2, 29, 0, 1, 0, []) := rx_at tbX2_valueOf ndX2_valueOf (j := 2) rfl
theorem iX2_valueOf_29 : rx_ins mX2_valueOf 29 = some (29, 30, 0, 0, 0, []) := rx_at tbX2_valueOf ndX2_valueOf (j := 3) rfl
theorem iX2_valueOf_34 : rx_ins mX2_valueOf 34 = some (2, 35, 0, 0, 0, []) := rx_at tbX2_valueOf ndX2_valueOf (j := 8) rfl
theorem iX2_valueOf_35 : rx_ins mX2_valueOf 35 = some (29, 36, 0, 0, 0, []) := rx_at tbX2_valueOf ndX2_valueOf (j := 9) rfl
theorem iX2_apply_0 : rx_ins mX2_apply 0 = some (2, 1, 0, 0, 0, []) := rx_at tbX2_apply ndX2_apply (j := 0) rfl
theorem iX2_apply_1 : rx_ins mX2_apply 1 = some (16, 76, 1, 0, 149, [(38, 90), (42, 145), (43, 137), (45, 141), (60, 104), (61, 115), (62, 126), (124, 76)]) := rx_at tbX2_apply ndX2_apply (j := 1) rfl
theorem iX2_apply_90 : rx_ins mX2_apply 90 = some (2, 91, 0, 1, 0, []) := rx_at tbX2_apply ndX2_apply (j := 10) rfl
theorem iX2_apply_91 : rx_ins mX2_apply 91 = some (13, 94, 11, 0, 102, []) := rx_at tbX2_apply ndX2_apply (j := 11) rfl
theorem iX2_apply_102 : rx_ins mX2_apply 102 = some (1, 103, 0, 0, 0, []) := rx_at tbX2_apply ndX2_apply (j := 16) rfl
theorem iX2_apply_103 : rx_ins mX2_apply 103 = some (29, 104, 0, 0, 0, []) := rx_at tbX2_apply ndX2_apply (j := 17) rfl
theorem iX2_apply_94 : rx_ins mX2_apply 94 = some (2, 95, 0, 2, 0, []) := rx_at tbX2_apply ndX2_apply (j := 12) rfl
theorem iX2_apply_95 : rx_ins mX2_apply 95 = some (13, 98, 7, 0, 102, []) := rx_at tbX2_apply ndX2_apply (j := 13) rfl
theorem iX2_apply_98 : rx_ins mX2_apply 98 = some (1, 99, 1, 0, 0, []) := rx_at tbX2_apply ndX2_apply (j := 14) rfl
theorem iX2_apply_99 : rx_ins mX2_apply 99 = some (15, 102, 4, 0, 103, []) := rx_at tbX2_apply ndX2_apply (j := 15) rfl
theorem iX2_apply_145 : rx_ins mX2_apply 145 = some (2, 146, 0, 1, 0, []) := rx_at tbX2_apply ndX2_apply (j := 47) rfl
theorem iX2_apply_146 : rx_ins mX2_apply 146 = some (2, 147, 0, 2, 0, []) := rx_at tbX2_apply ndX2_apply (j := 48) rfl
theorem iX2_apply_147 : rx_ins mX2_apply 147 = some (7, 148, 0, 2, 0, []) := rx_at tbX2_apply ndX2_apply (j := 49) rfl
theorem iX2_apply_148 : rx_ins mX2_apply 148 = some (29, 149, 0, 0, 0, []) := rx_at tbX2_apply ndX2_apply (j := 50) rfl
theorem iX2_apply_137 : rx_ins mX2_apply 137 = some (2, 138, 0, 1, 0, []) := rx_at tbX2_apply ndX2_apply (j := 39) rfl
theorem iX2_apply_138 : rx_ins mX2_apply 138 = some (2, 139, 0, 2, 0, []) := rx_at tbX2_apply ndX2_apply (j := 40) rfl
theorem iX2_apply_139 : rx_ins mX2_apply 139 = some (7, 140, 0, 0, 0, []) := rx_at tbX2_apply ndX2_apply (j := 41) rfl
theorem iX2_apply_140 : rx_ins mX2_apply 140 = some (29, 141, 0, 0, 0, []) := rx_at tbX2_apply ndX2_apply (j := 42) rfl
theorem iX2_apply_141 : rx_ins mX2_apply 141 = some (2, 142, 0, 1, 0, []) := rx_at tbX2_apply ndX2_apply (j := 43) rfl
theorem iX2_apply_142 : rx_ins mX2_apply 142 = some (2, 143, 0, 2, 0, []) := rx_at tbX2_apply ndX2_apply (j := 44) rfl
theorem iX2_apply_143 : rx_ins mX2_apply 143 = some (7, 144, 0, 1, 0, []) := rx_at tbX2_apply ndX2_apply (j := 45) rfl
theorem iX2_apply_144 : rx_ins mX2_apply 144 = some (29, 145, 0, 0, 0, []) := rx_at tbX2_apply ndX2_apply (j := 46) rfl
theorem iX2_apply_104 : rx_ins mX2_apply 104 = some (2, 105, 0, 1, 0, []) := rx_at tbX2_apply ndX2_apply (j := 18) rfl
theorem iX2_apply_105 : rx_ins mX2_apply 105 = some (2, 106, 0, 2, 0, []) := rx_at tbX2_apply ndX2_apply (j := 19) rfl
theorem iX2_apply_106 : rx_ins mX2_apply 106 = some (14, 109, 7, 3, 113, []) := rx_at tbX2_apply ndX2_apply (j := 20) rfl
theorem iX2_apply_113 : rx_ins mX2_apply 113 = some (1, 114, 0, 0, 0, []) := rx_at tbX2_apply ndX2_apply (j := 23) rfl
theorem iX2_apply_114 : rx_ins mX2_apply 114 = some (29, 115, 0, 0, 0, []) := rx_at tbX2_apply ndX2_apply (j := 24) rfl
theorem iX2_apply_109 : rx_ins mX2_apply 109 = some (1, 110, 1, 0, 0, []) := rx_at tbX2_apply ndX2_apply (j := 21) rfl
theorem iX2_apply_110 : rx_ins mX2_apply 110 = some (15, 113, 4, 0, 114, []) := rx_at tbX2_apply ndX2_apply (j := 22) rfl
theorem iX2_apply_115 : rx_ins mX2_apply 115 = some (2, 116, 0, 1, 0, []) := rx_at tbX2_apply ndX2_apply (j := 25) rfl
theorem iX2_apply_116 : rx_ins mX2_apply 116 = some (2, 117, 0, 2, 0, []) := rx_at tbX2_apply ndX2_apply (j := 26) rfl
theorem iX2_apply_117 : rx_ins mX2_apply 117 = some (14, 120, 7, 1, 124, []) := rx_at tbX2_apply ndX2_apply (j := 27) rfl
theorem iX2_apply_124 : rx_ins mX2_apply 124 = some (1, 125, 0, 0, 0, []) := rx_at tbX2_apply ndX2_apply (j := 30) rfl
theorem iX2_apply_125 : rx_ins mX2_apply 125 = some (29, 126, 0, 0, 0, []) := rx_at tbX2_apply ndX2_apply (j := 31) rfl
theorem iX2_apply_120 : rx_ins mX2_apply 120 = some (1, 121, 1, 0, 0, []) := rx_at tbX2_apply ndX2_apply (j := 28) rfl
theorem iX2_apply_121 : rx_ins mX2_apply 121 = some (15, 124, 4, 0, 125, []) := rx_at tbX2_apply ndX2_apply (j := 29) rfl
theorem iX2_apply_126 : rx_ins mX2_apply 126 = some (2, 127, 0, 1, 0, []) := rx_at tbX2_apply ndX2_apply (j := 32) rfl
theorem iX2_apply_127 : rx_ins mX2_apply 127 = some (2, 128, 0, 2, 0, []) := rx_at tbX2_apply ndX2_apply (j := 33) rfl
theorem iX2_apply_128 : rx_ins mX2_apply 128 = some (14, 131, 7, 5, 135, []) := rx_at tbX2_apply ndX2_apply (j := 34) rfl
theorem iX2_apply_135 : rx_ins mX2_apply 135 = some (1, 136, 0, 0, 0, []) := rx_at tbX2_apply ndX2_apply (j := 37) rfl
theorem iX2_apply_136 : rx_ins mX2_apply 136 = some (29, 137, 0, 0, 0, []) := rx_at tbX2_apply ndX2_apply (j := 38) rfl
theorem iX2_apply_131 : rx_ins mX2_apply 131 = some (1, 132, 1, 0, 0, []) := rx_at tbX2_apply ndX2_apply (j := 35) rfl
theorem iX2_apply_132 : rx_ins mX2_apply 132 = some (15, 135, 4, 0, 136, []) := rx_at tbX2_apply ndX2_apply (j := 36) rfl
theorem iX2_apply_76 : rx_ins mX2_apply 76 = some (2, 77, 0, 1, 0, []) := rx_at tbX2_apply ndX2_apply (j := 2) rfl
theorem iX2_apply_77 : rx_ins mX2_apply 77 = some (13, 80, 7, 1, 84, []) := rx_at tbX2_apply ndX2_apply (j := 3) rfl
theorem iX2_apply_84 : rx_ins mX2_apply 84 = some (1, 85, 1, 0, 0, []) := rx_at tbX2_apply ndX2_apply (j := 6) rfl
theorem iX2_apply_85 : rx_ins mX2_apply 85 = some (15, 88, 4, 0, 89, []) := rx_at tbX2_apply ndX2_apply (j := 7) rfl
theorem iX2_apply_89 : rx_ins mX2_apply 89 = some (29, 90, 0, 0, 0, []) := rx_at tbX2_apply ndX2_apply (j := 9) rfl
theorem iX2_apply_80 : rx_ins mX2_apply 80 = some (2, 81, 0, 2, 0, []) := rx_at tbX2_apply ndX2_apply (j := 4) rfl
theorem iX2_apply_81 : rx_ins mX2_apply 81 = some (13, 84, 7, 0, 88, []) := rx_at tbX2_apply ndX2_apply (j := 5) rfl
theorem iX2_apply_88 : rx_ins mX2_apply 88 = some (1, 89, 0, 0, 0, []) := rx_at tbX2_apply ndX2_apply (j := 8) rfl
theorem iX2_apply_149 : rx_ins mX2_apply 149 = some (2, 150, 0, 2, 0, []) := rx_at tbX2_apply ndX2_apply (j := 51) rfl
theorem iX2_apply_150 : rx_ins mX2_apply 150 = some (13, 153, 7, 1, 157, []) := rx_at tbX2_apply ndX2_apply (j := 52) rfl
theorem iX2_apply_157 : rx_ins mX2_apply 157 = some (2, 158, 0, 1, 0, []) := rx_at tbX2_apply ndX2_apply (j := 55) rfl
theorem iX2_apply_158 : rx_ins mX2_apply 158 = some (2, 159, 0, 2, 0, []) := rx_at tbX2_apply ndX2_apply (j := 56) rfl
theorem iX2_apply_159 : rx_ins mX2_apply 159 = some (8, 160, 0, 0, 0, []) := rx_at tbX2_apply ndX2_apply (j := 57) rfl
theorem iX2_apply_160 : rx_ins mX2_apply 160 = some (29, 161, 0, 0, 0, []) := rx_at tbX2_apply ndX2_apply (j := 58) rfl
theorem iX2_apply_153 : rx_ins mX2_apply 153 = some (1, 154, 0, 0, 0, []) := rx_at tbX2_apply ndX2_apply (j := 53) rfl
theorem iX2_apply_154 : rx_ins mX2_apply 154 = some (15, 157, 6, 0, 160, []) := rx_at tbX2_apply ndX2_apply (j := 54) rfl
theorem iX3_search_0 : rx_ins mX3_search 0 = some (3, 1, 0, 0, 0, []) := rx_at tbX3_search ndX3_search (j := 0) rfl
theorem iX3_search_1 : rx_ins mX3_search 1 = some (3, 2, 0, 1, 0, []) := rx_at tbX3_search ndX3_search (j := 1) rfl
theorem iX3_search_2 : rx_ins mX3_search 2 = some (17, 5, 0, 1, 0, [(33, 32)]) := rx_at tbX3_search ndX3_search (j := 2) rfl
theorem iX3_search_5 : rx_ins mX3_search 5 = some (19, 8, 0, 3, 4, [(25, 33)]) := rx_at tbX3_search ndX3_search (j := 3) rfl
theorem iX3_search_8 : rx_ins mX3_search 8 = some (1, 9, 0, 0, 0, []) := rx_at tbX3_search ndX3_search (j := 4) rfl
theorem iX3_search_9 : rx_ins mX3_search 9 = some (4, 10, 0, 3, 0, []) := rx_at tbX3_search ndX3_search (j := 5) rfl
theorem iX3_search_10 : rx_ins mX3_search 10 = some (2, 11, 0, 3, 0, []) := rx_at tbX3_search ndX3_search (j := 6) rfl
theorem iX3_search_11 : rx_ins mX3_search 11 = some (3, 12, 0, 0, 0, []) := rx_at tbX3_search ndX3_search (j := 7) rfl
theorem iX3_search_12 : rx_ins mX3_search 12 = some (17, 15, 0, 3, 4, [(25, 33)]) := rx_at tbX3_search ndX3_search (j := 8) rfl
theorem iX3_search_15 : rx_ins mX3_search 15 = some (14, 18, 19, 3, 34, []) := rx_at tbX3_search ndX3_search (j := 9) rfl
theorem iX3_search_34 : rx_ins mX3_search 34 = some (1, 35, 0, 0, 0, []) := rx_at tbX3_search ndX3_search (j := 18) rfl
theorem iX3_search_35 : rx_ins mX3_search 35 = some (4, 36, 0, 3, 0, []) := rx_at tbX3_search ndX3_search (j := 19) rfl
theorem iX3_search_18 : rx_ins mX3_search 18 = some (3, 19, 0, 0, 0, []) := rx_at tbX3_search ndX3_search (j := 10) rfl
theorem iX3_search_19 : rx_ins mX3_search 19 = some (18, 22, 0, 3, 5, [(30, 34)]) := rx_at tbX3_search ndX3_search (j := 11) rfl
theorem iX3_search_22 : rx_ins mX3_search 22 = some (2, 23, 0, 3, 0, []) := rx_at tbX3_search ndX3_search (j := 12) rfl
theorem iX3_search_23 : rx_ins mX3_search 23 = some (22, 24, 0, 0, 0, []) := rx_at tbX3_search ndX3_search (j := 13) rfl
theorem iX3_search_24 : rx_ins mX3_search 24 = some (1, 25, (-1), 0, 0, []) := rx_at tbX3_search ndX3_search (j := 14) rfl
theorem iX3_search_25 : rx_ins mX3_search 25 = some (28, 28, 0, 246, 2, [(36, 115)]) := rx_at tbX3_search ndX3_search (j := 15) rfl
theorem iX3_search_28 : rx_ins mX3_search 28 = some (6, 31, 1, 3, 0, []) := rx_at tbX3_search ndX3_search (j := 16) rfl
theorem iX3_search_31 : rx_ins mX3_search 31 = some (15, 34, (-21), 0, 10, []) := rx_at tbX3_search ndX3_search (j := 17) rfl
theorem iX3_search_36 : rx_ins mX3_search 36 = some (2, 37, 0, 3, 0, []) := rx_at tbX3_search ndX3_search (j := 20) rfl
theorem iX3_search_37 : rx_ins mX3_search 37 = some (3, 38, 0, 1, 0, []) := rx_at tbX3_search ndX3_search (j := 21) rfl
theorem iX3_search_38 : rx_ins mX3_search 38 = some (17, 41, 0, 1, 6, [(42, 35)]) := rx_at tbX3_search ndX3_search (j := 22) rfl
theorem iX3_search_41 : rx_ins mX3_search 41 = some (14, 44, 47, 3, 88, []) := rx_at tbX3_search ndX3_search (j := 23) rfl
theorem iX3_search_88 : rx_ins mX3_search 88 = some (3, 89, 0, 0, 0, []) := rx_at tbX3_search ndX3_search (j := 52) rfl
theorem iX3_search_89 : rx_ins mX3_search 89 = some (1, 91, 2147483647, 3, 4, [(51, 0)]) := rx_at tbX3_search ndX3_search (j := 53) rfl
theorem iX3_search_91 : rx_ins mX3_search 91 = some (19, 94, 0, 3, 1, [(15, 38)]) := rx_at tbX3_search ndX3_search (j := 54) rfl
theorem iX3_search_94 : rx_ins mX3_search 94 = some (3, 95, 0, 0, 0, []) := rx_at tbX3_search ndX3_search (j := 55) rfl
theorem iX3_search_95 : rx_ins mX3_search 95 = some (18, 98, 0, 3, 2, [(19, 39)]) := rx_at tbX3_search ndX3_search (j := 56) rfl
theorem iX3_search_98 : rx_ins mX3_search 98 = some (1, 99, 0, 0, 0, []) := rx_at tbX3_search ndX3_search (j := 57) rfl
theorem iX3_search_99 : rx_ins mX3_search 99 = some (1, 100, 0, 0, 0, []) := rx_at tbX3_search ndX3_search (j := 58) rfl
theorem iX3_search_100 : rx_ins mX3_search 100 = some (21, 101, 0, 0, 0, []) := rx_at tbX3_search ndX3_search (j := 59) rfl
theorem iX3_search_101 : rx_ins mX3_search 101 = some (3, 102, 0, 0, 0, []) := rx_at tbX3_search ndX3_search (j := 60) rfl
theorem iX3_search_102 : rx_ins mX3_search 102 = some (1, 103, 1, 0, 0, []) := rx_at tbX3_search ndX3_search (j := 61) rfl
theorem iX3_search_103 : rx_ins mX3_search 103 = some (19, 106, 0, 3, 3, [(22, 40)]) := rx_at tbX3_search ndX3_search (j := 62) rfl
theorem iX3_search_106 : rx_ins mX3_search 106 = some (3, 107, 0, 0, 0, []) := rx_at tbX3_search ndX3_search (j := 63) rfl
theorem iX3_search_107 : rx_ins mX3_search 107 = some (3, 108, 0, 2, 0, []) := rx_at tbX3_search ndX3_search (j := 64) rfl
theorem iX3_search_108 : rx_ins mX3_search 108 = some (1, 109, 1, 0, 0, []) := rx_at tbX3_search ndX3_search (j := 65) rfl
theorem iX3_search_109 : rx_ins mX3_search 109 = some (1, 110, 0, 0, 0, []) := rx_at tbX3_search ndX3_search (j := 66) rfl
theorem iX3_search_110 : rx_ins mX3_search 110 = some (28, 113, 0, 41, 4, [(52, 116)]) := rx_at tbX3_search ndX3_search (j := 67) rfl
theorem iX3_search_113 : rx_ins mX3_search 113 = some (30, 114, 0, 0, 0, []) := rx_at tbX3_search ndX3_search (j := 68) rfl
theorem iX3_search_44 : rx_ins mX3_search 44 = some (3, 45, 0, 0, 0, []) := rx_at tbX3_search ndX3_search (j := 24) rfl
theorem iX3_search_45 : rx_ins mX3_search 45 = some (18, 48, 0, 3, 5, [(30, 34)]) := rx_at tbX3_search ndX3_search (j := 25) rfl
theorem iX3_search_48 : rx_ins mX3_search 48 = some (3, 49, 0, 1, 0, []) := rx_at tbX3_search ndX3_search (j := 26) rfl
theorem iX3_search_49 : rx_ins mX3_search 49 = some (18, 52, 0, 1, 8, [(45, 36)]) := rx_at tbX3_search ndX3_search (j := 27) rfl
theorem iX3_search_52 : rx_ins mX3_search 52 = some (2, 53, 0, 3, 0, []) := rx_at tbX3_search ndX3_search (j := 28) rfl
theorem iX3_search_53 : rx_ins mX3_search 53 = some (20, 54, 0, 0, 0, []) := rx_at tbX3_search ndX3_search (j := 29) rfl
theorem iX3_search_54 : rx_ins mX3_search 54 = some (22, 55, 0, 0, 0, []) := rx_at tbX3_search ndX3_search (j := 30) rfl
theorem iX3_search_55 : rx_ins mX3_search 55 = some (3, 56, 0, 1, 0, []) := rx_at tbX3_search ndX3_search (j := 31) rfl
theorem iX3_search_56 : rx_ins mX3_search 56 = some (18, 59, 0, 1, 9, [(48, 37)]) := rx_at tbX3_search ndX3_search (j := 32) rfl
theorem iX3_search_59 : rx_ins mX3_search 59 = some (2, 60, 0, 3, 0, []) := rx_at tbX3_search ndX3_search (j := 33) rfl
theorem iX3_search_60 : rx_ins mX3_search 60 = some (20, 61, 0, 0, 0, []) := rx_at tbX3_search ndX3_search (j := 34) rfl
theorem iX3_search_61 : rx_ins mX3_search 61 = some (2, 62, 0, 3, 0, []) := rx_at tbX3_search ndX3_search (j := 35) rfl
theorem iX3_search_62 : rx_ins mX3_search 62 = some (21, 63, 0, 0, 0, []) := rx_at tbX3_search ndX3_search (j := 36) rfl
theorem iX3_search_63 : rx_ins mX3_search 63 = some (3, 64, 0, 0, 0, []) := rx_at tbX3_search ndX3_search (j := 37) rfl
theorem iX3_search_64 : rx_ins mX3_search 64 = some (18, 67, 0, 3, 5, [(30, 34)]) := rx_at tbX3_search ndX3_search (j := 38) rfl
theorem iX3_search_67 : rx_ins mX3_search 67 = some (3, 68, 0, 1, 0, []) := rx_at tbX3_search ndX3_search (j := 39) rfl
theorem iX3_search_68 : rx_ins mX3_search 68 = some (18, 71, 0, 1, 9, [(48, 37)]) := rx_at tbX3_search ndX3_search (j := 40) rfl
theorem iX3_search_71 : rx_ins mX3_search 71 = some (2, 72, 0, 3, 0, []) := rx_at tbX3_search ndX3_search (j := 41) rfl
theorem iX3_search_72 : rx_ins mX3_search 72 = some (20, 73, 0, 0, 0, []) := rx_at tbX3_search ndX3_search (j := 42) rfl
theorem iX3_search_73 : rx_ins mX3_search 73 = some (22, 74, 0, 0, 0, []) := rx_at tbX3_search ndX3_search (j := 43) rfl
theorem iX3_search_74 : rx_ins mX3_search 74 = some (3, 75, 0, 1, 0, []) := rx_at tbX3_search ndX3_search (j := 44) rfl
theorem iX3_search_75 : rx_ins mX3_search 75 = some (18, 78, 0, 1, 8, [(45, 36)]) := rx_at tbX3_search ndX3_search (j := 45) rfl
theorem iX3_search_78 : rx_ins mX3_search 78 = some (2, 79, 0, 3, 0, []) := rx_at tbX3_search ndX3_search (j := 46) rfl
theorem iX3_search_79 : rx_ins mX3_search 79 = some (20, 80, 0, 0, 0, []) := rx_at tbX3_search ndX3_search (j := 47) rfl
theorem iX3_search_80 : rx_ins mX3_search 80 = some (2, 81, 0, 3, 0, []) := rx_at tbX3_search ndX3_search (j := 48) rfl
theorem iX3_search_81 : rx_ins mX3_search 81 = some (21, 82, 0, 0, 0, []) := rx_at tbX3_search ndX3_search (j := 49) rfl
theorem iX3_search_82 : rx_ins mX3_search 82 = some (6, 85, 1, 3, 0, []) := rx_at tbX3_search ndX3_search (j := 50) rfl
theorem iX3_search_85 : rx_ins mX3_search 85 = some (15, 88, (-49), 0, 36, []) := rx_at tbX3_search ndX3_search (j := 51) rfl
theorem iX3_extend_0 : rx_ins mX3_extend 0 = some (2, 1, 0, 2, 0, []) := rx_at tbX3_extend ndX3_extend (j := 0) rfl
theorem iX3_extend_1 : rx_ins mX3_extend 1 = some (3, 2, 0, 0, 0, []) := rx_at tbX3_extend ndX3_extend (j := 1) rfl
theorem iX3_extend_2 : rx_ins mX3_extend 2 = some (17, 5, 0, 3, 4, [(25, 33)]) := rx_at tbX3_extend ndX3_extend (j := 2) rfl
theorem iX3_extend_5 : rx_ins mX3_extend 5 = some (14, 8, 9, 3, 14, []) := rx_at tbX3_extend ndX3_extend (j := 3) rfl
theorem iX3_extend_14 : rx_ins mX3_extend 14 = some (3, 15, 0, 0, 0, []) := rx_at tbX3_extend ndX3_extend (j := 7) rfl
theorem iX3_extend_15 : rx_ins mX3_extend 15 = some (2, 16, 0, 3, 0, []) := rx_at tbX3_extend ndX3_extend (j := 8) rfl
theorem iX3_extend_16 : rx_ins mX3_extend 16 = some (19, 19, 0, 3, 1, [(15, 38)]) := rx_at tbX3_extend ndX3_extend (j := 9) rfl
theorem iX3_extend_19 : rx_ins mX3_extend 19 = some (3, 20, 0, 0, 0, []) := rx_at tbX3_extend ndX3_extend (j := 10) rfl
theorem iX3_extend_20 : rx_ins mX3_extend 20 = some (18, 23, 0, 3, 2, [(19, 39)]) := rx_at tbX3_extend ndX3_extend (j := 11) rfl
theorem iX3_extend_23 : rx_ins mX3_extend 23 = some (1, 24, 0, 0, 0, []) := rx_at tbX3_extend ndX3_extend (j := 12) rfl
theorem iX3_extend_24 : rx_ins mX3_extend 24 = some (3, 25, 0, 0, 0, []) := rx_at tbX3_extend ndX3_extend (j := 13) rfl
theorem iX3_extend_25 : rx_ins mX3_extend 25 = some (18, 28, 0, 3, 0, [(9, 41)]) := rx_at tbX3_extend ndX3_extend (j := 14) rfl
theorem iX3_extend_28 : rx_ins mX3_extend 28 = some (1, 29, 0, 0, 0, []) := rx_at tbX3_extend ndX3_extend (j := 15) rfl
theorem iX3_extend_29 : rx_ins mX3_extend 29 = some (1, 31, 8, 1, 0, []) := rx_at tbX3_extend ndX3_extend (j := 16) rfl
theorem iX3_extend_31 : rx_ins mX3_extend 31 = some (25, 34, 0, 0, 0, [(56, 2)]) := rx_at tbX3_extend ndX3_extend (j := 17) rfl
theorem iX3_extend_34 : rx_ins mX3_extend 34 = some (30, 35, 0, 0, 0, []) := rx_at tbX3_extend ndX3_extend (j := 18) rfl
theorem iX3_extend_8 : rx_ins mX3_extend 8 = some (2, 9, 0, 2, 0, []) := rx_at tbX3_extend ndX3_extend (j := 4) rfl
theorem iX3_extend_9 : rx_ins mX3_extend 9 = some (1, 11, 8, 1, 0, []) := rx_at tbX3_extend ndX3_extend (j := 5) rfl
theorem iX3_extend_11 : rx_ins mX3_extend 11 = some (14, 14, 24, 2, 35, []) := rx_at tbX3_extend ndX3_extend (j := 6) rfl
theorem iX3_extend_35 : rx_ins mX3_extend 35 = some (1, 36, 1, 0, 0, []) := rx_at tbX3_extend ndX3_extend (j := 19) rfl
theorem iX3_extend_36 : rx_ins mX3_extend 36 = some (4, 38, 1, 4, 0, []) := rx_at tbX3_extend ndX3_extend (j := 20) rfl
theorem iX3_extend_38 : rx_ins mX3_extend 38 = some (2, 40, 1, 4, 0, []) := rx_at tbX3_extend ndX3_extend (j := 21) rfl
theorem iX3_extend_40 : rx_ins mX3_extend 40 = some (3, 41, 0, 0, 0, []) := rx_at tbX3_extend ndX3_extend (j := 22) rfl
theorem iX3_extend_41 : rx_ins mX3_extend 41 = some (17, 44, 0, 3, 4, [(25, 33)]) := rx_at tbX3_extend ndX3_extend (j := 23) rfl
theorem iX3_extend_44 : rx_ins mX3_extend 44 = some (14, 47, 88, 3, 132, []) := rx_at tbX3_extend ndX3_extend (j := 24) rfl
theorem iX3_extend_132 : rx_ins mX3_extend 132 = some (30, 133, 0, 0, 0, []) := rx_at tbX3_extend ndX3_extend (j := 76) rfl
theorem iX3_extend_47 : rx_ins mX3_extend 47 = some (3, 48, 0, 0, 0, []) := rx_at tbX3_extend ndX3_extend (j := 25) rfl
theorem iX3_extend_48 : rx_ins mX3_extend 48 = some (17, 51, 0, 3, 3, [(22, 40)]) := rx_at tbX3_extend ndX3_extend (j := 26) rfl
theorem iX3_extend_51 : rx_ins mX3_extend 51 = some (2, 53, 1, 4, 0, []) := rx_at tbX3_extend ndX3_extend (j := 27) rfl
theorem iX3_extend_53 : rx_ins mX3_extend 53 = some (7, 54, 0, 7, 0, []) := rx_at tbX3_extend ndX3_extend (j := 28) rfl
theorem iX3_extend_54 : rx_ins mX3_extend 54 = some (1, 55, 1, 0, 0, []) := rx_at tbX3_extend ndX3_extend (j := 29) rfl
theorem iX3_extend_55 : rx_ins mX3_extend 55 = some (7, 56, 0, 3, 0, []) := rx_at tbX3_extend ndX3_extend (j := 30) rfl
theorem iX3_extend_56 : rx_ins mX3_extend 56 = some (13, 59, 70, 1, 126, []) := rx_at tbX3_extend ndX3_extend (j := 31) rfl
theorem iX3_extend_126 : rx_ins mX3_extend 126 = some (6, 129, 1, 4, 0, []) := rx_at tbX3_extend ndX3_extend (j := 74) rfl
theorem iX3_extend_129 : rx_ins mX3_extend 129 = some (15, 132, (-91), 0, 38, []) := rx_at tbX3_extend ndX3_extend (j := 75) rfl
theorem iX3_extend_59 : rx_ins mX3_extend 59 = some (2, 60, 0, 3, 0, []) := rx_at tbX3_extend ndX3_extend (j := 32) rfl
theorem iX3_extend_60 : rx_ins mX3_extend 60 = some (3, 61, 0, 0, 0, []) := rx_at tbX3_extend ndX3_extend (j := 33) rfl
theorem iX3_extend_61 : rx_ins mX3_extend 61 = some (3, 62, 0, 1, 0, []) := rx_at tbX3_extend ndX3_extend (j := 34) rfl
theorem iX3_extend_62 : rx_ins mX3_extend 62 = some (2, 63, 0, 2, 0, []) := rx_at tbX3_extend ndX3_extend (j := 35) rfl
theorem iX3_extend_63 : rx_ins mX3_extend 63 = some (2, 65, 1, 4, 0, []) := rx_at tbX3_extend ndX3_extend (j := 36) rfl
theorem iX3_extend_65 : rx_ins mX3_extend 65 = some (28, 68, 5, 42, 4, [(62, 117)]) := rx_at tbX3_extend ndX3_extend (j := 37) rfl
theorem iX3_extend_68 : rx_ins mX3_extend 68 = some (7, 69, 0, 0, 0, []) := rx_at tbX3_extend ndX3_extend (j := 38) rfl
theorem iX3_extend_69 : rx_ins mX3_extend 69 = some (4, 71, 1, 5, 0, []) := rx_at tbX3_extend ndX3_extend (j := 39) rfl
theorem iX3_extend_71 : rx_ins mX3_extend 71 = some (2, 73, 1, 5, 0, []) := rx_at tbX3_extend ndX3_extend (j := 40) rfl
theorem iX3_extend_73 : rx_ins mX3_extend 73 = some (3, 74, 0, 0, 0, []) := rx_at tbX3_extend ndX3_extend (j := 41) rfl
theorem iX3_extend_74 : rx_ins mX3_extend 74 = some (17, 77, 0, 3, 1, [(15, 38)]) := rx_at tbX3_extend ndX3_extend (j := 42) rfl
theorem iX3_extend_77 : rx_ins mX3_extend 77 = some (14, 80, 49, 3, 126, []) := rx_at tbX3_extend ndX3_extend (j := 43) rfl
theorem iX3_extend_80 : rx_ins mX3_extend 80 = some (3, 81, 0, 0, 0, []) := rx_at tbX3_extend ndX3_extend (j := 44) rfl
theorem iX3_extend_81 : rx_ins mX3_extend 81 = some (18, 84, 0, 3, 2, [(19, 39)]) := rx_at tbX3_extend ndX3_extend (j := 45) rfl
theorem iX3_extend_84 : rx_ins mX3_extend 84 = some (2, 85, 0, 2, 0, []) := rx_at tbX3_extend ndX3_extend (j := 46) rfl
theorem iX3_extend_85 : rx_ins mX3_extend 85 = some (2, 87, 1, 4, 0, []) := rx_at tbX3_extend ndX3_extend (j := 47) rfl
theorem iX3_extend_87 : rx_ins mX3_extend 87 = some (21, 88, 0, 0, 0, []) := rx_at tbX3_extend ndX3_extend (j := 48) rfl
theorem iX3_extend_88 : rx_ins mX3_extend 88 = some (3, 89, 0, 0, 0, []) := rx_at tbX3_extend ndX3_extend (j := 49) rfl
theorem iX3_extend_89 : rx_ins mX3_extend 89 = some (10, 90, 0, 0, 0, []) := rx_at tbX3_extend ndX3_extend (j := 50) rfl
theorem iX3_extend_90 : rx_ins mX3_extend 90 = some (17, 93, 0, 3, 3, [(22, 40)]) := rx_at tbX3_extend ndX3_extend (j := 51) rfl
theorem iX3_extend_93 : rx_ins mX3_extend 93 = some (1, 94, 1, 0, 0, []) := rx_at tbX3_extend ndX3_extend (j := 52) rfl
theorem iX3_extend_94 : rx_ins mX3_extend 94 = some (2, 96, 1, 4, 0, []) := rx_at tbX3_extend ndX3_extend (j := 53) rfl
theorem iX3_extend_96 : rx_ins mX3_extend 96 = some (7, 97, 0, 6, 0, []) := rx_at tbX3_extend ndX3_extend (j := 54) rfl
theorem iX3_extend_97 : rx_ins mX3_extend 97 = some (7, 98, 0, 4, 0, []) := rx_at tbX3_extend ndX3_extend (j := 55) rfl
theorem iX3_extend_98 : rx_ins mX3_extend 98 = some (19, 101, 0, 3, 3, [(22, 40)]) := rx_at tbX3_extend ndX3_extend (j := 56) rfl
theorem iX3_extend_101 : rx_ins mX3_extend 101 = some (3, 102, 0, 0, 0, []) := rx_at tbX3_extend ndX3_extend (j := 57) rfl
theorem iX3_extend_102 : rx_ins mX3_extend 102 = some (3, 103, 0, 1, 0, []) := rx_at tbX3_extend ndX3_extend (j := 58) rfl
theorem iX3_extend_103 : rx_ins mX3_extend 103 = some (2, 104, 0, 2, 0, []) := rx_at tbX3_extend ndX3_extend (j := 59) rfl
theorem iX3_extend_104 : rx_ins mX3_extend 104 = some (1, 105, 1, 0, 0, []) := rx_at tbX3_extend ndX3_extend (j := 60) rfl
theorem iX3_extend_105 : rx_ins mX3_extend 105 = some (7, 106, 0, 0, 0, []) := rx_at tbX3_extend ndX3_extend (j := 61) rfl
theorem iX3_extend_106 : rx_ins mX3_extend 106 = some (2, 108, 1, 5, 0, []) := rx_at tbX3_extend ndX3_extend (j := 62) rfl
theorem iX3_extend_108 : rx_ins mX3_extend 108 = some (28, 111, 0, 41, 4, [(52, 116)]) := rx_at tbX3_extend ndX3_extend (j := 63) rfl
theorem iX3_extend_111 : rx_ins mX3_extend 111 = some (3, 112, 0, 0, 0, []) := rx_at tbX3_extend ndX3_extend (j := 64) rfl
theorem iX3_extend_112 : rx_ins mX3_extend 112 = some (10, 113, 0, 0, 0, []) := rx_at tbX3_extend ndX3_extend (j := 65) rfl
theorem iX3_extend_113 : rx_ins mX3_extend 113 = some (17, 116, 0, 3, 3, [(22, 40)]) := rx_at tbX3_extend ndX3_extend (j := 66) rfl
theorem iX3_extend_116 : rx_ins mX3_extend 116 = some (1, 117, 1, 0, 0, []) := rx_at tbX3_extend ndX3_extend (j := 67) rfl
theorem iX3_extend_117 : rx_ins mX3_extend 117 = some (2, 119, 1, 4, 0, []) := rx_at tbX3_extend ndX3_extend (j := 68) rfl
theorem iX3_extend_119 : rx_ins mX3_extend 119 = some (7, 120, 0, 6, 0, []) := rx_at tbX3_extend ndX3_extend (j := 69) rfl
theorem iX3_extend_120 : rx_ins mX3_extend 120 = some (1, 121, (-1), 0, 0, []) := rx_at tbX3_extend ndX3_extend (j := 70) rfl
theorem iX3_extend_121 : rx_ins mX3_extend 121 = some (7, 122, 0, 5, 0, []) := rx_at tbX3_extend ndX3_extend (j := 71) rfl
theorem iX3_extend_122 : rx_ins mX3_extend 122 = some (7, 123, 0, 3, 0, []) := rx_at tbX3_extend ndX3_extend (j := 72) rfl
theorem iX3_extend_123 : rx_ins mX3_extend 123 = some (19, 126, 0, 3, 3, [(22, 40)]) := rx_at tbX3_extend ndX3_extend (j := 73) rfl
theorem iX3_costOfNext_0 : rx_ins mX3_costOfNext 0 = some (1, 1, 0, 0, 0, []) := rx_at tbX3_costOfNext ndX3_costOfNext (j := 0) rfl
theorem iX3_costOfNext_1 : rx_ins mX3_costOfNext 1 = some (4, 3, 1, 4, 0, []) := rx_at tbX3_costOfNext ndX3_costOfNext (j := 1) rfl
theorem iX3_costOfNext_3 : rx_ins mX3_costOfNext 3 = some (1, 4, 0, 0, 0, []) := rx_at tbX3_costOfNext ndX3_costOfNext (j := 2) rfl
theorem iX3_costOfNext_4 : rx_ins mX3_costOfNext 4 = some (4, 6, 1, 5, 0, []) := rx_at tbX3_costOfNext ndX3_costOfNext (j := 3) rfl
theorem iX3_costOfNext_6 : rx_ins mX3_costOfNext 6 = some (2, 8, 1, 5, 0, []) := rx_at tbX3_costOfNext ndX3_costOfNext (j := 4) rfl
theorem iX3_costOfNext_8 : rx_ins mX3_costOfNext 8 = some (2, 9, 0, 2, 0, []) := rx_at tbX3_costOfNext ndX3_costOfNext (j := 5) rfl
theorem iX3_costOfNext_9 : rx_ins mX3_costOfNext 9 = some (14, 12, 69, 3, 78, []) := rx_at tbX3_costOfNext ndX3_costOfNext (j := 6) rfl
theorem iX3_costOfNext_78 : rx_ins mX3_costOfNext 78 = some (2, 80, 1, 4, 0, []) := rx_at tbX3_costOfNext ndX3_costOfNext (j := 43) rfl
theorem iX3_costOfNext_80 : rx_ins mX3_costOfNext 80 = some (29, 81, 0, 0, 0, []) := rx_at tbX3_costOfNext ndX3_costOfNext (j := 44) rfl
theorem iX3_costOfNext_12 : rx_ins mX3_costOfNext 12 = some (3, 13, 0, 0, 0, []) := rx_at tbX3_costOfNext ndX3_costOfNext (j := 7) rfl
theorem iX3_costOfNext_13 : rx_ins mX3_costOfNext 13 = some (18, 16, 0, 3, 5, [(30, 34)]) := rx_at tbX3_costOfNext ndX3_costOfNext (j := 8) rfl
theorem iX3_costOfNext_16 : rx_ins mX3_costOfNext 16 = some (3, 17, 0, 0, 0, []) := rx_at tbX3_costOfNext ndX3_costOfNext (j := 9) rfl
theorem iX3_costOfNext_17 : rx_ins mX3_costOfNext 17 = some (18, 20, 0, 3, 2, [(19, 39)]) := rx_at tbX3_costOfNext ndX3_costOfNext (j := 10) rfl
theorem iX3_costOfNext_20 : rx_ins mX3_costOfNext 20 = some (2, 22, 1, 5, 0, []) := rx_at tbX3_costOfNext ndX3_costOfNext (j := 11) rfl
theorem iX3_costOfNext_22 : rx_ins mX3_costOfNext 22 = some (20, 23, 0, 0, 0, []) := rx_at tbX3_costOfNext ndX3_costOfNext (j := 12) rfl
theorem iX3_costOfNext_23 : rx_ins mX3_costOfNext 23 = some (22, 24, 0, 0, 0, []) := rx_at tbX3_costOfNext ndX3_costOfNext (j := 13) rfl
theorem iX3_costOfNext_24 : rx_ins mX3_costOfNext 24 = some (2, 25, 0, 3, 0, []) := rx_at tbX3_costOfNext ndX3_costOfNext (j := 14) rfl
theorem iX3_costOfNext_25 : rx_ins mX3_costOfNext 25 = some (20, 26, 0, 0, 0, []) := rx_at tbX3_costOfNext ndX3_costOfNext (j := 15) rfl
theorem iX3_costOfNext_26 : rx_ins mX3_costOfNext 26 = some (4, 28, 1, 6, 0, []) := rx_at tbX3_costOfNext ndX3_costOfNext (j := 16) rfl
theorem iX3_costOfNext_28 : rx_ins mX3_costOfNext 28 = some (2, 30, 1, 6, 0, []) := rx_at tbX3_costOfNext ndX3_costOfNext (j := 17) rfl
theorem iX3_costOfNext_30 : rx_ins mX3_costOfNext 30 = some (13, 33, 42, 2, 72, []) := rx_at tbX3_costOfNext ndX3_costOfNext (j := 18) rfl
theorem iX3_costOfNext_72 : rx_ins mX3_costOfNext 72 = some (6, 75, 1, 5, 0, []) := rx_at tbX3_costOfNext ndX3_costOfNext (j := 41) rfl
theorem iX3_costOfNext_75 : rx_ins mX3_costOfNext 75 = some (15, 78, (-69), 0, 6, []) := rx_at tbX3_costOfNext ndX3_costOfNext (j := 42) rfl
theorem iX3_costOfNext_33 : rx_ins mX3_costOfNext 33 = some (2, 35, 1, 5, 0, []) := rx_at tbX3_costOfNext ndX3_costOfNext (j := 19) rfl
theorem iX3_costOfNext_35 : rx_ins mX3_costOfNext 35 = some (1, 36, 1, 0, 0, []) := rx_at tbX3_costOfNext ndX3_costOfNext (j := 20) rfl
theorem iX3_costOfNext_36 : rx_ins mX3_costOfNext 36 = some (7, 37, 0, 0, 0, []) := rx_at tbX3_costOfNext ndX3_costOfNext (j := 21) rfl
theorem iX3_costOfNext_37 : rx_ins mX3_costOfNext 37 = some (4, 39, 1, 7, 0, []) := rx_at tbX3_costOfNext ndX3_costOfNext (j := 22) rfl
theorem iX3_costOfNext_39 : rx_ins mX3_costOfNext 39 = some (2, 41, 1, 7, 0, []) := rx_at tbX3_costOfNext ndX3_costOfNext (j := 23) rfl
theorem iX3_costOfNext_41 : rx_ins mX3_costOfNext 41 = some (2, 42, 0, 2, 0, []) := rx_at tbX3_costOfNext ndX3_costOfNext (j := 24) rfl
theorem iX3_costOfNext_42 : rx_ins mX3_costOfNext 42 = some (14, 45, 30, 3, 72, []) := rx_at tbX3_costOfNext ndX3_costOfNext (j := 25) rfl
theorem iX3_costOfNext_45 : rx_ins mX3_costOfNext 45 = some (2, 47, 1, 4, 0, []) := rx_at tbX3_costOfNext ndX3_costOfNext (j := 26) rfl
theorem iX3_costOfNext_47 : rx_ins mX3_costOfNext 47 = some (3, 48, 0, 0, 0, []) := rx_at tbX3_costOfNext ndX3_costOfNext (j := 27) rfl
theorem iX3_costOfNext_48 : rx_ins mX3_costOfNext 48 = some (3, 49, 0, 1, 0, []) := rx_at tbX3_costOfNext ndX3_costOfNext (j := 28) rfl
theorem iX3_costOfNext_49 : rx_ins mX3_costOfNext 49 = some (2, 51, 1, 6, 0, []) := rx_at tbX3_costOfNext ndX3_costOfNext (j := 29) rfl
theorem iX3_costOfNext_51 : rx_ins mX3_costOfNext 51 = some (22, 52, 0, 0, 0, []) := rx_at tbX3_costOfNext ndX3_costOfNext (j := 30) rfl
theorem iX3_costOfNext_52 : rx_ins mX3_costOfNext 52 = some (3, 53, 0, 0, 0, []) := rx_at tbX3_costOfNext ndX3_costOfNext (j := 31) rfl
theorem iX3_costOfNext_53 : rx_ins mX3_costOfNext 53 = some (18, 56, 0, 3, 2, [(19, 39)]) := rx_at tbX3_costOfNext ndX3_costOfNext (j := 32) rfl
theorem iX3_costOfNext_56 : rx_ins mX3_costOfNext 56 = some (2, 58, 1, 7, 0, []) := rx_at tbX3_costOfNext ndX3_costOfNext (j := 33) rfl
theorem iX3_costOfNext_58 : rx_ins mX3_costOfNext 58 = some (20, 59, 0, 0, 0, []) := rx_at tbX3_costOfNext ndX3_costOfNext (j := 34) rfl
theorem iX3_costOfNext_59 : rx_ins mX3_costOfNext 59 = some (2, 60, 0, 3, 0, []) := rx_at tbX3_costOfNext ndX3_costOfNext (j := 35) rfl
theorem iX3_costOfNext_60 : rx_ins mX3_costOfNext 60 = some (28, 63, 5, 43, 4, [(66, 118)]) := rx_at tbX3_costOfNext ndX3_costOfNext (j := 36) rfl
theorem iX3_costOfNext_63 : rx_ins mX3_costOfNext 63 = some (7, 64, 0, 0, 0, []) := rx_at tbX3_costOfNext ndX3_costOfNext (j := 37) rfl
theorem iX3_costOfNext_64 : rx_ins mX3_costOfNext 64 = some (4, 66, 1, 4, 0, []) := rx_at tbX3_costOfNext ndX3_costOfNext (j := 38) rfl
theorem iX3_costOfNext_66 : rx_ins mX3_costOfNext 66 = some (6, 69, 1, 7, 0, []) := rx_at tbX3_costOfNext ndX3_costOfNext (j := 39) rfl
theorem iX3_costOfNext_69 : rx_ins mX3_costOfNext 69 = some (15, 72, (-30), 0, 39, []) := rx_at tbX3_costOfNext ndX3_costOfNext (j := 40) rfl
theorem iX3_costOfOpen_0 : rx_ins mX3_costOfOpen 0 = some (1, 1, 0, 0, 0, []) := rx_at tbX3_costOfOpen ndX3_costOfOpen (j := 0) rfl
theorem iX3_costOfOpen_1 : rx_ins mX3_costOfOpen 1 = some (4, 3, 1, 4, 0, []) := rx_at tbX3_costOfOpen ndX3_costOfOpen (j := 1) rfl
theorem iX3_costOfOpen_3 : rx_ins mX3_costOfOpen 3 = some (1, 4, 0, 0, 0, []) := rx_at tbX3_costOfOpen ndX3_costOfOpen (j := 2) rfl
theorem iX3_costOfOpen_4 : rx_ins mX3_costOfOpen 4 = some (4, 6, 1, 5, 0, []) := rx_at tbX3_costOfOpen ndX3_costOfOpen (j := 3) rfl
theorem iX3_costOfOpen_6 : rx_ins mX3_costOfOpen 6 = some (2, 8, 1, 5, 0, []) := rx_at tbX3_costOfOpen ndX3_costOfOpen (j := 4) rfl
theorem iX3_costOfOpen_8 : rx_ins mX3_costOfOpen 8 = some (3, 9, 0, 0, 0, []) := rx_at tbX3_costOfOpen ndX3_costOfOpen (j := 5) rfl
theorem iX3_costOfOpen_9 : rx_ins mX3_costOfOpen 9 = some (17, 12, 0, 3, 4, [(25, 33)]) := rx_at tbX3_costOfOpen ndX3_costOfOpen (j := 6) rfl
theorem iX3_costOfOpen_12 : rx_ins mX3_costOfOpen 12 = some (14, 15, 52, 3, 64, []) := rx_at tbX3_costOfOpen ndX3_costOfOpen (j := 7) rfl
theorem iX3_costOfOpen_64 : rx_ins mX3_costOfOpen 64 = some (2, 66, 1, 4, 0, []) := rx_at tbX3_costOfOpen ndX3_costOfOpen (j := 35) rfl
theorem iX3_costOfOpen_66 : rx_ins mX3_costOfOpen 66 = some (29, 67, 0, 0, 0, []) := rx_at tbX3_costOfOpen ndX3_costOfOpen (j := 36) rfl
theorem iX3_costOfOpen_15 : rx_ins mX3_costOfOpen 15 = some (3, 16, 0, 0, 0, []) := rx_at tbX3_costOfOpen ndX3_costOfOpen (j := 8) rfl
theorem iX3_costOfOpen_16 : rx_ins mX3_costOfOpen 16 = some (18, 19, 0, 3, 5, [(30, 34)]) := rx_at tbX3_costOfOpen ndX3_costOfOpen (j := 9) rfl
theorem iX3_costOfOpen_19 : rx_ins mX3_costOfOpen 19 = some (2, 20, 0, 2, 0, []) := rx_at tbX3_costOfOpen ndX3_costOfOpen (j := 10) rfl
theorem iX3_costOfOpen_20 : rx_ins mX3_costOfOpen 20 = some (22, 21, 0, 0, 0, []) := rx_at tbX3_costOfOpen ndX3_costOfOpen (j := 11) rfl
theorem iX3_costOfOpen_21 : rx_ins mX3_costOfOpen 21 = some (2, 23, 1, 5, 0, []) := rx_at tbX3_costOfOpen ndX3_costOfOpen (j := 12) rfl
theorem iX3_costOfOpen_23 : rx_ins mX3_costOfOpen 23 = some (20, 24, 0, 0, 0, []) := rx_at tbX3_costOfOpen ndX3_costOfOpen (j := 13) rfl
theorem iX3_costOfOpen_24 : rx_ins mX3_costOfOpen 24 = some (4, 26, 1, 6, 0, []) := rx_at tbX3_costOfOpen ndX3_costOfOpen (j := 14) rfl
theorem iX3_costOfOpen_26 : rx_ins mX3_costOfOpen 26 = some (2, 28, 1, 6, 0, []) := rx_at tbX3_costOfOpen ndX3_costOfOpen (j := 15) rfl
theorem iX3_costOfOpen_28 : rx_ins mX3_costOfOpen 28 = some (13, 31, 30, 2, 58, []) := rx_at tbX3_costOfOpen ndX3_costOfOpen (j := 16) rfl
theorem iX3_costOfOpen_58 : rx_ins mX3_costOfOpen 58 = some (6, 61, 1, 5, 0, []) := rx_at tbX3_costOfOpen ndX3_costOfOpen (j := 33) rfl
theorem iX3_costOfOpen_61 : rx_ins mX3_costOfOpen 61 = some (15, 64, (-55), 0, 6, []) := rx_at tbX3_costOfOpen ndX3_costOfOpen (j := 34) rfl
theorem iX3_costOfOpen_31 : rx_ins mX3_costOfOpen 31 = some (2, 33, 1, 5, 0, []) := rx_at tbX3_costOfOpen ndX3_costOfOpen (j := 17) rfl
theorem iX3_costOfOpen_33 : rx_ins mX3_costOfOpen 33 = some (2, 34, 0, 3, 0, []) := rx_at tbX3_costOfOpen ndX3_costOfOpen (j := 18) rfl
theorem iX3_costOfOpen_34 : rx_ins mX3_costOfOpen 34 = some (14, 37, 24, 0, 58, []) := rx_at tbX3_costOfOpen ndX3_costOfOpen (j := 19) rfl
theorem iX3_costOfOpen_37 : rx_ins mX3_costOfOpen 37 = some (3, 38, 0, 0, 0, []) := rx_at tbX3_costOfOpen ndX3_costOfOpen (j := 20) rfl
theorem iX3_costOfOpen_38 : rx_ins mX3_costOfOpen 38 = some (17, 41, 0, 3, 3, [(22, 40)]) := rx_at tbX3_costOfOpen ndX3_costOfOpen (j := 21) rfl
theorem iX3_costOfOpen_41 : rx_ins mX3_costOfOpen 41 = some (2, 43, 1, 5, 0, []) := rx_at tbX3_costOfOpen ndX3_costOfOpen (j := 22) rfl
theorem iX3_costOfOpen_43 : rx_ins mX3_costOfOpen 43 = some (7, 44, 0, 7, 0, []) := rx_at tbX3_costOfOpen ndX3_costOfOpen (j := 23) rfl
theorem iX3_costOfOpen_44 : rx_ins mX3_costOfOpen 44 = some (1, 45, 1, 0, 0, []) := rx_at tbX3_costOfOpen ndX3_costOfOpen (j := 24) rfl
theorem iX3_costOfOpen_45 : rx_ins mX3_costOfOpen 45 = some (7, 46, 0, 3, 0, []) := rx_at tbX3_costOfOpen ndX3_costOfOpen (j := 25) rfl
theorem iX3_costOfOpen_46 : rx_ins mX3_costOfOpen 46 = some (13, 49, 12, 1, 58, []) := rx_at tbX3_costOfOpen ndX3_costOfOpen (j := 26) rfl
theorem iX3_costOfOpen_49 : rx_ins mX3_costOfOpen 49 = some (2, 51, 1, 4, 0, []) := rx_at tbX3_costOfOpen ndX3_costOfOpen (j := 27) rfl
theorem iX3_costOfOpen_51 : rx_ins mX3_costOfOpen 51 = some (3, 52, 0, 1, 0, []) := rx_at tbX3_costOfOpen ndX3_costOfOpen (j := 28) rfl
theorem iX3_costOfOpen_52 : rx_ins mX3_costOfOpen 52 = some (2, 54, 1, 6, 0, []) := rx_at tbX3_costOfOpen ndX3_costOfOpen (j := 29) rfl
theorem iX3_costOfOpen_54 : rx_ins mX3_costOfOpen 54 = some (20, 55, 0, 0, 0, []) := rx_at tbX3_costOfOpen ndX3_costOfOpen (j := 30) rfl
theorem iX3_costOfOpen_55 : rx_ins mX3_costOfOpen 55 = some (7, 56, 0, 0, 0, []) := rx_at tbX3_costOfOpen ndX3_costOfOpen (j := 31) rfl
theorem iX3_costOfOpen_56 : rx_ins mX3_costOfOpen 56 = some (4, 58, 1, 4, 0, []) := rx_at tbX3_costOfOpen ndX3_costOfOpen (j := 32) rfl
theorem iX4_search_0 : rx_ins mX4_search 0 = some (3, 1, 0, 0, 0, []) := rx_at tbX4_search ndX4_search (j := 0) rfl
theorem iX4_search_1 : rx_ins mX4_search 1 = some (3, 2, 0, 1, 0, []) := rx_at tbX4_search ndX4_search (j := 1) rfl
theorem iX4_search_2 : rx_ins mX4_search 2 = some (17, 5, 0, 1, 6, [(25, 42)]) := rx_at tbX4_search ndX4_search (j := 2) rfl
theorem iX4_search_5 : rx_ins mX4_search 5 = some (19, 8, 0, 4, 3, [(21, 43)]) := rx_at tbX4_search ndX4_search (j := 3) rfl
theorem iX4_search_8 : rx_ins mX4_search 8 = some (1, 9, 0, 0, 0, []) := rx_at tbX4_search ndX4_search (j := 4) rfl
theorem iX4_search_9 : rx_ins mX4_search 9 = some (4, 10, 0, 2, 0, []) := rx_at tbX4_search ndX4_search (j := 5) rfl
theorem iX4_search_10 : rx_ins mX4_search 10 = some (2, 11, 0, 2, 0, []) := rx_at tbX4_search ndX4_search (j := 6) rfl
theorem iX4_search_11 : rx_ins mX4_search 11 = some (3, 12, 0, 0, 0, []) := rx_at tbX4_search ndX4_search (j := 7) rfl
theorem iX4_search_12 : rx_ins mX4_search 12 = some (17, 15, 0, 4, 3, [(21, 43)]) := rx_at tbX4_search ndX4_search (j := 8) rfl
theorem iX4_search_15 : rx_ins mX4_search 15 = some (14, 18, 20, 3, 35, []) := rx_at tbX4_search ndX4_search (j := 9) rfl
theorem iX4_search_35 : rx_ins mX4_search 35 = some (1, 36, 0, 0, 0, []) := rx_at tbX4_search ndX4_search (j := 19) rfl
theorem iX4_search_36 : rx_ins mX4_search 36 = some (4, 37, 0, 2, 0, []) := rx_at tbX4_search ndX4_search (j := 20) rfl
theorem iX4_search_18 : rx_ins mX4_search 18 = some (3, 19, 0, 0, 0, []) := rx_at tbX4_search ndX4_search (j := 10) rfl
theorem iX4_search_19 : rx_ins mX4_search 19 = some (18, 22, 0, 4, 1, [(15, 44)]) := rx_at tbX4_search ndX4_search (j := 11) rfl
theorem iX4_search_22 : rx_ins mX4_search 22 = some (2, 23, 0, 2, 0, []) := rx_at tbX4_search ndX4_search (j := 12) rfl
theorem iX4_search_23 : rx_ins mX4_search 23 = some (3, 24, 0, 1, 0, []) := rx_at tbX4_search ndX4_search (j := 13) rfl
theorem iX4_search_24 : rx_ins mX4_search 24 = some (2, 25, 0, 2, 0, []) := rx_at tbX4_search ndX4_search (j := 14) rfl
theorem iX4_search_25 : rx_ins mX4_search 25 = some (28, 28, 0, 45, 2, [(28, 119)]) := rx_at tbX4_search ndX4_search (j := 15) rfl
theorem iX4_search_28 : rx_ins mX4_search 28 = some (21, 29, 0, 0, 0, []) := rx_at tbX4_search ndX4_search (j := 16) rfl
theorem iX4_search_29 : rx_ins mX4_search 29 = some (6, 32, 1, 2, 0, []) := rx_at tbX4_search ndX4_search (j := 17) rfl
theorem iX4_search_32 : rx_ins mX4_search 32 = some (15, 35, (-22), 0, 10, []) := rx_at tbX4_search ndX4_search (j := 18) rfl
theorem iX4_search_37 : rx_ins mX4_search 37 = some (2, 38, 0, 2, 0, []) := rx_at tbX4_search ndX4_search (j := 21) rfl
theorem iX4_search_38 : rx_ins mX4_search 38 = some (1, 40, 18, 1, 0, []) := rx_at tbX4_search ndX4_search (j := 22) rfl
theorem iX4_search_40 : rx_ins mX4_search 40 = some (14, 43, 29, 3, 69, []) := rx_at tbX4_search ndX4_search (j := 23) rfl
theorem iX4_search_69 : rx_ins mX4_search 69 = some (1, 71, 18, 1, 0, []) := rx_at tbX4_search ndX4_search (j := 38) rfl
theorem iX4_search_71 : rx_ins mX4_search 71 = some (29, 72, 0, 0, 0, []) := rx_at tbX4_search ndX4_search (j := 39) rfl
theorem iX4_search_43 : rx_ins mX4_search 43 = some (3, 44, 0, 0, 0, []) := rx_at tbX4_search ndX4_search (j := 24) rfl
theorem iX4_search_44 : rx_ins mX4_search 44 = some (18, 47, 0, 4, 2, [(18, 45)]) := rx_at tbX4_search ndX4_search (j := 25) rfl
theorem iX4_search_47 : rx_ins mX4_search 47 = some (1, 48, 0, 0, 0, []) := rx_at tbX4_search ndX4_search (j := 26) rfl
theorem iX4_search_48 : rx_ins mX4_search 48 = some (28, 51, 0, 246, 2, [(32, 120)]) := rx_at tbX4_search ndX4_search (j := 27) rfl
theorem iX4_search_51 : rx_ins mX4_search 51 = some (3, 52, 0, 0, 0, []) := rx_at tbX4_search ndX4_search (j := 28) rfl
theorem iX4_search_52 : rx_ins mX4_search 52 = some (1, 53, 0, 0, 0, []) := rx_at tbX4_search ndX4_search (j := 29) rfl
theorem iX4_search_53 : rx_ins mX4_search 53 = some (1, 54, 0, 0, 0, []) := rx_at tbX4_search ndX4_search (j := 30) rfl
theorem iX4_search_54 : rx_ins mX4_search 54 = some (2, 55, 0, 2, 0, []) := rx_at tbX4_search ndX4_search (j := 31) rfl
theorem iX4_search_55 : rx_ins mX4_search 55 = some (28, 58, 0, 46, 4, [(38, 121)]) := rx_at tbX4_search ndX4_search (j := 32) rfl
theorem iX4_search_58 : rx_ins mX4_search 58 = some (13, 61, 5, 0, 63, []) := rx_at tbX4_search ndX4_search (j := 33) rfl
theorem iX4_search_63 : rx_ins mX4_search 63 = some (6, 66, 1, 2, 0, []) := rx_at tbX4_search ndX4_search (j := 36) rfl
theorem iX4_search_66 : rx_ins mX4_search 66 = some (15, 69, (-29), 0, 37, []) := rx_at tbX4_search ndX4_search (j := 37) rfl
theorem iX4_search_61 : rx_ins mX4_search 61 = some (2, 62, 0, 2, 0, []) := rx_at tbX4_search ndX4_search (j := 34) rfl
theorem iX4_search_62 : rx_ins mX4_search 62 = some (29, 63, 0, 0, 0, []) := rx_at tbX4_search ndX4_search (j := 35) rfl
theorem iX4_clashesOf_0 : rx_ins mX4_clashesOf 0 = some (1, 1, 0, 0, 0, []) := rx_at tbX4_clashesOf ndX4_clashesOf (j := 0) rfl
theorem iX4_clashesOf_1 : rx_ins mX4_clashesOf 1 = some (4, 2, 0, 2, 0, []) := rx_at tbX4_clashesOf ndX4_clashesOf (j := 1) rfl
theorem iX4_clashesOf_2 : rx_ins mX4_clashesOf 2 = some (1, 3, 0, 0, 0, []) := rx_at tbX4_clashesOf ndX4_clashesOf (j := 2) rfl
theorem iX4_clashesOf_3 : rx_ins mX4_clashesOf 3 = some (4, 4, 0, 3, 0, []) := rx_at tbX4_clashesOf ndX4_clashesOf (j := 3) rfl
theorem iX4_clashesOf_4 : rx_ins mX4_clashesOf 4 = some (2, 5, 0, 3, 0, []) := rx_at tbX4_clashesOf ndX4_clashesOf (j := 4) rfl
theorem iX4_clashesOf_5 : rx_ins mX4_clashesOf 5 = some (3, 6, 0, 0, 0, []) := rx_at tbX4_clashesOf ndX4_clashesOf (j := 5) rfl
theorem iX4_clashesOf_6 : rx_ins mX4_clashesOf 6 = some (17, 9, 0, 1, 6, [(25, 42)]) := rx_at tbX4_clashesOf ndX4_clashesOf (j := 6) rfl
theorem iX4_clashesOf_9 : rx_ins mX4_clashesOf 9 = some (14, 12, 38, 3, 47, []) := rx_at tbX4_clashesOf ndX4_clashesOf (j := 7) rfl
theorem iX4_clashesOf_47 : rx_ins mX4_clashesOf 47 = some (2, 48, 0, 2, 0, []) := rx_at tbX4_clashesOf ndX4_clashesOf (j := 29) rfl
theorem iX4_clashesOf_48 : rx_ins mX4_clashesOf 48 = some (29, 49, 0, 0, 0, []) := rx_at tbX4_clashesOf ndX4_clashesOf (j := 30) rfl
theorem iX4_clashesOf_12 : rx_ins mX4_clashesOf 12 = some (2, 13, 0, 3, 0, []) := rx_at tbX4_clashesOf ndX4_clashesOf (j := 8) rfl
theorem iX4_clashesOf_13 : rx_ins mX4_clashesOf 13 = some (2, 14, 0, 1, 0, []) := rx_at tbX4_clashesOf ndX4_clashesOf (j := 9) rfl
theorem iX4_clashesOf_14 : rx_ins mX4_clashesOf 14 = some (14, 17, 27, 0, 41, []) := rx_at tbX4_clashesOf ndX4_clashesOf (j := 10) rfl
theorem iX4_clashesOf_41 : rx_ins mX4_clashesOf 41 = some (6, 44, 1, 3, 0, []) := rx_at tbX4_clashesOf ndX4_clashesOf (j := 27) rfl
theorem iX4_clashesOf_44 : rx_ins mX4_clashesOf 44 = some (15, 47, (-40), 0, 4, []) := rx_at tbX4_clashesOf ndX4_clashesOf (j := 28) rfl
theorem iX4_clashesOf_17 : rx_ins mX4_clashesOf 17 = some (3, 18, 0, 0, 0, []) := rx_at tbX4_clashesOf ndX4_clashesOf (j := 11) rfl
theorem iX4_clashesOf_18 : rx_ins mX4_clashesOf 18 = some (2, 19, 0, 1, 0, []) := rx_at tbX4_clashesOf ndX4_clashesOf (j := 12) rfl
theorem iX4_clashesOf_19 : rx_ins mX4_clashesOf 19 = some (2, 20, 0, 3, 0, []) := rx_at tbX4_clashesOf ndX4_clashesOf (j := 13) rfl
theorem iX4_clashesOf_20 : rx_ins mX4_clashesOf 20 = some (28, 23, 3, 27, 3, [(42, 122)]) := rx_at tbX4_clashesOf ndX4_clashesOf (j := 14) rfl
theorem iX4_clashesOf_23 : rx_ins mX4_clashesOf 23 = some (13, 26, 18, 1, 41, []) := rx_at tbX4_clashesOf ndX4_clashesOf (j := 15) rfl
theorem iX4_clashesOf_26 : rx_ins mX4_clashesOf 26 = some (3, 27, 0, 0, 0, []) := rx_at tbX4_clashesOf ndX4_clashesOf (j := 16) rfl
theorem iX4_clashesOf_27 : rx_ins mX4_clashesOf 27 = some (2, 28, 0, 1, 0, []) := rx_at tbX4_clashesOf ndX4_clashesOf (j := 17) rfl
theorem iX4_clashesOf_28 : rx_ins mX4_clashesOf 28 = some (2, 29, 0, 3, 0, []) := rx_at tbX4_clashesOf ndX4_clashesOf (j := 18) rfl
theorem iX4_clashesOf_29 : rx_ins mX4_clashesOf 29 = some (28, 32, 3, 31, 3, [(46, 123)]) := rx_at tbX4_clashesOf ndX4_clashesOf (j := 19) rfl
theorem iX4_clashesOf_32 : rx_ins mX4_clashesOf 32 = some (13, 35, 9, 0, 41, []) := rx_at tbX4_clashesOf ndX4_clashesOf (j := 20) rfl
theorem iX4_clashesOf_35 : rx_ins mX4_clashesOf 35 = some (2, 36, 0, 2, 0, []) := rx_at tbX4_clashesOf ndX4_clashesOf (j := 21) rfl
theorem iX4_clashesOf_36 : rx_ins mX4_clashesOf 36 = some (1, 37, 1, 0, 0, []) := rx_at tbX4_clashesOf ndX4_clashesOf (j := 22) rfl
theorem iX4_clashesOf_37 : rx_ins mX4_clashesOf 37 = some (2, 38, 0, 3, 0, []) := rx_at tbX4_clashesOf ndX4_clashesOf (j := 23) rfl
theorem iX4_clashesOf_38 : rx_ins mX4_clashesOf 38 = some (7, 39, 0, 6, 0, []) := rx_at tbX4_clashesOf ndX4_clashesOf (j := 24) rfl
theorem iX4_clashesOf_39 : rx_ins mX4_clashesOf 39 = some (7, 40, 0, 4, 0, []) := rx_at tbX4_clashesOf ndX4_clashesOf (j := 25) rfl
theorem iX4_clashesOf_40 : rx_ins mX4_clashesOf 40 = some (4, 41, 0, 2, 0, []) := rx_at tbX4_clashesOf ndX4_clashesOf (j := 26) rfl
theorem iX4_paint_0 : rx_ins mX4_paint 0 = some (2, 1, 0, 1, 0, []) := rx_at tbX4_paint ndX4_paint (j := 0) rfl
theorem iX4_paint_1 : rx_ins mX4_paint 1 = some (3, 2, 0, 0, 0, []) := rx_at tbX4_paint ndX4_paint (j := 1) rfl
theorem iX4_paint_2 : rx_ins mX4_paint 2 = some (17, 5, 0, 4, 3, [(21, 43)]) := rx_at tbX4_paint ndX4_paint (j := 2) rfl
theorem iX4_paint_5 : rx_ins mX4_paint 5 = some (14, 8, 9, 3, 14, []) := rx_at tbX4_paint ndX4_paint (j := 3) rfl
theorem iX4_paint_14 : rx_ins mX4_paint 14 = some (1, 15, 1, 0, 0, []) := rx_at tbX4_paint ndX4_paint (j := 7) rfl
theorem iX4_paint_15 : rx_ins mX4_paint 15 = some (29, 16, 1, 0, 0, []) := rx_at tbX4_paint ndX4_paint (j := 8) rfl
theorem iX4_paint_8 : rx_ins mX4_paint 8 = some (2, 9, 0, 1, 0, []) := rx_at tbX4_paint ndX4_paint (j := 4) rfl
theorem iX4_paint_9 : rx_ins mX4_paint 9 = some (1, 11, 18, 1, 0, []) := rx_at tbX4_paint ndX4_paint (j := 5) rfl
theorem iX4_paint_11 : rx_ins mX4_paint 11 = some (14, 14, 5, 2, 16, []) := rx_at tbX4_paint ndX4_paint (j := 6) rfl
theorem iX4_paint_16 : rx_ins mX4_paint 16 = some (3, 17, 0, 0, 0, []) := rx_at tbX4_paint ndX4_paint (j := 9) rfl
theorem iX4_paint_17 : rx_ins mX4_paint 17 = some (18, 20, 0, 4, 1, [(15, 44)]) := rx_at tbX4_paint ndX4_paint (j := 10) rfl
theorem iX4_paint_20 : rx_ins mX4_paint 20 = some (2, 21, 0, 1, 0, []) := rx_at tbX4_paint ndX4_paint (j := 11) rfl
theorem iX4_paint_21 : rx_ins mX4_paint 21 = some (20, 22, 0, 0, 0, []) := rx_at tbX4_paint ndX4_paint (j := 12) rfl
theorem iX4_paint_22 : rx_ins mX4_paint 22 = some (13, 25, 11, 1, 33, []) := rx_at tbX4_paint ndX4_paint (j := 13) rfl
theorem iX4_paint_33 : rx_ins mX4_paint 33 = some (2, 34, 0, 2, 0, []) := rx_at tbX4_paint ndX4_paint (j := 18) rfl
theorem iX4_paint_34 : rx_ins mX4_paint 34 = some (1, 35, 1, 0, 0, []) := rx_at tbX4_paint ndX4_paint (j := 19) rfl
theorem iX4_paint_35 : rx_ins mX4_paint 35 = some (7, 36, 0, 0, 0, []) := rx_at tbX4_paint ndX4_paint (j := 20) rfl
theorem iX4_paint_36 : rx_ins mX4_paint 36 = some (2, 37, 0, 3, 0, []) := rx_at tbX4_paint ndX4_paint (j := 21) rfl
theorem iX4_paint_37 : rx_ins mX4_paint 37 = some (31, 40, 0, 1, 0, [(49, 4)]) := rx_at tbX4_paint ndX4_paint (j := 22) rfl
theorem iX4_paint_40 : rx_ins mX4_paint 40 = some (4, 42, 1, 4, 0, []) := rx_at tbX4_paint ndX4_paint (j := 23) rfl
theorem iX4_paint_42 : rx_ins mX4_paint 42 = some (1, 43, 0, 0, 0, []) := rx_at tbX4_paint ndX4_paint (j := 24) rfl
theorem iX4_paint_43 : rx_ins mX4_paint 43 = some (4, 45, 1, 5, 0, []) := rx_at tbX4_paint ndX4_paint (j := 25) rfl
theorem iX4_paint_25 : rx_ins mX4_paint 25 = some (1, 26, 1, 0, 0, []) := rx_at tbX4_paint ndX4_paint (j := 14) rfl
theorem iX4_paint_26 : rx_ins mX4_paint 26 = some (2, 27, 0, 3, 0, []) := rx_at tbX4_paint ndX4_paint (j := 15) rfl
theorem iX4_paint_27 : rx_ins mX4_paint 27 = some (31, 30, 0, 1, 0, [(49, 4)]) := rx_at tbX4_paint ndX4_paint (j := 16) rfl
theorem iX4_paint_30 : rx_ins mX4_paint 30 = some (15, 33, 10, 0, 40, []) := rx_at tbX4_paint ndX4_paint (j := 17) rfl
theorem iX4_paint_45 : rx_ins mX4_paint 45 = some (2, 47, 1, 5, 0, []) := rx_at tbX4_paint ndX4_paint (j := 26) rfl
theorem iX4_paint_47 : rx_ins mX4_paint 47 = some (2, 49, 1, 4, 0, []) := rx_at tbX4_paint ndX4_paint (j := 27) rfl
theorem iX4_paint_49 : rx_ins mX4_paint 49 = some (14, 52, 83, 3, 132, []) := rx_at tbX4_paint ndX4_paint (j := 28) rfl
theorem iX4_paint_132 : rx_ins mX4_paint 132 = some (1, 133, 0, 0, 0, []) := rx_at tbX4_paint ndX4_paint (j := 82) rfl
theorem iX4_paint_133 : rx_ins mX4_paint 133 = some (29, 134, 1, 0, 0, []) := rx_at tbX4_paint ndX4_paint (j := 83) rfl
theorem iX4_paint_52 : rx_ins mX4_paint 52 = some (3, 53, 0, 0, 0, []) := rx_at tbX4_paint ndX4_paint (j := 29) rfl
theorem iX4_paint_53 : rx_ins mX4_paint 53 = some (18, 56, 0, 4, 1, [(15, 44)]) := rx_at tbX4_paint ndX4_paint (j := 30) rfl
theorem iX4_paint_56 : rx_ins mX4_paint 56 = some (2, 57, 0, 1, 0, []) := rx_at tbX4_paint ndX4_paint (j := 31) rfl
theorem iX4_paint_57 : rx_ins mX4_paint 57 = some (20, 58, 0, 0, 0, []) := rx_at tbX4_paint ndX4_paint (j := 32) rfl
theorem iX4_paint_58 : rx_ins mX4_paint 58 = some (3, 59, 0, 0, 0, []) := rx_at tbX4_paint ndX4_paint (j := 33) rfl
theorem iX4_paint_59 : rx_ins mX4_paint 59 = some (18, 62, 0, 4, 2, [(18, 45)]) := rx_at tbX4_paint ndX4_paint (j := 34) rfl
theorem iX4_paint_62 : rx_ins mX4_paint 62 = some (2, 64, 1, 5, 0, []) := rx_at tbX4_paint ndX4_paint (j := 35) rfl
theorem iX4_paint_64 : rx_ins mX4_paint 64 = some (20, 65, 0, 0, 0, []) := rx_at tbX4_paint ndX4_paint (j := 36) rfl
theorem iX4_paint_65 : rx_ins mX4_paint 65 = some (7, 66, 0, 3, 0, []) := rx_at tbX4_paint ndX4_paint (j := 37) rfl
theorem iX4_paint_66 : rx_ins mX4_paint 66 = some (13, 69, 60, 1, 126, []) := rx_at tbX4_paint ndX4_paint (j := 38) rfl
theorem iX4_paint_126 : rx_ins mX4_paint 126 = some (6, 129, 1, 5, 0, []) := rx_at tbX4_paint ndX4_paint (j := 80) rfl
theorem iX4_paint_129 : rx_ins mX4_paint 129 = some (15, 132, (-84), 0, 45, []) := rx_at tbX4_paint ndX4_paint (j := 81) rfl
theorem iX4_paint_69 : rx_ins mX4_paint 69 = some (3, 70, 0, 0, 0, []) := rx_at tbX4_paint ndX4_paint (j := 39) rfl
theorem iX4_paint_70 : rx_ins mX4_paint 70 = some (18, 73, 0, 4, 0, [(9, 46)]) := rx_at tbX4_paint ndX4_paint (j := 40) rfl
theorem iX4_paint_73 : rx_ins mX4_paint 73 = some (2, 74, 0, 1, 0, []) := rx_at tbX4_paint ndX4_paint (j := 41) rfl
theorem iX4_paint_74 : rx_ins mX4_paint 74 = some (2, 76, 1, 5, 0, []) := rx_at tbX4_paint ndX4_paint (j := 42) rfl
theorem iX4_paint_76 : rx_ins mX4_paint 76 = some (21, 77, 0, 0, 0, []) := rx_at tbX4_paint ndX4_paint (j := 43) rfl
theorem iX4_paint_77 : rx_ins mX4_paint 77 = some (3, 78, 0, 0, 0, []) := rx_at tbX4_paint ndX4_paint (j := 44) rfl
theorem iX4_paint_78 : rx_ins mX4_paint 78 = some (18, 81, 0, 4, 2, [(18, 45)]) := rx_at tbX4_paint ndX4_paint (j := 45) rfl
theorem iX4_paint_81 : rx_ins mX4_paint 81 = some (2, 83, 1, 5, 0, []) := rx_at tbX4_paint ndX4_paint (j := 46) rfl
theorem iX4_paint_83 : rx_ins mX4_paint 83 = some (11, 84, 0, 0, 0, []) := rx_at tbX4_paint ndX4_paint (j := 47) rfl
theorem iX4_paint_84 : rx_ins mX4_paint 84 = some (20, 85, 0, 0, 0, []) := rx_at tbX4_paint ndX4_paint (j := 48) rfl
theorem iX4_paint_85 : rx_ins mX4_paint 85 = some (1, 86, 1, 0, 0, []) := rx_at tbX4_paint ndX4_paint (j := 49) rfl
theorem iX4_paint_86 : rx_ins mX4_paint 86 = some (2, 87, 0, 1, 0, []) := rx_at tbX4_paint ndX4_paint (j := 50) rfl
theorem iX4_paint_87 : rx_ins mX4_paint 87 = some (7, 88, 0, 6, 0, []) := rx_at tbX4_paint ndX4_paint (j := 51) rfl
theorem iX4_paint_88 : rx_ins mX4_paint 88 = some (7, 89, 0, 4, 0, []) := rx_at tbX4_paint ndX4_paint (j := 52) rfl
theorem iX4_paint_89 : rx_ins mX4_paint 89 = some (21, 90, 0, 0, 0, []) := rx_at tbX4_paint ndX4_paint (j := 53) rfl
theorem iX4_paint_90 : rx_ins mX4_paint 90 = some (3, 91, 0, 0, 0, []) := rx_at tbX4_paint ndX4_paint (j := 54) rfl
theorem iX4_paint_91 : rx_ins mX4_paint 91 = some (2, 92, 0, 1, 0, []) := rx_at tbX4_paint ndX4_paint (j := 55) rfl
theorem iX4_paint_92 : rx_ins mX4_paint 92 = some (1, 93, 1, 0, 0, []) := rx_at tbX4_paint ndX4_paint (j := 56) rfl
theorem iX4_paint_93 : rx_ins mX4_paint 93 = some (7, 94, 0, 0, 0, []) := rx_at tbX4_paint ndX4_paint (j := 57) rfl
theorem iX4_paint_94 : rx_ins mX4_paint 94 = some (2, 95, 0, 2, 0, []) := rx_at tbX4_paint ndX4_paint (j := 58) rfl
theorem iX4_paint_95 : rx_ins mX4_paint 95 = some (2, 97, 1, 5, 0, []) := rx_at tbX4_paint ndX4_paint (j := 59) rfl
theorem iX4_paint_97 : rx_ins mX4_paint 97 = some (1, 98, 1, 0, 0, []) := rx_at tbX4_paint ndX4_paint (j := 60) rfl
theorem iX4_paint_98 : rx_ins mX4_paint 98 = some (7, 99, 0, 0, 0, []) := rx_at tbX4_paint ndX4_paint (j := 61) rfl
theorem iX4_paint_99 : rx_ins mX4_paint 99 = some (31, 102, 0, 0, 0, [(55, 5)]) := rx_at tbX4_paint ndX4_paint (j := 62) rfl
theorem iX4_paint_102 : rx_ins mX4_paint 102 = some (2, 103, 0, 3, 0, []) := rx_at tbX4_paint ndX4_paint (j := 63) rfl
theorem iX4_paint_103 : rx_ins mX4_paint 103 = some (28, 106, 0, 46, 4, [(38, 121)]) := rx_at tbX4_paint ndX4_paint (j := 64) rfl
theorem iX4_paint_106 : rx_ins mX4_paint 106 = some (13, 109, 5, 0, 111, []) := rx_at tbX4_paint ndX4_paint (j := 65) rfl
theorem iX4_paint_111 : rx_ins mX4_paint 111 = some (3, 112, 0, 0, 0, []) := rx_at tbX4_paint ndX4_paint (j := 68) rfl
theorem iX4_paint_112 : rx_ins mX4_paint 112 = some (18, 115, 0, 4, 2, [(18, 45)]) := rx_at tbX4_paint ndX4_paint (j := 69) rfl
theorem iX4_paint_115 : rx_ins mX4_paint 115 = some (2, 117, 1, 5, 0, []) := rx_at tbX4_paint ndX4_paint (j := 70) rfl
theorem iX4_paint_117 : rx_ins mX4_paint 117 = some (11, 118, 0, 0, 0, []) := rx_at tbX4_paint ndX4_paint (j := 71) rfl
theorem iX4_paint_118 : rx_ins mX4_paint 118 = some (20, 119, 0, 0, 0, []) := rx_at tbX4_paint ndX4_paint (j := 72) rfl
theorem iX4_paint_119 : rx_ins mX4_paint 119 = some (1, 120, 1, 0, 0, []) := rx_at tbX4_paint ndX4_paint (j := 73) rfl
theorem iX4_paint_120 : rx_ins mX4_paint 120 = some (2, 121, 0, 1, 0, []) := rx_at tbX4_paint ndX4_paint (j := 74) rfl
theorem iX4_paint_121 : rx_ins mX4_paint 121 = some (7, 122, 0, 6, 0, []) := rx_at tbX4_paint ndX4_paint (j := 75) rfl
theorem iX4_paint_122 : rx_ins mX4_paint 122 = some (1, 123, (-1), 0, 0, []) := rx_at tbX4_paint ndX4_paint (j := 76) rfl
theorem iX4_paint_123 : rx_ins mX4_paint 123 = some (7, 124, 0, 5, 0, []) := rx_at tbX4_paint ndX4_paint (j := 77) rfl
theorem iX4_paint_124 : rx_ins mX4_paint 124 = some (7, 125, 0, 3, 0, []) := rx_at tbX4_paint ndX4_paint (j := 78) rfl
theorem iX4_paint_125 : rx_ins mX4_paint 125 = some (21, 126, 0, 0, 0, []) := rx_at tbX4_paint ndX4_paint (j := 79) rfl
theorem iX4_paint_109 : rx_ins mX4_paint 109 = some (1, 110, 1, 0, 0, []) := rx_at tbX4_paint ndX4_paint (j := 66) rfl
theorem iX4_paint_110 : rx_ins mX4_paint 110 = some (29, 111, 1, 0, 0, []) := rx_at tbX4_paint ndX4_paint (j := 67) rfl
theorem iX5_feedNumber_0 : rx_ins mX5_feedNumber 0 = some (1, 2, 24, 1, 0, []) := rx_at tbX5_feedNumber ndX5_feedNumber (j := 0) rfl
theorem iX5_feedNumber_2 : rx_ins mX5_feedNumber 2 = some (4, 3, 0, 2, 0, []) := rx_at tbX5_feedNumber ndX5_feedNumber (j := 1) rfl
theorem iX5_feedNumber_3 : rx_ins mX5_feedNumber 3 = some (2, 4, 0, 2, 0, []) := rx_at tbX5_feedNumber ndX5_feedNumber (j := 2) rfl
theorem iX5_feedNumber_4 : rx_ins mX5_feedNumber 4 = some (13, 7, 44, 2, 48, []) := rx_at tbX5_feedNumber ndX5_feedNumber (j := 3) rfl
theorem iX5_feedNumber_48 : rx_ins mX5_feedNumber 48 = some (30, 49, 0, 0, 0, []) := rx_at tbX5_feedNumber ndX5_feedNumber (j := 26) rfl
theorem iX5_feedNumber_7 : rx_ins mX5_feedNumber 7 = some (3, 8, 0, 0, 0, []) := rx_at tbX5_feedNumber ndX5_feedNumber (j := 4) rfl
theorem iX5_feedNumber_8 : rx_ins mX5_feedNumber 8 = some (17, 11, 0, 5, 0, [(9, 47)]) := rx_at tbX5_feedNumber ndX5_feedNumber (j := 5) rfl
theorem iX5_feedNumber_11 : rx_ins mX5_feedNumber 11 = some (1, 13, 96, 1, 0, []) := rx_at tbX5_feedNumber ndX5_feedNumber (j := 6) rfl
theorem iX5_feedNumber_13 : rx_ins mX5_feedNumber 13 = some (14, 16, 29, 3, 42, []) := rx_at tbX5_feedNumber ndX5_feedNumber (j := 7) rfl
theorem iX5_feedNumber_42 : rx_ins mX5_feedNumber 42 = some (6, 45, (-8), 2, 0, []) := rx_at tbX5_feedNumber ndX5_feedNumber (j := 24) rfl
theorem iX5_feedNumber_45 : rx_ins mX5_feedNumber 45 = some (15, 48, (-42), 0, 3, []) := rx_at tbX5_feedNumber ndX5_feedNumber (j := 25) rfl
theorem iX5_feedNumber_16 : rx_ins mX5_feedNumber 16 = some (3, 17, 0, 0, 0, []) := rx_at tbX5_feedNumber ndX5_feedNumber (j := 8) rfl
theorem iX5_feedNumber_17 : rx_ins mX5_feedNumber 17 = some (18, 20, 0, 5, 5, [(28, 48)]) := rx_at tbX5_feedNumber ndX5_feedNumber (j := 9) rfl
theorem iX5_feedNumber_20 : rx_ins mX5_feedNumber 20 = some (3, 21, 0, 0, 0, []) := rx_at tbX5_feedNumber ndX5_feedNumber (j := 10) rfl
theorem iX5_feedNumber_21 : rx_ins mX5_feedNumber 21 = some (17, 24, 0, 5, 0, [(9, 47)]) := rx_at tbX5_feedNumber ndX5_feedNumber (j := 11) rfl
theorem iX5_feedNumber_24 : rx_ins mX5_feedNumber 24 = some (2, 25, 0, 1, 0, []) := rx_at tbX5_feedNumber ndX5_feedNumber (j := 12) rfl
theorem iX5_feedNumber_25 : rx_ins mX5_feedNumber 25 = some (2, 26, 0, 2, 0, []) := rx_at tbX5_feedNumber ndX5_feedNumber (j := 13) rfl
theorem iX5_feedNumber_26 : rx_ins mX5_feedNumber 26 = some (7, 27, 0, 8, 0, []) := rx_at tbX5_feedNumber ndX5_feedNumber (j := 14) rfl
theorem iX5_feedNumber_27 : rx_ins mX5_feedNumber 27 = some (1, 30, 255, 2, 0, []) := rx_at tbX5_feedNumber ndX5_feedNumber (j := 15) rfl
theorem iX5_feedNumber_30 : rx_ins mX5_feedNumber 30 = some (7, 31, 0, 3, 0, []) := rx_at tbX5_feedNumber ndX5_feedNumber (j := 16) rfl
theorem iX5_feedNumber_31 : rx_ins mX5_feedNumber 31 = some (21, 32, 0, 0, 0, []) := rx_at tbX5_feedNumber ndX5_feedNumber (j := 17) rfl
theorem iX5_feedNumber_32 : rx_ins mX5_feedNumber 32 = some (3, 33, 0, 0, 0, []) := rx_at tbX5_feedNumber ndX5_feedNumber (j := 18) rfl
theorem iX5_feedNumber_33 : rx_ins mX5_feedNumber 33 = some (10, 34, 0, 0, 0, []) := rx_at tbX5_feedNumber ndX5_feedNumber (j := 19) rfl
theorem iX5_feedNumber_34 : rx_ins mX5_feedNumber 34 = some (17, 37, 0, 5, 0, [(9, 47)]) := rx_at tbX5_feedNumber ndX5_feedNumber (j := 20) rfl
theorem iX5_feedNumber_37 : rx_ins mX5_feedNumber 37 = some (1, 38, 1, 0, 0, []) := rx_at tbX5_feedNumber ndX5_feedNumber (j := 21) rfl
theorem iX5_feedNumber_38 : rx_ins mX5_feedNumber 38 = some (7, 39, 0, 0, 0, []) := rx_at tbX5_feedNumber ndX5_feedNumber (j := 22) rfl
theorem iX5_feedNumber_39 : rx_ins mX5_feedNumber 39 = some (19, 42, 0, 5, 0, [(9, 47)]) := rx_at tbX5_feedNumber ndX5_feedNumber (j := 23) rfl
theorem iX5_read_0 : rx_ins mX5_read 0 = some (3, 1, 0, 0, 0, []) := rx_at tbX5_read ndX5_read (j := 0) rfl
theorem iX5_read_1 : rx_ins mX5_read 1 = some (1, 2, (-1), 0, 0, []) := rx_at tbX5_read ndX5_read (j := 1) rfl
theorem iX5_read_2 : rx_ins mX5_read 2 = some (19, 5, 0, 5, 6, [(31, 49)]) := rx_at tbX5_read ndX5_read (j := 2) rfl
theorem iX5_read_5 : rx_ins mX5_read 5 = some (3, 6, 0, 0, 0, []) := rx_at tbX5_read ndX5_read (j := 3) rfl
theorem iX5_read_6 : rx_ins mX5_read 6 = some (1, 7, 0, 0, 0, []) := rx_at tbX5_read ndX5_read (j := 4) rfl
theorem iX5_read_7 : rx_ins mX5_read 7 = some (19, 10, 0, 5, 8, [(37, 50)]) := rx_at tbX5_read ndX5_read (j := 5) rfl
theorem iX5_read_10 : rx_ins mX5_read 10 = some (3, 11, 0, 0, 0, []) := rx_at tbX5_read ndX5_read (j := 6) rfl
theorem iX5_read_11 : rx_ins mX5_read 11 = some (1, 12, (-1), 0, 0, []) := rx_at tbX5_read ndX5_read (j := 7) rfl
theorem iX5_read_12 : rx_ins mX5_read 12 = some (19, 15, 0, 5, 9, [(40, 51)]) := rx_at tbX5_read ndX5_read (j := 8) rfl
theorem iX5_read_15 : rx_ins mX5_read 15 = some (3, 16, 0, 0, 0, []) := rx_at tbX5_read ndX5_read (j := 9) rfl
theorem iX5_read_16 : rx_ins mX5_read 16 = some (1, 17, 0, 0, 0, []) := rx_at tbX5_read ndX5_read (j := 10) rfl
theorem iX5_read_17 : rx_ins mX5_read 17 = some (19, 20, 0, 5, 2, [(18, 52)]) := rx_at tbX5_read ndX5_read (j := 11) rfl
theorem iX5_read_20 : rx_ins mX5_read 20 = some (3, 21, 0, 0, 0, []) := rx_at tbX5_read ndX5_read (j := 12) rfl
theorem iX5_read_21 : rx_ins mX5_read 21 = some (1, 22, 0, 0, 0, []) := rx_at tbX5_read ndX5_read (j := 13) rfl
theorem iX5_read_22 : rx_ins mX5_read 22 = some (19, 25, 0, 5, 3, [(21, 53)]) := rx_at tbX5_read ndX5_read (j := 14) rfl
theorem iX5_read_25 : rx_ins mX5_read 25 = some (3, 26, 0, 0, 0, []) := rx_at tbX5_read ndX5_read (j := 15) rfl
theorem iX5_read_26 : rx_ins mX5_read 26 = some (28, 29, 7, 50, 1, [(43, 124)]) := rx_at tbX5_read ndX5_read (j := 16) rfl
theorem iX5_read_29 : rx_ins mX5_read 29 = some (3, 30, 0, 0, 0, []) := rx_at tbX5_read ndX5_read (j := 17) rfl
theorem iX5_read_30 : rx_ins mX5_read 30 = some (3, 31, 0, 0, 0, []) := rx_at tbX5_read ndX5_read (j := 18) rfl
theorem iX5_read_31 : rx_ins mX5_read 31 = some (28, 34, 7, 54, 1, [(46, 125)]) := rx_at tbX5_read ndX5_read (j := 19) rfl
theorem iX5_read_34 : rx_ins mX5_read 34 = some (19, 37, 0, 5, 1, [(15, 54)]) := rx_at tbX5_read ndX5_read (j := 20) rfl
theorem iX5_read_37 : rx_ins mX5_read 37 = some (3, 38, 0, 0, 0, []) := rx_at tbX5_read ndX5_read (j := 21) rfl
theorem iX5_read_38 : rx_ins mX5_read 38 = some (17, 41, 0, 5, 1, [(15, 54)]) := rx_at tbX5_read ndX5_read (j := 22) rfl
theorem iX5_read_41 : rx_ins mX5_read 41 = some (13, 44, 12, 3, 53, []) := rx_at tbX5_read ndX5_read (j := 23) rfl
theorem iX5_read_53 : rx_ins mX5_read 53 = some (3, 54, 0, 0, 0, []) := rx_at tbX5_read ndX5_read (j := 29) rfl
theorem iX5_read_54 : rx_ins mX5_read 54 = some (28, 57, 7, 50, 1, [(43, 124)]) := rx_at tbX5_read ndX5_read (j := 30) rfl
theorem iX5_read_57 : rx_ins mX5_read 57 = some (3, 58, 0, 0, 0, []) := rx_at tbX5_read ndX5_read (j := 31) rfl
theorem iX5_read_58 : rx_ins mX5_read 58 = some (1, 59, 0, 0, 0, []) := rx_at tbX5_read ndX5_read (j := 32) rfl
theorem iX5_read_59 : rx_ins mX5_read 59 = some (1, 60, 0, 0, 0, []) := rx_at tbX5_read ndX5_read (j := 33) rfl
theorem iX5_read_60 : rx_ins mX5_read 60 = some (1, 61, 0, 0, 0, []) := rx_at tbX5_read ndX5_read (j := 34) rfl
theorem iX5_read_61 : rx_ins mX5_read 61 = some (28, 64, 7, 55, 4, [(53, 127)]) := rx_at tbX5_read ndX5_read (j := 35) rfl
theorem iX5_read_64 : rx_ins mX5_read 64 = some (3, 65, 0, 0, 0, []) := rx_at tbX5_read ndX5_read (j := 36) rfl
theorem iX5_read_65 : rx_ins mX5_read 65 = some (17, 68, 0, 5, 6, [(31, 49)]) := rx_at tbX5_read ndX5_read (j := 37) rfl
theorem iX5_read_68 : rx_ins mX5_read 68 = some (1, 69, (-1), 0, 0, []) := rx_at tbX5_read ndX5_read (j := 38) rfl
theorem iX5_read_69 : rx_ins mX5_read 69 = some (14, 72, 7, 0, 76, []) := rx_at tbX5_read ndX5_read (j := 39) rfl
theorem iX5_read_76 : rx_ins mX5_read 76 = some (3, 77, 0, 0, 0, []) := rx_at tbX5_read ndX5_read (j := 42) rfl
theorem iX5_read_77 : rx_ins mX5_read 77 = some (17, 80, 0, 5, 9, [(40, 51)]) := rx_at tbX5_read ndX5_read (j := 43) rfl
theorem iX5_read_80 : rx_ins mX5_read 80 = some (29, 81, 0, 0, 0, []) := rx_at tbX5_read ndX5_read (j := 44) rfl
theorem iX5_read_72 : rx_ins mX5_read 72 = some (3, 73, 0, 0, 0, []) := rx_at tbX5_read ndX5_read (j := 40) rfl
theorem iX5_read_73 : rx_ins mX5_read 73 = some (28, 76, 7, 49, 1, [(50, 126)]) := rx_at tbX5_read ndX5_read (j := 41) rfl
theorem iX5_read_44 : rx_ins mX5_read 44 = some (3, 45, 0, 0, 0, []) := rx_at tbX5_read ndX5_read (j := 24) rfl
theorem iX5_read_45 : rx_ins mX5_read 45 = some (28, 48, 7, 49, 1, [(50, 126)]) := rx_at tbX5_read ndX5_read (j := 25) rfl
theorem iX5_read_48 : rx_ins mX5_read 48 = some (3, 49, 0, 0, 0, []) := rx_at tbX5_read ndX5_read (j := 26) rfl
theorem iX5_read_49 : rx_ins mX5_read 49 = some (17, 52, 0, 5, 9, [(40, 51)]) := rx_at tbX5_read ndX5_read (j := 27) rfl
theorem iX5_read_52 : rx_ins mX5_read 52 = some (29, 53, 0, 0, 0, []) := rx_at tbX5_read ndX5_read (j := 28) rfl
theorem iX5_fail_0 : rx_ins mX5_fail 0 = some (3, 1, 0, 0, 0, []) := rx_at tbX5_fail ndX5_fail (j := 0) rfl
theorem iX5_fail_1 : rx_ins mX5_fail 1 = some (17, 4, 0, 5, 9, [(40, 51)]) := rx_at tbX5_fail ndX5_fail (j := 1) rfl
theorem iX5_fail_4 : rx_ins mX5_fail 4 = some (13, 7, 11, 3, 15, []) := rx_at tbX5_fail ndX5_fail (j := 2) rfl
theorem iX5_fail_15 : rx_ins mX5_fail 15 = some (30, 16, 0, 0, 0, []) := rx_at tbX5_fail ndX5_fail (j := 7) rfl
theorem iX5_fail_7 : rx_ins mX5_fail 7 = some (3, 8, 0, 0, 0, []) := rx_at tbX5_fail ndX5_fail (j := 3) rfl
theorem iX5_fail_8 : rx_ins mX5_fail 8 = some (3, 9, 0, 0, 0, []) := rx_at tbX5_fail ndX5_fail (j := 4) rfl
theorem iX5_fail_9 : rx_ins mX5_fail 9 = some (17, 12, 0, 5, 7, [(34, 55)]) := rx_at tbX5_fail ndX5_fail (j := 5) rfl
theorem iX5_fail_12 : rx_ins mX5_fail 12 = some (19, 15, 0, 5, 9, [(40, 51)]) := rx_at tbX5_fail ndX5_fail (j := 6) rfl
theorem iX5_next_0 : rx_ins mX5_next 0 = some (3, 1, 0, 0, 0, []) := rx_at tbX5_next ndX5_next (j := 0) rfl
theorem iX5_next_1 : rx_ins mX5_next 1 = some (17, 4, 0, 5, 8, [(37, 50)]) := rx_at tbX5_next ndX5_next (j := 1) rfl
theorem iX5_next_4 : rx_ins mX5_next 4 = some (4, 5, 0, 1, 0, []) := rx_at tbX5_next ndX5_next (j := 2) rfl
theorem iX5_next_5 : rx_ins mX5_next 5 = some (3, 6, 0, 0, 0, []) := rx_at tbX5_next ndX5_next (j := 3) rfl
theorem iX5_next_6 : rx_ins mX5_next 6 = some (17, 9, 0, 5, 6, [(31, 49)]) := rx_at tbX5_next ndX5_next (j := 4) rfl
theorem iX5_next_9 : rx_ins mX5_next 9 = some (1, 11, (-2), 1, 0, []) := rx_at tbX5_next ndX5_next (j := 5) rfl
theorem iX5_next_11 : rx_ins mX5_next 11 = some (14, 14, 12, 0, 23, []) := rx_at tbX5_next ndX5_next (j := 6) rfl
theorem iX5_next_14 : rx_ins mX5_next 14 = some (3, 15, 0, 0, 0, []) := rx_at tbX5_next ndX5_next (j := 7) rfl
theorem iX5_next_15 : rx_ins mX5_next 15 = some (17, 18, 0, 5, 6, [(31, 49)]) := rx_at tbX5_next ndX5_next (j := 8) rfl
theorem iX5_next_18 : rx_ins mX5_next 18 = some (1, 20, (-3), 1, 0, []) := rx_at tbX5_next ndX5_next (j := 9) rfl
theorem iX5_next_20 : rx_ins mX5_next 20 = some (14, 23, 7, 1, 27, []) := rx_at tbX5_next ndX5_next (j := 10) rfl
theorem iX5_next_27 : rx_ins mX5_next 27 = some (1, 28, 0, 0, 0, []) := rx_at tbX5_next ndX5_next (j := 13) rfl
theorem iX5_next_28 : rx_ins mX5_next 28 = some (4, 29, 0, 2, 0, []) := rx_at tbX5_next ndX5_next (j := 14) rfl
theorem iX5_next_23 : rx_ins mX5_next 23 = some (1, 24, 1, 0, 0, []) := rx_at tbX5_next ndX5_next (j := 11) rfl
theorem iX5_next_24 : rx_ins mX5_next 24 = some (15, 27, 4, 0, 28, []) := rx_at tbX5_next ndX5_next (j := 12) rfl
theorem iX5_next_29 : rx_ins mX5_next 29 = some (3, 30, 0, 0, 0, []) := rx_at tbX5_next ndX5_next (j := 15) rfl
theorem iX5_next_30 : rx_ins mX5_next 30 = some (3, 31, 0, 0, 0, []) := rx_at tbX5_next ndX5_next (j := 16) rfl
theorem iX5_next_31 : rx_ins mX5_next 31 = some (2, 32, 0, 1, 0, []) := rx_at tbX5_next ndX5_next (j := 17) rfl
theorem iX5_next_32 : rx_ins mX5_next 32 = some (1, 34, 32, 1, 0, []) := rx_at tbX5_next ndX5_next (j := 18) rfl
theorem iX5_next_34 : rx_ins mX5_next 34 = some (1, 36, 32, 1, 0, []) := rx_at tbX5_next ndX5_next (j := 19) rfl
theorem iX5_next_36 : rx_ins mX5_next 36 = some (28, 39, 7, 52, 4, [(57, 128)]) := rx_at tbX5_next ndX5_next (j := 20) rfl
theorem iX5_next_39 : rx_ins mX5_next 39 = some (19, 42, 0, 5, 7, [(34, 55)]) := rx_at tbX5_next ndX5_next (j := 21) rfl
theorem iX5_next_42 : rx_ins mX5_next 42 = some (3, 43, 0, 0, 0, []) := rx_at tbX5_next ndX5_next (j := 22) rfl
theorem iX5_next_43 : rx_ins mX5_next 43 = some (17, 46, 0, 5, 7, [(34, 55)]) := rx_at tbX5_next ndX5_next (j := 23) rfl
theorem iX5_next_46 : rx_ins mX5_next 46 = some (3, 47, 0, 0, 0, []) := rx_at tbX5_next ndX5_next (j := 24) rfl
theorem iX5_next_47 : rx_ins mX5_next 47 = some (17, 50, 0, 5, 0, [(9, 47)]) := rx_at tbX5_next ndX5_next (j := 25) rfl
theorem iX5_next_50 : rx_ins mX5_next 50 = some (14, 53, 19, 2, 69, []) := rx_at tbX5_next ndX5_next (j := 26) rfl
theorem iX5_next_69 : rx_ins mX5_next 69 = some (3, 70, 0, 0, 0, []) := rx_at tbX5_next ndX5_next (j := 35) rfl
theorem iX5_next_70 : rx_ins mX5_next 70 = some (18, 73, 0, 5, 5, [(28, 48)]) := rx_at tbX5_next ndX5_next (j := 36) rfl
theorem iX5_next_73 : rx_ins mX5_next 73 = some (3, 74, 0, 0, 0, []) := rx_at tbX5_next ndX5_next (j := 37) rfl
theorem iX5_next_74 : rx_ins mX5_next 74 = some (17, 77, 0, 5, 7, [(34, 55)]) := rx_at tbX5_next ndX5_next (j := 38) rfl
theorem iX5_next_77 : rx_ins mX5_next 77 = some (20, 78, 0, 0, 0, []) := rx_at tbX5_next ndX5_next (j := 39) rfl
theorem iX5_next_78 : rx_ins mX5_next 78 = some (1, 80, 97, 1, 0, []) := rx_at tbX5_next ndX5_next (j := 40) rfl
theorem iX5_next_80 : rx_ins mX5_next 80 = some (1, 82, 122, 1, 0, []) := rx_at tbX5_next ndX5_next (j := 41) rfl
theorem iX5_next_82 : rx_ins mX5_next 82 = some (28, 85, 0, 51, 3, [(61, 129)]) := rx_at tbX5_next ndX5_next (j := 42) rfl
theorem iX5_next_85 : rx_ins mX5_next 85 = some (13, 88, 28, 0, 113, []) := rx_at tbX5_next ndX5_next (j := 43) rfl
theorem iX5_next_113 : rx_ins mX5_next 113 = some (3, 114, 0, 0, 0, []) := rx_at tbX5_next ndX5_next (j := 56) rfl
theorem iX5_next_114 : rx_ins mX5_next 114 = some (18, 117, 0, 5, 5, [(28, 48)]) := rx_at tbX5_next ndX5_next (j := 57) rfl
theorem iX5_next_117 : rx_ins mX5_next 117 = some (3, 118, 0, 0, 0, []) := rx_at tbX5_next ndX5_next (j := 58) rfl
theorem iX5_next_118 : rx_ins mX5_next 118 = some (17, 121, 0, 5, 7, [(34, 55)]) := rx_at tbX5_next ndX5_next (j := 59) rfl
theorem iX5_next_121 : rx_ins mX5_next 121 = some (20, 122, 0, 0, 0, []) := rx_at tbX5_next ndX5_next (j := 60) rfl
theorem iX5_next_122 : rx_ins mX5_next 122 = some (1, 124, 48, 1, 0, []) := rx_at tbX5_next ndX5_next (j := 61) rfl
theorem iX5_next_124 : rx_ins mX5_next 124 = some (1, 126, 57, 1, 0, []) := rx_at tbX5_next ndX5_next (j := 62) rfl
theorem iX5_next_126 : rx_ins mX5_next 126 = some (28, 129, 0, 51, 3, [(61, 129)]) := rx_at tbX5_next ndX5_next (j := 63) rfl
theorem iX5_next_129 : rx_ins mX5_next 129 = some (13, 132, 28, 0, 157, []) := rx_at tbX5_next ndX5_next (j := 64) rfl
theorem iX5_next_157 : rx_ins mX5_next 157 = some (3, 158, 0, 0, 0, []) := rx_at tbX5_next ndX5_next (j := 77) rfl
theorem iX5_next_158 : rx_ins mX5_next 158 = some (3, 159, 0, 0, 0, []) := rx_at tbX5_next ndX5_next (j := 78) rfl
theorem iX5_next_159 : rx_ins mX5_next 159 = some (17, 162, 0, 5, 7, [(34, 55)]) := rx_at tbX5_next ndX5_next (j := 79) rfl
theorem iX5_next_162 : rx_ins mX5_next 162 = some (1, 163, 1, 0, 0, []) := rx_at tbX5_next ndX5_next (j := 80) rfl
theorem iX5_next_163 : rx_ins mX5_next 163 = some (7, 164, 0, 0, 0, []) := rx_at tbX5_next ndX5_next (j := 81) rfl
theorem iX5_next_164 : rx_ins mX5_next 164 = some (19, 167, 0, 5, 8, [(37, 50)]) := rx_at tbX5_next ndX5_next (j := 82) rfl
theorem iX5_next_167 : rx_ins mX5_next 167 = some (3, 168, 0, 0, 0, []) := rx_at tbX5_next ndX5_next (j := 83) rfl
theorem iX5_next_168 : rx_ins mX5_next 168 = some (3, 169, 0, 0, 0, []) := rx_at tbX5_next ndX5_next (j := 84) rfl
theorem iX5_next_169 : rx_ins mX5_next 169 = some (18, 172, 0, 5, 5, [(28, 48)]) := rx_at tbX5_next ndX5_next (j := 85) rfl
theorem iX5_next_172 : rx_ins mX5_next 172 = some (3, 173, 0, 0, 0, []) := rx_at tbX5_next ndX5_next (j := 86) rfl
theorem iX5_next_173 : rx_ins mX5_next 173 = some (17, 176, 0, 5, 7, [(34, 55)]) := rx_at tbX5_next ndX5_next (j := 87) rfl
theorem iX5_next_176 : rx_ins mX5_next 176 = some (20, 177, 0, 0, 0, []) := rx_at tbX5_next ndX5_next (j := 88) rfl
theorem iX5_next_177 : rx_ins mX5_next 177 = some (19, 180, 0, 5, 6, [(31, 49)]) := rx_at tbX5_next ndX5_next (j := 89) rfl
theorem iX5_next_132 : rx_ins mX5_next 132 = some (3, 133, 0, 0, 0, []) := rx_at tbX5_next ndX5_next (j := 65) rfl
theorem iX5_next_133 : rx_ins mX5_next 133 = some (3, 134, 0, 0, 0, []) := rx_at tbX5_next ndX5_next (j := 66) rfl
theorem iX5_next_134 : rx_ins mX5_next 134 = some (3, 135, 0, 0, 0, []) := rx_at tbX5_next ndX5_next (j := 67) rfl
theorem iX5_next_135 : rx_ins mX5_next 135 = some (17, 138, 0, 5, 7, [(34, 55)]) := rx_at tbX5_next ndX5_next (j := 68) rfl
theorem iX5_next_138 : rx_ins mX5_next 138 = some (1, 140, 48, 1, 0, []) := rx_at tbX5_next ndX5_next (j := 69) rfl
theorem iX5_next_140 : rx_ins mX5_next 140 = some (1, 142, 57, 1, 0, []) := rx_at tbX5_next ndX5_next (j := 70) rfl
theorem iX5_next_142 : rx_ins mX5_next 142 = some (28, 145, 7, 52, 4, [(57, 128)]) := rx_at tbX5_next ndX5_next (j := 71) rfl
theorem iX5_next_145 : rx_ins mX5_next 145 = some (19, 148, 0, 5, 8, [(37, 50)]) := rx_at tbX5_next ndX5_next (j := 72) rfl
theorem iX5_next_148 : rx_ins mX5_next 148 = some (3, 149, 0, 0, 0, []) := rx_at tbX5_next ndX5_next (j := 73) rfl
theorem iX5_next_149 : rx_ins mX5_next 149 = some (1, 151, (-3), 1, 0, []) := rx_at tbX5_next ndX5_next (j := 74) rfl
theorem iX5_next_151 : rx_ins mX5_next 151 = some (19, 154, 0, 5, 6, [(31, 49)]) := rx_at tbX5_next ndX5_next (j := 75) rfl
theorem iX5_next_154 : rx_ins mX5_next 154 = some (15, 157, 26, 0, 180, []) := rx_at tbX5_next ndX5_next (j := 76) rfl
theorem iX5_next_88 : rx_ins mX5_next 88 = some (3, 89, 0, 0, 0, []) := rx_at tbX5_next ndX5_next (j := 44) rfl
theorem iX5_next_89 : rx_ins mX5_next 89 = some (3, 90, 0, 0, 0, []) := rx_at tbX5_next ndX5_next (j := 45) rfl
theorem iX5_next_90 : rx_ins mX5_next 90 = some (3, 91, 0, 0, 0, []) := rx_at tbX5_next ndX5_next (j := 46) rfl
theorem iX5_next_91 : rx_ins mX5_next 91 = some (17, 94, 0, 5, 7, [(34, 55)]) := rx_at tbX5_next ndX5_next (j := 47) rfl
theorem iX5_next_94 : rx_ins mX5_next 94 = some (1, 96, 97, 1, 0, []) := rx_at tbX5_next ndX5_next (j := 48) rfl
theorem iX5_next_96 : rx_ins mX5_next 96 = some (1, 98, 122, 1, 0, []) := rx_at tbX5_next ndX5_next (j := 49) rfl
theorem iX5_next_98 : rx_ins mX5_next 98 = some (28, 101, 7, 52, 4, [(57, 128)]) := rx_at tbX5_next ndX5_next (j := 50) rfl
theorem iX5_next_101 : rx_ins mX5_next 101 = some (19, 104, 0, 5, 8, [(37, 50)]) := rx_at tbX5_next ndX5_next (j := 51) rfl
theorem iX5_next_104 : rx_ins mX5_next 104 = some (3, 105, 0, 0, 0, []) := rx_at tbX5_next ndX5_next (j := 52) rfl
theorem iX5_next_105 : rx_ins mX5_next 105 = some (1, 107, (-2), 1, 0, []) := rx_at tbX5_next ndX5_next (j := 53) rfl
theorem iX5_next_107 : rx_ins mX5_next 107 = some (19, 110, 0, 5, 6, [(31, 49)]) := rx_at tbX5_next ndX5_next (j := 54) rfl
theorem iX5_next_110 : rx_ins mX5_next 110 = some (15, 113, 70, 0, 180, []) := rx_at tbX5_next ndX5_next (j := 55) rfl
theorem iX5_next_53 : rx_ins mX5_next 53 = some (3, 54, 0, 0, 0, []) := rx_at tbX5_next ndX5_next (j := 27) rfl
theorem iX5_next_54 : rx_ins mX5_next 54 = some (3, 55, 0, 0, 0, []) := rx_at tbX5_next ndX5_next (j := 28) rfl
theorem iX5_next_55 : rx_ins mX5_next 55 = some (17, 58, 0, 5, 0, [(9, 47)]) := rx_at tbX5_next ndX5_next (j := 29) rfl
theorem iX5_next_58 : rx_ins mX5_next 58 = some (19, 61, 0, 5, 8, [(37, 50)]) := rx_at tbX5_next ndX5_next (j := 30) rfl
theorem iX5_next_61 : rx_ins mX5_next 61 = some (3, 62, 0, 0, 0, []) := rx_at tbX5_next ndX5_next (j := 31) rfl
theorem iX5_next_62 : rx_ins mX5_next 62 = some (1, 63, (-1), 0, 0, []) := rx_at tbX5_next ndX5_next (j := 32) rfl
theorem iX5_next_63 : rx_ins mX5_next 63 = some (19, 66, 0, 5, 6, [(31, 49)]) := rx_at tbX5_next ndX5_next (j := 33) rfl
theorem iX5_next_66 : rx_ins mX5_next 66 = some (15, 69, 114, 0, 180, []) := rx_at tbX5_next ndX5_next (j := 34) rfl
theorem iX5_next_180 : rx_ins mX5_next 180 = some (2, 181, 0, 2, 0, []) := rx_at tbX5_next ndX5_next (j := 90) rfl
theorem iX5_next_181 : rx_ins mX5_next 181 = some (13, 184, 35, 0, 216, []) := rx_at tbX5_next ndX5_next (j := 91) rfl
theorem iX5_next_216 : rx_ins mX5_next 216 = some (30, 217, 0, 0, 0, []) := rx_at tbX5_next ndX5_next (j := 107) rfl
theorem iX5_next_184 : rx_ins mX5_next 184 = some (3, 185, 0, 0, 0, []) := rx_at tbX5_next ndX5_next (j := 92) rfl
theorem iX5_next_185 : rx_ins mX5_next 185 = some (17, 188, 0, 5, 7, [(34, 55)]) := rx_at tbX5_next ndX5_next (j := 93) rfl
theorem iX5_next_188 : rx_ins mX5_next 188 = some (2, 189, 0, 1, 0, []) := rx_at tbX5_next ndX5_next (j := 94) rfl
theorem iX5_next_189 : rx_ins mX5_next 189 = some (14, 192, 27, 1, 216, []) := rx_at tbX5_next ndX5_next (j := 95) rfl
theorem iX5_next_192 : rx_ins mX5_next 192 = some (3, 193, 0, 0, 0, []) := rx_at tbX5_next ndX5_next (j := 96) rfl
theorem iX5_next_193 : rx_ins mX5_next 193 = some (17, 196, 0, 5, 6, [(31, 49)]) := rx_at tbX5_next ndX5_next (j := 97) rfl
theorem iX5_next_196 : rx_ins mX5_next 196 = some (1, 198, (-2), 1, 0, []) := rx_at tbX5_next ndX5_next (j := 98) rfl
theorem iX5_next_198 : rx_ins mX5_next 198 = some (14, 201, 12, 0, 210, []) := rx_at tbX5_next ndX5_next (j := 99) rfl
theorem iX5_next_201 : rx_ins mX5_next 201 = some (3, 202, 0, 0, 0, []) := rx_at tbX5_next ndX5_next (j := 100) rfl
theorem iX5_next_202 : rx_ins mX5_next 202 = some (17, 205, 0, 5, 6, [(31, 49)]) := rx_at tbX5_next ndX5_next (j := 101) rfl
theorem iX5_next_205 : rx_ins mX5_next 205 = some (1, 207, (-3), 1, 0, []) := rx_at tbX5_next ndX5_next (j := 102) rfl
theorem iX5_next_207 : rx_ins mX5_next 207 = some (14, 210, 9, 1, 216, []) := rx_at tbX5_next ndX5_next (j := 103) rfl
theorem iX5_next_210 : rx_ins mX5_next 210 = some (3, 211, 0, 0, 0, []) := rx_at tbX5_next ndX5_next (j := 104) rfl
theorem iX5_next_211 : rx_ins mX5_next 211 = some (1, 213, (-4), 1, 0, []) := rx_at tbX5_next ndX5_next (j := 105) rfl
theorem iX5_next_213 : rx_ins mX5_next 213 = some (19, 216, 0, 5, 6, [(31, 49)]) := rx_at tbX5_next ndX5_next (j := 106) rfl
theorem iX5_isWithin_0 : rx_ins mX5_isWithin 0 = some (2, 1, 0, 0, 0, []) := rx_at tbX5_isWithin ndX5_isWithin (j := 0) rfl
theorem iX5_isWithin_1 : rx_ins mX5_isWithin 1 = some (2, 2, 0, 1, 0, []) := rx_at tbX5_isWithin ndX5_isWithin (j := 1) rfl
theorem iX5_isWithin_2 : rx_ins mX5_isWithin 2 = some (14, 5, 12, 2, 14, []) := rx_at tbX5_isWithin ndX5_isWithin (j := 2) rfl
theorem iX5_isWithin_14 : rx_ins mX5_isWithin 14 = some (1, 15, 0, 0, 0, []) := rx_at tbX5_isWithin ndX5_isWithin (j := 8) rfl
theorem iX5_isWithin_15 : rx_ins mX5_isWithin 15 = some (29, 16, 1, 0, 0, []) := rx_at tbX5_isWithin ndX5_isWithin (j := 9) rfl
theorem iX5_isWithin_5 : rx_ins mX5_isWithin 5 = some (2, 6, 0, 0, 0, []) := rx_at tbX5_isWithin ndX5_isWithin (j := 3) rfl
theorem iX5_isWithin_6 : rx_ins mX5_isWithin 6 = some (2, 7, 0, 2, 0, []) := rx_at tbX5_isWithin ndX5_isWithin (j := 4) rfl
theorem iX5_isWithin_7 : rx_ins mX5_isWithin 7 = some (14, 10, 7, 4, 14, []) := rx_at tbX5_isWithin ndX5_isWithin (j := 5) rfl
theorem iX5_isWithin_10 : rx_ins mX5_isWithin 10 = some (1, 11, 1, 0, 0, []) := rx_at tbX5_isWithin ndX5_isWithin (j := 6) rfl
theorem iX5_isWithin_11 : rx_ins mX5_isWithin 11 = some (15, 14, 4, 0, 15, []) := rx_at tbX5_isWithin ndX5_isWithin (j := 7) rfl
theorem iX5_behindRow_0 : rx_ins mX5_behindRow 0 = some (2, 1, 0, 1, 0, []) := rx_at tbX5_behindRow ndX5_behindRow (j := 0) rfl
theorem iX5_behindRow_1 : rx_ins mX5_behindRow 1 = some (4, 3, 1, 4, 0, []) := rx_at tbX5_behindRow ndX5_behindRow (j := 1) rfl
theorem iX5_behindRow_3 : rx_ins mX5_behindRow 3 = some (2, 5, 1, 4, 0, []) := rx_at tbX5_behindRow ndX5_behindRow (j := 2) rfl
theorem iX5_behindRow_5 : rx_ins mX5_behindRow 5 = some (3, 6, 0, 0, 0, []) := rx_at tbX5_behindRow ndX5_behindRow (j := 3) rfl
theorem iX5_behindRow_6 : rx_ins mX5_behindRow 6 = some (17, 9, 0, 5, 0, [(9, 47)]) := rx_at tbX5_behindRow ndX5_behindRow (j := 4) rfl
theorem iX5_behindRow_9 : rx_ins mX5_behindRow 9 = some (14, 12, 27, 3, 36, []) := rx_at tbX5_behindRow ndX5_behindRow (j := 5) rfl
theorem iX5_behindRow_36 : rx_ins mX5_behindRow 36 = some (3, 37, 0, 0, 0, []) := rx_at tbX5_behindRow ndX5_behindRow (j := 18) rfl
theorem iX5_behindRow_37 : rx_ins mX5_behindRow 37 = some (17, 40, 0, 5, 0, [(9, 47)]) := rx_at tbX5_behindRow ndX5_behindRow (j := 19) rfl
theorem iX5_behindRow_40 : rx_ins mX5_behindRow 40 = some (29, 41, 0, 0, 0, []) := rx_at tbX5_behindRow ndX5_behindRow (j := 20) rfl
theorem iX5_behindRow_12 : rx_ins mX5_behindRow 12 = some (3, 13, 0, 0, 0, []) := rx_at tbX5_behindRow ndX5_behindRow (j := 6) rfl
theorem iX5_behindRow_13 : rx_ins mX5_behindRow 13 = some (18, 16, 0, 5, 5, [(28, 48)]) := rx_at tbX5_behindRow ndX5_behindRow (j := 7) rfl
theorem iX5_behindRow_16 : rx_ins mX5_behindRow 16 = some (2, 18, 1, 4, 0, []) := rx_at tbX5_behindRow ndX5_behindRow (j := 8) rfl
theorem iX5_behindRow_18 : rx_ins mX5_behindRow 18 = some (20, 19, 0, 0, 0, []) := rx_at tbX5_behindRow ndX5_behindRow (j := 9) rfl
theorem iX5_behindRow_19 : rx_ins mX5_behindRow 19 = some (2, 20, 0, 2, 0, []) := rx_at tbX5_behindRow ndX5_behindRow (j := 10) rfl
theorem iX5_behindRow_20 : rx_ins mX5_behindRow 20 = some (2, 21, 0, 3, 0, []) := rx_at tbX5_behindRow ndX5_behindRow (j := 11) rfl
theorem iX5_behindRow_21 : rx_ins mX5_behindRow 21 = some (28, 24, 0, 51, 3, [(61, 129)]) := rx_at tbX5_behindRow ndX5_behindRow (j := 12) rfl
theorem iX5_behindRow_24 : rx_ins mX5_behindRow 24 = some (13, 27, 6, 1, 30, []) := rx_at tbX5_behindRow ndX5_behindRow (j := 13) rfl
theorem iX5_behindRow_30 : rx_ins mX5_behindRow 30 = some (6, 33, 1, 4, 0, []) := rx_at tbX5_behindRow ndX5_behindRow (j := 16) rfl
theorem iX5_behindRow_33 : rx_ins mX5_behindRow 33 = some (15, 36, (-30), 0, 3, []) := rx_at tbX5_behindRow ndX5_behindRow (j := 17) rfl
theorem iX5_behindRow_27 : rx_ins mX5_behindRow 27 = some (2, 29, 1, 4, 0, []) := rx_at tbX5_behindRow ndX5_behindRow (j := 14) rfl
theorem iX5_behindRow_29 : rx_ins mX5_behindRow 29 = some (29, 30, 0, 0, 0, []) := rx_at tbX5_behindRow ndX5_behindRow (j := 15) rfl
theorem iX5_isHere_0 : rx_ins mX5_isHere 0 = some (3, 1, 0, 0, 0, []) := rx_at tbX5_isHere ndX5_isHere (j := 0) rfl
theorem iX5_isHere_1 : rx_ins mX5_isHere 1 = some (17, 4, 0, 5, 6, [(31, 49)]) := rx_at tbX5_isHere ndX5_isHere (j := 1) rfl
theorem iX5_isHere_4 : rx_ins mX5_isHere 4 = some (1, 6, (-2), 1, 0, []) := rx_at tbX5_isHere ndX5_isHere (j := 2) rfl
theorem iX5_isHere_6 : rx_ins mX5_isHere 6 = some (14, 9, 19, 1, 25, []) := rx_at tbX5_isHere ndX5_isHere (j := 3) rfl
theorem iX5_isHere_25 : rx_ins mX5_isHere 25 = some (1, 26, 0, 0, 0, []) := rx_at tbX5_isHere ndX5_isHere (j := 12) rfl
theorem iX5_isHere_26 : rx_ins mX5_isHere 26 = some (29, 27, 1, 0, 0, []) := rx_at tbX5_isHere ndX5_isHere (j := 13) rfl
theorem iX5_isHere_9 : rx_ins mX5_isHere 9 = some (3, 10, 0, 0, 0, []) := rx_at tbX5_isHere ndX5_isHere (j := 4) rfl
theorem iX5_isHere_10 : rx_ins mX5_isHere 10 = some (17, 13, 0, 5, 8, [(37, 50)]) := rx_at tbX5_isHere ndX5_isHere (j := 5) rfl
theorem iX5_isHere_13 : rx_ins mX5_isHere 13 = some (3, 14, 0, 0, 0, []) := rx_at tbX5_isHere ndX5_isHere (j := 6) rfl
theorem iX5_isHere_14 : rx_ins mX5_isHere 14 = some (17, 17, 0, 5, 7, [(34, 55)]) := rx_at tbX5_isHere ndX5_isHere (j := 7) rfl
theorem iX5_isHere_17 : rx_ins mX5_isHere 17 = some (7, 18, 0, 1, 0, []) := rx_at tbX5_isHere ndX5_isHere (j := 8) rfl
theorem iX5_isHere_18 : rx_ins mX5_isHere 18 = some (3, 19, 0, 1, 0, []) := rx_at tbX5_isHere ndX5_isHere (j := 9) rfl
theorem iX5_isHere_19 : rx_ins mX5_isHere 19 = some (26, 22, 0, 0, 0, [(65, 0)]) := rx_at tbX5_isHere ndX5_isHere (j := 10) rfl
theorem iX5_isHere_22 : rx_ins mX5_isHere 22 = some (14, 25, 5, 0, 27, []) := rx_at tbX5_isHere ndX5_isHere (j := 11) rfl
theorem iX5_isHere_27 : rx_ins mX5_isHere 27 = some (1, 28, 0, 0, 0, []) := rx_at tbX5_isHere ndX5_isHere (j := 14) rfl
theorem iX5_isHere_28 : rx_ins mX5_isHere 28 = some (4, 29, 0, 2, 0, []) := rx_at tbX5_isHere ndX5_isHere (j := 15) rfl
theorem iX5_isHere_29 : rx_ins mX5_isHere 29 = some (2, 30, 0, 2, 0, []) := rx_at tbX5_isHere ndX5_isHere (j := 16) rfl
theorem iX5_isHere_30 : rx_ins mX5_isHere 30 = some (3, 31, 0, 1, 0, []) := rx_at tbX5_isHere ndX5_isHere (j := 17) rfl
theorem iX5_isHere_31 : rx_ins mX5_isHere 31 = some (26, 34, 0, 0, 0, [(65, 0)]) := rx_at tbX5_isHere ndX5_isHere (j := 18) rfl
theorem iX5_isHere_34 : rx_ins mX5_isHere 34 = some (14, 37, 30, 3, 64, []) := rx_at tbX5_isHere ndX5_isHere (j := 19) rfl
theorem iX5_isHere_64 : rx_ins mX5_isHere 64 = some (1, 65, 1, 0, 0, []) := rx_at tbX5_isHere ndX5_isHere (j := 35) rfl
theorem iX5_isHere_65 : rx_ins mX5_isHere 65 = some (29, 66, 1, 0, 0, []) := rx_at tbX5_isHere ndX5_isHere (j := 36) rfl
theorem iX5_isHere_37 : rx_ins mX5_isHere 37 = some (3, 38, 0, 0, 0, []) := rx_at tbX5_isHere ndX5_isHere (j := 20) rfl
theorem iX5_isHere_38 : rx_ins mX5_isHere 38 = some (18, 41, 0, 5, 5, [(28, 48)]) := rx_at tbX5_isHere ndX5_isHere (j := 21) rfl
theorem iX5_isHere_41 : rx_ins mX5_isHere 41 = some (3, 42, 0, 0, 0, []) := rx_at tbX5_isHere ndX5_isHere (j := 22) rfl
theorem iX5_isHere_42 : rx_ins mX5_isHere 42 = some (17, 45, 0, 5, 7, [(34, 55)]) := rx_at tbX5_isHere ndX5_isHere (j := 23) rfl
theorem iX5_isHere_45 : rx_ins mX5_isHere 45 = some (2, 46, 0, 2, 0, []) := rx_at tbX5_isHere ndX5_isHere (j := 24) rfl
theorem iX5_isHere_46 : rx_ins mX5_isHere 46 = some (7, 47, 0, 0, 0, []) := rx_at tbX5_isHere ndX5_isHere (j := 25) rfl
theorem iX5_isHere_47 : rx_ins mX5_isHere 47 = some (20, 48, 0, 0, 0, []) := rx_at tbX5_isHere ndX5_isHere (j := 26) rfl
theorem iX5_isHere_48 : rx_ins mX5_isHere 48 = some (3, 49, 0, 1, 0, []) := rx_at tbX5_isHere ndX5_isHere (j := 27) rfl
theorem iX5_isHere_49 : rx_ins mX5_isHere 49 = some (2, 50, 0, 2, 0, []) := rx_at tbX5_isHere ndX5_isHere (j := 28) rfl
theorem iX5_isHere_50 : rx_ins mX5_isHere 50 = some (27, 53, 0, 0, 0, [(69, 0)]) := rx_at tbX5_isHere ndX5_isHere (j := 29) rfl
theorem iX5_isHere_53 : rx_ins mX5_isHere 53 = some (14, 56, 5, 0, 58, []) := rx_at tbX5_isHere ndX5_isHere (j := 30) rfl
theorem iX5_isHere_58 : rx_ins mX5_isHere 58 = some (6, 61, 1, 2, 0, []) := rx_at tbX5_isHere ndX5_isHere (j := 33) rfl
theorem iX5_isHere_61 : rx_ins mX5_isHere 61 = some (15, 64, (-32), 0, 29, []) := rx_at tbX5_isHere ndX5_isHere (j := 34) rfl
theorem iX5_isHere_56 : rx_ins mX5_isHere 56 = some (1, 57, 0, 0, 0, []) := rx_at tbX5_isHere ndX5_isHere (j := 31) rfl
theorem iX5_isHere_57 : rx_ins mX5_isHere 57 = some (29, 58, 1, 0, 0, []) := rx_at tbX5_isHere ndX5_isHere (j := 32) rfl
theorem iX5_keyHere_0 : rx_ins mX5_keyHere 0 = some (3, 1, 0, 0, 0, []) := rx_at tbX5_keyHere ndX5_keyHere (j := 0) rfl
theorem iX5_keyHere_1 : rx_ins mX5_keyHere 1 = some (24, 3, 1, 161, 0, [(73, 0)]) := rx_at tbX5_keyHere ndX5_keyHere (j := 1) rfl
theorem iX5_keyHere_3 : rx_ins mX5_keyHere 3 = some (28, 6, 7, 53, 2, [(75, 130)]) := rx_at tbX5_keyHere ndX5_keyHere (j := 2) rfl
theorem iX5_keyHere_6 : rx_ins mX5_keyHere 6 = some (13, 9, 5, 0, 11, []) := rx_at tbX5_keyHere ndX5_keyHere (j := 3) rfl
theorem iX5_keyHere_11 : rx_ins mX5_keyHere 11 = some (3, 12, 0, 0, 0, []) := rx_at tbX5_keyHere ndX5_keyHere (j := 6) rfl
theorem iX5_keyHere_12 : rx_ins mX5_keyHere 12 = some (24, 14, 1, 162, 0, [(79, 0)]) := rx_at tbX5_keyHere ndX5_keyHere (j := 7) rfl
theorem iX5_keyHere_14 : rx_ins mX5_keyHere 14 = some (28, 17, 7, 53, 2, [(75, 130)]) := rx_at tbX5_keyHere ndX5_keyHere (j := 8) rfl
theorem iX5_keyHere_17 : rx_ins mX5_keyHere 17 = some (13, 20, 5, 0, 22, []) := rx_at tbX5_keyHere ndX5_keyHere (j := 9) rfl
theorem iX5_keyHere_22 : rx_ins mX5_keyHere 22 = some (3, 23, 0, 0, 0, []) := rx_at tbX5_keyHere ndX5_keyHere (j := 12) rfl
theorem iX5_keyHere_23 : rx_ins mX5_keyHere 23 = some (24, 25, 1, 163, 0, [(81, 0)]) := rx_at tbX5_keyHere ndX5_keyHere (j := 13) rfl
theorem iX5_keyHere_25 : rx_ins mX5_keyHere 25 = some (28, 28, 7, 53, 2, [(75, 130)]) := rx_at tbX5_keyHere ndX5_keyHere (j := 14) rfl
theorem iX5_keyHere_28 : rx_ins mX5_keyHere 28 = some (13, 31, 7, 0, 35, []) := rx_at tbX5_keyHere ndX5_keyHere (j := 15) rfl
theorem iX5_keyHere_35 : rx_ins mX5_keyHere 35 = some (1, 36, (-1), 0, 0, []) := rx_at tbX5_keyHere ndX5_keyHere (j := 18) rfl
theorem iX5_keyHere_36 : rx_ins mX5_keyHere 36 = some (29, 37, 0, 0, 0, []) := rx_at tbX5_keyHere ndX5_keyHere (j := 19) rfl
theorem iX5_keyHere_31 : rx_ins mX5_keyHere 31 = some (1, 32, 2, 0, 0, []) := rx_at tbX5_keyHere ndX5_keyHere (j := 16) rfl
theorem iX5_keyHere_32 : rx_ins mX5_keyHere 32 = some (15, 35, 4, 0, 36, []) := rx_at tbX5_keyHere ndX5_keyHere (j := 17) rfl
theorem iX5_keyHere_20 : rx_ins mX5_keyHere 20 = some (1, 21, 1, 0, 0, []) := rx_at tbX5_keyHere ndX5_keyHere (j := 10) rfl
theorem iX5_keyHere_21 : rx_ins mX5_keyHere 21 = some (29, 22, 0, 0, 0, []) := rx_at tbX5_keyHere ndX5_keyHere (j := 11) rfl
theorem iX5_keyHere_9 : rx_ins mX5_keyHere 9 = some (1, 10, 0, 0, 0, []) := rx_at tbX5_keyHere ndX5_keyHere (j := 4) rfl
theorem iX5_keyHere_10 : rx_ins mX5_keyHere 10 = some (29, 11, 0, 0, 0, []) := rx_at tbX5_keyHere ndX5_keyHere (j := 5) rfl
theorem iX5_chain_0 : rx_ins mX5_chain 0 = some (2, 1, 0, 1, 0, []) := rx_at tbX5_chain ndX5_chain (j := 0) rfl
theorem iX5_chain_1 : rx_ins mX5_chain 1 = some (1, 2, 4, 0, 0, []) := rx_at tbX5_chain ndX5_chain (j := 1) rfl
theorem iX5_chain_2 : rx_ins mX5_chain 2 = some (14, 5, 10, 5, 12, []) := rx_at tbX5_chain ndX5_chain (j := 2) rfl
theorem iX5_chain_12 : rx_ins mX5_chain 12 = some (3, 13, 0, 0, 0, []) := rx_at tbX5_chain ndX5_chain (j := 8) rfl
theorem iX5_chain_13 : rx_ins mX5_chain 13 = some (2, 14, 0, 1, 0, []) := rx_at tbX5_chain ndX5_chain (j := 9) rfl
theorem iX5_chain_14 : rx_ins mX5_chain 14 = some (1, 15, 1, 0, 0, []) := rx_at tbX5_chain ndX5_chain (j := 10) rfl
theorem iX5_chain_15 : rx_ins mX5_chain 15 = some (7, 16, 0, 0, 0, []) := rx_at tbX5_chain ndX5_chain (j := 11) rfl
theorem iX5_chain_16 : rx_ins mX5_chain 16 = some (2, 17, 0, 2, 0, []) := rx_at tbX5_chain ndX5_chain (j := 12) rfl
theorem iX5_chain_17 : rx_ins mX5_chain 17 = some (2, 18, 0, 3, 0, []) := rx_at tbX5_chain ndX5_chain (j := 13) rfl
theorem iX5_chain_18 : rx_ins mX5_chain 18 = some (28, 21, 7, 55, 4, [(53, 127)]) := rx_at tbX5_chain ndX5_chain (j := 14) rfl
theorem iX5_chain_21 : rx_ins mX5_chain 21 = some (2, 22, 0, 1, 0, []) := rx_at tbX5_chain ndX5_chain (j := 15) rfl
theorem iX5_chain_22 : rx_ins mX5_chain 22 = some (1, 23, 2, 0, 0, []) := rx_at tbX5_chain ndX5_chain (j := 16) rfl
theorem iX5_chain_23 : rx_ins mX5_chain 23 = some (14, 26, 7, 1, 30, []) := rx_at tbX5_chain ndX5_chain (j := 17) rfl
theorem iX5_chain_30 : rx_ins mX5_chain 30 = some (1, 32, 96, 1, 0, []) := rx_at tbX5_chain ndX5_chain (j := 20) rfl
theorem iX5_chain_32 : rx_ins mX5_chain 32 = some (4, 34, 1, 4, 0, []) := rx_at tbX5_chain ndX5_chain (j := 21) rfl
theorem iX5_chain_34 : rx_ins mX5_chain 34 = some (1, 35, 0, 0, 0, []) := rx_at tbX5_chain ndX5_chain (j := 22) rfl
theorem iX5_chain_35 : rx_ins mX5_chain 35 = some (4, 37, 1, 5, 0, []) := rx_at tbX5_chain ndX5_chain (j := 23) rfl
theorem iX5_chain_26 : rx_ins mX5_chain 26 = some (1, 27, 1, 0, 0, []) := rx_at tbX5_chain ndX5_chain (j := 18) rfl
theorem iX5_chain_27 : rx_ins mX5_chain 27 = some (15, 30, 5, 0, 32, []) := rx_at tbX5_chain ndX5_chain (j := 19) rfl
theorem iX5_chain_5 : rx_ins mX5_chain 5 = some (3, 6, 0, 0, 0, []) := rx_at tbX5_chain ndX5_chain (j := 3) rfl
theorem iX5_chain_6 : rx_ins mX5_chain 6 = some (2, 7, 0, 2, 0, []) := rx_at tbX5_chain ndX5_chain (j := 4) rfl
theorem iX5_chain_7 : rx_ins mX5_chain 7 = some (2, 8, 0, 3, 0, []) := rx_at tbX5_chain ndX5_chain (j := 5) rfl
theorem iX5_chain_8 : rx_ins mX5_chain 8 = some (28, 11, 7, 57, 3, [(83, 131)]) := rx_at tbX5_chain ndX5_chain (j := 6) rfl
theorem iX5_chain_11 : rx_ins mX5_chain 11 = some (30, 12, 0, 0, 0, []) := rx_at tbX5_chain ndX5_chain (j := 7) rfl
theorem iX5_chain_37 : rx_ins mX5_chain 37 = some (2, 39, 1, 5, 0, []) := rx_at tbX5_chain ndX5_chain (j := 24) rfl
theorem iX5_chain_39 : rx_ins mX5_chain 39 = some (2, 41, 1, 4, 0, []) := rx_at tbX5_chain ndX5_chain (j := 25) rfl
theorem iX5_chain_41 : rx_ins mX5_chain 41 = some (14, 44, 53, 3, 94, []) := rx_at tbX5_chain ndX5_chain (j := 26) rfl
theorem iX5_chain_94 : rx_ins mX5_chain 94 = some (30, 95, 0, 0, 0, []) := rx_at tbX5_chain ndX5_chain (j := 53) rfl
theorem iX5_chain_44 : rx_ins mX5_chain 44 = some (3, 45, 0, 0, 0, []) := rx_at tbX5_chain ndX5_chain (j := 27) rfl
theorem iX5_chain_45 : rx_ins mX5_chain 45 = some (17, 48, 0, 5, 9, [(40, 51)]) := rx_at tbX5_chain ndX5_chain (j := 28) rfl
theorem iX5_chain_48 : rx_ins mX5_chain 48 = some (13, 51, 46, 3, 94, []) := rx_at tbX5_chain ndX5_chain (j := 29) rfl
theorem iX5_chain_51 : rx_ins mX5_chain 51 = some (3, 52, 0, 0, 0, []) := rx_at tbX5_chain ndX5_chain (j := 30) rfl
theorem iX5_chain_52 : rx_ins mX5_chain 52 = some (17, 55, 0, 5, 6, [(31, 49)]) := rx_at tbX5_chain ndX5_chain (j := 31) rfl
theorem iX5_chain_55 : rx_ins mX5_chain 55 = some (28, 58, 0, 56, 1, [(87, 132)]) := rx_at tbX5_chain ndX5_chain (j := 32) rfl
theorem iX5_chain_58 : rx_ins mX5_chain 58 = some (2, 59, 0, 1, 0, []) := rx_at tbX5_chain ndX5_chain (j := 33) rfl
theorem iX5_chain_59 : rx_ins mX5_chain 59 = some (14, 62, 35, 1, 94, []) := rx_at tbX5_chain ndX5_chain (j := 34) rfl
theorem iX5_chain_62 : rx_ins mX5_chain 62 = some (3, 63, 0, 0, 0, []) := rx_at tbX5_chain ndX5_chain (j := 35) rfl
theorem iX5_chain_63 : rx_ins mX5_chain 63 = some (17, 66, 0, 5, 6, [(31, 49)]) := rx_at tbX5_chain ndX5_chain (j := 36) rfl
theorem iX5_chain_66 : rx_ins mX5_chain 66 = some (4, 68, 1, 6, 0, []) := rx_at tbX5_chain ndX5_chain (j := 37) rfl
theorem iX5_chain_68 : rx_ins mX5_chain 68 = some (3, 69, 0, 0, 0, []) := rx_at tbX5_chain ndX5_chain (j := 38) rfl
theorem iX5_chain_69 : rx_ins mX5_chain 69 = some (28, 72, 7, 50, 1, [(43, 124)]) := rx_at tbX5_chain ndX5_chain (j := 39) rfl
theorem iX5_chain_72 : rx_ins mX5_chain 72 = some (3, 73, 0, 0, 0, []) := rx_at tbX5_chain ndX5_chain (j := 40) rfl
theorem iX5_chain_73 : rx_ins mX5_chain 73 = some (2, 74, 0, 1, 0, []) := rx_at tbX5_chain ndX5_chain (j := 41) rfl
theorem iX5_chain_74 : rx_ins mX5_chain 74 = some (1, 75, 1, 0, 0, []) := rx_at tbX5_chain ndX5_chain (j := 42) rfl
theorem iX5_chain_75 : rx_ins mX5_chain 75 = some (7, 76, 0, 0, 0, []) := rx_at tbX5_chain ndX5_chain (j := 43) rfl
theorem iX5_chain_76 : rx_ins mX5_chain 76 = some (2, 77, 0, 2, 0, []) := rx_at tbX5_chain ndX5_chain (j := 44) rfl
theorem iX5_chain_77 : rx_ins mX5_chain 77 = some (2, 78, 0, 3, 0, []) := rx_at tbX5_chain ndX5_chain (j := 45) rfl
theorem iX5_chain_78 : rx_ins mX5_chain 78 = some (28, 81, 7, 55, 4, [(53, 127)]) := rx_at tbX5_chain ndX5_chain (j := 46) rfl
theorem iX5_chain_81 : rx_ins mX5_chain 81 = some (3, 82, 0, 0, 0, []) := rx_at tbX5_chain ndX5_chain (j := 47) rfl
theorem iX5_chain_82 : rx_ins mX5_chain 82 = some (2, 84, 1, 6, 0, []) := rx_at tbX5_chain ndX5_chain (j := 48) rfl
theorem iX5_chain_84 : rx_ins mX5_chain 84 = some (9, 85, 0, 0, 0, []) := rx_at tbX5_chain ndX5_chain (j := 49) rfl
theorem iX5_chain_85 : rx_ins mX5_chain 85 = some (28, 88, 7, 61, 2, [(91, 133)]) := rx_at tbX5_chain ndX5_chain (j := 50) rfl
theorem iX5_chain_88 : rx_ins mX5_chain 88 = some (6, 91, 1, 5, 0, []) := rx_at tbX5_chain ndX5_chain (j := 51) rfl
theorem iX5_chain_91 : rx_ins mX5_chain 91 = some (15, 94, (-54), 0, 37, []) := rx_at tbX5_chain ndX5_chain (j := 52) rfl
theorem iX5_levelOf_0 : rx_ins mX5_levelOf 0 = some (2, 1, 0, 0, 0, []) := rx_at tbX5_levelOf ndX5_levelOf (j := 0) rfl
theorem iX5_levelOf_1 : rx_ins mX5_levelOf 1 = some (16, 84, 1, 0, 94, [(38, 86), (42, 92), (43, 90), (45, 90), (47, 92), (60, 88), (61, 88), (62, 88), (124, 84)]) := rx_at tbX5_levelOf ndX5_levelOf (j := 1) rfl
theorem iX5_levelOf_86 : rx_ins mX5_levelOf 86 = some (1, 87, 1, 0, 0, []) := rx_at tbX5_levelOf ndX5_levelOf (j := 4) rfl
theorem iX5_levelOf_87 : rx_ins mX5_levelOf 87 = some (29, 88, 0, 0, 0, []) := rx_at tbX5_levelOf ndX5_levelOf (j := 5) rfl
theorem iX5_levelOf_92 : rx_ins mX5_levelOf 92 = some (1, 93, 4, 0, 0, []) := rx_at tbX5_levelOf ndX5_levelOf (j := 10) rfl
theorem iX5_levelOf_93 : rx_ins mX5_levelOf 93 = some (29, 94, 0, 0, 0, []) := rx_at tbX5_levelOf ndX5_levelOf (j := 11) rfl
theorem iX5_levelOf_90 : rx_ins mX5_levelOf 90 = some (1, 91, 3, 0, 0, []) := rx_at tbX5_levelOf ndX5_levelOf (j := 8) rfl
theorem iX5_levelOf_91 : rx_ins mX5_levelOf 91 = some (29, 92, 0, 0, 0, []) := rx_at tbX5_levelOf ndX5_levelOf (j := 9) rfl
theorem iX5_levelOf_88 : rx_ins mX5_levelOf 88 = some (1, 89, 2, 0, 0, []) := rx_at tbX5_levelOf ndX5_levelOf (j := 6) rfl
theorem iX5_levelOf_89 : rx_ins mX5_levelOf 89 = some (29, 90, 0, 0, 0, []) := rx_at tbX5_levelOf ndX5_levelOf (j := 7) rfl
theorem iX5_levelOf_84 : rx_ins mX5_levelOf 84 = some (1, 85, 0, 0, 0, []) := rx_at tbX5_levelOf ndX5_levelOf (j := 2) rfl
theorem iX5_levelOf_85 : rx_ins mX5_levelOf 85 = some (29, 86, 0, 0, 0, []) := rx_at tbX5_levelOf ndX5_levelOf (j := 3) rfl
theorem iX5_levelOf_94 : rx_ins mX5_levelOf 94 = some (1, 95, (-1), 0, 0, []) := rx_at tbX5_levelOf ndX5_levelOf (j := 12) rfl
theorem iX5_levelOf_95 : rx_ins mX5_levelOf 95 = some (29, 96, 0, 0, 0, []) := rx_at tbX5_levelOf ndX5_levelOf (j := 13) rfl
theorem iX5_piece_0 : rx_ins mX5_piece 0 = some (3, 1, 0, 0, 0, []) := rx_at tbX5_piece ndX5_piece (j := 0) rfl
theorem iX5_piece_1 : rx_ins mX5_piece 1 = some (17, 4, 0, 5, 6, [(31, 49)]) := rx_at tbX5_piece ndX5_piece (j := 1) rfl
theorem iX5_piece_4 : rx_ins mX5_piece 4 = some (1, 6, (-3), 1, 0, []) := rx_at tbX5_piece ndX5_piece (j := 2) rfl
theorem iX5_piece_6 : rx_ins mX5_piece 6 = some (14, 9, 27, 1, 33, []) := rx_at tbX5_piece ndX5_piece (j := 3) rfl
theorem iX5_piece_9 : rx_ins mX5_piece 9 = some (3, 10, 0, 0, 0, []) := rx_at tbX5_piece ndX5_piece (j := 4) rfl
theorem iX5_piece_10 : rx_ins mX5_piece 10 = some (17, 13, 0, 5, 8, [(37, 50)]) := rx_at tbX5_piece ndX5_piece (j := 5) rfl
theorem iX5_piece_13 : rx_ins mX5_piece 13 = some (3, 14, 0, 0, 0, []) := rx_at tbX5_piece ndX5_piece (j := 6) rfl
theorem iX5_piece_14 : rx_ins mX5_piece 14 = some (17, 17, 0, 5, 7, [(34, 55)]) := rx_at tbX5_piece ndX5_piece (j := 7) rfl
theorem iX5_piece_17 : rx_ins mX5_piece 17 = some (7, 18, 0, 1, 0, []) := rx_at tbX5_piece ndX5_piece (j := 8) rfl
theorem iX5_piece_18 : rx_ins mX5_piece 18 = some (1, 19, 4, 0, 0, []) := rx_at tbX5_piece ndX5_piece (j := 9) rfl
theorem iX5_piece_19 : rx_ins mX5_piece 19 = some (14, 22, 14, 4, 33, []) := rx_at tbX5_piece ndX5_piece (j := 10) rfl
theorem iX5_piece_22 : rx_ins mX5_piece 22 = some (3, 23, 0, 0, 0, []) := rx_at tbX5_piece ndX5_piece (j := 11) rfl
theorem iX5_piece_23 : rx_ins mX5_piece 23 = some (3, 24, 0, 0, 0, []) := rx_at tbX5_piece ndX5_piece (j := 12) rfl
theorem iX5_piece_24 : rx_ins mX5_piece 24 = some (28, 27, 7, 58, 1, [(95, 134)]) := rx_at tbX5_piece ndX5_piece (j := 13) rfl
theorem iX5_piece_27 : rx_ins mX5_piece 27 = some (28, 30, 7, 60, 2, [(98, 135)]) := rx_at tbX5_piece ndX5_piece (j := 14) rfl
theorem iX5_piece_30 : rx_ins mX5_piece 30 = some (15, 33, 121, 0, 151, []) := rx_at tbX5_piece ndX5_piece (j := 15) rfl
theorem iX5_piece_151 : rx_ins mX5_piece 151 = some (30, 152, 0, 0, 0, []) := rx_at tbX5_piece ndX5_piece (j := 75) rfl
theorem iX5_piece_33 : rx_ins mX5_piece 33 = some (3, 34, 0, 0, 0, []) := rx_at tbX5_piece ndX5_piece (j := 16) rfl
theorem iX5_piece_34 : rx_ins mX5_piece 34 = some (17, 37, 0, 5, 6, [(31, 49)]) := rx_at tbX5_piece ndX5_piece (j := 17) rfl
theorem iX5_piece_37 : rx_ins mX5_piece 37 = some (1, 39, (-2), 1, 0, []) := rx_at tbX5_piece ndX5_piece (j := 18) rfl
theorem iX5_piece_39 : rx_ins mX5_piece 39 = some (14, 42, 21, 1, 60, []) := rx_at tbX5_piece ndX5_piece (j := 19) rfl
theorem iX5_piece_42 : rx_ins mX5_piece 42 = some (3, 43, 0, 0, 0, []) := rx_at tbX5_piece ndX5_piece (j := 20) rfl
theorem iX5_piece_43 : rx_ins mX5_piece 43 = some (28, 46, 7, 59, 1, [(101, 136)]) := rx_at tbX5_piece ndX5_piece (j := 21) rfl
theorem iX5_piece_46 : rx_ins mX5_piece 46 = some (13, 49, 14, 3, 60, []) := rx_at tbX5_piece ndX5_piece (j := 22) rfl
theorem iX5_piece_49 : rx_ins mX5_piece 49 = some (3, 50, 0, 0, 0, []) := rx_at tbX5_piece ndX5_piece (j := 23) rfl
theorem iX5_piece_50 : rx_ins mX5_piece 50 = some (3, 51, 0, 0, 0, []) := rx_at tbX5_piece ndX5_piece (j := 24) rfl
theorem iX5_piece_51 : rx_ins mX5_piece 51 = some (28, 54, 7, 59, 1, [(101, 136)]) := rx_at tbX5_piece ndX5_piece (j := 25) rfl
theorem iX5_piece_54 : rx_ins mX5_piece 54 = some (28, 57, 7, 60, 2, [(98, 135)]) := rx_at tbX5_piece ndX5_piece (j := 26) rfl
theorem iX5_piece_57 : rx_ins mX5_piece 57 = some (15, 60, 94, 0, 151, []) := rx_at tbX5_piece ndX5_piece (j := 27) rfl
theorem iX5_piece_60 : rx_ins mX5_piece 60 = some (3, 61, 0, 0, 0, []) := rx_at tbX5_piece ndX5_piece (j := 28) rfl
theorem iX5_piece_61 : rx_ins mX5_piece 61 = some (17, 64, 0, 5, 6, [(31, 49)]) := rx_at tbX5_piece ndX5_piece (j := 29) rfl
theorem iX5_piece_64 : rx_ins mX5_piece 64 = some (1, 66, 33, 1, 0, []) := rx_at tbX5_piece ndX5_piece (j := 30) rfl
theorem iX5_piece_66 : rx_ins mX5_piece 66 = some (14, 69, 30, 1, 96, []) := rx_at tbX5_piece ndX5_piece (j := 31) rfl
theorem iX5_piece_69 : rx_ins mX5_piece 69 = some (2, 70, 0, 2, 0, []) := rx_at tbX5_piece ndX5_piece (j := 32) rfl
theorem iX5_piece_70 : rx_ins mX5_piece 70 = some (1, 72, 8, 1, 0, []) := rx_at tbX5_piece ndX5_piece (j := 33) rfl
theorem iX5_piece_72 : rx_ins mX5_piece 72 = some (14, 75, 24, 3, 96, []) := rx_at tbX5_piece ndX5_piece (j := 34) rfl
theorem iX5_piece_75 : rx_ins mX5_piece 75 = some (3, 76, 0, 0, 0, []) := rx_at tbX5_piece ndX5_piece (j := 35) rfl
theorem iX5_piece_76 : rx_ins mX5_piece 76 = some (28, 79, 7, 50, 1, [(43, 124)]) := rx_at tbX5_piece ndX5_piece (j := 36) rfl
theorem iX5_piece_79 : rx_ins mX5_piece 79 = some (3, 80, 0, 0, 0, []) := rx_at tbX5_piece ndX5_piece (j := 37) rfl
theorem iX5_piece_80 : rx_ins mX5_piece 80 = some (2, 81, 0, 1, 0, []) := rx_at tbX5_piece ndX5_piece (j := 38) rfl
theorem iX5_piece_81 : rx_ins mX5_piece 81 = some (2, 82, 0, 2, 0, []) := rx_at tbX5_piece ndX5_piece (j := 39) rfl
theorem iX5_piece_82 : rx_ins mX5_piece 82 = some (1, 83, 1, 0, 0, []) := rx_at tbX5_piece ndX5_piece (j := 40) rfl
theorem iX5_piece_83 : rx_ins mX5_piece 83 = some (7, 84, 0, 0, 0, []) := rx_at tbX5_piece ndX5_piece (j := 41) rfl
theorem iX5_piece_84 : rx_ins mX5_piece 84 = some (28, 87, 7, 57, 3, [(83, 131)]) := rx_at tbX5_piece ndX5_piece (j := 42) rfl
theorem iX5_piece_87 : rx_ins mX5_piece 87 = some (3, 88, 0, 0, 0, []) := rx_at tbX5_piece ndX5_piece (j := 43) rfl
theorem iX5_piece_88 : rx_ins mX5_piece 88 = some (1, 90, (-33), 1, 0, []) := rx_at tbX5_piece ndX5_piece (j := 44) rfl
theorem iX5_piece_90 : rx_ins mX5_piece 90 = some (28, 93, 7, 61, 2, [(91, 133)]) := rx_at tbX5_piece ndX5_piece (j := 45) rfl
theorem iX5_piece_93 : rx_ins mX5_piece 93 = some (15, 96, 58, 0, 151, []) := rx_at tbX5_piece ndX5_piece (j := 46) rfl
theorem iX5_piece_96 : rx_ins mX5_piece 96 = some (3, 97, 0, 0, 0, []) := rx_at tbX5_piece ndX5_piece (j := 47) rfl
theorem iX5_piece_97 : rx_ins mX5_piece 97 = some (17, 100, 0, 5, 6, [(31, 49)]) := rx_at tbX5_piece ndX5_piece (j := 48) rfl
theorem iX5_piece_100 : rx_ins mX5_piece 100 = some (1, 102, 40, 1, 0, []) := rx_at tbX5_piece ndX5_piece (j := 49) rfl
theorem iX5_piece_102 : rx_ins mX5_piece 102 = some (14, 105, 45, 1, 147, []) := rx_at tbX5_piece ndX5_piece (j := 50) rfl
theorem iX5_piece_105 : rx_ins mX5_piece 105 = some (2, 106, 0, 1, 0, []) := rx_at tbX5_piece ndX5_piece (j := 51) rfl
theorem iX5_piece_106 : rx_ins mX5_piece 106 = some (1, 108, 8, 1, 0, []) := rx_at tbX5_piece ndX5_piece (j := 52) rfl
theorem iX5_piece_108 : rx_ins mX5_piece 108 = some (14, 111, 39, 3, 147, []) := rx_at tbX5_piece ndX5_piece (j := 53) rfl
theorem iX5_piece_111 : rx_ins mX5_piece 111 = some (3, 112, 0, 0, 0, []) := rx_at tbX5_piece ndX5_piece (j := 54) rfl
theorem iX5_piece_112 : rx_ins mX5_piece 112 = some (28, 115, 7, 50, 1, [(43, 124)]) := rx_at tbX5_piece ndX5_piece (j := 55) rfl
theorem iX5_piece_115 : rx_ins mX5_piece 115 = some (3, 116, 0, 0, 0, []) := rx_at tbX5_piece ndX5_piece (j := 56) rfl
theorem iX5_piece_116 : rx_ins mX5_piece 116 = some (1, 117, 0, 0, 0, []) := rx_at tbX5_piece ndX5_piece (j := 57) rfl
theorem iX5_piece_117 : rx_ins mX5_piece 117 = some (2, 118, 0, 1, 0, []) := rx_at tbX5_piece ndX5_piece (j := 58) rfl
theorem iX5_piece_118 : rx_ins mX5_piece 118 = some (1, 119, 1, 0, 0, []) := rx_at tbX5_piece ndX5_piece (j := 59) rfl
theorem iX5_piece_119 : rx_ins mX5_piece 119 = some (7, 120, 0, 0, 0, []) := rx_at tbX5_piece ndX5_piece (j := 60) rfl
theorem iX5_piece_120 : rx_ins mX5_piece 120 = some (2, 121, 0, 2, 0, []) := rx_at tbX5_piece ndX5_piece (j := 61) rfl
theorem iX5_piece_121 : rx_ins mX5_piece 121 = some (28, 124, 7, 55, 4, [(53, 127)]) := rx_at tbX5_piece ndX5_piece (j := 62) rfl
theorem iX5_piece_124 : rx_ins mX5_piece 124 = some (3, 125, 0, 0, 0, []) := rx_at tbX5_piece ndX5_piece (j := 63) rfl
theorem iX5_piece_125 : rx_ins mX5_piece 125 = some (17, 128, 0, 5, 6, [(31, 49)]) := rx_at tbX5_piece ndX5_piece (j := 64) rfl
theorem iX5_piece_128 : rx_ins mX5_piece 128 = some (1, 130, 41, 1, 0, []) := rx_at tbX5_piece ndX5_piece (j := 65) rfl
theorem iX5_piece_130 : rx_ins mX5_piece 130 = some (14, 133, 10, 1, 140, []) := rx_at tbX5_piece ndX5_piece (j := 66) rfl
theorem iX5_piece_140 : rx_ins mX5_piece 140 = some (3, 141, 0, 0, 0, []) := rx_at tbX5_piece ndX5_piece (j := 70) rfl
theorem iX5_piece_141 : rx_ins mX5_piece 141 = some (28, 144, 7, 49, 1, [(50, 126)]) := rx_at tbX5_piece ndX5_piece (j := 71) rfl
theorem iX5_piece_144 : rx_ins mX5_piece 144 = some (15, 147, 7, 0, 151, []) := rx_at tbX5_piece ndX5_piece (j := 72) rfl
theorem iX5_piece_133 : rx_ins mX5_piece 133 = some (3, 134, 0, 0, 0, []) := rx_at tbX5_piece ndX5_piece (j := 67) rfl
theorem iX5_piece_134 : rx_ins mX5_piece 134 = some (28, 137, 7, 50, 1, [(43, 124)]) := rx_at tbX5_piece ndX5_piece (j := 68) rfl
theorem iX5_piece_137 : rx_ins mX5_piece 137 = some (15, 140, 14, 0, 151, []) := rx_at tbX5_piece ndX5_piece (j := 69) rfl
theorem iX5_piece_147 : rx_ins mX5_piece 147 = some (3, 148, 0, 0, 0, []) := rx_at tbX5_piece ndX5_piece (j := 73) rfl
theorem iX5_piece_148 : rx_ins mX5_piece 148 = some (28, 151, 7, 49, 1, [(50, 126)]) := rx_at tbX5_piece ndX5_piece (j := 74) rfl
theorem iX5_numberHere_0 : rx_ins mX5_numberHere 0 = some (1, 1, 0, 0, 0, []) := rx_at tbX5_numberHere ndX5_numberHere (j := 0) rfl
theorem iX5_numberHere_1 : rx_ins mX5_numberHere 1 = some (4, 2, 0, 1, 0, []) := rx_at tbX5_numberHere ndX5_numberHere (j := 1) rfl
theorem iX5_numberHere_2 : rx_ins mX5_numberHere 2 = some (3, 3, 0, 0, 0, []) := rx_at tbX5_numberHere ndX5_numberHere (j := 2) rfl
theorem iX5_numberHere_3 : rx_ins mX5_numberHere 3 = some (17, 6, 0, 5, 7, [(34, 55)]) := rx_at tbX5_numberHere ndX5_numberHere (j := 3) rfl
theorem iX5_numberHere_6 : rx_ins mX5_numberHere 6 = some (4, 7, 0, 2, 0, []) := rx_at tbX5_numberHere ndX5_numberHere (j := 4) rfl
theorem iX5_numberHere_7 : rx_ins mX5_numberHere 7 = some (2, 8, 0, 2, 0, []) := rx_at tbX5_numberHere ndX5_numberHere (j := 5) rfl
theorem iX5_numberHere_8 : rx_ins mX5_numberHere 8 = some (3, 9, 0, 0, 0, []) := rx_at tbX5_numberHere ndX5_numberHere (j := 6) rfl
theorem iX5_numberHere_9 : rx_ins mX5_numberHere 9 = some (17, 12, 0, 5, 8, [(37, 50)]) := rx_at tbX5_numberHere ndX5_numberHere (j := 7) rfl
theorem iX5_numberHere_12 : rx_ins mX5_numberHere 12 = some (14, 15, 24, 3, 36, []) := rx_at tbX5_numberHere ndX5_numberHere (j := 8) rfl
theorem iX5_numberHere_36 : rx_ins mX5_numberHere 36 = some (2, 37, 0, 1, 0, []) := rx_at tbX5_numberHere ndX5_numberHere (j := 22) rfl
theorem iX5_numberHere_37 : rx_ins mX5_numberHere 37 = some (29, 38, 0, 0, 0, []) := rx_at tbX5_numberHere ndX5_numberHere (j := 23) rfl
theorem iX5_numberHere_15 : rx_ins mX5_numberHere 15 = some (1, 17, 10, 1, 0, []) := rx_at tbX5_numberHere ndX5_numberHere (j := 9) rfl
theorem iX5_numberHere_17 : rx_ins mX5_numberHere 17 = some (2, 18, 0, 1, 0, []) := rx_at tbX5_numberHere ndX5_numberHere (j := 10) rfl
theorem iX5_numberHere_18 : rx_ins mX5_numberHere 18 = some (7, 19, 0, 2, 0, []) := rx_at tbX5_numberHere ndX5_numberHere (j := 11) rfl
theorem iX5_numberHere_19 : rx_ins mX5_numberHere 19 = some (3, 20, 0, 0, 0, []) := rx_at tbX5_numberHere ndX5_numberHere (j := 12) rfl
theorem iX5_numberHere_20 : rx_ins mX5_numberHere 20 = some (18, 23, 0, 5, 5, [(28, 48)]) := rx_at tbX5_numberHere ndX5_numberHere (j := 13) rfl
theorem iX5_numberHere_23 : rx_ins mX5_numberHere 23 = some (2, 24, 0, 2, 0, []) := rx_at tbX5_numberHere ndX5_numberHere (j := 14) rfl
theorem iX5_numberHere_24 : rx_ins mX5_numberHere 24 = some (20, 25, 0, 0, 0, []) := rx_at tbX5_numberHere ndX5_numberHere (j := 15) rfl
theorem iX5_numberHere_25 : rx_ins mX5_numberHere 25 = some (7, 26, 0, 0, 0, []) := rx_at tbX5_numberHere ndX5_numberHere (j := 16) rfl
theorem iX5_numberHere_26 : rx_ins mX5_numberHere 26 = some (1, 28, 48, 1, 0, []) := rx_at tbX5_numberHere ndX5_numberHere (j := 17) rfl
theorem iX5_numberHere_28 : rx_ins mX5_numberHere 28 = some (7, 29, 0, 1, 0, []) := rx_at tbX5_numberHere ndX5_numberHere (j := 18) rfl
theorem iX5_numberHere_29 : rx_ins mX5_numberHere 29 = some (4, 30, 0, 1, 0, []) := rx_at tbX5_numberHere ndX5_numberHere (j := 19) rfl
theorem iX5_numberHere_30 : rx_ins mX5_numberHere 30 = some (6, 33, 1, 2, 0, []) := rx_at tbX5_numberHere ndX5_numberHere (j := 20) rfl
theorem iX5_numberHere_33 : rx_ins mX5_numberHere 33 = some (15, 36, (-26), 0, 7, []) := rx_at tbX5_numberHere ndX5_numberHere (j := 21) rfl
theorem iX5_nameHere_0 : rx_ins mX5_nameHere 0 = some (3, 1, 0, 0, 0, []) := rx_at tbX5_nameHere ndX5_nameHere (j := 0) rfl
theorem iX5_nameHere_1 : rx_ins mX5_nameHere 1 = some (17, 4, 0, 5, 8, [(37, 50)]) := rx_at tbX5_nameHere ndX5_nameHere (j := 1) rfl
theorem iX5_nameHere_4 : rx_ins mX5_nameHere 4 = some (3, 5, 0, 0, 0, []) := rx_at tbX5_nameHere ndX5_nameHere (j := 2) rfl
theorem iX5_nameHere_5 : rx_ins mX5_nameHere 5 = some (17, 8, 0, 5, 7, [(34, 55)]) := rx_at tbX5_nameHere ndX5_nameHere (j := 3) rfl
theorem iX5_nameHere_8 : rx_ins mX5_nameHere 8 = some (7, 9, 0, 1, 0, []) := rx_at tbX5_nameHere ndX5_nameHere (j := 4) rfl
theorem iX5_nameHere_9 : rx_ins mX5_nameHere 9 = some (1, 10, 1, 0, 0, []) := rx_at tbX5_nameHere ndX5_nameHere (j := 5) rfl
theorem iX5_nameHere_10 : rx_ins mX5_nameHere 10 = some (14, 13, 5, 0, 15, []) := rx_at tbX5_nameHere ndX5_nameHere (j := 6) rfl
theorem iX5_nameHere_15 : rx_ins mX5_nameHere 15 = some (3, 16, 0, 0, 0, []) := rx_at tbX5_nameHere ndX5_nameHere (j := 9) rfl
theorem iX5_nameHere_16 : rx_ins mX5_nameHere 16 = some (18, 19, 0, 5, 5, [(28, 48)]) := rx_at tbX5_nameHere ndX5_nameHere (j := 10) rfl
theorem iX5_nameHere_19 : rx_ins mX5_nameHere 19 = some (3, 20, 0, 0, 0, []) := rx_at tbX5_nameHere ndX5_nameHere (j := 11) rfl
theorem iX5_nameHere_20 : rx_ins mX5_nameHere 20 = some (17, 23, 0, 5, 7, [(34, 55)]) := rx_at tbX5_nameHere ndX5_nameHere (j := 12) rfl
theorem iX5_nameHere_23 : rx_ins mX5_nameHere 23 = some (20, 24, 0, 0, 0, []) := rx_at tbX5_nameHere ndX5_nameHere (j := 13) rfl
theorem iX5_nameHere_24 : rx_ins mX5_nameHere 24 = some (16, 76, 1, 0, 171, [(97, 89), (98, 115), (112, 142), (113, 156), (119, 76)]) := rx_at tbX5_nameHere ndX5_nameHere (j := 14) rfl
theorem iX5_nameHere_89 : rx_ins mX5_nameHere 89 = some (3, 90, 0, 0, 0, []) := rx_at tbX5_nameHere ndX5_nameHere (j := 22) rfl
theorem iX5_nameHere_90 : rx_ins mX5_nameHere 90 = some (17, 93, 0, 5, 1, [(15, 54)]) := rx_at tbX5_nameHere ndX5_nameHere (j := 23) rfl
theorem iX5_nameHere_93 : rx_ins mX5_nameHere 93 = some (13, 96, 8, 1, 101, []) := rx_at tbX5_nameHere ndX5_nameHere (j := 24) rfl
theorem iX5_nameHere_101 : rx_ins mX5_nameHere 101 = some (3, 102, 0, 0, 0, []) := rx_at tbX5_nameHere ndX5_nameHere (j := 27) rfl
theorem iX5_nameHere_102 : rx_ins mX5_nameHere 102 = some (17, 105, 0, 5, 1, [(15, 54)]) := rx_at tbX5_nameHere ndX5_nameHere (j := 28) rfl
theorem iX5_nameHere_105 : rx_ins mX5_nameHere 105 = some (1, 106, 2, 0, 0, []) := rx_at tbX5_nameHere ndX5_nameHere (j := 29) rfl
theorem iX5_nameHere_106 : rx_ins mX5_nameHere 106 = some (14, 109, 7, 1, 113, []) := rx_at tbX5_nameHere ndX5_nameHere (j := 30) rfl
theorem iX5_nameHere_113 : rx_ins mX5_nameHere 113 = some (1, 114, 0, 0, 0, []) := rx_at tbX5_nameHere ndX5_nameHere (j := 33) rfl
theorem iX5_nameHere_114 : rx_ins mX5_nameHere 114 = some (29, 115, 0, 0, 0, []) := rx_at tbX5_nameHere ndX5_nameHere (j := 34) rfl
theorem iX5_nameHere_109 : rx_ins mX5_nameHere 109 = some (1, 110, (-1), 0, 0, []) := rx_at tbX5_nameHere ndX5_nameHere (j := 31) rfl
theorem iX5_nameHere_110 : rx_ins mX5_nameHere 110 = some (15, 113, 4, 0, 114, []) := rx_at tbX5_nameHere ndX5_nameHere (j := 32) rfl
theorem iX5_nameHere_96 : rx_ins mX5_nameHere 96 = some (1, 98, (-2), 1, 0, []) := rx_at tbX5_nameHere ndX5_nameHere (j := 25) rfl
theorem iX5_nameHere_98 : rx_ins mX5_nameHere 98 = some (15, 101, 16, 0, 114, []) := rx_at tbX5_nameHere ndX5_nameHere (j := 26) rfl
theorem iX5_nameHere_115 : rx_ins mX5_nameHere 115 = some (3, 116, 0, 0, 0, []) := rx_at tbX5_nameHere ndX5_nameHere (j := 35) rfl
theorem iX5_nameHere_116 : rx_ins mX5_nameHere 116 = some (17, 119, 0, 5, 1, [(15, 54)]) := rx_at tbX5_nameHere ndX5_nameHere (j := 36) rfl
theorem iX5_nameHere_119 : rx_ins mX5_nameHere 119 = some (13, 122, 8, 1, 127, []) := rx_at tbX5_nameHere ndX5_nameHere (j := 37) rfl
theorem iX5_nameHere_127 : rx_ins mX5_nameHere 127 = some (3, 128, 0, 0, 0, []) := rx_at tbX5_nameHere ndX5_nameHere (j := 40) rfl
theorem iX5_nameHere_128 : rx_ins mX5_nameHere 128 = some (17, 131, 0, 5, 1, [(15, 54)]) := rx_at tbX5_nameHere ndX5_nameHere (j := 41) rfl
theorem iX5_nameHere_131 : rx_ins mX5_nameHere 131 = some (1, 132, 2, 0, 0, []) := rx_at tbX5_nameHere ndX5_nameHere (j := 42) rfl
theorem iX5_nameHere_132 : rx_ins mX5_nameHere 132 = some (14, 135, 8, 1, 140, []) := rx_at tbX5_nameHere ndX5_nameHere (j := 43) rfl
theorem iX5_nameHere_140 : rx_ins mX5_nameHere 140 = some (1, 141, 0, 0, 0, []) := rx_at tbX5_nameHere ndX5_nameHere (j := 46) rfl
theorem iX5_nameHere_141 : rx_ins mX5_nameHere 141 = some (29, 142, 0, 0, 0, []) := rx_at tbX5_nameHere ndX5_nameHere (j := 47) rfl
theorem iX5_nameHere_135 : rx_ins mX5_nameHere 135 = some (1, 137, (-2), 1, 0, []) := rx_at tbX5_nameHere ndX5_nameHere (j := 44) rfl
theorem iX5_nameHere_137 : rx_ins mX5_nameHere 137 = some (15, 140, 4, 0, 141, []) := rx_at tbX5_nameHere ndX5_nameHere (j := 45) rfl
theorem iX5_nameHere_122 : rx_ins mX5_nameHere 122 = some (1, 124, (-3), 1, 0, []) := rx_at tbX5_nameHere ndX5_nameHere (j := 38) rfl
theorem iX5_nameHere_124 : rx_ins mX5_nameHere 124 = some (15, 127, 17, 0, 141, []) := rx_at tbX5_nameHere ndX5_nameHere (j := 39) rfl
theorem iX5_nameHere_142 : rx_ins mX5_nameHere 142 = some (3, 143, 0, 0, 0, []) := rx_at tbX5_nameHere ndX5_nameHere (j := 48) rfl
theorem iX5_nameHere_143 : rx_ins mX5_nameHere 143 = some (17, 146, 0, 5, 1, [(15, 54)]) := rx_at tbX5_nameHere ndX5_nameHere (j := 49) rfl
theorem iX5_nameHere_146 : rx_ins mX5_nameHere 146 = some (1, 147, 1, 0, 0, []) := rx_at tbX5_nameHere ndX5_nameHere (j := 50) rfl
theorem iX5_nameHere_147 : rx_ins mX5_nameHere 147 = some (14, 150, 7, 1, 154, []) := rx_at tbX5_nameHere ndX5_nameHere (j := 51) rfl
theorem iX5_nameHere_154 : rx_ins mX5_nameHere 154 = some (1, 155, 0, 0, 0, []) := rx_at tbX5_nameHere ndX5_nameHere (j := 54) rfl
theorem iX5_nameHere_155 : rx_ins mX5_nameHere 155 = some (29, 156, 0, 0, 0, []) := rx_at tbX5_nameHere ndX5_nameHere (j := 55) rfl
theorem iX5_nameHere_150 : rx_ins mX5_nameHere 150 = some (1, 151, (-1), 0, 0, []) := rx_at tbX5_nameHere ndX5_nameHere (j := 52) rfl
theorem iX5_nameHere_151 : rx_ins mX5_nameHere 151 = some (15, 154, 4, 0, 155, []) := rx_at tbX5_nameHere ndX5_nameHere (j := 53) rfl
theorem iX5_nameHere_156 : rx_ins mX5_nameHere 156 = some (3, 157, 0, 0, 0, []) := rx_at tbX5_nameHere ndX5_nameHere (j := 56) rfl
theorem iX5_nameHere_157 : rx_ins mX5_nameHere 157 = some (17, 160, 0, 5, 1, [(15, 54)]) := rx_at tbX5_nameHere ndX5_nameHere (j := 57) rfl
theorem iX5_nameHere_160 : rx_ins mX5_nameHere 160 = some (1, 161, 1, 0, 0, []) := rx_at tbX5_nameHere ndX5_nameHere (j := 58) rfl
theorem iX5_nameHere_161 : rx_ins mX5_nameHere 161 = some (14, 164, 8, 1, 169, []) := rx_at tbX5_nameHere ndX5_nameHere (j := 59) rfl
theorem iX5_nameHere_169 : rx_ins mX5_nameHere 169 = some (1, 170, 0, 0, 0, []) := rx_at tbX5_nameHere ndX5_nameHere (j := 62) rfl
theorem iX5_nameHere_170 : rx_ins mX5_nameHere 170 = some (29, 171, 0, 0, 0, []) := rx_at tbX5_nameHere ndX5_nameHere (j := 63) rfl
theorem iX5_nameHere_164 : rx_ins mX5_nameHere 164 = some (1, 166, (-2), 1, 0, []) := rx_at tbX5_nameHere ndX5_nameHere (j := 60) rfl
theorem iX5_nameHere_166 : rx_ins mX5_nameHere 166 = some (15, 169, 4, 0, 170, []) := rx_at tbX5_nameHere ndX5_nameHere (j := 61) rfl
theorem iX5_nameHere_76 : rx_ins mX5_nameHere 76 = some (3, 77, 0, 0, 0, []) := rx_at tbX5_nameHere ndX5_nameHere (j := 15) rfl
theorem iX5_nameHere_77 : rx_ins mX5_nameHere 77 = some (17, 80, 0, 5, 1, [(15, 54)]) := rx_at tbX5_nameHere ndX5_nameHere (j := 16) rfl
theorem iX5_nameHere_80 : rx_ins mX5_nameHere 80 = some (13, 83, 7, 1, 87, []) := rx_at tbX5_nameHere ndX5_nameHere (j := 17) rfl
theorem iX5_nameHere_87 : rx_ins mX5_nameHere 87 = some (1, 88, 0, 0, 0, []) := rx_at tbX5_nameHere ndX5_nameHere (j := 20) rfl
theorem iX5_nameHere_88 : rx_ins mX5_nameHere 88 = some (29, 89, 0, 0, 0, []) := rx_at tbX5_nameHere ndX5_nameHere (j := 21) rfl
theorem iX5_nameHere_83 : rx_ins mX5_nameHere 83 = some (1, 84, (-1), 0, 0, []) := rx_at tbX5_nameHere ndX5_nameHere (j := 18) rfl
theorem iX5_nameHere_84 : rx_ins mX5_nameHere 84 = some (15, 87, 4, 0, 88, []) := rx_at tbX5_nameHere ndX5_nameHere (j := 19) rfl
theorem iX5_nameHere_171 : rx_ins mX5_nameHere 171 = some (1, 172, 0, 0, 0, []) := rx_at tbX5_nameHere ndX5_nameHere (j := 64) rfl
theorem iX5_nameHere_172 : rx_ins mX5_nameHere 172 = some (29, 173, 0, 0, 0, []) := rx_at tbX5_nameHere ndX5_nameHere (j := 65) rfl
theorem iX5_nameHere_13 : rx_ins mX5_nameHere 13 = some (1, 14, 0, 0, 0, []) := rx_at tbX5_nameHere ndX5_nameHere (j := 7) rfl
theorem iX5_nameHere_14 : rx_ins mX5_nameHere 14 = some (29, 15, 0, 0, 0, []) := rx_at tbX5_nameHere ndX5_nameHere (j := 8) rfl
theorem iX5_writeLeaf_0 : rx_ins mX5_writeLeaf 0 = some (3, 1, 0, 0, 0, []) := rx_at tbX5_writeLeaf ndX5_writeLeaf (j := 0) rfl
theorem iX5_writeLeaf_1 : rx_ins mX5_writeLeaf 1 = some (10, 2, 0, 0, 0, []) := rx_at tbX5_writeLeaf ndX5_writeLeaf (j := 1) rfl
theorem iX5_writeLeaf_2 : rx_ins mX5_writeLeaf 2 = some (17, 5, 0, 5, 2, [(18, 52)]) := rx_at tbX5_writeLeaf ndX5_writeLeaf (j := 2) rfl
theorem iX5_writeLeaf_5 : rx_ins mX5_writeLeaf 5 = some (1, 6, 1, 0, 0, []) := rx_at tbX5_writeLeaf ndX5_writeLeaf (j := 3) rfl
theorem iX5_writeLeaf_6 : rx_ins mX5_writeLeaf 6 = some (7, 7, 0, 0, 0, []) := rx_at tbX5_writeLeaf ndX5_writeLeaf (j := 4) rfl
theorem iX5_writeLeaf_7 : rx_ins mX5_writeLeaf 7 = some (19, 10, 0, 5, 2, [(18, 52)]) := rx_at tbX5_writeLeaf ndX5_writeLeaf (j := 5) rfl
theorem iX5_writeLeaf_10 : rx_ins mX5_writeLeaf 10 = some (3, 11, 0, 0, 0, []) := rx_at tbX5_writeLeaf ndX5_writeLeaf (j := 6) rfl
theorem iX5_writeLeaf_11 : rx_ins mX5_writeLeaf 11 = some (2, 12, 0, 1, 0, []) := rx_at tbX5_writeLeaf ndX5_writeLeaf (j := 7) rfl
theorem iX5_writeLeaf_12 : rx_ins mX5_writeLeaf 12 = some (28, 15, 7, 61, 2, [(91, 133)]) := rx_at tbX5_writeLeaf ndX5_writeLeaf (j := 8) rfl
theorem iX5_writeLeaf_15 : rx_ins mX5_writeLeaf 15 = some (3, 16, 0, 0, 0, []) := rx_at tbX5_writeLeaf ndX5_writeLeaf (j := 9) rfl
theorem iX5_writeLeaf_16 : rx_ins mX5_writeLeaf 16 = some (28, 19, 7, 50, 1, [(43, 124)]) := rx_at tbX5_writeLeaf ndX5_writeLeaf (j := 10) rfl
theorem iX5_writeLeaf_19 : rx_ins mX5_writeLeaf 19 = some (30, 20, 0, 0, 0, []) := rx_at tbX5_writeLeaf ndX5_writeLeaf (j := 11) rfl
theorem iX5_write_0 : rx_ins mX5_write 0 = some (3, 1, 0, 0, 0, []) := rx_at tbX5_write ndX5_write (j := 0) rfl
theorem iX5_write_1 : rx_ins mX5_write 1 = some (17, 4, 0, 5, 3, [(21, 53)]) := rx_at tbX5_write ndX5_write (j := 1) rfl
theorem iX5_write_4 : rx_ins mX5_write 4 = some (1, 6, 96, 1, 0, []) := rx_at tbX5_write ndX5_write (j := 2) rfl
theorem iX5_write_6 : rx_ins mX5_write 6 = some (14, 9, 23, 3, 29, []) := rx_at tbX5_write ndX5_write (j := 3) rfl
theorem iX5_write_29 : rx_ins mX5_write 29 = some (30, 30, 0, 0, 0, []) := rx_at tbX5_write ndX5_write (j := 16) rfl
theorem iX5_write_9 : rx_ins mX5_write 9 = some (3, 10, 0, 0, 0, []) := rx_at tbX5_write ndX5_write (j := 4) rfl
theorem iX5_write_10 : rx_ins mX5_write 10 = some (18, 13, 0, 5, 4, [(24, 56)]) := rx_at tbX5_write ndX5_write (j := 5) rfl
theorem iX5_write_13 : rx_ins mX5_write 13 = some (3, 14, 0, 0, 0, []) := rx_at tbX5_write ndX5_write (j := 6) rfl
theorem iX5_write_14 : rx_ins mX5_write 14 = some (17, 17, 0, 5, 3, [(21, 53)]) := rx_at tbX5_write ndX5_write (j := 7) rfl
theorem iX5_write_17 : rx_ins mX5_write 17 = some (2, 18, 0, 1, 0, []) := rx_at tbX5_write ndX5_write (j := 8) rfl
theorem iX5_write_18 : rx_ins mX5_write 18 = some (21, 19, 0, 0, 0, []) := rx_at tbX5_write ndX5_write (j := 9) rfl
theorem iX5_write_19 : rx_ins mX5_write 19 = some (3, 20, 0, 0, 0, []) := rx_at tbX5_write ndX5_write (j := 10) rfl
theorem iX5_write_20 : rx_ins mX5_write 20 = some (10, 21, 0, 0, 0, []) := rx_at tbX5_write ndX5_write (j := 11) rfl
theorem iX5_write_21 : rx_ins mX5_write 21 = some (17, 24, 0, 5, 3, [(21, 53)]) := rx_at tbX5_write ndX5_write (j := 12) rfl
theorem iX5_write_24 : rx_ins mX5_write 24 = some (1, 25, 1, 0, 0, []) := rx_at tbX5_write ndX5_write (j := 13) rfl
theorem iX5_write_25 : rx_ins mX5_write 25 = some (7, 26, 0, 0, 0, []) := rx_at tbX5_write ndX5_write (j := 14) rfl
theorem iX5_write_26 : rx_ins mX5_write 26 = some (19, 29, 0, 5, 3, [(21, 53)]) := rx_at tbX5_write ndX5_write (j := 15) rfl
theorem iX6_search_0 : rx_ins mX6_search 0 = some (3, 1, 0, 0, 0, []) := rx_at tbX6_search ndX6_search (j := 0) rfl
theorem iX6_search_1 : rx_ins mX6_search 1 = some (3, 2, 0, 1, 0, []) := rx_at tbX6_search ndX6_search (j := 1) rfl
theorem iX6_search_2 : rx_ins mX6_search 2 = some (2, 3, 0, 2, 0, []) := rx_at tbX6_search ndX6_search (j := 2) rfl
theorem iX6_search_3 : rx_ins mX6_search 3 = some (28, 6, 8, 63, 3, [(28, 137)]) := rx_at tbX6_search ndX6_search (j := 3) rfl
theorem iX6_search_6 : rx_ins mX6_search 6 = some (3, 7, 0, 0, 0, []) := rx_at tbX6_search ndX6_search (j := 4) rfl
theorem iX6_search_7 : rx_ins mX6_search 7 = some (1, 9, 2147483647, 3, 5, [(32, 0)]) := rx_at tbX6_search ndX6_search (j := 5) rfl
theorem iX6_search_9 : rx_ins mX6_search 9 = some (19, 12, 0, 6, 1, [(15, 57)]) := rx_at tbX6_search ndX6_search (j := 6) rfl
theorem iX6_search_12 : rx_ins mX6_search 12 = some (1, 13, 0, 0, 0, []) := rx_at tbX6_search ndX6_search (j := 7) rfl
theorem iX6_search_13 : rx_ins mX6_search 13 = some (4, 15, 1, 4, 0, []) := rx_at tbX6_search ndX6_search (j := 8) rfl
theorem iX6_search_15 : rx_ins mX6_search 15 = some (2, 17, 1, 4, 0, []) := rx_at tbX6_search ndX6_search (j := 9) rfl
theorem iX6_search_17 : rx_ins mX6_search 17 = some (1, 19, 120, 1, 0, []) := rx_at tbX6_search ndX6_search (j := 10) rfl
theorem iX6_search_19 : rx_ins mX6_search 19 = some (14, 22, 96, 3, 115, []) := rx_at tbX6_search ndX6_search (j := 11) rfl
theorem iX6_search_115 : rx_ins mX6_search 115 = some (30, 116, 0, 0, 0, []) := rx_at tbX6_search ndX6_search (j := 58) rfl
theorem iX6_search_22 : rx_ins mX6_search 22 = some (1, 23, 0, 0, 0, []) := rx_at tbX6_search ndX6_search (j := 12) rfl
theorem iX6_search_23 : rx_ins mX6_search 23 = some (4, 25, 1, 5, 0, []) := rx_at tbX6_search ndX6_search (j := 13) rfl
theorem iX6_search_25 : rx_ins mX6_search 25 = some (2, 27, 1, 5, 0, []) := rx_at tbX6_search ndX6_search (j := 14) rfl
theorem iX6_search_27 : rx_ins mX6_search 27 = some (3, 28, 0, 0, 0, []) := rx_at tbX6_search ndX6_search (j := 15) rfl
theorem iX6_search_28 : rx_ins mX6_search 28 = some (17, 31, 0, 6, 4, [(25, 58)]) := rx_at tbX6_search ndX6_search (j := 16) rfl
theorem iX6_search_31 : rx_ins mX6_search 31 = some (14, 34, 27, 3, 58, []) := rx_at tbX6_search ndX6_search (j := 17) rfl
theorem iX6_search_58 : rx_ins mX6_search 58 = some (3, 59, 0, 3, 0, []) := rx_at tbX6_search ndX6_search (j := 30) rfl
theorem iX6_search_59 : rx_ins mX6_search 59 = some (3, 60, 0, 1, 0, []) := rx_at tbX6_search ndX6_search (j := 31) rfl
theorem iX6_search_60 : rx_ins mX6_search 60 = some (1, 61, 2, 0, 0, []) := rx_at tbX6_search ndX6_search (j := 32) rfl
theorem iX6_search_61 : rx_ins mX6_search 61 = some (3, 62, 0, 0, 0, []) := rx_at tbX6_search ndX6_search (j := 33) rfl
theorem iX6_search_62 : rx_ins mX6_search 62 = some (17, 65, 0, 6, 1, [(15, 57)]) := rx_at tbX6_search ndX6_search (j := 34) rfl
theorem iX6_search_65 : rx_ins mX6_search 65 = some (28, 68, 2, 3, 4, [(39, 139)]) := rx_at tbX6_search ndX6_search (j := 35) rfl
theorem iX6_search_68 : rx_ins mX6_search 68 = some (4, 70, 1, 5, 0, []) := rx_at tbX6_search ndX6_search (j := 36) rfl
theorem iX6_search_70 : rx_ins mX6_search 70 = some (2, 72, 1, 5, 0, []) := rx_at tbX6_search ndX6_search (j := 37) rfl
theorem iX6_search_72 : rx_ins mX6_search 72 = some (3, 73, 0, 0, 0, []) := rx_at tbX6_search ndX6_search (j := 38) rfl
theorem iX6_search_73 : rx_ins mX6_search 73 = some (17, 76, 0, 6, 1, [(15, 57)]) := rx_at tbX6_search ndX6_search (j := 39) rfl
theorem iX6_search_76 : rx_ins mX6_search 76 = some (14, 79, 23, 3, 99, []) := rx_at tbX6_search ndX6_search (j := 40) rfl
theorem iX6_search_99 : rx_ins mX6_search 99 = some (3, 100, 0, 0, 0, []) := rx_at tbX6_search ndX6_search (j := 52) rfl
theorem iX6_search_100 : rx_ins mX6_search 100 = some (28, 103, 8, 64, 1, [(51, 140)]) := rx_at tbX6_search ndX6_search (j := 53) rfl
theorem iX6_search_103 : rx_ins mX6_search 103 = some (13, 106, 6, 1, 109, []) := rx_at tbX6_search ndX6_search (j := 54) rfl
theorem iX6_search_109 : rx_ins mX6_search 109 = some (6, 112, 1, 4, 0, []) := rx_at tbX6_search ndX6_search (j := 56) rfl
theorem iX6_search_112 : rx_ins mX6_search 112 = some (15, 115, (-97), 0, 15, []) := rx_at tbX6_search ndX6_search (j := 57) rfl
theorem iX6_search_106 : rx_ins mX6_search 106 = some (15, 109, 9, 0, 115, []) := rx_at tbX6_search ndX6_search (j := 55) rfl
theorem iX6_search_79 : rx_ins mX6_search 79 = some (3, 80, 0, 0, 0, []) := rx_at tbX6_search ndX6_search (j := 41) rfl
theorem iX6_search_80 : rx_ins mX6_search 80 = some (2, 82, 1, 5, 0, []) := rx_at tbX6_search ndX6_search (j := 42) rfl
theorem iX6_search_82 : rx_ins mX6_search 82 = some (19, 85, 0, 6, 1, [(15, 57)]) := rx_at tbX6_search ndX6_search (j := 43) rfl
theorem iX6_search_85 : rx_ins mX6_search 85 = some (3, 86, 0, 0, 0, []) := rx_at tbX6_search ndX6_search (j := 44) rfl
theorem iX6_search_86 : rx_ins mX6_search 86 = some (18, 89, 0, 6, 2, [(19, 60)]) := rx_at tbX6_search ndX6_search (j := 45) rfl
theorem iX6_search_89 : rx_ins mX6_search 89 = some (1, 90, 0, 0, 0, []) := rx_at tbX6_search ndX6_search (j := 46) rfl
theorem iX6_search_90 : rx_ins mX6_search 90 = some (3, 91, 0, 0, 0, []) := rx_at tbX6_search ndX6_search (j := 47) rfl
theorem iX6_search_91 : rx_ins mX6_search 91 = some (18, 94, 0, 6, 0, [(9, 61)]) := rx_at tbX6_search ndX6_search (j := 48) rfl
theorem iX6_search_94 : rx_ins mX6_search 94 = some (1, 95, 0, 0, 0, []) := rx_at tbX6_search ndX6_search (j := 49) rfl
theorem iX6_search_95 : rx_ins mX6_search 95 = some (1, 96, 5, 0, 0, []) := rx_at tbX6_search ndX6_search (j := 50) rfl
theorem iX6_search_96 : rx_ins mX6_search 96 = some (25, 99, 0, 0, 0, [(45, 3)]) := rx_at tbX6_search ndX6_search (j := 51) rfl
theorem iX6_search_34 : rx_ins mX6_search 34 = some (3, 35, 0, 1, 0, []) := rx_at tbX6_search ndX6_search (j := 18) rfl
theorem iX6_search_35 : rx_ins mX6_search 35 = some (3, 36, 0, 0, 0, []) := rx_at tbX6_search ndX6_search (j := 19) rfl
theorem iX6_search_36 : rx_ins mX6_search 36 = some (18, 39, 0, 6, 3, [(22, 59)]) := rx_at tbX6_search ndX6_search (j := 20) rfl
theorem iX6_search_39 : rx_ins mX6_search 39 = some (2, 41, 1, 5, 0, []) := rx_at tbX6_search ndX6_search (j := 21) rfl
theorem iX6_search_41 : rx_ins mX6_search 41 = some (20, 42, 0, 0, 0, []) := rx_at tbX6_search ndX6_search (j := 22) rfl
theorem iX6_search_42 : rx_ins mX6_search 42 = some (3, 43, 0, 0, 0, []) := rx_at tbX6_search ndX6_search (j := 23) rfl
theorem iX6_search_43 : rx_ins mX6_search 43 = some (18, 46, 0, 6, 2, [(19, 60)]) := rx_at tbX6_search ndX6_search (j := 24) rfl
theorem iX6_search_46 : rx_ins mX6_search 46 = some (2, 48, 1, 5, 0, []) := rx_at tbX6_search ndX6_search (j := 25) rfl
theorem iX6_search_48 : rx_ins mX6_search 48 = some (20, 49, 0, 0, 0, []) := rx_at tbX6_search ndX6_search (j := 26) rfl
theorem iX6_search_49 : rx_ins mX6_search 49 = some (28, 52, 3, 12, 3, [(33, 138)]) := rx_at tbX6_search ndX6_search (j := 27) rfl
theorem iX6_search_52 : rx_ins mX6_search 52 = some (6, 55, 1, 5, 0, []) := rx_at tbX6_search ndX6_search (j := 28) rfl
theorem iX6_search_55 : rx_ins mX6_search 55 = some (15, 58, (-30), 0, 25, []) := rx_at tbX6_search ndX6_search (j := 29) rfl
theorem iX6_collect_0 : rx_ins mX6_collect 0 = some (3, 1, 0, 0, 0, []) := rx_at tbX6_collect ndX6_collect (j := 0) rfl
theorem iX6_collect_1 : rx_ins mX6_collect 1 = some (1, 2, 0, 0, 0, []) := rx_at tbX6_collect ndX6_collect (j := 1) rfl
theorem iX6_collect_2 : rx_ins mX6_collect 2 = some (19, 5, 0, 6, 4, [(25, 58)]) := rx_at tbX6_collect ndX6_collect (j := 2) rfl
theorem iX6_collect_5 : rx_ins mX6_collect 5 = some (1, 6, 0, 0, 0, []) := rx_at tbX6_collect ndX6_collect (j := 3) rfl
theorem iX6_collect_6 : rx_ins mX6_collect 6 = some (4, 7, 0, 3, 0, []) := rx_at tbX6_collect ndX6_collect (j := 4) rfl
theorem iX6_collect_7 : rx_ins mX6_collect 7 = some (2, 8, 0, 3, 0, []) := rx_at tbX6_collect ndX6_collect (j := 5) rfl
theorem iX6_collect_8 : rx_ins mX6_collect 8 = some (3, 9, 0, 1, 0, []) := rx_at tbX6_collect ndX6_collect (j := 6) rfl
theorem iX6_collect_9 : rx_ins mX6_collect 9 = some (17, 12, 0, 1, 0, [(55, 62)]) := rx_at tbX6_collect ndX6_collect (j := 7) rfl
theorem iX6_collect_12 : rx_ins mX6_collect 12 = some (14, 15, 47, 3, 59, []) := rx_at tbX6_collect ndX6_collect (j := 8) rfl
theorem iX6_collect_59 : rx_ins mX6_collect 59 = some (1, 60, 0, 0, 0, []) := rx_at tbX6_collect ndX6_collect (j := 33) rfl
theorem iX6_collect_60 : rx_ins mX6_collect 60 = some (4, 61, 0, 3, 0, []) := rx_at tbX6_collect ndX6_collect (j := 34) rfl
theorem iX6_collect_61 : rx_ins mX6_collect 61 = some (1, 62, 0, 0, 0, []) := rx_at tbX6_collect ndX6_collect (j := 35) rfl
theorem iX6_collect_62 : rx_ins mX6_collect 62 = some (4, 64, 1, 4, 0, []) := rx_at tbX6_collect ndX6_collect (j := 36) rfl
theorem iX6_collect_15 : rx_ins mX6_collect 15 = some (3, 16, 0, 1, 0, []) := rx_at tbX6_collect ndX6_collect (j := 9) rfl
theorem iX6_collect_16 : rx_ins mX6_collect 16 = some (18, 19, 0, 1, 3, [(57, 63)]) := rx_at tbX6_collect ndX6_collect (j := 10) rfl
theorem iX6_collect_19 : rx_ins mX6_collect 19 = some (2, 20, 0, 3, 0, []) := rx_at tbX6_collect ndX6_collect (j := 11) rfl
theorem iX6_collect_20 : rx_ins mX6_collect 20 = some (20, 21, 0, 0, 0, []) := rx_at tbX6_collect ndX6_collect (j := 12) rfl
theorem iX6_collect_21 : rx_ins mX6_collect 21 = some (2, 22, 0, 2, 0, []) := rx_at tbX6_collect ndX6_collect (j := 13) rfl
theorem iX6_collect_22 : rx_ins mX6_collect 22 = some (14, 25, 31, 1, 53, []) := rx_at tbX6_collect ndX6_collect (j := 14) rfl
theorem iX6_collect_53 : rx_ins mX6_collect 53 = some (6, 56, 1, 3, 0, []) := rx_at tbX6_collect ndX6_collect (j := 31) rfl
theorem iX6_collect_56 : rx_ins mX6_collect 56 = some (15, 59, (-49), 0, 7, []) := rx_at tbX6_collect ndX6_collect (j := 32) rfl
theorem iX6_collect_25 : rx_ins mX6_collect 25 = some (3, 26, 0, 0, 0, []) := rx_at tbX6_collect ndX6_collect (j := 15) rfl
theorem iX6_collect_26 : rx_ins mX6_collect 26 = some (17, 29, 0, 6, 4, [(25, 58)]) := rx_at tbX6_collect ndX6_collect (j := 16) rfl
theorem iX6_collect_29 : rx_ins mX6_collect 29 = some (1, 30, 5, 0, 0, []) := rx_at tbX6_collect ndX6_collect (j := 17) rfl
theorem iX6_collect_30 : rx_ins mX6_collect 30 = some (14, 33, 23, 3, 53, []) := rx_at tbX6_collect ndX6_collect (j := 18) rfl
theorem iX6_collect_33 : rx_ins mX6_collect 33 = some (3, 34, 0, 0, 0, []) := rx_at tbX6_collect ndX6_collect (j := 19) rfl
theorem iX6_collect_34 : rx_ins mX6_collect 34 = some (18, 37, 0, 6, 2, [(19, 60)]) := rx_at tbX6_collect ndX6_collect (j := 20) rfl
theorem iX6_collect_37 : rx_ins mX6_collect 37 = some (3, 38, 0, 0, 0, []) := rx_at tbX6_collect ndX6_collect (j := 21) rfl
theorem iX6_collect_38 : rx_ins mX6_collect 38 = some (17, 41, 0, 6, 4, [(25, 58)]) := rx_at tbX6_collect ndX6_collect (j := 22) rfl
theorem iX6_collect_41 : rx_ins mX6_collect 41 = some (2, 42, 0, 3, 0, []) := rx_at tbX6_collect ndX6_collect (j := 23) rfl
theorem iX6_collect_42 : rx_ins mX6_collect 42 = some (21, 43, 0, 0, 0, []) := rx_at tbX6_collect ndX6_collect (j := 24) rfl
theorem iX6_collect_43 : rx_ins mX6_collect 43 = some (3, 44, 0, 0, 0, []) := rx_at tbX6_collect ndX6_collect (j := 25) rfl
theorem iX6_collect_44 : rx_ins mX6_collect 44 = some (10, 45, 0, 0, 0, []) := rx_at tbX6_collect ndX6_collect (j := 26) rfl
theorem iX6_collect_45 : rx_ins mX6_collect 45 = some (17, 48, 0, 6, 4, [(25, 58)]) := rx_at tbX6_collect ndX6_collect (j := 27) rfl
theorem iX6_collect_48 : rx_ins mX6_collect 48 = some (1, 49, 1, 0, 0, []) := rx_at tbX6_collect ndX6_collect (j := 28) rfl
theorem iX6_collect_49 : rx_ins mX6_collect 49 = some (7, 50, 0, 0, 0, []) := rx_at tbX6_collect ndX6_collect (j := 29) rfl
theorem iX6_collect_50 : rx_ins mX6_collect 50 = some (19, 53, 0, 6, 4, [(25, 58)]) := rx_at tbX6_collect ndX6_collect (j := 30) rfl
theorem iX6_collect_64 : rx_ins mX6_collect 64 = some (2, 66, 1, 4, 0, []) := rx_at tbX6_collect ndX6_collect (j := 37) rfl
theorem iX6_collect_66 : rx_ins mX6_collect 66 = some (3, 67, 0, 1, 0, []) := rx_at tbX6_collect ndX6_collect (j := 38) rfl
theorem iX6_collect_67 : rx_ins mX6_collect 67 = some (17, 70, 0, 1, 0, [(55, 62)]) := rx_at tbX6_collect ndX6_collect (j := 39) rfl
theorem iX6_collect_70 : rx_ins mX6_collect 70 = some (14, 73, 41, 3, 111, []) := rx_at tbX6_collect ndX6_collect (j := 40) rfl
theorem iX6_collect_111 : rx_ins mX6_collect 111 = some (30, 112, 0, 0, 0, []) := rx_at tbX6_collect ndX6_collect (j := 61) rfl
theorem iX6_collect_73 : rx_ins mX6_collect 73 = some (3, 74, 0, 1, 0, []) := rx_at tbX6_collect ndX6_collect (j := 41) rfl
theorem iX6_collect_74 : rx_ins mX6_collect 74 = some (18, 77, 0, 1, 3, [(57, 63)]) := rx_at tbX6_collect ndX6_collect (j := 42) rfl
theorem iX6_collect_77 : rx_ins mX6_collect 77 = some (3, 78, 0, 1, 0, []) := rx_at tbX6_collect ndX6_collect (j := 43) rfl
theorem iX6_collect_78 : rx_ins mX6_collect 78 = some (18, 81, 0, 1, 4, [(60, 64)]) := rx_at tbX6_collect ndX6_collect (j := 44) rfl
theorem iX6_collect_81 : rx_ins mX6_collect 81 = some (2, 83, 1, 4, 0, []) := rx_at tbX6_collect ndX6_collect (j := 45) rfl
theorem iX6_collect_83 : rx_ins mX6_collect 83 = some (20, 84, 0, 0, 0, []) := rx_at tbX6_collect ndX6_collect (j := 46) rfl
theorem iX6_collect_84 : rx_ins mX6_collect 84 = some (20, 85, 0, 0, 0, []) := rx_at tbX6_collect ndX6_collect (j := 47) rfl
theorem iX6_collect_85 : rx_ins mX6_collect 85 = some (2, 86, 0, 2, 0, []) := rx_at tbX6_collect ndX6_collect (j := 48) rfl
theorem iX6_collect_86 : rx_ins mX6_collect 86 = some (14, 89, 19, 1, 105, []) := rx_at tbX6_collect ndX6_collect (j := 49) rfl
theorem iX6_collect_105 : rx_ins mX6_collect 105 = some (6, 108, 1, 4, 0, []) := rx_at tbX6_collect ndX6_collect (j := 59) rfl
theorem iX6_collect_108 : rx_ins mX6_collect 108 = some (15, 111, (-44), 0, 64, []) := rx_at tbX6_collect ndX6_collect (j := 60) rfl
theorem iX6_collect_89 : rx_ins mX6_collect 89 = some (2, 90, 0, 3, 0, []) := rx_at tbX6_collect ndX6_collect (j := 50) rfl
theorem iX6_collect_90 : rx_ins mX6_collect 90 = some (1, 91, 5, 0, 0, []) := rx_at tbX6_collect ndX6_collect (j := 51) rfl
theorem iX6_collect_91 : rx_ins mX6_collect 91 = some (14, 94, 14, 3, 105, []) := rx_at tbX6_collect ndX6_collect (j := 52) rfl
theorem iX6_collect_94 : rx_ins mX6_collect 94 = some (3, 95, 0, 0, 0, []) := rx_at tbX6_collect ndX6_collect (j := 53) rfl
theorem iX6_collect_95 : rx_ins mX6_collect 95 = some (18, 98, 0, 6, 3, [(22, 59)]) := rx_at tbX6_collect ndX6_collect (j := 54) rfl
theorem iX6_collect_98 : rx_ins mX6_collect 98 = some (2, 99, 0, 3, 0, []) := rx_at tbX6_collect ndX6_collect (j := 55) rfl
theorem iX6_collect_99 : rx_ins mX6_collect 99 = some (2, 101, 1, 4, 0, []) := rx_at tbX6_collect ndX6_collect (j := 56) rfl
theorem iX6_collect_101 : rx_ins mX6_collect 101 = some (21, 102, 0, 0, 0, []) := rx_at tbX6_collect ndX6_collect (j := 57) rfl
theorem iX6_collect_102 : rx_ins mX6_collect 102 = some (6, 105, 1, 3, 0, []) := rx_at tbX6_collect ndX6_collect (j := 58) rfl
theorem iX6_nextOrder_0 : rx_ins mX6_nextOrder 0 = some (3, 1, 0, 0, 0, []) := rx_at tbX6_nextOrder ndX6_nextOrder (j := 0) rfl
theorem iX6_nextOrder_1 : rx_ins mX6_nextOrder 1 = some (17, 4, 0, 6, 4, [(25, 58)]) := rx_at tbX6_nextOrder ndX6_nextOrder (j := 1) rfl
theorem iX6_nextOrder_4 : rx_ins mX6_nextOrder 4 = some (1, 5, 2, 0, 0, []) := rx_at tbX6_nextOrder ndX6_nextOrder (j := 2) rfl
theorem iX6_nextOrder_5 : rx_ins mX6_nextOrder 5 = some (7, 6, 0, 1, 0, []) := rx_at tbX6_nextOrder ndX6_nextOrder (j := 3) rfl
theorem iX6_nextOrder_6 : rx_ins mX6_nextOrder 6 = some (4, 7, 0, 1, 0, []) := rx_at tbX6_nextOrder ndX6_nextOrder (j := 4) rfl
theorem iX6_nextOrder_7 : rx_ins mX6_nextOrder 7 = some (2, 8, 0, 1, 0, []) := rx_at tbX6_nextOrder ndX6_nextOrder (j := 5) rfl
theorem iX6_nextOrder_8 : rx_ins mX6_nextOrder 8 = some (13, 11, 29, 2, 37, []) := rx_at tbX6_nextOrder ndX6_nextOrder (j := 6) rfl
theorem iX6_nextOrder_37 : rx_ins mX6_nextOrder 37 = some (2, 38, 0, 1, 0, []) := rx_at tbX6_nextOrder ndX6_nextOrder (j := 21) rfl
theorem iX6_nextOrder_38 : rx_ins mX6_nextOrder 38 = some (13, 41, 5, 3, 43, []) := rx_at tbX6_nextOrder ndX6_nextOrder (j := 22) rfl
theorem iX6_nextOrder_41 : rx_ins mX6_nextOrder 41 = some (1, 42, 0, 0, 0, []) := rx_at tbX6_nextOrder ndX6_nextOrder (j := 23) rfl
theorem iX6_nextOrder_42 : rx_ins mX6_nextOrder 42 = some (29, 43, 1, 0, 0, []) := rx_at tbX6_nextOrder ndX6_nextOrder (j := 24) rfl
theorem iX6_nextOrder_11 : rx_ins mX6_nextOrder 11 = some (3, 12, 0, 0, 0, []) := rx_at tbX6_nextOrder ndX6_nextOrder (j := 7) rfl
theorem iX6_nextOrder_12 : rx_ins mX6_nextOrder 12 = some (18, 15, 0, 6, 2, [(19, 60)]) := rx_at tbX6_nextOrder ndX6_nextOrder (j := 8) rfl
theorem iX6_nextOrder_15 : rx_ins mX6_nextOrder 15 = some (2, 16, 0, 1, 0, []) := rx_at tbX6_nextOrder ndX6_nextOrder (j := 9) rfl
theorem iX6_nextOrder_16 : rx_ins mX6_nextOrder 16 = some (20, 17, 0, 0, 0, []) := rx_at tbX6_nextOrder ndX6_nextOrder (j := 10) rfl
theorem iX6_nextOrder_17 : rx_ins mX6_nextOrder 17 = some (3, 18, 0, 0, 0, []) := rx_at tbX6_nextOrder ndX6_nextOrder (j := 11) rfl
theorem iX6_nextOrder_18 : rx_ins mX6_nextOrder 18 = some (18, 21, 0, 6, 2, [(19, 60)]) := rx_at tbX6_nextOrder ndX6_nextOrder (j := 12) rfl
theorem iX6_nextOrder_21 : rx_ins mX6_nextOrder 21 = some (2, 22, 0, 1, 0, []) := rx_at tbX6_nextOrder ndX6_nextOrder (j := 13) rfl
theorem iX6_nextOrder_22 : rx_ins mX6_nextOrder 22 = some (1, 23, 1, 0, 0, []) := rx_at tbX6_nextOrder ndX6_nextOrder (j := 14) rfl
theorem iX6_nextOrder_23 : rx_ins mX6_nextOrder 23 = some (7, 24, 0, 0, 0, []) := rx_at tbX6_nextOrder ndX6_nextOrder (j := 15) rfl
theorem iX6_nextOrder_24 : rx_ins mX6_nextOrder 24 = some (20, 25, 0, 0, 0, []) := rx_at tbX6_nextOrder ndX6_nextOrder (j := 16) rfl
theorem iX6_nextOrder_25 : rx_ins mX6_nextOrder 25 = some (14, 28, 6, 3, 31, []) := rx_at tbX6_nextOrder ndX6_nextOrder (j := 17) rfl
theorem iX6_nextOrder_31 : rx_ins mX6_nextOrder 31 = some (6, 34, (-1), 1, 0, []) := rx_at tbX6_nextOrder ndX6_nextOrder (j := 19) rfl
theorem iX6_nextOrder_34 : rx_ins mX6_nextOrder 34 = some (15, 37, (-27), 0, 7, []) := rx_at tbX6_nextOrder ndX6_nextOrder (j := 20) rfl
theorem iX6_nextOrder_28 : rx_ins mX6_nextOrder 28 = some (15, 31, 9, 0, 37, []) := rx_at tbX6_nextOrder ndX6_nextOrder (j := 18) rfl
theorem iX6_nextOrder_43 : rx_ins mX6_nextOrder 43 = some (3, 44, 0, 0, 0, []) := rx_at tbX6_nextOrder ndX6_nextOrder (j := 25) rfl
theorem iX6_nextOrder_44 : rx_ins mX6_nextOrder 44 = some (17, 47, 0, 6, 4, [(25, 58)]) := rx_at tbX6_nextOrder ndX6_nextOrder (j := 26) rfl
theorem iX6_nextOrder_47 : rx_ins mX6_nextOrder 47 = some (1, 48, 1, 0, 0, []) := rx_at tbX6_nextOrder ndX6_nextOrder (j := 27) rfl
theorem iX6_nextOrder_48 : rx_ins mX6_nextOrder 48 = some (7, 49, 0, 1, 0, []) := rx_at tbX6_nextOrder ndX6_nextOrder (j := 28) rfl
theorem iX6_nextOrder_49 : rx_ins mX6_nextOrder 49 = some (4, 50, 0, 2, 0, []) := rx_at tbX6_nextOrder ndX6_nextOrder (j := 29) rfl
theorem iX6_nextOrder_50 : rx_ins mX6_nextOrder 50 = some (2, 51, 0, 2, 0, []) := rx_at tbX6_nextOrder ndX6_nextOrder (j := 30) rfl
theorem iX6_nextOrder_51 : rx_ins mX6_nextOrder 51 = some (2, 52, 0, 1, 0, []) := rx_at tbX6_nextOrder ndX6_nextOrder (j := 31) rfl
theorem iX6_nextOrder_52 : rx_ins mX6_nextOrder 52 = some (1, 53, 1, 0, 0, []) := rx_at tbX6_nextOrder ndX6_nextOrder (j := 32) rfl
theorem iX6_nextOrder_53 : rx_ins mX6_nextOrder 53 = some (7, 54, 0, 0, 0, []) := rx_at tbX6_nextOrder ndX6_nextOrder (j := 33) rfl
theorem iX6_nextOrder_54 : rx_ins mX6_nextOrder 54 = some (14, 57, 27, 5, 81, []) := rx_at tbX6_nextOrder ndX6_nextOrder (j := 34) rfl
theorem iX6_nextOrder_81 : rx_ins mX6_nextOrder 81 = some (3, 82, 0, 0, 0, []) := rx_at tbX6_nextOrder ndX6_nextOrder (j := 47) rfl
theorem iX6_nextOrder_82 : rx_ins mX6_nextOrder 82 = some (2, 83, 0, 1, 0, []) := rx_at tbX6_nextOrder ndX6_nextOrder (j := 48) rfl
theorem iX6_nextOrder_83 : rx_ins mX6_nextOrder 83 = some (2, 84, 0, 2, 0, []) := rx_at tbX6_nextOrder ndX6_nextOrder (j := 49) rfl
theorem iX6_nextOrder_84 : rx_ins mX6_nextOrder 84 = some (28, 87, 8, 65, 3, [(63, 141)]) := rx_at tbX6_nextOrder ndX6_nextOrder (j := 50) rfl
theorem iX6_nextOrder_87 : rx_ins mX6_nextOrder 87 = some (2, 88, 0, 1, 0, []) := rx_at tbX6_nextOrder ndX6_nextOrder (j := 51) rfl
theorem iX6_nextOrder_88 : rx_ins mX6_nextOrder 88 = some (1, 89, 1, 0, 0, []) := rx_at tbX6_nextOrder ndX6_nextOrder (j := 52) rfl
theorem iX6_nextOrder_89 : rx_ins mX6_nextOrder 89 = some (7, 90, 0, 0, 0, []) := rx_at tbX6_nextOrder ndX6_nextOrder (j := 53) rfl
theorem iX6_nextOrder_90 : rx_ins mX6_nextOrder 90 = some (4, 91, 0, 3, 0, []) := rx_at tbX6_nextOrder ndX6_nextOrder (j := 54) rfl
theorem iX6_nextOrder_91 : rx_ins mX6_nextOrder 91 = some (3, 92, 0, 0, 0, []) := rx_at tbX6_nextOrder ndX6_nextOrder (j := 55) rfl
theorem iX6_nextOrder_92 : rx_ins mX6_nextOrder 92 = some (17, 95, 0, 6, 4, [(25, 58)]) := rx_at tbX6_nextOrder ndX6_nextOrder (j := 56) rfl
theorem iX6_nextOrder_95 : rx_ins mX6_nextOrder 95 = some (1, 96, 1, 0, 0, []) := rx_at tbX6_nextOrder ndX6_nextOrder (j := 57) rfl
theorem iX6_nextOrder_96 : rx_ins mX6_nextOrder 96 = some (7, 97, 0, 1, 0, []) := rx_at tbX6_nextOrder ndX6_nextOrder (j := 58) rfl
theorem iX6_nextOrder_97 : rx_ins mX6_nextOrder 97 = some (4, 99, 1, 4, 0, []) := rx_at tbX6_nextOrder ndX6_nextOrder (j := 59) rfl
theorem iX6_nextOrder_57 : rx_ins mX6_nextOrder 57 = some (3, 58, 0, 0, 0, []) := rx_at tbX6_nextOrder ndX6_nextOrder (j := 35) rfl
theorem iX6_nextOrder_58 : rx_ins mX6_nextOrder 58 = some (18, 61, 0, 6, 2, [(19, 60)]) := rx_at tbX6_nextOrder ndX6_nextOrder (j := 36) rfl
theorem iX6_nextOrder_61 : rx_ins mX6_nextOrder 61 = some (2, 62, 0, 2, 0, []) := rx_at tbX6_nextOrder ndX6_nextOrder (j := 37) rfl
theorem iX6_nextOrder_62 : rx_ins mX6_nextOrder 62 = some (20, 63, 0, 0, 0, []) := rx_at tbX6_nextOrder ndX6_nextOrder (j := 38) rfl
theorem iX6_nextOrder_63 : rx_ins mX6_nextOrder 63 = some (3, 64, 0, 0, 0, []) := rx_at tbX6_nextOrder ndX6_nextOrder (j := 39) rfl
theorem iX6_nextOrder_64 : rx_ins mX6_nextOrder 64 = some (18, 67, 0, 6, 2, [(19, 60)]) := rx_at tbX6_nextOrder ndX6_nextOrder (j := 40) rfl
theorem iX6_nextOrder_67 : rx_ins mX6_nextOrder 67 = some (2, 68, 0, 1, 0, []) := rx_at tbX6_nextOrder ndX6_nextOrder (j := 41) rfl
theorem iX6_nextOrder_68 : rx_ins mX6_nextOrder 68 = some (20, 69, 0, 0, 0, []) := rx_at tbX6_nextOrder ndX6_nextOrder (j := 42) rfl
theorem iX6_nextOrder_69 : rx_ins mX6_nextOrder 69 = some (14, 72, 6, 5, 75, []) := rx_at tbX6_nextOrder ndX6_nextOrder (j := 43) rfl
theorem iX6_nextOrder_75 : rx_ins mX6_nextOrder 75 = some (6, 78, (-1), 2, 0, []) := rx_at tbX6_nextOrder ndX6_nextOrder (j := 45) rfl
theorem iX6_nextOrder_78 : rx_ins mX6_nextOrder 78 = some (15, 81, (-28), 0, 50, []) := rx_at tbX6_nextOrder ndX6_nextOrder (j := 46) rfl
theorem iX6_nextOrder_72 : rx_ins mX6_nextOrder 72 = some (15, 75, 9, 0, 81, []) := rx_at tbX6_nextOrder ndX6_nextOrder (j := 44) rfl
theorem iX6_nextOrder_99 : rx_ins mX6_nextOrder 99 = some (2, 100, 0, 3, 0, []) := rx_at tbX6_nextOrder ndX6_nextOrder (j := 60) rfl
theorem iX6_nextOrder_100 : rx_ins mX6_nextOrder 100 = some (2, 102, 1, 4, 0, []) := rx_at tbX6_nextOrder ndX6_nextOrder (j := 61) rfl
theorem iX6_nextOrder_102 : rx_ins mX6_nextOrder 102 = some (14, 105, 19, 3, 121, []) := rx_at tbX6_nextOrder ndX6_nextOrder (j := 62) rfl
theorem iX6_nextOrder_121 : rx_ins mX6_nextOrder 121 = some (1, 122, 1, 0, 0, []) := rx_at tbX6_nextOrder ndX6_nextOrder (j := 70) rfl
theorem iX6_nextOrder_122 : rx_ins mX6_nextOrder 122 = some (29, 123, 1, 0, 0, []) := rx_at tbX6_nextOrder ndX6_nextOrder (j := 71) rfl
theorem iX6_nextOrder_105 : rx_ins mX6_nextOrder 105 = some (3, 106, 0, 0, 0, []) := rx_at tbX6_nextOrder ndX6_nextOrder (j := 63) rfl
theorem iX6_nextOrder_106 : rx_ins mX6_nextOrder 106 = some (2, 107, 0, 3, 0, []) := rx_at tbX6_nextOrder ndX6_nextOrder (j := 64) rfl
theorem iX6_nextOrder_107 : rx_ins mX6_nextOrder 107 = some (2, 109, 1, 4, 0, []) := rx_at tbX6_nextOrder ndX6_nextOrder (j := 65) rfl
theorem iX6_nextOrder_109 : rx_ins mX6_nextOrder 109 = some (28, 112, 8, 65, 3, [(63, 141)]) := rx_at tbX6_nextOrder ndX6_nextOrder (j := 66) rfl
theorem iX6_nextOrder_112 : rx_ins mX6_nextOrder 112 = some (6, 115, 1, 3, 0, []) := rx_at tbX6_nextOrder ndX6_nextOrder (j := 67) rfl
theorem iX6_nextOrder_115 : rx_ins mX6_nextOrder 115 = some (6, 118, (-1), 4, 0, []) := rx_at tbX6_nextOrder ndX6_nextOrder (j := 68) rfl
theorem iX6_nextOrder_118 : rx_ins mX6_nextOrder 118 = some (15, 121, (-19), 0, 99, []) := rx_at tbX6_nextOrder ndX6_nextOrder (j := 69) rfl
theorem iX6_exchange_0 : rx_ins mX6_exchange 0 = some (3, 1, 0, 0, 0, []) := rx_at tbX6_exchange ndX6_exchange (j := 0) rfl
theorem iX6_exchange_1 : rx_ins mX6_exchange 1 = some (18, 4, 0, 6, 2, [(19, 60)]) := rx_at tbX6_exchange ndX6_exchange (j := 1) rfl
theorem iX6_exchange_4 : rx_ins mX6_exchange 4 = some (2, 5, 0, 1, 0, []) := rx_at tbX6_exchange ndX6_exchange (j := 2) rfl
theorem iX6_exchange_5 : rx_ins mX6_exchange 5 = some (20, 6, 0, 0, 0, []) := rx_at tbX6_exchange ndX6_exchange (j := 3) rfl
theorem iX6_exchange_6 : rx_ins mX6_exchange 6 = some (4, 7, 0, 3, 0, []) := rx_at tbX6_exchange ndX6_exchange (j := 4) rfl
theorem iX6_exchange_7 : rx_ins mX6_exchange 7 = some (3, 8, 0, 0, 0, []) := rx_at tbX6_exchange ndX6_exchange (j := 5) rfl
theorem iX6_exchange_8 : rx_ins mX6_exchange 8 = some (18, 11, 0, 6, 2, [(19, 60)]) := rx_at tbX6_exchange ndX6_exchange (j := 6) rfl
theorem iX6_exchange_11 : rx_ins mX6_exchange 11 = some (2, 12, 0, 1, 0, []) := rx_at tbX6_exchange ndX6_exchange (j := 7) rfl
theorem iX6_exchange_12 : rx_ins mX6_exchange 12 = some (3, 13, 0, 0, 0, []) := rx_at tbX6_exchange ndX6_exchange (j := 8) rfl
theorem iX6_exchange_13 : rx_ins mX6_exchange 13 = some (18, 16, 0, 6, 2, [(19, 60)]) := rx_at tbX6_exchange ndX6_exchange (j := 9) rfl
theorem iX6_exchange_16 : rx_ins mX6_exchange 16 = some (2, 17, 0, 2, 0, []) := rx_at tbX6_exchange ndX6_exchange (j := 10) rfl
theorem iX6_exchange_17 : rx_ins mX6_exchange 17 = some (20, 18, 0, 0, 0, []) := rx_at tbX6_exchange ndX6_exchange (j := 11) rfl
theorem iX6_exchange_18 : rx_ins mX6_exchange 18 = some (21, 19, 0, 0, 0, []) := rx_at tbX6_exchange ndX6_exchange (j := 12) rfl
theorem iX6_exchange_19 : rx_ins mX6_exchange 19 = some (3, 20, 0, 0, 0, []) := rx_at tbX6_exchange ndX6_exchange (j := 13) rfl
theorem iX6_exchange_20 : rx_ins mX6_exchange 20 = some (18, 23, 0, 6, 2, [(19, 60)]) := rx_at tbX6_exchange ndX6_exchange (j := 14) rfl
theorem iX6_exchange_23 : rx_ins mX6_exchange 23 = some (2, 24, 0, 2, 0, []) := rx_at tbX6_exchange ndX6_exchange (j := 15) rfl
theorem iX6_exchange_24 : rx_ins mX6_exchange 24 = some (2, 25, 0, 3, 0, []) := rx_at tbX6_exchange ndX6_exchange (j := 16) rfl
theorem iX6_exchange_25 : rx_ins mX6_exchange 25 = some (21, 26, 0, 0, 0, []) := rx_at tbX6_exchange ndX6_exchange (j := 17) rfl
theorem iX6_exchange_26 : rx_ins mX6_exchange 26 = some (30, 27, 0, 0, 0, []) := rx_at tbX6_exchange ndX6_exchange (j := 18) rfl
theorem iX7_become_0 : rx_ins mX7_become 0 = some (3, 1, 0, 0, 0, []) := rx_at tbX7_become ndX7_become (j := 0) rfl
theorem iX7_become_1 : rx_ins mX7_become 1 = some (2, 2, 0, 1, 0, []) := rx_at tbX7_become ndX7_become (j := 1) rfl
theorem iX7_become_2 : rx_ins mX7_become 2 = some (19, 5, 0, 7, 0, [(9, 65)]) := rx_at tbX7_become ndX7_become (j := 2) rfl
theorem iX7_become_5 : rx_ins mX7_become 5 = some (3, 6, 0, 0, 0, []) := rx_at tbX7_become ndX7_become (j := 3) rfl
theorem iX7_become_6 : rx_ins mX7_become 6 = some (2, 7, 0, 2, 0, []) := rx_at tbX7_become ndX7_become (j := 4) rfl
theorem iX7_become_7 : rx_ins mX7_become 7 = some (19, 10, 0, 7, 1, [(15, 66)]) := rx_at tbX7_become ndX7_become (j := 5) rfl
theorem iX7_become_10 : rx_ins mX7_become 10 = some (3, 11, 0, 0, 0, []) := rx_at tbX7_become ndX7_become (j := 6) rfl
theorem iX7_become_11 : rx_ins mX7_become 11 = some (18, 14, 0, 7, 2, [(18, 67)]) := rx_at tbX7_become ndX7_become (j := 7) rfl
theorem iX7_become_14 : rx_ins mX7_become 14 = some (1, 15, 0, 0, 0, []) := rx_at tbX7_become ndX7_become (j := 8) rfl
theorem iX7_become_15 : rx_ins mX7_become 15 = some (28, 18, 0, 246, 2, [(22, 142)]) := rx_at tbX7_become ndX7_become (j := 9) rfl
theorem iX7_become_18 : rx_ins mX7_become 18 = some (30, 19, 0, 0, 0, []) := rx_at tbX7_become ndX7_become (j := 10) rfl
theorem iX7_takeFrom_0 : rx_ins mX7_takeFrom 0 = some (3, 1, 0, 0, 0, []) := rx_at tbX7_takeFrom ndX7_takeFrom (j := 0) rfl
theorem iX7_takeFrom_1 : rx_ins mX7_takeFrom 1 = some (3, 2, 0, 1, 0, []) := rx_at tbX7_takeFrom ndX7_takeFrom (j := 1) rfl
theorem iX7_takeFrom_2 : rx_ins mX7_takeFrom 2 = some (17, 5, 0, 7, 0, [(9, 65)]) := rx_at tbX7_takeFrom ndX7_takeFrom (j := 2) rfl
theorem iX7_takeFrom_5 : rx_ins mX7_takeFrom 5 = some (19, 8, 0, 7, 0, [(9, 65)]) := rx_at tbX7_takeFrom ndX7_takeFrom (j := 3) rfl
theorem iX7_takeFrom_8 : rx_ins mX7_takeFrom 8 = some (3, 9, 0, 0, 0, []) := rx_at tbX7_takeFrom ndX7_takeFrom (j := 4) rfl
theorem iX7_takeFrom_9 : rx_ins mX7_takeFrom 9 = some (3, 10, 0, 1, 0, []) := rx_at tbX7_takeFrom ndX7_takeFrom (j := 5) rfl
theorem iX7_takeFrom_10 : rx_ins mX7_takeFrom 10 = some (17, 13, 0, 7, 1, [(15, 66)]) := rx_at tbX7_takeFrom ndX7_takeFrom (j := 6) rfl
theorem iX7_takeFrom_13 : rx_ins mX7_takeFrom 13 = some (19, 16, 0, 7, 1, [(15, 66)]) := rx_at tbX7_takeFrom ndX7_takeFrom (j := 7) rfl
theorem iX7_takeFrom_16 : rx_ins mX7_takeFrom 16 = some (3, 17, 0, 1, 0, []) := rx_at tbX7_takeFrom ndX7_takeFrom (j := 8) rfl
theorem iX7_takeFrom_17 : rx_ins mX7_takeFrom 17 = some (18, 20, 0, 7, 2, [(18, 67)]) := rx_at tbX7_takeFrom ndX7_takeFrom (j := 9) rfl
theorem iX7_takeFrom_20 : rx_ins mX7_takeFrom 20 = some (1, 21, 0, 0, 0, []) := rx_at tbX7_takeFrom ndX7_takeFrom (j := 10) rfl
theorem iX7_takeFrom_21 : rx_ins mX7_takeFrom 21 = some (3, 22, 0, 0, 0, []) := rx_at tbX7_takeFrom ndX7_takeFrom (j := 11) rfl
theorem iX7_takeFrom_22 : rx_ins mX7_takeFrom 22 = some (18, 25, 0, 7, 2, [(18, 67)]) := rx_at tbX7_takeFrom ndX7_takeFrom (j := 12) rfl
theorem iX7_takeFrom_25 : rx_ins mX7_takeFrom 25 = some (1, 26, 0, 0, 0, []) := rx_at tbX7_takeFrom ndX7_takeFrom (j := 13) rfl
theorem iX7_takeFrom_26 : rx_ins mX7_takeFrom 26 = some (1, 28, 24, 1, 0, []) := rx_at tbX7_takeFrom ndX7_takeFrom (j := 14) rfl
theorem iX7_takeFrom_28 : rx_ins mX7_takeFrom 28 = some (25, 31, 0, 0, 0, [(28, 4)]) := rx_at tbX7_takeFrom ndX7_takeFrom (j := 15) rfl
theorem iX7_takeFrom_31 : rx_ins mX7_takeFrom 31 = some (30, 32, 0, 0, 0, []) := rx_at tbX7_takeFrom ndX7_takeFrom (j := 16) rfl
theorem iX7_isMissing_0 : rx_ins mX7_isMissing 0 = some (3, 1, 0, 0, 0, []) := rx_at tbX7_isMissing ndX7_isMissing (j := 0) rfl
theorem iX7_isMissing_1 : rx_ins mX7_isMissing 1 = some (17, 4, 0, 7, 0, [(9, 65)]) := rx_at tbX7_isMissing ndX7_isMissing (j := 1) rfl
theorem iX7_isMissing_4 : rx_ins mX7_isMissing 4 = some (1, 5, (-1), 0, 0, []) := rx_at tbX7_isMissing ndX7_isMissing (j := 2) rfl
theorem iX7_isMissing_5 : rx_ins mX7_isMissing 5 = some (14, 8, 7, 1, 12, []) := rx_at tbX7_isMissing ndX7_isMissing (j := 3) rfl
theorem iX7_isMissing_12 : rx_ins mX7_isMissing 12 = some (1, 13, 0, 0, 0, []) := rx_at tbX7_isMissing ndX7_isMissing (j := 6) rfl
theorem iX7_isMissing_13 : rx_ins mX7_isMissing 13 = some (29, 14, 1, 0, 0, []) := rx_at tbX7_isMissing ndX7_isMissing (j := 7) rfl
theorem iX7_isMissing_8 : rx_ins mX7_isMissing 8 = some (1, 9, 1, 0, 0, []) := rx_at tbX7_isMissing ndX7_isMissing (j := 4) rfl
theorem iX7_isMissing_9 : rx_ins mX7_isMissing 9 = some (15, 12, 4, 0, 13, []) := rx_at tbX7_isMissing ndX7_isMissing (j := 5) rfl
theorem iX7_hasPlace_0 : rx_ins mX7_hasPlace 0 = some (2, 1, 0, 1, 0, []) := rx_at tbX7_hasPlace ndX7_hasPlace (j := 0) rfl
theorem iX7_hasPlace_1 : rx_ins mX7_hasPlace 1 = some (13, 4, 15, 2, 16, []) := rx_at tbX7_hasPlace ndX7_hasPlace (j := 1) rfl
theorem iX7_hasPlace_16 : rx_ins mX7_hasPlace 16 = some (1, 17, 0, 0, 0, []) := rx_at tbX7_hasPlace ndX7_hasPlace (j := 8) rfl
theorem iX7_hasPlace_17 : rx_ins mX7_hasPlace 17 = some (29, 18, 1, 0, 0, []) := rx_at tbX7_hasPlace ndX7_hasPlace (j := 9) rfl
theorem iX7_hasPlace_4 : rx_ins mX7_hasPlace 4 = some (2, 5, 0, 1, 0, []) := rx_at tbX7_hasPlace ndX7_hasPlace (j := 2) rfl
theorem iX7_hasPlace_5 : rx_ins mX7_hasPlace 5 = some (3, 6, 0, 0, 0, []) := rx_at tbX7_hasPlace ndX7_hasPlace (j := 3) rfl
theorem iX7_hasPlace_6 : rx_ins mX7_hasPlace 6 = some (17, 9, 0, 7, 1, [(15, 66)]) := rx_at tbX7_hasPlace ndX7_hasPlace (j := 4) rfl
theorem iX7_hasPlace_9 : rx_ins mX7_hasPlace 9 = some (14, 12, 7, 3, 16, []) := rx_at tbX7_hasPlace ndX7_hasPlace (j := 5) rfl
theorem iX7_hasPlace_12 : rx_ins mX7_hasPlace 12 = some (1, 13, 1, 0, 0, []) := rx_at tbX7_hasPlace ndX7_hasPlace (j := 6) rfl
theorem iX7_hasPlace_13 : rx_ins mX7_hasPlace 13 = some (15, 16, 4, 0, 17, []) := rx_at tbX7_hasPlace ndX7_hasPlace (j := 7) rfl
theorem iX7_hasPlaces_0 : rx_ins mX7_hasPlaces 0 = some (2, 1, 0, 1, 0, []) := rx_at tbX7_hasPlaces ndX7_hasPlaces (j := 0) rfl
theorem iX7_hasPlaces_1 : rx_ins mX7_hasPlaces 1 = some (13, 4, 29, 2, 30, []) := rx_at tbX7_hasPlaces ndX7_hasPlaces (j := 1) rfl
theorem iX7_hasPlaces_30 : rx_ins mX7_hasPlaces 30 = some (1, 31, 0, 0, 0, []) := rx_at tbX7_hasPlaces ndX7_hasPlaces (j := 16) rfl
theorem iX7_hasPlaces_31 : rx_ins mX7_hasPlaces 31 = some (29, 32, 1, 0, 0, []) := rx_at tbX7_hasPlaces ndX7_hasPlaces (j := 17) rfl
theorem iX7_hasPlaces_4 : rx_ins mX7_hasPlaces 4 = some (2, 5, 0, 2, 0, []) := rx_at tbX7_hasPlaces ndX7_hasPlaces (j := 2) rfl
theorem iX7_hasPlaces_5 : rx_ins mX7_hasPlaces 5 = some (13, 8, 25, 2, 30, []) := rx_at tbX7_hasPlaces ndX7_hasPlaces (j := 3) rfl
theorem iX7_hasPlaces_8 : rx_ins mX7_hasPlaces 8 = some (2, 9, 0, 1, 0, []) := rx_at tbX7_hasPlaces ndX7_hasPlaces (j := 4) rfl
theorem iX7_hasPlaces_9 : rx_ins mX7_hasPlaces 9 = some (3, 10, 0, 0, 0, []) := rx_at tbX7_hasPlaces ndX7_hasPlaces (j := 5) rfl
theorem iX7_hasPlaces_10 : rx_ins mX7_hasPlaces 10 = some (17, 13, 0, 7, 1, [(15, 66)]) := rx_at tbX7_hasPlaces ndX7_hasPlaces (j := 6) rfl
theorem iX7_hasPlaces_13 : rx_ins mX7_hasPlaces 13 = some (14, 16, 17, 4, 30, []) := rx_at tbX7_hasPlaces ndX7_hasPlaces (j := 7) rfl
theorem iX7_hasPlaces_16 : rx_ins mX7_hasPlaces 16 = some (2, 17, 0, 2, 0, []) := rx_at tbX7_hasPlaces ndX7_hasPlaces (j := 8) rfl
theorem iX7_hasPlaces_17 : rx_ins mX7_hasPlaces 17 = some (3, 18, 0, 0, 0, []) := rx_at tbX7_hasPlaces ndX7_hasPlaces (j := 9) rfl
theorem iX7_hasPlaces_18 : rx_ins mX7_hasPlaces 18 = some (17, 21, 0, 7, 1, [(15, 66)]) := rx_at tbX7_hasPlaces ndX7_hasPlaces (j := 10) rfl
theorem iX7_hasPlaces_21 : rx_ins mX7_hasPlaces 21 = some (2, 22, 0, 1, 0, []) := rx_at tbX7_hasPlaces ndX7_hasPlaces (j := 11) rfl
theorem iX7_hasPlaces_22 : rx_ins mX7_hasPlaces 22 = some (7, 23, 0, 1, 0, []) := rx_at tbX7_hasPlaces ndX7_hasPlaces (j := 12) rfl
theorem iX7_hasPlaces_23 : rx_ins mX7_hasPlaces 23 = some (14, 26, 7, 4, 30, []) := rx_at tbX7_hasPlaces ndX7_hasPlaces (j := 13) rfl
theorem iX7_hasPlaces_26 : rx_ins mX7_hasPlaces 26 = some (1, 27, 1, 0, 0, []) := rx_at tbX7_hasPlaces ndX7_hasPlaces (j := 14) rfl
theorem iX7_hasPlaces_27 : rx_ins mX7_hasPlaces 27 = some (15, 30, 4, 0, 31, []) := rx_at tbX7_hasPlaces ndX7_hasPlaces (j := 15) rfl
theorem iX7_hasNoNumber_0 : rx_ins mX7_hasNoNumber 0 = some (1, 1, 0, 0, 0, []) := rx_at tbX7_hasNoNumber ndX7_hasNoNumber (j := 0) rfl
theorem iX7_hasNoNumber_1 : rx_ins mX7_hasNoNumber 1 = some (4, 2, 0, 1, 0, []) := rx_at tbX7_hasNoNumber ndX7_hasNoNumber (j := 1) rfl
theorem iX7_hasNoNumber_2 : rx_ins mX7_hasNoNumber 2 = some (2, 3, 0, 1, 0, []) := rx_at tbX7_hasNoNumber ndX7_hasNoNumber (j := 2) rfl
theorem iX7_hasNoNumber_3 : rx_ins mX7_hasNoNumber 3 = some (3, 4, 0, 0, 0, []) := rx_at tbX7_hasNoNumber ndX7_hasNoNumber (j := 3) rfl
theorem iX7_hasNoNumber_4 : rx_ins mX7_hasNoNumber 4 = some (17, 7, 0, 7, 1, [(15, 66)]) := rx_at tbX7_hasNoNumber ndX7_hasNoNumber (j := 4) rfl
theorem iX7_hasNoNumber_7 : rx_ins mX7_hasNoNumber 7 = some (14, 10, 22, 3, 29, []) := rx_at tbX7_hasNoNumber ndX7_hasNoNumber (j := 5) rfl
theorem iX7_hasNoNumber_29 : rx_ins mX7_hasNoNumber 29 = some (1, 30, 0, 0, 0, []) := rx_at tbX7_hasNoNumber ndX7_hasNoNumber (j := 16) rfl
theorem iX7_hasNoNumber_30 : rx_ins mX7_hasNoNumber 30 = some (29, 31, 1, 0, 0, []) := rx_at tbX7_hasNoNumber ndX7_hasNoNumber (j := 17) rfl
theorem iX7_hasNoNumber_10 : rx_ins mX7_hasNoNumber 10 = some (3, 11, 0, 0, 0, []) := rx_at tbX7_hasNoNumber ndX7_hasNoNumber (j := 6) rfl
theorem iX7_hasNoNumber_11 : rx_ins mX7_hasNoNumber 11 = some (18, 14, 0, 7, 2, [(18, 67)]) := rx_at tbX7_hasNoNumber ndX7_hasNoNumber (j := 7) rfl
theorem iX7_hasNoNumber_14 : rx_ins mX7_hasNoNumber 14 = some (2, 15, 0, 1, 0, []) := rx_at tbX7_hasNoNumber ndX7_hasNoNumber (j := 8) rfl
theorem iX7_hasNoNumber_15 : rx_ins mX7_hasNoNumber 15 = some (20, 16, 0, 0, 0, []) := rx_at tbX7_hasNoNumber ndX7_hasNoNumber (j := 9) rfl
theorem iX7_hasNoNumber_16 : rx_ins mX7_hasNoNumber 16 = some (1, 18, (-1000000005), 3, 6, [(34, 0)]) := rx_at tbX7_hasNoNumber ndX7_hasNoNumber (j := 10) rfl
theorem iX7_hasNoNumber_18 : rx_ins mX7_hasNoNumber 18 = some (14, 21, 5, 1, 23, []) := rx_at tbX7_hasNoNumber ndX7_hasNoNumber (j := 11) rfl
theorem iX7_hasNoNumber_23 : rx_ins mX7_hasNoNumber 23 = some (6, 26, 1, 1, 0, []) := rx_at tbX7_hasNoNumber ndX7_hasNoNumber (j := 14) rfl
theorem iX7_hasNoNumber_26 : rx_ins mX7_hasNoNumber 26 = some (15, 29, (-24), 0, 2, []) := rx_at tbX7_hasNoNumber ndX7_hasNoNumber (j := 15) rfl
theorem iX7_hasNoNumber_21 : rx_ins mX7_hasNoNumber 21 = some (1, 22, 1, 0, 0, []) := rx_at tbX7_hasNoNumber ndX7_hasNoNumber (j := 12) rfl
theorem iX7_hasNoNumber_22 : rx_ins mX7_hasNoNumber 22 = some (29, 23, 1, 0, 0, []) := rx_at tbX7_hasNoNumber ndX7_hasNoNumber (j := 13) rfl
theorem iX7_isOrderOf_0 : rx_ins mX7_isOrderOf 0 = some (1, 1, 0, 0, 0, []) := rx_at tbX7_isOrderOf ndX7_isOrderOf (j := 0) rfl
theorem iX7_isOrderOf_1 : rx_ins mX7_isOrderOf 1 = some (4, 2, 0, 2, 0, []) := rx_at tbX7_isOrderOf ndX7_isOrderOf (j := 1) rfl
theorem iX7_isOrderOf_2 : rx_ins mX7_isOrderOf 2 = some (1, 3, 0, 0, 0, []) := rx_at tbX7_isOrderOf ndX7_isOrderOf (j := 2) rfl
theorem iX7_isOrderOf_3 : rx_ins mX7_isOrderOf 3 = some (4, 4, 0, 3, 0, []) := rx_at tbX7_isOrderOf ndX7_isOrderOf (j := 3) rfl
theorem iX7_isOrderOf_4 : rx_ins mX7_isOrderOf 4 = some (2, 5, 0, 3, 0, []) := rx_at tbX7_isOrderOf ndX7_isOrderOf (j := 4) rfl
theorem iX7_isOrderOf_5 : rx_ins mX7_isOrderOf 5 = some (3, 6, 0, 0, 0, []) := rx_at tbX7_isOrderOf ndX7_isOrderOf (j := 5) rfl
theorem iX7_isOrderOf_6 : rx_ins mX7_isOrderOf 6 = some (17, 9, 0, 7, 1, [(15, 66)]) := rx_at tbX7_isOrderOf ndX7_isOrderOf (j := 6) rfl
theorem iX7_isOrderOf_9 : rx_ins mX7_isOrderOf 9 = some (14, 12, 47, 3, 56, []) := rx_at tbX7_isOrderOf ndX7_isOrderOf (j := 7) rfl
theorem iX7_isOrderOf_56 : rx_ins mX7_isOrderOf 56 = some (3, 57, 0, 0, 0, []) := rx_at tbX7_isOrderOf ndX7_isOrderOf (j := 35) rfl
theorem iX7_isOrderOf_57 : rx_ins mX7_isOrderOf 57 = some (17, 60, 0, 7, 1, [(15, 66)]) := rx_at tbX7_isOrderOf ndX7_isOrderOf (j := 36) rfl
theorem iX7_isOrderOf_60 : rx_ins mX7_isOrderOf 60 = some (2, 61, 0, 1, 0, []) := rx_at tbX7_isOrderOf ndX7_isOrderOf (j := 37) rfl
theorem iX7_isOrderOf_61 : rx_ins mX7_isOrderOf 61 = some (14, 64, 7, 1, 68, []) := rx_at tbX7_isOrderOf ndX7_isOrderOf (j := 38) rfl
theorem iX7_isOrderOf_68 : rx_ins mX7_isOrderOf 68 = some (1, 69, 0, 0, 0, []) := rx_at tbX7_isOrderOf ndX7_isOrderOf (j := 41) rfl
theorem iX7_isOrderOf_69 : rx_ins mX7_isOrderOf 69 = some (29, 70, 1, 0, 0, []) := rx_at tbX7_isOrderOf ndX7_isOrderOf (j := 42) rfl
theorem iX7_isOrderOf_64 : rx_ins mX7_isOrderOf 64 = some (1, 65, 1, 0, 0, []) := rx_at tbX7_isOrderOf ndX7_isOrderOf (j := 39) rfl
theorem iX7_isOrderOf_65 : rx_ins mX7_isOrderOf 65 = some (15, 68, 4, 0, 69, []) := rx_at tbX7_isOrderOf ndX7_isOrderOf (j := 40) rfl
theorem iX7_isOrderOf_12 : rx_ins mX7_isOrderOf 12 = some (3, 13, 0, 0, 0, []) := rx_at tbX7_isOrderOf ndX7_isOrderOf (j := 8) rfl
theorem iX7_isOrderOf_13 : rx_ins mX7_isOrderOf 13 = some (18, 16, 0, 7, 2, [(18, 67)]) := rx_at tbX7_isOrderOf ndX7_isOrderOf (j := 9) rfl
theorem iX7_isOrderOf_16 : rx_ins mX7_isOrderOf 16 = some (2, 17, 0, 3, 0, []) := rx_at tbX7_isOrderOf ndX7_isOrderOf (j := 10) rfl
theorem iX7_isOrderOf_17 : rx_ins mX7_isOrderOf 17 = some (20, 18, 0, 0, 0, []) := rx_at tbX7_isOrderOf ndX7_isOrderOf (j := 11) rfl
theorem iX7_isOrderOf_18 : rx_ins mX7_isOrderOf 18 = some (4, 20, 1, 4, 0, []) := rx_at tbX7_isOrderOf ndX7_isOrderOf (j := 12) rfl
theorem iX7_isOrderOf_20 : rx_ins mX7_isOrderOf 20 = some (2, 22, 1, 4, 0, []) := rx_at tbX7_isOrderOf ndX7_isOrderOf (j := 13) rfl
theorem iX7_isOrderOf_22 : rx_ins mX7_isOrderOf 22 = some (13, 25, 19, 2, 41, []) := rx_at tbX7_isOrderOf ndX7_isOrderOf (j := 14) rfl
theorem iX7_isOrderOf_41 : rx_ins mX7_isOrderOf 41 = some (1, 42, 0, 0, 0, []) := rx_at tbX7_isOrderOf ndX7_isOrderOf (j := 25) rfl
theorem iX7_isOrderOf_42 : rx_ins mX7_isOrderOf 42 = some (29, 43, 1, 0, 0, []) := rx_at tbX7_isOrderOf ndX7_isOrderOf (j := 26) rfl
theorem iX7_isOrderOf_25 : rx_ins mX7_isOrderOf 25 = some (2, 27, 1, 4, 0, []) := rx_at tbX7_isOrderOf ndX7_isOrderOf (j := 15) rfl
theorem iX7_isOrderOf_27 : rx_ins mX7_isOrderOf 27 = some (2, 28, 0, 1, 0, []) := rx_at tbX7_isOrderOf ndX7_isOrderOf (j := 16) rfl
theorem iX7_isOrderOf_28 : rx_ins mX7_isOrderOf 28 = some (14, 31, 13, 3, 41, []) := rx_at tbX7_isOrderOf ndX7_isOrderOf (j := 17) rfl
theorem iX7_isOrderOf_31 : rx_ins mX7_isOrderOf 31 = some (2, 32, 0, 2, 0, []) := rx_at tbX7_isOrderOf ndX7_isOrderOf (j := 18) rfl
theorem iX7_isOrderOf_32 : rx_ins mX7_isOrderOf 32 = some (2, 34, 1, 4, 0, []) := rx_at tbX7_isOrderOf ndX7_isOrderOf (j := 19) rfl
theorem iX7_isOrderOf_34 : rx_ins mX7_isOrderOf 34 = some (7, 35, 0, 7, 0, []) := rx_at tbX7_isOrderOf ndX7_isOrderOf (j := 20) rfl
theorem iX7_isOrderOf_35 : rx_ins mX7_isOrderOf 35 = some (1, 36, 1, 0, 0, []) := rx_at tbX7_isOrderOf ndX7_isOrderOf (j := 21) rfl
theorem iX7_isOrderOf_36 : rx_ins mX7_isOrderOf 36 = some (7, 37, 0, 3, 0, []) := rx_at tbX7_isOrderOf ndX7_isOrderOf (j := 22) rfl
theorem iX7_isOrderOf_37 : rx_ins mX7_isOrderOf 37 = some (1, 38, 1, 0, 0, []) := rx_at tbX7_isOrderOf ndX7_isOrderOf (j := 23) rfl
theorem iX7_isOrderOf_38 : rx_ins mX7_isOrderOf 38 = some (14, 41, 5, 1, 43, []) := rx_at tbX7_isOrderOf ndX7_isOrderOf (j := 24) rfl
theorem iX7_isOrderOf_43 : rx_ins mX7_isOrderOf 43 = some (2, 44, 0, 2, 0, []) := rx_at tbX7_isOrderOf ndX7_isOrderOf (j := 27) rfl
theorem iX7_isOrderOf_44 : rx_ins mX7_isOrderOf 44 = some (1, 45, 1, 0, 0, []) := rx_at tbX7_isOrderOf ndX7_isOrderOf (j := 28) rfl
theorem iX7_isOrderOf_45 : rx_ins mX7_isOrderOf 45 = some (2, 47, 1, 4, 0, []) := rx_at tbX7_isOrderOf ndX7_isOrderOf (j := 29) rfl
theorem iX7_isOrderOf_47 : rx_ins mX7_isOrderOf 47 = some (7, 48, 0, 6, 0, []) := rx_at tbX7_isOrderOf ndX7_isOrderOf (j := 30) rfl
theorem iX7_isOrderOf_48 : rx_ins mX7_isOrderOf 48 = some (7, 49, 0, 4, 0, []) := rx_at tbX7_isOrderOf ndX7_isOrderOf (j := 31) rfl
theorem iX7_isOrderOf_49 : rx_ins mX7_isOrderOf 49 = some (4, 50, 0, 2, 0, []) := rx_at tbX7_isOrderOf ndX7_isOrderOf (j := 32) rfl
theorem iX7_isOrderOf_50 : rx_ins mX7_isOrderOf 50 = some (6, 53, 1, 3, 0, []) := rx_at tbX7_isOrderOf ndX7_isOrderOf (j := 33) rfl
theorem iX7_isOrderOf_53 : rx_ins mX7_isOrderOf 53 = some (15, 56, (-49), 0, 4, []) := rx_at tbX7_isOrderOf ndX7_isOrderOf (j := 34) rfl
theorem iX8_refusalAs_0 : rx_ins mX8_refusalAs 0 = some (3, 1, 0, 0, 0, []) := rx_at tbX8_refusalAs ndX8_refusalAs (j := 0) rfl
theorem iX8_refusalAs_1 : rx_ins mX8_refusalAs 1 = some (17, 4, 0, 8, 0, [(9, 68)]) := rx_at tbX8_refusalAs ndX8_refusalAs (j := 1) rfl
theorem iX8_refusalAs_4 : rx_ins mX8_refusalAs 4 = some (13, 7, 6, 1, 10, []) := rx_at tbX8_refusalAs ndX8_refusalAs (j := 2) rfl
theorem iX8_refusalAs_10 : rx_ins mX8_refusalAs 10 = some (3, 11, 0, 0, 0, []) := rx_at tbX8_refusalAs ndX8_refusalAs (j := 5) rfl
theorem iX8_refusalAs_11 : rx_ins mX8_refusalAs 11 = some (17, 14, 0, 8, 0, [(9, 68)]) := rx_at tbX8_refusalAs ndX8_refusalAs (j := 6) rfl
theorem iX8_refusalAs_14 : rx_ins mX8_refusalAs 14 = some (2, 15, 0, 1, 0, []) := rx_at tbX8_refusalAs ndX8_refusalAs (j := 7) rfl
theorem iX8_refusalAs_15 : rx_ins mX8_refusalAs 15 = some (14, 18, 7, 1, 22, []) := rx_at tbX8_refusalAs ndX8_refusalAs (j := 8) rfl
theorem iX8_refusalAs_22 : rx_ins mX8_refusalAs 22 = some (1, 24, (-1000000012), 3, 8, [(32, 0)]) := rx_at tbX8_refusalAs ndX8_refusalAs (j := 11) rfl
theorem iX8_refusalAs_24 : rx_ins mX8_refusalAs 24 = some (29, 25, 0, 0, 0, []) := rx_at tbX8_refusalAs ndX8_refusalAs (j := 12) rfl
theorem iX8_refusalAs_18 : rx_ins mX8_refusalAs 18 = some (1, 19, 0, 0, 0, []) := rx_at tbX8_refusalAs ndX8_refusalAs (j := 9) rfl
theorem iX8_refusalAs_19 : rx_ins mX8_refusalAs 19 = some (15, 22, 5, 0, 24, []) := rx_at tbX8_refusalAs ndX8_refusalAs (j := 10) rfl
theorem iX8_refusalAs_7 : rx_ins mX8_refusalAs 7 = some (1, 9, (-1000000011), 3, 7, [(31, 0)]) := rx_at tbX8_refusalAs ndX8_refusalAs (j := 3) rfl
theorem iX8_refusalAs_9 : rx_ins mX8_refusalAs 9 = some (29, 10, 0, 0, 0, []) := rx_at tbX8_refusalAs ndX8_refusalAs (j := 4) rfl
theorem iX9_search_0 : rx_ins mX9_search 0 = some (3, 1, 0, 2, 0, []) := rx_at tbX9_search ndX9_search (j := 0) rfl
theorem iX9_search_1 : rx_ins mX9_search 1 = some (18, 4, 0, 0, 0, [(21, 69)]) := rx_at tbX9_search ndX9_search (j := 1) rfl
theorem iX9_search_4 : rx_ins mX9_search 4 = some (3, 5, 0, 1, 0, []) := rx_at tbX9_search ndX9_search (j := 2) rfl
theorem iX9_search_5 : rx_ins mX9_search 5 = some (17, 8, 0, 1, 12, [(27, 70)]) := rx_at tbX9_search ndX9_search (j := 3) rfl
theorem iX9_search_8 : rx_ins mX9_search 8 = some (1, 9, 2, 0, 0, []) := rx_at tbX9_search ndX9_search (j := 4) rfl
theorem iX9_search_9 : rx_ins mX9_search 9 = some (28, 12, 4, 36, 3, [(32, 143)]) := rx_at tbX9_search ndX9_search (j := 5) rfl
theorem iX9_search_12 : rx_ins mX9_search 12 = some (4, 13, 0, 3, 0, []) := rx_at tbX9_search ndX9_search (j := 6) rfl
theorem iX9_search_13 : rx_ins mX9_search 13 = some (1, 14, 0, 0, 0, []) := rx_at tbX9_search ndX9_search (j := 7) rfl
theorem iX9_search_14 : rx_ins mX9_search 14 = some (4, 16, 1, 4, 0, []) := rx_at tbX9_search ndX9_search (j := 8) rfl
theorem iX9_search_16 : rx_ins mX9_search 16 = some (3, 17, 0, 0, 0, []) := rx_at tbX9_search ndX9_search (j := 9) rfl
theorem iX9_search_17 : rx_ins mX9_search 17 = some (3, 18, 0, 2, 0, []) := rx_at tbX9_search ndX9_search (j := 10) rfl
theorem iX9_search_18 : rx_ins mX9_search 18 = some (3, 19, 0, 1, 0, []) := rx_at tbX9_search ndX9_search (j := 11) rfl
theorem iX9_search_19 : rx_ins mX9_search 19 = some (1, 20, 0, 0, 0, []) := rx_at tbX9_search ndX9_search (j := 12) rfl
theorem iX9_search_20 : rx_ins mX9_search 20 = some (1, 22, 2147483647, 3, 9, [(38, 0)]) := rx_at tbX9_search ndX9_search (j := 13) rfl
theorem iX9_search_22 : rx_ins mX9_search 22 = some (28, 25, 2, 3, 4, [(39, 144)]) := rx_at tbX9_search ndX9_search (j := 14) rfl
theorem iX9_search_25 : rx_ins mX9_search 25 = some (19, 28, 0, 9, 2, [(18, 71)]) := rx_at tbX9_search ndX9_search (j := 15) rfl
theorem iX9_search_28 : rx_ins mX9_search 28 = some (1, 29, 0, 0, 0, []) := rx_at tbX9_search ndX9_search (j := 16) rfl
theorem iX9_search_29 : rx_ins mX9_search 29 = some (4, 31, 1, 5, 0, []) := rx_at tbX9_search ndX9_search (j := 17) rfl
theorem iX9_search_31 : rx_ins mX9_search 31 = some (2, 33, 1, 5, 0, []) := rx_at tbX9_search ndX9_search (j := 18) rfl
theorem iX9_search_33 : rx_ins mX9_search 33 = some (3, 34, 0, 1, 0, []) := rx_at tbX9_search ndX9_search (j := 19) rfl
theorem iX9_search_34 : rx_ins mX9_search 34 = some (17, 37, 0, 1, 0, [(43, 72)]) := rx_at tbX9_search ndX9_search (j := 20) rfl
theorem iX9_search_37 : rx_ins mX9_search 37 = some (14, 40, 111, 3, 148, []) := rx_at tbX9_search ndX9_search (j := 21) rfl
theorem iX9_search_148 : rx_ins mX9_search 148 = some (2, 150, 1, 4, 0, []) := rx_at tbX9_search ndX9_search (j := 75) rfl
theorem iX9_search_150 : rx_ins mX9_search 150 = some (29, 151, 1, 0, 0, []) := rx_at tbX9_search ndX9_search (j := 76) rfl
theorem iX9_search_40 : rx_ins mX9_search 40 = some (2, 42, 1, 5, 0, []) := rx_at tbX9_search ndX9_search (j := 22) rfl
theorem iX9_search_42 : rx_ins mX9_search 42 = some (1, 43, 1, 0, 0, []) := rx_at tbX9_search ndX9_search (j := 23) rfl
theorem iX9_search_43 : rx_ins mX9_search 43 = some (7, 44, 0, 0, 0, []) := rx_at tbX9_search ndX9_search (j := 24) rfl
theorem iX9_search_44 : rx_ins mX9_search 44 = some (4, 46, 1, 6, 0, []) := rx_at tbX9_search ndX9_search (j := 25) rfl
theorem iX9_search_46 : rx_ins mX9_search 46 = some (2, 48, 1, 6, 0, []) := rx_at tbX9_search ndX9_search (j := 26) rfl
theorem iX9_search_48 : rx_ins mX9_search 48 = some (3, 49, 0, 1, 0, []) := rx_at tbX9_search ndX9_search (j := 27) rfl
theorem iX9_search_49 : rx_ins mX9_search 49 = some (17, 52, 0, 1, 0, [(43, 72)]) := rx_at tbX9_search ndX9_search (j := 28) rfl
theorem iX9_search_52 : rx_ins mX9_search 52 = some (14, 55, 90, 3, 142, []) := rx_at tbX9_search ndX9_search (j := 29) rfl
theorem iX9_search_142 : rx_ins mX9_search 142 = some (6, 145, 1, 5, 0, []) := rx_at tbX9_search ndX9_search (j := 73) rfl
theorem iX9_search_145 : rx_ins mX9_search 145 = some (15, 148, (-114), 0, 31, []) := rx_at tbX9_search ndX9_search (j := 74) rfl
theorem iX9_search_55 : rx_ins mX9_search 55 = some (2, 56, 0, 3, 0, []) := rx_at tbX9_search ndX9_search (j := 30) rfl
theorem iX9_search_56 : rx_ins mX9_search 56 = some (13, 59, 22, 2, 78, []) := rx_at tbX9_search ndX9_search (j := 31) rfl
theorem iX9_search_59 : rx_ins mX9_search 59 = some (3, 60, 0, 2, 0, []) := rx_at tbX9_search ndX9_search (j := 32) rfl
theorem iX9_search_60 : rx_ins mX9_search 60 = some (18, 63, 0, 0, 0, [(21, 69)]) := rx_at tbX9_search ndX9_search (j := 33) rfl
theorem iX9_search_63 : rx_ins mX9_search 63 = some (2, 64, 0, 3, 0, []) := rx_at tbX9_search ndX9_search (j := 34) rfl
theorem iX9_search_64 : rx_ins mX9_search 64 = some (2, 66, 1, 5, 0, []) := rx_at tbX9_search ndX9_search (j := 35) rfl
theorem iX9_search_66 : rx_ins mX9_search 66 = some (2, 68, 1, 6, 0, []) := rx_at tbX9_search ndX9_search (j := 36) rfl
theorem iX9_search_68 : rx_ins mX9_search 68 = some (1, 69, 0, 0, 0, []) := rx_at tbX9_search ndX9_search (j := 37) rfl
theorem iX9_search_69 : rx_ins mX9_search 69 = some (28, 72, 4, 37, 5, [(46, 145)]) := rx_at tbX9_search ndX9_search (j := 38) rfl
theorem iX9_search_72 : rx_ins mX9_search 72 = some (13, 75, 6, 1, 78, []) := rx_at tbX9_search ndX9_search (j := 39) rfl
theorem iX9_search_75 : rx_ins mX9_search 75 = some (15, 78, 61, 0, 136, []) := rx_at tbX9_search ndX9_search (j := 40) rfl
theorem iX9_search_78 : rx_ins mX9_search 78 = some (3, 79, 0, 1, 0, []) := rx_at tbX9_search ndX9_search (j := 41) rfl
theorem iX9_search_79 : rx_ins mX9_search 79 = some (2, 81, 1, 5, 0, []) := rx_at tbX9_search ndX9_search (j := 42) rfl
theorem iX9_search_81 : rx_ins mX9_search 81 = some (2, 83, 1, 6, 0, []) := rx_at tbX9_search ndX9_search (j := 43) rfl
theorem iX9_search_83 : rx_ins mX9_search 83 = some (28, 86, 3, 13, 3, [(50, 146)]) := rx_at tbX9_search ndX9_search (j := 44) rfl
theorem iX9_search_86 : rx_ins mX9_search 86 = some (3, 87, 0, 2, 0, []) := rx_at tbX9_search ndX9_search (j := 45) rfl
theorem iX9_search_87 : rx_ins mX9_search 87 = some (3, 88, 0, 1, 0, []) := rx_at tbX9_search ndX9_search (j := 46) rfl
theorem iX9_search_88 : rx_ins mX9_search 88 = some (1, 89, 0, 0, 0, []) := rx_at tbX9_search ndX9_search (j := 47) rfl
theorem iX9_search_89 : rx_ins mX9_search 89 = some (3, 90, 0, 0, 0, []) := rx_at tbX9_search ndX9_search (j := 48) rfl
theorem iX9_search_90 : rx_ins mX9_search 90 = some (17, 93, 0, 9, 2, [(18, 71)]) := rx_at tbX9_search ndX9_search (j := 49) rfl
theorem iX9_search_93 : rx_ins mX9_search 93 = some (28, 96, 2, 3, 4, [(39, 144)]) := rx_at tbX9_search ndX9_search (j := 50) rfl
theorem iX9_search_96 : rx_ins mX9_search 96 = some (4, 98, 1, 7, 0, []) := rx_at tbX9_search ndX9_search (j := 51) rfl
theorem iX9_search_98 : rx_ins mX9_search 98 = some (3, 99, 0, 1, 0, []) := rx_at tbX9_search ndX9_search (j := 52) rfl
theorem iX9_search_99 : rx_ins mX9_search 99 = some (2, 101, 1, 5, 0, []) := rx_at tbX9_search ndX9_search (j := 53) rfl
theorem iX9_search_101 : rx_ins mX9_search 101 = some (2, 103, 1, 6, 0, []) := rx_at tbX9_search ndX9_search (j := 54) rfl
theorem iX9_search_103 : rx_ins mX9_search 103 = some (28, 106, 3, 13, 3, [(50, 146)]) := rx_at tbX9_search ndX9_search (j := 55) rfl
theorem iX9_search_106 : rx_ins mX9_search 106 = some (2, 108, 1, 7, 0, []) := rx_at tbX9_search ndX9_search (j := 56) rfl
theorem iX9_search_108 : rx_ins mX9_search 108 = some (3, 109, 0, 0, 0, []) := rx_at tbX9_search ndX9_search (j := 57) rfl
theorem iX9_search_109 : rx_ins mX9_search 109 = some (17, 112, 0, 9, 2, [(18, 71)]) := rx_at tbX9_search ndX9_search (j := 58) rfl
theorem iX9_search_112 : rx_ins mX9_search 112 = some (14, 115, 24, 3, 136, []) := rx_at tbX9_search ndX9_search (j := 59) rfl
theorem iX9_search_115 : rx_ins mX9_search 115 = some (1, 116, 1, 0, 0, []) := rx_at tbX9_search ndX9_search (j := 60) rfl
theorem iX9_search_116 : rx_ins mX9_search 116 = some (4, 118, 1, 4, 0, []) := rx_at tbX9_search ndX9_search (j := 61) rfl
theorem iX9_search_118 : rx_ins mX9_search 118 = some (3, 119, 0, 0, 0, []) := rx_at tbX9_search ndX9_search (j := 62) rfl
theorem iX9_search_119 : rx_ins mX9_search 119 = some (2, 121, 1, 5, 0, []) := rx_at tbX9_search ndX9_search (j := 63) rfl
theorem iX9_search_121 : rx_ins mX9_search 121 = some (19, 124, 0, 9, 0, [(9, 73)]) := rx_at tbX9_search ndX9_search (j := 64) rfl
theorem iX9_search_124 : rx_ins mX9_search 124 = some (3, 125, 0, 0, 0, []) := rx_at tbX9_search ndX9_search (j := 65) rfl
theorem iX9_search_125 : rx_ins mX9_search 125 = some (2, 127, 1, 6, 0, []) := rx_at tbX9_search ndX9_search (j := 66) rfl
theorem iX9_search_127 : rx_ins mX9_search 127 = some (19, 130, 0, 9, 1, [(15, 74)]) := rx_at tbX9_search ndX9_search (j := 67) rfl
theorem iX9_search_130 : rx_ins mX9_search 130 = some (3, 131, 0, 0, 0, []) := rx_at tbX9_search ndX9_search (j := 68) rfl
theorem iX9_search_131 : rx_ins mX9_search 131 = some (2, 133, 1, 7, 0, []) := rx_at tbX9_search ndX9_search (j := 69) rfl
theorem iX9_search_133 : rx_ins mX9_search 133 = some (19, 136, 0, 9, 2, [(18, 71)]) := rx_at tbX9_search ndX9_search (j := 70) rfl
theorem iX9_search_136 : rx_ins mX9_search 136 = some (6, 139, 1, 6, 0, []) := rx_at tbX9_search ndX9_search (j := 71) rfl
theorem iX9_search_139 : rx_ins mX9_search 139 = some (15, 142, (-93), 0, 46, []) := rx_at tbX9_search ndX9_search (j := 72) rfl
theorem iX9_pair_0 : rx_ins mX9_pair 0 = some (1, 2, 10, 1, 0, []) := rx_at tbX9_pair ndX9_pair (j := 0) rfl
theorem iX9_pair_2 : rx_ins mX9_pair 2 = some (3, 3, 0, 0, 0, []) := rx_at tbX9_pair ndX9_pair (j := 1) rfl
theorem iX9_pair_3 : rx_ins mX9_pair 3 = some (17, 6, 0, 9, 0, [(9, 73)]) := rx_at tbX9_pair ndX9_pair (j := 2) rfl
theorem iX9_pair_6 : rx_ins mX9_pair 6 = some (7, 7, 0, 2, 0, []) := rx_at tbX9_pair ndX9_pair (j := 3) rfl
theorem iX9_pair_7 : rx_ins mX9_pair 7 = some (3, 8, 0, 0, 0, []) := rx_at tbX9_pair ndX9_pair (j := 4) rfl
theorem iX9_pair_8 : rx_ins mX9_pair 8 = some (17, 11, 0, 9, 1, [(15, 74)]) := rx_at tbX9_pair ndX9_pair (j := 5) rfl
theorem iX9_pair_11 : rx_ins mX9_pair 11 = some (7, 12, 0, 0, 0, []) := rx_at tbX9_pair ndX9_pair (j := 6) rfl
theorem iX9_pair_12 : rx_ins mX9_pair 12 = some (29, 13, 0, 0, 0, []) := rx_at tbX9_pair ndX9_pair (j := 7) rfl
theorem iJ7_fill_53178_0 : rx_ins mJ7_fill_53178 0 = some (1, 1, 0, 0, 0, []) := rx_at tbJ7_fill_53178 ndJ7_fill_53178 (j := 0) rfl
theorem iJ7_fill_53178_1 : rx_ins mJ7_fill_53178 1 = some (4, 2, 0, 2, 0, []) := rx_at tbJ7_fill_53178 ndJ7_fill_53178 (j := 1) rfl
theorem iJ7_fill_53178_2 : rx_ins mJ7_fill_53178 2 = some (3, 3, 0, 0, 0, []) := rx_at tbJ7_fill_53178 ndJ7_fill_53178 (j := 2) rfl
theorem iJ7_fill_53178_3 : rx_ins mJ7_fill_53178 3 = some (23, 4, 0, 0, 0, []) := rx_at tbJ7_fill_53178 ndJ7_fill_53178 (j := 3) rfl
theorem iJ7_fill_53178_4 : rx_ins mJ7_fill_53178 4 = some (4, 5, 0, 3, 0, []) := rx_at tbJ7_fill_53178 ndJ7_fill_53178 (j := 4) rfl
theorem iJ7_fill_53178_5 : rx_ins mJ7_fill_53178 5 = some (2, 6, 0, 2, 0, []) := rx_at tbJ7_fill_53178 ndJ7_fill_53178 (j := 5) rfl
theorem iJ7_fill_53178_6 : rx_ins mJ7_fill_53178 6 = some (2, 7, 0, 3, 0, []) := rx_at tbJ7_fill_53178 ndJ7_fill_53178 (j := 6) rfl
theorem iJ7_fill_53178_7 : rx_ins mJ7_fill_53178 7 = some (14, 10, 13, 3, 20, []) := rx_at tbJ7_fill_53178 ndJ7_fill_53178 (j := 7) rfl
theorem iJ7_fill_53178_20 : rx_ins mJ7_fill_53178 20 = some (30, 21, 0, 0, 0, []) := rx_at tbJ7_fill_53178 ndJ7_fill_53178 (j := 14) rfl
theorem iJ7_fill_53178_10 : rx_ins mJ7_fill_53178 10 = some (3, 11, 0, 0, 0, []) := rx_at tbJ7_fill_53178 ndJ7_fill_53178 (j := 8) rfl
theorem iJ7_fill_53178_11 : rx_ins mJ7_fill_53178 11 = some (2, 12, 0, 2, 0, []) := rx_at tbJ7_fill_53178 ndJ7_fill_53178 (j := 9) rfl
theorem iJ7_fill_53178_12 : rx_ins mJ7_fill_53178 12 = some (2, 13, 0, 1, 0, []) := rx_at tbJ7_fill_53178 ndJ7_fill_53178 (j := 10) rfl
theorem iJ7_fill_53178_13 : rx_ins mJ7_fill_53178 13 = some (21, 14, 0, 0, 0, []) := rx_at tbJ7_fill_53178 ndJ7_fill_53178 (j := 11) rfl
theorem iJ7_fill_53178_14 : rx_ins mJ7_fill_53178 14 = some (6, 17, 1, 2, 0, []) := rx_at tbJ7_fill_53178 ndJ7_fill_53178 (j := 12) rfl
theorem iJ7_fill_53178_17 : rx_ins mJ7_fill_53178 17 = some (15, 20, (-12), 0, 5, []) := rx_at tbJ7_fill_53178 ndJ7_fill_53178 (j := 13) rfl
set_option maxRecDepth 20000 in
set_option maxHeartbeats 4000000 in
theorem bX0_harmOf (L d : Nat) (A1 : Nat) (hA1 : rx_isO 1 A1 = true) (x2 : Int) (σ : rx_St) (K : Int → rx_St → Prop)
    (H : rx_CI L d mX2_lastOf [.inr 38, .inl (σ A1 12), .inl 0] σ (fun v2 σ1 => (0 ≤ x2 ∧ x2 < 18) ∧ (if 0 ≤ v2 then (rx_CI L d mX2_answer [.inr 38, .inl v2, .inl (σ1 (A1 + 9) x2), .inl (σ1 (A1 + 7) x2), .inl (σ1 (A1 + 8) x2)] σ1 (fun v6 σ5 => rx_CI L d mX10_within [.inl v6, .inl 99] σ5 (fun v8 σ7 => rx_CI L d mX10_harmAs [.inl (σ7 (A1 + 6) x2), .inl v8, .inl (σ1 (A1 + 9) x2)] σ7 (fun v10 σ9 => K v10 σ9)))) else (rx_CI L d mX10_harmAs [.inl (σ1 (A1 + 6) x2), .inl (σ1 (A1 + 9) x2), .inl (σ1 (A1 + 9) x2)] σ1 (fun v12 σ11 => K v12 σ11))))) :
    rx_CI L (d + 1) mX0_harmOf [.inr 37, .inr A1, .inl x2] σ K := by
  refine rx_CI.of (la := [some (.inr 37), some (.inr A1), some (.inl x2), none, none, none]) rfl ?_
  refine g_al iX0_harmOf_0 rfl ?_
  refine g_gr iX0_harmOf_1 fr_0_0_37 ?_
  refine g_al iX0_harmOf_4 rfl ?_
  refine g_gf (kI := 12) rfl iX0_harmOf_5 (fi_1_12 hA1) ?_
  refine g_c iX0_harmOf_8 ?_
  refine g_ci (as := [.inr 38, .inl (σ A1 12), .inl 0]) (rest := []) iX0_harmOf_9 rfl rfl (Nat.le_of_ble_eq_true rfl) (Or.inr ⟨_, _, rfl, oo_2_38⟩) (rx_CI.imp H (fun v2 σ1 H => ?_))
  refine g_is iX0_harmOf_12 (Nat.le_of_ble_eq_true rfl) ?_
  refine rx_Go.ls (la := [some (.inr 37), some (.inr A1), some (.inl x2), some (.inl v2), none, none]) rfl ?_
  refine g_al iX0_harmOf_13 rfl ?_
  refine g_gr iX0_harmOf_14 (fr_1_10 hA1) ?_
  refine g_il iX0_harmOf_17 rfl ?_
  obtain ⟨o3, H⟩ := H
  refine g_ld iX0_harmOf_18 (ln_1_o9 L hA1).1 o3 ?_
  refine g_is iX0_harmOf_19 (Nat.le_of_ble_eq_true rfl) ?_
  refine rx_Go.ls (la := [some (.inr 37), some (.inr A1), some (.inl x2), some (.inl v2), some (.inl (σ1 (A1 + 9) x2)), none]) rfl ?_
  refine g_il iX0_harmOf_21 rfl ?_
  by_cases c4 : 0 ≤ v2
  · rw [if_pos c4] at H
    refine g_if3t iX0_harmOf_22 c4 ?_
    refine g_al iX0_harmOf_30 rfl ?_
    refine g_gr iX0_harmOf_31 fr_0_0_37 ?_
    refine g_il iX0_harmOf_34 rfl ?_
    refine g_il iX0_harmOf_35 rfl ?_
    refine g_al iX0_harmOf_37 rfl ?_
    refine g_gr iX0_harmOf_38 (fr_1_8 hA1) ?_
    refine g_il iX0_harmOf_41 rfl ?_
    refine g_ld iX0_harmOf_42 (ln_1_o7 L hA1).1 o3 ?_
    refine g_al iX0_harmOf_43 rfl ?_
    refine g_gr iX0_harmOf_44 (fr_1_9 hA1) ?_
    refine g_il iX0_harmOf_47 rfl ?_
    refine g_ld iX0_harmOf_48 (ln_1_o8 L hA1).1 o3 ?_
    refine g_ci (as := [.inr 38, .inl v2, .inl (σ1 (A1 + 9) x2), .inl (σ1 (A1 + 7) x2), .inl (σ1 (A1 + 8) x2)]) (rest := []) iX0_harmOf_49 rfl rfl (Nat.le_of_ble_eq_true rfl) (Or.inr ⟨_, _, rfl, oo_2_38⟩) (rx_CI.imp H (fun v6 σ5 H => ?_))
    refine g_c iX0_harmOf_52 ?_
    refine g_ci (as := [.inl v6, .inl 99]) (rest := []) iX0_harmOf_54 rfl rfl (Nat.le_of_ble_eq_true rfl) (Or.inl (by decide)) (rx_CI.imp H (fun v8 σ7 H => ?_))
    refine g_is iX0_harmOf_57 (Nat.le_of_ble_eq_true rfl) ?_
    refine rx_Go.ls (la := [some (.inr 37), some (.inr A1), some (.inl x2), some (.inl v2), some (.inl (σ1 (A1 + 9) x2)), some (.inl v8)]) rfl ?_
    refine g_al iX0_harmOf_59 rfl ?_
    refine g_gr iX0_harmOf_60 (fr_1_7 hA1) ?_
    refine g_il iX0_harmOf_63 rfl ?_
    refine g_ld iX0_harmOf_64 (ln_1_o6 L hA1).1 o3 ?_
    refine g_il iX0_harmOf_65 rfl ?_
    refine g_il iX0_harmOf_67 rfl ?_
    refine g_ci (as := [.inl (σ7 (A1 + 6) x2), .inl v8, .inl (σ1 (A1 + 9) x2)]) (rest := []) iX0_harmOf_69 rfl rfl (Nat.le_of_ble_eq_true rfl) (Or.inl (by decide)) (rx_CI.imp H (fun v10 σ9 H => ?_))
    exact g_ri iX0_harmOf_72 (Or.inl rfl) H
  · rw [if_neg c4] at H
    refine g_if3f iX0_harmOf_22 c4 ?_
    refine g_il iX0_harmOf_25 rfl ?_
    refine g_goto iX0_harmOf_27 ?_
    refine g_is iX0_harmOf_57 (Nat.le_of_ble_eq_true rfl) ?_
    refine rx_Go.ls (la := [some (.inr 37), some (.inr A1), some (.inl x2), some (.inl v2), some (.inl (σ1 (A1 + 9) x2)), some (.inl (σ1 (A1 + 9) x2))]) rfl ?_
    refine g_al iX0_harmOf_59 rfl ?_
    refine g_gr iX0_harmOf_60 (fr_1_7 hA1) ?_
    refine g_il iX0_harmOf_63 rfl ?_
    refine g_ld iX0_harmOf_64 (ln_1_o6 L hA1).1 o3 ?_
    refine g_il iX0_harmOf_65 rfl ?_
    refine g_il iX0_harmOf_67 rfl ?_
    refine g_ci (as := [.inl (σ1 (A1 + 6) x2), .inl (σ1 (A1 + 9) x2), .inl (σ1 (A1 + 9) x2)]) (rest := []) iX0_harmOf_69 rfl rfl (Nat.le_of_ble_eq_true rfl) (Or.inl (by decide)) (rx_CI.imp H (fun v12 σ11 H => ?_))
    exact g_ri iX0_harmOf_72 (Or.inl rfl) H
set_option maxRecDepth 20000 in
set_option maxHeartbeats 4000000 in
theorem bX0_reckon (L d : Nat) (A1 : Nat) (hA1 : rx_isO 1 A1 = true) (σ : rx_St) (K : rx_St → Prop)
    (H : rx_Go L (d + 1) mX0_reckon 2 [some (.inr 37), some (.inr A1), some (.inl 0), none, none, none] [] σ (rx_PV K)) :
    rx_CV L (d + 1) mX0_reckon [.inr 37, .inr A1] σ K := by
  refine rx_CV.of (la := [some (.inr 37), some (.inr A1), none, none, none, none]) rfl ?_
  refine g_c iX0_reckon_0 ?_
  refine g_is iX0_reckon_1 (Nat.le_of_ble_eq_true rfl) ?_
  refine rx_Go.ls (la := [some (.inr 37), some (.inr A1), some (.inl 0), none, none, none]) rfl ?_
  exact H
set_option maxRecDepth 20000 in
set_option maxHeartbeats 4000000 in
theorem bX0_reckon_2 (L d : Nat) (A1 : Nat) (hA1 : rx_isO 1 A1 = true) (x2 : Int) (q3 : Option rx_V) (q4 : Option rx_V) (q5 : Option rx_V) (σ : rx_St) (K : rx_St → Prop)
    (H : if (σ A1 6) ≤ x2 then (rx_CI L d mX2_lastOf [.inr 38, .inl (σ A1 12), .inl 1] σ (fun v3 σ2 => rx_Go L (d + 1) mX0_reckon 43 [some (.inr 37), some (.inr A1), some (.inl v3), some (.inl 0), q4, q5] [] σ2 (rx_PV K))) else (rx_CI L d mX0_harmOf [.inr 37, .inr A1, .inl x2] σ (fun v5 σ4 => (0 ≤ x2 ∧ x2 < 18) ∧ (rx_Go L (d + 1) mX0_reckon 2 [some (.inr 37), some (.inr A1), some (.inl (rx_w (x2 + 1))), q3, q4, q5] [] (rx_up σ4 58 x2 v5) (rx_PV K))))) :
    rx_Go L (d + 1) mX0_reckon 2 [some (.inr 37), some (.inr A1), some (.inl x2), q3, q4, q5] [] σ (rx_PV K) := by
  refine g_il iX0_reckon_2 rfl ?_
  refine g_al iX0_reckon_3 rfl ?_
  refine g_gf (kI := 6) rfl iX0_reckon_4 (fi_1_6 hA1) ?_
  by_cases c1 : (σ A1 6) ≤ x2
  · rw [if_pos c1] at H
    refine g_ic3t iX0_reckon_7 c1 ?_
    refine g_al iX0_reckon_28 rfl ?_
    refine g_gr iX0_reckon_29 fr_0_0_37 ?_
    refine g_al iX0_reckon_32 rfl ?_
    refine g_gf (kI := 12) rfl iX0_reckon_33 (fi_1_12 hA1) ?_
    refine g_c iX0_reckon_36 ?_
    refine g_ci (as := [.inr 38, .inl (σ A1 12), .inl 1]) (rest := []) iX0_reckon_37 rfl rfl (Nat.le_of_ble_eq_true rfl) (Or.inr ⟨_, _, rfl, oo_2_38⟩) (rx_CI.imp H (fun v3 σ2 H => ?_))
    refine g_is iX0_reckon_40 (Nat.le_of_ble_eq_true rfl) ?_
    refine rx_Go.ls (la := [some (.inr 37), some (.inr A1), some (.inl v3), q3, q4, q5]) rfl ?_
    refine g_c iX0_reckon_41 ?_
    refine g_is iX0_reckon_42 (Nat.le_of_ble_eq_true rfl) ?_
    refine rx_Go.ls (la := [some (.inr 37), some (.inr A1), some (.inl v3), some (.inl 0), q4, q5]) rfl ?_
    exact H
  · rw [if_neg c1] at H
    refine g_ic3f iX0_reckon_7 c1 ?_
    refine g_al iX0_reckon_10 rfl ?_
    refine g_gr iX0_reckon_11 fr_0_1_37 ?_
    refine g_il iX0_reckon_14 rfl ?_
    refine g_al iX0_reckon_15 rfl ?_
    refine g_al iX0_reckon_16 rfl ?_
    refine g_il iX0_reckon_17 rfl ?_
    refine g_ci (as := [.inr 37, .inr A1, .inl x2]) (rest := [.inl x2, .inr 58]) iX0_reckon_18 rfl rfl (Nat.le_of_ble_eq_true rfl) (Or.inr ⟨_, _, rfl, oo_0_37⟩) (rx_CI.imp H (fun v5 σ4 H => ?_))
    obtain ⟨o6, H⟩ := H
    refine g_st iX0_reckon_21 (ln_58 L) (by decide) o6 rfl ?_
    refine g_ii iX0_reckon_22 rfl ?_
    refine rx_Go.ls (la := [some (.inr 37), some (.inr A1), some (.inl (rx_w (x2 + 1))), q3, q4, q5]) rfl ?_
    refine g_goto iX0_reckon_25 ?_
    exact H
set_option maxRecDepth 20000 in
set_option maxHeartbeats 4000000 in
theorem bX0_reckon_43 (L d : Nat) (A1 : Nat) (hA1 : rx_isO 1 A1 = true) (x2 : Int) (x3 : Int) (q4 : Option rx_V) (q5 : Option rx_V) (σ : rx_St) (K : rx_St → Prop)
    (H : if (σ A1 6) ≤ x3 then (K σ) else (rx_Go L (d + 1) mX0_reckon 56 [some (.inr 37), some (.inr A1), some (.inl x2), some (.inl x3), some (.inl (rx_w (x3 + 1))), q5] [] σ (rx_PV K))) :
    rx_Go L (d + 1) mX0_reckon 43 [some (.inr 37), some (.inr A1), some (.inl x2), some (.inl x3), q4, q5] [] σ (rx_PV K) := by
  refine g_il iX0_reckon_43 rfl ?_
  refine g_al iX0_reckon_44 rfl ?_
  refine g_gf (kI := 6) rfl iX0_reckon_45 (fi_1_6 hA1) ?_
  by_cases c7 : (σ A1 6) ≤ x3
  · rw [if_pos c7] at H
    refine g_ic3t iX0_reckon_48 c7 ?_
    exact g_rv iX0_reckon_157 H
  · rw [if_neg c7] at H
    refine g_ic3f iX0_reckon_48 c7 ?_
    refine g_il iX0_reckon_51 rfl ?_
    refine g_c iX0_reckon_52 ?_
    refine g_add iX0_reckon_53 ?_
    refine g_is iX0_reckon_54 (Nat.le_of_ble_eq_true rfl) ?_
    refine rx_Go.ls (la := [some (.inr 37), some (.inr A1), some (.inl x2), some (.inl x3), some (.inl (rx_w (x3 + 1))), q5]) rfl ?_
    exact H
set_option maxRecDepth 20000 in
set_option maxHeartbeats 4000000 in
theorem bX0_reckon_56 (L d : Nat) (A1 : Nat) (hA1 : rx_isO 1 A1 = true) (x2 : Int) (x3 : Int) (x4 : Int) (q5 : Option rx_V) (σ : rx_St) (K : rx_St → Prop)
    (H : if (σ A1 6) ≤ x4 then (rx_Go L (d + 1) mX0_reckon 43 [some (.inr 37), some (.inr A1), some (.inl x2), some (.inl (rx_w (x3 + 1))), some (.inl x4), q5] [] σ (rx_PV K)) else (if 0 ≤ x2 then ((0 ≤ x3 ∧ x3 < 18) ∧ ((0 ≤ x4 ∧ x4 < 18) ∧ (rx_CI L d mX2_answer [.inr 38, .inl x2, .inl (σ 58 x3), .inl (σ 58 x4), .inl 0] σ (fun v13 σ12 => rx_Go L (d + 1) mX0_reckon 110 [some (.inr 37), some (.inr A1), some (.inl x2), some (.inl x3), some (.inl x4), some (.inl v13)] [] σ12 (rx_PV K))))) else ((0 ≤ x3 ∧ x3 < 18) ∧ ((0 ≤ x4 ∧ x4 < 18) ∧ (rx_Go L (d + 1) mX0_reckon 110 [some (.inr 37), some (.inr A1), some (.inl x2), some (.inl x3), some (.inl x4), some (.inl (rx_w ((σ 58 x3) + (σ 58 x4))))] [] σ (rx_PV K)))))) :
    rx_Go L (d + 1) mX0_reckon 56 [some (.inr 37), some (.inr A1), some (.inl x2), some (.inl x3), some (.inl x4), q5] [] σ (rx_PV K) := by
  refine g_il iX0_reckon_56 rfl ?_
  refine g_al iX0_reckon_58 rfl ?_
  refine g_gf (kI := 6) rfl iX0_reckon_59 (fi_1_6 hA1) ?_
  by_cases c8 : (σ A1 6) ≤ x4
  · rw [if_pos c8] at H
    refine g_ic3t iX0_reckon_62 c8 ?_
    refine g_ii iX0_reckon_151 rfl ?_
    refine rx_Go.ls (la := [some (.inr 37), some (.inr A1), some (.inl x2), some (.inl (rx_w (x3 + 1))), some (.inl x4), q5]) rfl ?_
    refine g_goto iX0_reckon_154 ?_
    exact H
  · rw [if_neg c8] at H
    refine g_ic3f iX0_reckon_62 c8 ?_
    refine g_il iX0_reckon_65 rfl ?_
    by_cases c9 : 0 ≤ x2
    · rw [if_pos c9] at H
      refine g_if3t iX0_reckon_66 c9 ?_
      refine g_al iX0_reckon_86 rfl ?_
      refine g_gr iX0_reckon_87 fr_0_0_37 ?_
      refine g_il iX0_reckon_90 rfl ?_
      refine g_al iX0_reckon_91 rfl ?_
      refine g_gr iX0_reckon_92 fr_0_1_37 ?_
      refine g_il iX0_reckon_95 rfl ?_
      obtain ⟨o10, H⟩ := H
      refine g_ld iX0_reckon_96 (ln_58 L) o10 ?_
      refine g_al iX0_reckon_97 rfl ?_
      refine g_gr iX0_reckon_98 fr_0_1_37 ?_
      refine g_il iX0_reckon_101 rfl ?_
      obtain ⟨o11, H⟩ := H
      refine g_ld iX0_reckon_103 (ln_58 L) o11 ?_
      refine g_c iX0_reckon_104 ?_
      refine g_ci (as := [.inr 38, .inl x2, .inl (σ 58 x3), .inl (σ 58 x4), .inl 0]) (rest := []) iX0_reckon_105 rfl rfl (Nat.le_of_ble_eq_true rfl) (Or.inr ⟨_, _, rfl, oo_2_38⟩) (rx_CI.imp H (fun v13 σ12 H => ?_))
      refine g_is iX0_reckon_108 (Nat.le_of_ble_eq_true rfl) ?_
      refine rx_Go.ls (la := [some (.inr 37), some (.inr A1), some (.inl x2), some (.inl x3), some (.inl x4), some (.inl v13)]) rfl ?_
      exact H
    · rw [if_neg c9] at H
      refine g_if3f iX0_reckon_66 c9 ?_
      refine g_al iX0_reckon_69 rfl ?_
      refine g_gr iX0_reckon_70 fr_0_1_37 ?_
      refine g_il iX0_reckon_73 rfl ?_
      obtain ⟨o14, H⟩ := H
      refine g_ld iX0_reckon_74 (ln_58 L) o14 ?_
      refine g_al iX0_reckon_75 rfl ?_
      refine g_gr iX0_reckon_76 fr_0_1_37 ?_
      refine g_il iX0_reckon_79 rfl ?_
      obtain ⟨o15, H⟩ := H
      refine g_ld iX0_reckon_81 (ln_58 L) o15 ?_
      refine g_add iX0_reckon_82 ?_
      refine g_goto iX0_reckon_83 ?_
      refine g_is iX0_reckon_108 (Nat.le_of_ble_eq_true rfl) ?_
      refine rx_Go.ls (la := [some (.inr 37), some (.inr A1), some (.inl x2), some (.inl x3), some (.inl x4), some (.inl (rx_w ((σ 58 x3) + (σ 58 x4))))]) rfl ?_
      exact H
set_option maxRecDepth 20000 in
set_option maxHeartbeats 4000000 in
theorem bX0_reckon_110 (L d : Nat) (A1 : Nat) (hA1 : rx_isO 1 A1 = true) (x2 : Int) (x3 : Int) (x4 : Int) (x5 : Int) (σ : rx_St) (K : rx_St → Prop)
    (H : (0 ≤ x3 ∧ x3 < 18) ∧ ∀ A16 : Nat, A16 = 60 + x3.toNat → rx_len L 0 A16 = 18 ∧ A16 < 159 → (rx_CI L d mX10_within [.inl x5, .inl 999] σ (fun v19 σ18 => (0 ≤ x4 ∧ x4 < 18) ∧ ((0 ≤ x4 ∧ x4 < 18) ∧ ∀ A21 : Nat, A21 = 60 + x4.toNat → rx_len L 0 A21 = 18 ∧ A21 < 159 → ((0 ≤ x3 ∧ x3 < 18) ∧ ∀ A23 : Nat, A23 = 60 + x3.toNat → rx_len L 0 A23 = 18 ∧ A23 < 159 → ((0 ≤ x3 ∧ x3 < 18) ∧ (rx_Go L (d + 1) mX0_reckon 56 [some (.inr 37), some (.inr A1), some (.inl x2), some (.inl x3), some (.inl (rx_w (x4 + 1))), some (.inl x5)] [] (rx_up (rx_up σ18 A16 x4 v19) A21 x3 ((rx_up σ18 A16 x4 v19) A23 x4)) (rx_PV K)))))))) :
    rx_Go L (d + 1) mX0_reckon 110 [some (.inr 37), some (.inr A1), some (.inl x2), some (.inl x3), some (.inl x4), some (.inl x5)] [] σ (rx_PV K) := by
  refine g_al iX0_reckon_110 rfl ?_
  refine g_gr iX0_reckon_111 fr_0_2_37 ?_
  refine g_il iX0_reckon_114 rfl ?_
  obtain ⟨o17, H⟩ := H
  refine g_aa iX0_reckon_115 (ae_59 L o17).1 ?_
  obtain ⟨A16, eA16⟩ : ∃ z, z = 60 + x3.toNat := ⟨_, rfl⟩
  have hA16 : rx_len L 0 A16 = 18 ∧ A16 < 159 := by rw [eA16]; exact (ae_59 L o17).2
  rw [← eA16]
  replace H := H A16 eA16 hA16
  refine g_il iX0_reckon_116 rfl ?_
  refine g_il iX0_reckon_118 rfl ?_
  refine g_c iX0_reckon_120 ?_
  refine g_ci (as := [.inl x5, .inl 999]) (rest := [.inl x4, .inr A16]) iX0_reckon_123 rfl rfl (Nat.le_of_ble_eq_true rfl) (Or.inl (by decide)) (rx_CI.imp H (fun v19 σ18 H => ?_))
  obtain ⟨o20, H⟩ := H
  refine g_st iX0_reckon_126 hA16.1 hA16.2 o20 rfl ?_
  refine g_al iX0_reckon_127 rfl ?_
  refine g_gr iX0_reckon_128 fr_0_2_37 ?_
  refine g_il iX0_reckon_131 rfl ?_
  obtain ⟨o22, H⟩ := H
  refine g_aa iX0_reckon_133 (ae_59 L o22).1 ?_
  obtain ⟨A21, eA21⟩ : ∃ z, z = 60 + x4.toNat := ⟨_, rfl⟩
  have hA21 : rx_len L 0 A21 = 18 ∧ A21 < 159 := by rw [eA21]; exact (ae_59 L o22).2
  rw [← eA21]
  replace H := H A21 eA21 hA21
  refine g_il iX0_reckon_134 rfl ?_
  refine g_al iX0_reckon_135 rfl ?_
  refine g_gr iX0_reckon_136 fr_0_2_37 ?_
  refine g_il iX0_reckon_139 rfl ?_
  obtain ⟨o24, H⟩ := H
  refine g_aa iX0_reckon_140 (ae_59 L o24).1 ?_
  obtain ⟨A23, eA23⟩ : ∃ z, z = 60 + x3.toNat := ⟨_, rfl⟩
  have hA23 : rx_len L 0 A23 = 18 ∧ A23 < 159 := by rw [eA23]; exact (ae_59 L o24).2
  rw [← eA23]
  replace H := H A23 eA23 hA23
  refine g_il iX0_reckon_141 rfl ?_
  refine g_ld iX0_reckon_143 hA23.1 o20 ?_
  obtain ⟨o25, H⟩ := H
  refine g_st iX0_reckon_144 hA21.1 hA21.2 o25 rfl ?_
  refine g_ii iX0_reckon_145 rfl ?_
  refine rx_Go.ls (la := [some (.inr 37), some (.inr A1), some (.inl x2), some (.inl x3), some (.inl (rx_w (x4 + 1))), some (.inl x5)]) rfl ?_
  refine g_goto iX0_reckon_148 ?_
  exact H
set_option maxRecDepth 20000 in
set_option maxHeartbeats 4000000 in
theorem bX0_sum (L d : Nat) (A1 : Nat) (hA1 : rx_isO 1 A1 = true) (x2 : Int) (x3 : Int) (σ : rx_St) (K : Int → rx_St → Prop)
    (H : rx_Go L (d + 1) mX0_sum 6 [some (.inr 37), some (.inr A1), some (.inl x2), some (.inl x3), some (.inl 0), some (.inl 0), none] [] σ (rx_PI K)) :
    rx_CI L (d + 1) mX0_sum [.inr 37, .inr A1, .inl x2, .inl x3] σ K := by
  refine rx_CI.of (la := [some (.inr 37), some (.inr A1), some (.inl x2), some (.inl x3), none, none, none]) rfl ?_
  refine g_c iX0_sum_0 ?_
  refine g_is iX0_sum_1 (Nat.le_of_ble_eq_true rfl) ?_
  refine rx_Go.ls (la := [some (.inr 37), some (.inr A1), some (.inl x2), some (.inl x3), some (.inl 0), none, none]) rfl ?_
  refine g_c iX0_sum_3 ?_
  refine g_is iX0_sum_4 (Nat.le_of_ble_eq_true rfl) ?_
  refine rx_Go.ls (la := [some (.inr 37), some (.inr A1), some (.inl x2), some (.inl x3), some (.inl 0), some (.inl 0), none]) rfl ?_
  exact H
set_option maxRecDepth 20000 in
set_option maxHeartbeats 4000000 in
theorem bX0_sum_6 (L d : Nat) (A1 : Nat) (hA1 : rx_isO 1 A1 = true) (x2 : Int) (x3 : Int) (x4 : Int) (x5 : Int) (q6 : Option rx_V) (σ : rx_St) (K : Int → rx_St → Prop)
    (H : if (σ A1 6) ≤ x5 then (K x4 σ) else (if x3 ≤ x4 then (K x4 σ) else (rx_Go L (d + 1) mX0_sum 27 [some (.inr 37), some (.inr A1), some (.inl x2), some (.inl x3), some (.inl x4), some (.inl x5), some (.inl (rx_w (x5 + 1)))] [] σ (rx_PI K)))) :
    rx_Go L (d + 1) mX0_sum 6 [some (.inr 37), some (.inr A1), some (.inl x2), some (.inl x3), some (.inl x4), some (.inl x5), q6] [] σ (rx_PI K) := by
  refine g_il iX0_sum_6 rfl ?_
  refine g_al iX0_sum_8 rfl ?_
  refine g_gf (kI := 6) rfl iX0_sum_9 (fi_1_6 hA1) ?_
  by_cases c1 : (σ A1 6) ≤ x5
  · rw [if_pos c1] at H
    refine g_ic3t iX0_sum_12 c1 ?_
    refine g_il iX0_sum_88 rfl ?_
    exact g_ri iX0_sum_90 (Or.inl rfl) H
  · rw [if_neg c1] at H
    refine g_ic3f iX0_sum_12 c1 ?_
    refine g_il iX0_sum_15 rfl ?_
    refine g_il iX0_sum_17 rfl ?_
    by_cases c2 : x3 ≤ x4
    · rw [if_pos c2] at H
      refine g_ic3t iX0_sum_18 c2 ?_
      refine g_il iX0_sum_88 rfl ?_
      exact g_ri iX0_sum_90 (Or.inl rfl) H
    · rw [if_neg c2] at H
      refine g_ic3f iX0_sum_18 c2 ?_
      refine g_il iX0_sum_21 rfl ?_
      refine g_c iX0_sum_23 ?_
      refine g_add iX0_sum_24 ?_
      refine g_is iX0_sum_25 (Nat.le_of_ble_eq_true rfl) ?_
      refine rx_Go.ls (la := [some (.inr 37), some (.inr A1), some (.inl x2), some (.inl x3), some (.inl x4), some (.inl x5), some (.inl (rx_w (x5 + 1)))]) rfl ?_
      exact H
set_option maxRecDepth 20000 in
set_option maxHeartbeats 4000000 in
theorem bX0_sum_27 (L d : Nat) (A1 : Nat) (hA1 : rx_isO 1 A1 = true) (x2 : Int) (x3 : Int) (x4 : Int) (x5 : Int) (x6 : Int) (σ : rx_St) (K : Int → rx_St → Prop)
    (H : if (σ A1 6) ≤ x6 then (rx_Go L (d + 1) mX0_sum 6 [some (.inr 37), some (.inr A1), some (.inl x2), some (.inl x3), some (.inl x4), some (.inl (rx_w (x5 + 1))), some (.inl x6)] [] σ (rx_PI K)) else ((0 ≤ x5 ∧ x5 < 18) ∧ ∀ A4 : Nat, A4 = 60 + x5.toNat → rx_len L 0 A4 = 18 ∧ A4 < 159 → ((0 ≤ x6 ∧ x6 < 18) ∧ (if (σ A4 x6) = 0 then (rx_Go L (d + 1) mX0_sum 27 [some (.inr 37), some (.inr A1), some (.inl x2), some (.inl x3), some (.inl x4), some (.inl x5), some (.inl (rx_w (x6 + 1)))] [] σ (rx_PI K)) else (rx_CI L d mX1_meet [.inr A1, .inl x2, .inl x5, .inl x6] σ (fun v9 σ8 => if v9 = 0 then (rx_Go L (d + 1) mX0_sum 27 [some (.inr 37), some (.inr A1), some (.inl x2), some (.inl x3), some (.inl x4), some (.inl x5), some (.inl (rx_w (x6 + 1)))] [] σ8 (rx_PI K)) else ((0 ≤ x5 ∧ x5 < 18) ∧ ∀ A11 : Nat, A11 = 60 + x5.toNat → rx_len L 0 A11 = 18 ∧ A11 < 159 → (rx_Go L (d + 1) mX0_sum 27 [some (.inr 37), some (.inr A1), some (.inl x2), some (.inl x3), some (.inl (rx_w (x4 + (σ8 A11 x6)))), some (.inl x5), some (.inl (rx_w (x6 + 1)))] [] σ8 (rx_PI K))))))))) :
    rx_Go L (d + 1) mX0_sum 27 [some (.inr 37), some (.inr A1), some (.inl x2), some (.inl x3), some (.inl x4), some (.inl x5), some (.inl x6)] [] σ (rx_PI K) := by
  refine g_il iX0_sum_27 rfl ?_
  refine g_al iX0_sum_29 rfl ?_
  refine g_gf (kI := 6) rfl iX0_sum_30 (fi_1_6 hA1) ?_
  by_cases c3 : (σ A1 6) ≤ x6
  · rw [if_pos c3] at H
    refine g_ic3t iX0_sum_33 c3 ?_
    refine g_ii iX0_sum_82 rfl ?_
    refine rx_Go.ls (la := [some (.inr 37), some (.inr A1), some (.inl x2), some (.inl x3), some (.inl x4), some (.inl (rx_w (x5 + 1))), some (.inl x6)]) rfl ?_
    refine g_goto iX0_sum_85 ?_
    exact H
  · rw [if_neg c3] at H
    refine g_ic3f iX0_sum_33 c3 ?_
    refine g_al iX0_sum_36 rfl ?_
    refine g_gr iX0_sum_37 fr_0_2_37 ?_
    refine g_il iX0_sum_40 rfl ?_
    obtain ⟨o5, H⟩ := H
    refine g_aa iX0_sum_42 (ae_59 L o5).1 ?_
    obtain ⟨A4, eA4⟩ : ∃ z, z = 60 + x5.toNat := ⟨_, rfl⟩
    have hA4 : rx_len L 0 A4 = 18 ∧ A4 < 159 := by rw [eA4]; exact (ae_59 L o5).2
    rw [← eA4]
    replace H := H A4 eA4 hA4
    refine g_il iX0_sum_43 rfl ?_
    obtain ⟨o6, H⟩ := H
    refine g_ld iX0_sum_45 hA4.1 o6 ?_
    by_cases c7 : (σ A4 x6) = 0
    · rw [if_pos c7] at H
      refine g_if0t iX0_sum_46 c7 ?_
      refine g_ii iX0_sum_76 rfl ?_
      refine rx_Go.ls (la := [some (.inr 37), some (.inr A1), some (.inl x2), some (.inl x3), some (.inl x4), some (.inl x5), some (.inl (rx_w (x6 + 1)))]) rfl ?_
      refine g_goto iX0_sum_79 ?_
      exact H
    · rw [if_neg c7] at H
      refine g_if0f iX0_sum_46 c7 ?_
      refine g_al iX0_sum_49 rfl ?_
      refine g_il iX0_sum_50 rfl ?_
      refine g_il iX0_sum_51 rfl ?_
      refine g_il iX0_sum_53 rfl ?_
      refine g_ci (as := [.inr A1, .inl x2, .inl x5, .inl x6]) (rest := []) iX0_sum_55 rfl rfl (Nat.le_of_ble_eq_true rfl) (Or.inr ⟨_, _, rfl, hA1⟩) (rx_CI.imp H (fun v9 σ8 H => ?_))
      by_cases c10 : v9 = 0
      · rw [if_pos c10] at H
        refine g_if0t iX0_sum_58 c10 ?_
        refine g_ii iX0_sum_76 rfl ?_
        refine rx_Go.ls (la := [some (.inr 37), some (.inr A1), some (.inl x2), some (.inl x3), some (.inl x4), some (.inl x5), some (.inl (rx_w (x6 + 1)))]) rfl ?_
        refine g_goto iX0_sum_79 ?_
        exact H
      · rw [if_neg c10] at H
        refine g_if0f iX0_sum_58 c10 ?_
        refine g_il iX0_sum_61 rfl ?_
        refine g_al iX0_sum_63 rfl ?_
        refine g_gr iX0_sum_64 fr_0_2_37 ?_
        refine g_il iX0_sum_67 rfl ?_
        obtain ⟨o12, H⟩ := H
        refine g_aa iX0_sum_69 (ae_59 L o12).1 ?_
        obtain ⟨A11, eA11⟩ : ∃ z, z = 60 + x5.toNat := ⟨_, rfl⟩
        have hA11 : rx_len L 0 A11 = 18 ∧ A11 < 159 := by rw [eA11]; exact (ae_59 L o12).2
        rw [← eA11]
        replace H := H A11 eA11 hA11
        refine g_il iX0_sum_70 rfl ?_
        refine g_ld iX0_sum_72 hA11.1 o6 ?_
        refine g_add iX0_sum_73 ?_
        refine g_is iX0_sum_74 (Nat.le_of_ble_eq_true rfl) ?_
        refine rx_Go.ls (la := [some (.inr 37), some (.inr A1), some (.inl x2), some (.inl x3), some (.inl (rx_w (x4 + (σ8 A11 x6)))), some (.inl x5), some (.inl x6)]) rfl ?_
        refine g_ii iX0_sum_76 rfl ?_
        refine rx_Go.ls (la := [some (.inr 37), some (.inr A1), some (.inl x2), some (.inl x3), some (.inl (rx_w (x4 + (σ8 A11 x6)))), some (.inl x5), some (.inl (rx_w (x6 + 1)))]) rfl ?_
        refine g_goto iX0_sum_79 ?_
        exact H
set_option maxRecDepth 20000 in
set_option maxHeartbeats 4000000 in
theorem bX0_straightSumOf (L d : Nat) (A1 : Nat) (hA1 : rx_isO 1 A1 = true) (x2 : Int) (σ : rx_St) (K : Int → rx_St → Prop)
    (H : rx_Go L (d + 1) mX0_straightSumOf 5 [some (.inr 37), some (.inr A1), some (.inl x2), some (.inl 0), some (.inl 0)] [] σ (rx_PI K)) :
    rx_CI L (d + 1) mX0_straightSumOf [.inr 37, .inr A1, .inl x2] σ K := by
  refine rx_CI.of (la := [some (.inr 37), some (.inr A1), some (.inl x2), none, none]) rfl ?_
  refine g_c iX0_straightSumOf_0 ?_
  refine g_is iX0_straightSumOf_1 (Nat.le_of_ble_eq_true rfl) ?_
  refine rx_Go.ls (la := [some (.inr 37), some (.inr A1), some (.inl x2), some (.inl 0), none]) rfl ?_
  refine g_c iX0_straightSumOf_2 ?_
  refine g_is iX0_straightSumOf_3 (Nat.le_of_ble_eq_true rfl) ?_
  refine rx_Go.ls (la := [some (.inr 37), some (.inr A1), some (.inl x2), some (.inl 0), some (.inl 0)]) rfl ?_
  exact H
set_option maxRecDepth 20000 in
set_option maxHeartbeats 4000000 in
theorem bX0_straightSumOf_5 (L d : Nat) (A1 : Nat) (hA1 : rx_isO 1 A1 = true) (x2 : Int) (x3 : Int) (x4 : Int) (σ : rx_St) (K : Int → rx_St → Prop)
    (H : if (σ A1 6) ≤ x4 then (K x3 σ) else (if x4 = x2 then (rx_Go L (d + 1) mX0_straightSumOf 5 [some (.inr 37), some (.inr A1), some (.inl x2), some (.inl x3), some (.inl (rx_w (x4 + 1)))] [] σ (rx_PI K)) else (rx_CI L d mX1_meet [.inr A1, .inl 0, .inl x2, .inl x4] σ (fun v4 σ3 => if v4 = 0 then (rx_Go L (d + 1) mX0_straightSumOf 5 [some (.inr 37), some (.inr A1), some (.inl x2), some (.inl x3), some (.inl (rx_w (x4 + 1)))] [] σ3 (rx_PI K)) else ((0 ≤ x2 ∧ x2 < 18) ∧ ∀ A6 : Nat, A6 = 60 + x2.toNat → rx_len L 0 A6 = 18 ∧ A6 < 159 → ((0 ≤ x4 ∧ x4 < 18) ∧ (rx_Go L (d + 1) mX0_straightSumOf 5 [some (.inr 37), some (.inr A1), some (.inl x2), some (.inl (rx_w (x3 + (σ3 A6 x4)))), some (.inl (rx_w (x4 + 1)))] [] σ3 (rx_PI K)))))))) :
    rx_Go L (d + 1) mX0_straightSumOf 5 [some (.inr 37), some (.inr A1), some (.inl x2), some (.inl x3), some (.inl x4)] [] σ (rx_PI K) := by
  refine g_il iX0_straightSumOf_5 rfl ?_
  refine g_al iX0_straightSumOf_7 rfl ?_
  refine g_gf (kI := 6) rfl iX0_straightSumOf_8 (fi_1_6 hA1) ?_
  by_cases c1 : (σ A1 6) ≤ x4
  · rw [if_pos c1] at H
    refine g_ic3t iX0_straightSumOf_11 c1 ?_
    refine g_il iX0_straightSumOf_49 rfl ?_
    exact g_ri iX0_straightSumOf_50 (Or.inl rfl) H
  · rw [if_neg c1] at H
    refine g_ic3f iX0_straightSumOf_11 c1 ?_
    refine g_il iX0_straightSumOf_14 rfl ?_
    refine g_il iX0_straightSumOf_16 rfl ?_
    by_cases c2 : x4 = x2
    · rw [if_pos c2] at H
      refine g_ic0t iX0_straightSumOf_17 c2 ?_
      refine g_ii iX0_straightSumOf_43 rfl ?_
      refine rx_Go.ls (la := [some (.inr 37), some (.inr A1), some (.inl x2), some (.inl x3), some (.inl (rx_w (x4 + 1)))]) rfl ?_
      refine g_goto iX0_straightSumOf_46 ?_
      exact H
    · rw [if_neg c2] at H
      refine g_ic0f iX0_straightSumOf_17 c2 ?_
      refine g_al iX0_straightSumOf_20 rfl ?_
      refine g_c iX0_straightSumOf_21 ?_
      refine g_il iX0_straightSumOf_22 rfl ?_
      refine g_il iX0_straightSumOf_23 rfl ?_
      refine g_ci (as := [.inr A1, .inl 0, .inl x2, .inl x4]) (rest := []) iX0_straightSumOf_25 rfl rfl (Nat.le_of_ble_eq_true rfl) (Or.inr ⟨_, _, rfl, hA1⟩) (rx_CI.imp H (fun v4 σ3 H => ?_))
      by_cases c5 : v4 = 0
      · rw [if_pos c5] at H
        refine g_if0t iX0_straightSumOf_28 c5 ?_
        refine g_ii iX0_straightSumOf_43 rfl ?_
        refine rx_Go.ls (la := [some (.inr 37), some (.inr A1), some (.inl x2), some (.inl x3), some (.inl (rx_w (x4 + 1)))]) rfl ?_
        refine g_goto iX0_straightSumOf_46 ?_
        exact H
      · rw [if_neg c5] at H
        refine g_if0f iX0_straightSumOf_28 c5 ?_
        refine g_il iX0_straightSumOf_31 rfl ?_
        refine g_al iX0_straightSumOf_32 rfl ?_
        refine g_gr iX0_straightSumOf_33 fr_0_2_37 ?_
        refine g_il iX0_straightSumOf_36 rfl ?_
        obtain ⟨o7, H⟩ := H
        refine g_aa iX0_straightSumOf_37 (ae_59 L o7).1 ?_
        obtain ⟨A6, eA6⟩ : ∃ z, z = 60 + x2.toNat := ⟨_, rfl⟩
        have hA6 : rx_len L 0 A6 = 18 ∧ A6 < 159 := by rw [eA6]; exact (ae_59 L o7).2
        rw [← eA6]
        replace H := H A6 eA6 hA6
        refine g_il iX0_straightSumOf_38 rfl ?_
        obtain ⟨o8, H⟩ := H
        refine g_ld iX0_straightSumOf_40 hA6.1 o8 ?_
        refine g_add iX0_straightSumOf_41 ?_
        refine g_is iX0_straightSumOf_42 (Nat.le_of_ble_eq_true rfl) ?_
        refine rx_Go.ls (la := [some (.inr 37), some (.inr A1), some (.inl x2), some (.inl (rx_w (x3 + (σ3 A6 x4)))), some (.inl x4)]) rfl ?_
        refine g_ii iX0_straightSumOf_43 rfl ?_
        refine rx_Go.ls (la := [some (.inr 37), some (.inr A1), some (.inl x2), some (.inl (rx_w (x3 + (σ3 A6 x4)))), some (.inl (rx_w (x4 + 1)))]) rfl ?_
        refine g_goto iX0_straightSumOf_46 ?_
        exact H
set_option maxRecDepth 20000 in
set_option maxHeartbeats 4000000 in
theorem bX2_put (L d : Nat) (x1 : Int) (σ : rx_St) (K : rx_St → Prop)
    (H : (0 ≤ x1 ∧ x1 < 14) ∧ ((0 ≤ x1 ∧ x1 < 14) ∧ ∀ A2 : Nat, A2 = 43 + x1.toNat → rx_len L 0 A2 = 96 ∧ A2 < 159 → (rx_cpOK ((rx_up (rx_up (rx_up σ 39 x1 (σ 34 1)) 40 x1 ((rx_up σ 39 x1 (σ 34 1)) 34 2)) 41 x1 ((rx_up (rx_up σ 39 x1 (σ 34 1)) 40 x1 ((rx_up σ 39 x1 (σ 34 1)) 34 2)) 34 3)) 34 3) 0 96 0 96 ∧ (K (rx_cp (rx_up (rx_up (rx_up σ 39 x1 (σ 34 1)) 40 x1 ((rx_up σ 39 x1 (σ 34 1)) 34 2)) 41 x1 ((rx_up (rx_up σ 39 x1 (σ 34 1)) 40 x1 ((rx_up σ 39 x1 (σ 34 1)) 34 2)) 34 3)) 35 0 A2 0 ((rx_up (rx_up (rx_up σ 39 x1 (σ 34 1)) 40 x1 ((rx_up σ 39 x1 (σ 34 1)) 34 2)) 41 x1 ((rx_up (rx_up σ 39 x1 (σ 34 1)) 40 x1 ((rx_up σ 39 x1 (σ 34 1)) 34 2)) 34 3)) 34 3)))))) :
    rx_CV L d mX2_put [.inr 38, .inl x1, .inr 34] σ K := by
  refine rx_CV.of (la := [some (.inr 38), some (.inl x1), some (.inr 34)]) rfl ?_
  refine g_al iX2_put_0 rfl ?_
  refine g_gr iX2_put_1 fr_2_0_38 ?_
  refine g_il iX2_put_4 rfl ?_
  refine g_al iX2_put_5 rfl ?_
  refine g_gf (kI := 1) rfl iX2_put_6 fi_5_1_34 ?_
  obtain ⟨o1, H⟩ := H
  refine g_st iX2_put_9 (ln_39 L) (by decide) o1 rfl ?_
  refine g_al iX2_put_10 rfl ?_
  refine g_gr iX2_put_11 fr_2_1_38 ?_
  refine g_il iX2_put_14 rfl ?_
  refine g_al iX2_put_15 rfl ?_
  refine g_gf (kI := 2) rfl iX2_put_16 fi_5_2_34 ?_
  refine g_st iX2_put_19 (ln_40 L) (by decide) o1 rfl ?_
  refine g_al iX2_put_20 rfl ?_
  refine g_gr iX2_put_21 fr_2_2_38 ?_
  refine g_il iX2_put_24 rfl ?_
  refine g_al iX2_put_25 rfl ?_
  refine g_gf (kI := 3) rfl iX2_put_26 fi_5_3_34 ?_
  refine g_st iX2_put_29 (ln_41 L) (by decide) o1 rfl ?_
  refine g_al iX2_put_30 rfl ?_
  refine g_gr iX2_put_31 fr_5_4_34 ?_
  refine g_c iX2_put_34 ?_
  refine g_al iX2_put_35 rfl ?_
  refine g_gr iX2_put_36 fr_2_3_38 ?_
  refine g_il iX2_put_39 rfl ?_
  obtain ⟨o3, H⟩ := H
  refine g_aa iX2_put_40 (ae_42 L o3).1 ?_
  obtain ⟨A2, eA2⟩ : ∃ z, z = 43 + x1.toNat := ⟨_, rfl⟩
  have hA2 : rx_len L 0 A2 = 96 ∧ A2 < 159 := by rw [eA2]; exact (ae_42 L o3).2
  rw [← eA2]
  replace H := H A2 eA2 hA2
  refine g_c iX2_put_41 ?_
  refine g_al iX2_put_42 rfl ?_
  refine g_gf (kI := 3) rfl iX2_put_43 fi_5_3_34 ?_
  obtain ⟨o4, H⟩ := H
  refine g_cp iX2_put_46 (ln_35 L) hA2.1 o4 ⟨(by decide), hA2.2⟩ ?_
  exact g_rv iX2_put_49 H
set_option maxRecDepth 20000 in
set_option maxHeartbeats 4000000 in
theorem bX2_lastOf (L d : Nat) (x1 : Int) (x2 : Int) (σ : rx_St) (K : Int → rx_St → Prop)
    (H : rx_Go L d mX2_lastOf 9 [some (.inr 38), some (.inl x1), some (.inl x2), some (.inl (rx_w ((rx_mn x1 14) - 1)))] [] σ (rx_PI K)) :
    rx_CI L d mX2_lastOf [.inr 38, .inl x1, .inl x2] σ K := by
  refine rx_CI.of (la := [some (.inr 38), some (.inl x1), some (.inl x2), none]) rfl ?_
  refine g_il iX2_lastOf_0 rfl ?_
  refine g_c iX2_lastOf_1 ?_
  refine g_mn iX2_lastOf_3 (Nat.le_of_ble_eq_true rfl) ?_
  refine g_c iX2_lastOf_6 ?_
  refine g_sub iX2_lastOf_7 ?_
  refine g_is iX2_lastOf_8 (Nat.le_of_ble_eq_true rfl) ?_
  refine rx_Go.ls (la := [some (.inr 38), some (.inl x1), some (.inl x2), some (.inl (rx_w ((rx_mn x1 14) - 1)))]) rfl ?_
  exact H
set_option maxRecDepth 20000 in
set_option maxHeartbeats 4000000 in
theorem bX2_lastOf_9 (L d : Nat) (q1 : Option rx_V) (x2 : Int) (x3 : Int) (σ : rx_St) (K : Int → rx_St → Prop)
    (H : if x3 < 0 then (K (-1) σ) else ((0 ≤ x3 ∧ x3 < 14) ∧ (if (σ 39 x3) ≠ x2 then (rx_Go L d mX2_lastOf 9 [some (.inr 38), q1, some (.inl x2), some (.inl (rx_w (x3 + (-1))))] [] σ (rx_PI K)) else (K x3 σ)))) :
    rx_Go L d mX2_lastOf 9 [some (.inr 38), q1, some (.inl x2), some (.inl x3)] [] σ (rx_PI K) := by
  refine g_il iX2_lastOf_9 rfl ?_
  by_cases c1 : x3 < 0
  · rw [if_pos c1] at H
    refine g_if2t iX2_lastOf_10 c1 ?_
    refine g_c iX2_lastOf_31 ?_
    exact g_ri iX2_lastOf_32 (Or.inl rfl) H
  · rw [if_neg c1] at H
    refine g_if2f iX2_lastOf_10 c1 ?_
    refine g_al iX2_lastOf_13 rfl ?_
    refine g_gr iX2_lastOf_14 fr_2_0_38 ?_
    refine g_il iX2_lastOf_17 rfl ?_
    obtain ⟨o2, H⟩ := H
    refine g_ld iX2_lastOf_18 (ln_39 L) o2 ?_
    refine g_il iX2_lastOf_19 rfl ?_
    by_cases c3 : (σ 39 x3) ≠ x2
    · rw [if_pos c3] at H
      refine g_ic1t iX2_lastOf_20 c3 ?_
      refine g_ii iX2_lastOf_25 rfl ?_
      refine rx_Go.ls (la := [some (.inr 38), q1, some (.inl x2), some (.inl (rx_w (x3 + (-1))))]) rfl ?_
      refine g_goto iX2_lastOf_28 ?_
      exact H
    · rw [if_neg c3] at H
      refine g_ic1f iX2_lastOf_20 c3 ?_
      refine g_il iX2_lastOf_23 rfl ?_
      exact g_ri iX2_lastOf_24 (Or.inl rfl) H
set_option maxRecDepth 20000 in
set_option maxHeartbeats 4000000 in
theorem bX2_answer (L d : Nat) (x1 : Int) (x2 : Int) (x3 : Int) (x4 : Int) (σ : rx_St) (K : Int → rx_St → Prop)
    (H : (0 ≤ x1 ∧ x1 < 14) ∧ ∀ A1 : Nat, A1 = 43 + x1.toNat → rx_len L 0 A1 = 96 ∧ A1 < 159 → (rx_Go L (d + 1) mX2_answer 14 [some (.inr 38), some (.inl x1), some (.inl x2), some (.inl x3), some (.inl x4), some (.inr A1), some (.inl 0), some (.inl 0), none] [] σ (rx_PI K))) :
    rx_CI L (d + 1) mX2_answer [.inr 38, .inl x1, .inl x2, .inl x3, .inl x4] σ K := by
  refine rx_CI.of (la := [some (.inr 38), some (.inl x1), some (.inl x2), some (.inl x3), some (.inl x4), none, none, none, none]) rfl ?_
  refine g_al iX2_answer_0 rfl ?_
  refine g_gr iX2_answer_1 fr_2_3_38 ?_
  refine g_il iX2_answer_4 rfl ?_
  obtain ⟨o2, H⟩ := H
  refine g_aa iX2_answer_5 (ae_42 L o2).1 ?_
  obtain ⟨A1, eA1⟩ : ∃ z, z = 43 + x1.toNat := ⟨_, rfl⟩
  have hA1 : rx_len L 0 A1 = 96 ∧ A1 < 159 := by rw [eA1]; exact (ae_42 L o2).2
  rw [← eA1]
  replace H := H A1 eA1 hA1
  refine g_as iX2_answer_6 (Nat.le_of_ble_eq_true rfl) ?_
  refine rx_Go.ls (la := [some (.inr 38), some (.inl x1), some (.inl x2), some (.inl x3), some (.inl x4), some (.inr A1), none, none, none]) rfl ?_
  refine g_c iX2_answer_8 ?_
  refine g_is iX2_answer_9 (Nat.le_of_ble_eq_true rfl) ?_
  refine rx_Go.ls (la := [some (.inr 38), some (.inl x1), some (.inl x2), some (.inl x3), some (.inl x4), some (.inr A1), some (.inl 0), none, none]) rfl ?_
  refine g_c iX2_answer_11 ?_
  refine g_is iX2_answer_12 (Nat.le_of_ble_eq_true rfl) ?_
  refine rx_Go.ls (la := [some (.inr 38), some (.inl x1), some (.inl x2), some (.inl x3), some (.inl x4), some (.inr A1), some (.inl 0), some (.inl 0), none]) rfl ?_
  exact H
set_option maxRecDepth 20000 in
set_option maxHeartbeats 4000000 in
theorem bX2_answer_14 (L d : Nat) (x1 : Int) (x2 : Int) (x3 : Int) (x4 : Int) (A1 : Nat) (hA1 : rx_len L 0 A1 = 96 ∧ A1 < 159) (x6 : Int) (x7 : Int) (q8 : Option rx_V) (σ : rx_St) (K : Int → rx_St → Prop)
    (H : (0 ≤ x1 ∧ x1 < 14) ∧ (if (σ 41 x1) ≤ x7 then (K (σ 57 0) σ) else ((0 ≤ x7 ∧ x7 < 96) ∧ (if (σ A1 x7) < (-3) then (if (σ A1 x7) ≠ (-33) then (if x6 ≤ 1 then (rx_Go L (d + 1) mX2_answer 149 [some (.inr 38), some (.inl x1), some (.inl x2), some (.inl x3), some (.inl x4), some (.inr A1), some (.inl x6), some (.inl x7), some (.inl (σ A1 x7))] [] σ (rx_PI K)) else ((0 ≤ (rx_w ((rx_w (x6 + (-1))) - 1)) ∧ (rx_w ((rx_w (x6 + (-1))) - 1)) < 96) ∧ ((0 ≤ (rx_w (x6 + (-1))) ∧ (rx_w (x6 + (-1))) < 96) ∧ (rx_CI L d mX2_apply [.inl (rx_w (-(σ A1 x7))), .inl (σ 57 (rx_w ((rx_w (x6 + (-1))) - 1))), .inl (σ 57 (rx_w (x6 + (-1))))] σ (fun v12 σ11 => rx_Go L (d + 1) mX2_answer 149 [some (.inr 38), some (.inl x1), some (.inl x2), some (.inl x3), some (.inl x4), some (.inr A1), some (.inl (rx_w (x6 + (-1)))), some (.inl x7), some (.inl (σ A1 x7))] [] (rx_up σ11 57 (rx_w ((rx_w (x6 + (-1))) - 1)) v12) (rx_PI K)))))) else (if x6 ≤ 0 then (rx_Go L (d + 1) mX2_answer 149 [some (.inr 38), some (.inl x1), some (.inl x2), some (.inl x3), some (.inl x4), some (.inr A1), some (.inl x6), some (.inl x7), some (.inl (σ A1 x7))] [] σ (rx_PI K)) else ((0 ≤ (rx_w (x6 - 1)) ∧ (rx_w (x6 - 1)) < 96) ∧ (if (σ 57 (rx_w (x6 - 1))) ≠ 0 then (rx_Go L (d + 1) mX2_answer 106 [some (.inr 38), some (.inl x1), some (.inl x2), some (.inl x3), some (.inl x4), some (.inr A1), some (.inl x6), some (.inl x7), some (.inl (σ A1 x7))] [] (rx_up σ 57 (rx_w (x6 - 1)) 0) (rx_PI K)) else (rx_Go L (d + 1) mX2_answer 106 [some (.inr 38), some (.inl x1), some (.inl x2), some (.inl x3), some (.inl x4), some (.inr A1), some (.inl x6), some (.inl x7), some (.inl (σ A1 x7))] [] (rx_up σ 57 (rx_w (x6 - 1)) 1) (rx_PI K)))))) else (if 96 ≤ x6 then (rx_Go L (d + 1) mX2_answer 149 [some (.inr 38), some (.inl x1), some (.inl x2), some (.inl x3), some (.inl x4), some (.inr A1), some (.inl x6), some (.inl x7), some (.inl (σ A1 x7))] [] σ (rx_PI K)) else (rx_CI L d mX2_valueOf [.inl (σ A1 x7), .inl x2, .inl x3, .inl x4] σ (fun v18 σ17 => (0 ≤ x6 ∧ x6 < 96) ∧ (rx_Go L (d + 1) mX2_answer 149 [some (.inr 38), some (.inl x1), some (.inl x2), some (.inl x3), some (.inl x4), some (.inr A1), some (.inl (rx_w (x6 + 1))), some (.inl x7), some (.inl (σ A1 x7))] [] (rx_up σ17 57 x6 v18) (rx_PI K))))))))) :
    rx_Go L (d + 1) mX2_answer 14 [some (.inr 38), some (.inl x1), some (.inl x2), some (.inl x3), some (.inl x4), some (.inr A1), some (.inl x6), some (.inl x7), q8] [] σ (rx_PI K) := by
  refine g_il iX2_answer_14 rfl ?_
  refine g_al iX2_answer_16 rfl ?_
  refine g_gr iX2_answer_17 fr_2_2_38 ?_
  refine g_il iX2_answer_20 rfl ?_
  obtain ⟨o3, H⟩ := H
  refine g_ld iX2_answer_21 (ln_41 L) o3 ?_
  by_cases c4 : (σ 41 x1) ≤ x7
  · rw [if_pos c4] at H
    refine g_ic3t iX2_answer_22 c4 ?_
    refine g_al iX2_answer_155 rfl ?_
    refine g_gr iX2_answer_156 fr_2_4_38 ?_
    refine g_c iX2_answer_159 ?_
    refine g_ld iX2_answer_160 (ln_57 L) (by decide) ?_
    exact g_ri iX2_answer_161 (Or.inl rfl) H
  · rw [if_neg c4] at H
    refine g_ic3f iX2_answer_22 c4 ?_
    refine g_al iX2_answer_25 rfl ?_
    refine g_il iX2_answer_27 rfl ?_
    obtain ⟨o5, H⟩ := H
    refine g_ld iX2_answer_29 hA1.1 o5 ?_
    refine g_is iX2_answer_30 (Nat.le_of_ble_eq_true rfl) ?_
    refine rx_Go.ls (la := [some (.inr 38), some (.inl x1), some (.inl x2), some (.inl x3), some (.inl x4), some (.inr A1), some (.inl x6), some (.inl x7), some (.inl (σ A1 x7))]) rfl ?_
    refine g_il iX2_answer_32 rfl ?_
    refine g_c iX2_answer_34 ?_
    by_cases c6 : (σ A1 x7) < (-3)
    · rw [if_pos c6] at H
      refine g_ic2t iX2_answer_36 c6 ?_
      refine g_il iX2_answer_68 rfl ?_
      refine g_c iX2_answer_70 ?_
      by_cases c7 : (σ A1 x7) ≠ (-33)
      · rw [if_pos c7] at H
        refine g_ic1t iX2_answer_72 c7 ?_
        refine g_il iX2_answer_109 rfl ?_
        refine g_c iX2_answer_111 ?_
        by_cases c8 : x6 ≤ 1
        · rw [if_pos c8] at H
          refine g_ic5t iX2_answer_112 c8 ?_
          exact H
        · rw [if_neg c8] at H
          refine g_ic5f iX2_answer_112 c8 ?_
          refine g_ii iX2_answer_115 rfl ?_
          refine rx_Go.ls (la := [some (.inr 38), some (.inl x1), some (.inl x2), some (.inl x3), some (.inl x4), some (.inr A1), some (.inl (rx_w (x6 + (-1)))), some (.inl x7), some (.inl (σ A1 x7))]) rfl ?_
          refine g_al iX2_answer_118 rfl ?_
          refine g_gr iX2_answer_119 fr_2_4_38 ?_
          refine g_il iX2_answer_122 rfl ?_
          refine g_c iX2_answer_124 ?_
          refine g_sub iX2_answer_125 ?_
          refine g_il iX2_answer_126 rfl ?_
          refine g_neg iX2_answer_128 ?_
          refine g_al iX2_answer_129 rfl ?_
          refine g_gr iX2_answer_130 fr_2_4_38 ?_
          refine g_il iX2_answer_133 rfl ?_
          refine g_c iX2_answer_135 ?_
          refine g_sub iX2_answer_136 ?_
          obtain ⟨o9, H⟩ := H
          refine g_ld iX2_answer_137 (ln_57 L) o9 ?_
          refine g_al iX2_answer_138 rfl ?_
          refine g_gr iX2_answer_139 fr_2_4_38 ?_
          refine g_il iX2_answer_142 rfl ?_
          obtain ⟨o10, H⟩ := H
          refine g_ld iX2_answer_144 (ln_57 L) o10 ?_
          refine g_ci (as := [.inl (rx_w (-(σ A1 x7))), .inl (σ 57 (rx_w ((rx_w (x6 + (-1))) - 1))), .inl (σ 57 (rx_w (x6 + (-1))))]) (rest := [.inl (rx_w ((rx_w (x6 + (-1))) - 1)), .inr 57]) iX2_answer_145 rfl rfl (Nat.le_of_ble_eq_true rfl) (Or.inl (by decide)) (rx_CI.imp H (fun v12 σ11 H => ?_))
          refine g_st iX2_answer_148 (ln_57 L) (by decide) o9 rfl ?_
          exact H
      · rw [if_neg c7] at H
        refine g_ic1f iX2_answer_72 c7 ?_
        refine g_il iX2_answer_75 rfl ?_
        by_cases c13 : x6 ≤ 0
        · rw [if_pos c13] at H
          refine g_if5t iX2_answer_77 c13 ?_
          exact H
        · rw [if_neg c13] at H
          refine g_if5f iX2_answer_77 c13 ?_
          refine g_al iX2_answer_80 rfl ?_
          refine g_gr iX2_answer_81 fr_2_4_38 ?_
          refine g_il iX2_answer_84 rfl ?_
          refine g_c iX2_answer_86 ?_
          refine g_sub iX2_answer_87 ?_
          refine g_al iX2_answer_88 rfl ?_
          refine g_gr iX2_answer_89 fr_2_4_38 ?_
          refine g_il iX2_answer_92 rfl ?_
          refine g_c iX2_answer_94 ?_
          refine g_sub iX2_answer_95 ?_
          obtain ⟨o14, H⟩ := H
          refine g_ld iX2_answer_96 (ln_57 L) o14 ?_
          by_cases c15 : (σ 57 (rx_w (x6 - 1))) ≠ 0
          · rw [if_pos c15] at H
            refine g_if1t iX2_answer_97 c15 ?_
            refine g_c iX2_answer_104 ?_
            refine g_st iX2_answer_105 (ln_57 L) (by decide) o14 rfl ?_
            exact H
          · rw [if_neg c15] at H
            refine g_if1f iX2_answer_97 c15 ?_
            refine g_c iX2_answer_100 ?_
            refine g_goto iX2_answer_101 ?_
            refine g_st iX2_answer_105 (ln_57 L) (by decide) o14 rfl ?_
            exact H
    · rw [if_neg c6] at H
      refine g_ic2f iX2_answer_36 c6 ?_
      refine g_il iX2_answer_39 rfl ?_
      refine g_c iX2_answer_41 ?_
      by_cases c16 : 96 ≤ x6
      · rw [if_pos c16] at H
        refine g_ic3t iX2_answer_43 c16 ?_
        exact H
      · rw [if_neg c16] at H
        refine g_ic3f iX2_answer_43 c16 ?_
        refine g_al iX2_answer_46 rfl ?_
        refine g_gr iX2_answer_47 fr_2_4_38 ?_
        refine g_il iX2_answer_50 rfl ?_
        refine g_il iX2_answer_52 rfl ?_
        refine g_il iX2_answer_54 rfl ?_
        refine g_il iX2_answer_55 rfl ?_
        refine g_il iX2_answer_56 rfl ?_
        refine g_ci (as := [.inl (σ A1 x7), .inl x2, .inl x3, .inl x4]) (rest := [.inl x6, .inr 57]) iX2_answer_58 rfl rfl (Nat.le_of_ble_eq_true rfl) (Or.inl (by decide)) (rx_CI.imp H (fun v18 σ17 H => ?_))
        obtain ⟨o19, H⟩ := H
        refine g_st iX2_answer_61 (ln_57 L) (by decide) o19 rfl ?_
        refine g_ii iX2_answer_62 rfl ?_
        refine rx_Go.ls (la := [some (.inr 38), some (.inl x1), some (.inl x2), some (.inl x3), some (.inl x4), some (.inr A1), some (.inl (rx_w (x6 + 1))), some (.inl x7), some (.inl (σ A1 x7))]) rfl ?_
        refine g_goto iX2_answer_65 ?_
        exact H
set_option maxRecDepth 20000 in
set_option maxHeartbeats 4000000 in
theorem bX2_answer_149 (L d : Nat) (x1 : Int) (x2 : Int) (x3 : Int) (x4 : Int) (A1 : Nat) (hA1 : rx_len L 0 A1 = 96 ∧ A1 < 159) (x6 : Int) (x7 : Int) (q8 : Option rx_V) (σ : rx_St) (K : Int → rx_St → Prop)
    (H : rx_Go L (d + 1) mX2_answer 14 [some (.inr 38), some (.inl x1), some (.inl x2), some (.inl x3), some (.inl x4), some (.inr A1), some (.inl x6), some (.inl (rx_w (x7 + 1))), q8] [] σ (rx_PI K)) :
    rx_Go L (d + 1) mX2_answer 149 [some (.inr 38), some (.inl x1), some (.inl x2), some (.inl x3), some (.inl x4), some (.inr A1), some (.inl x6), some (.inl x7), q8] [] σ (rx_PI K) := by
  refine g_ii iX2_answer_149 rfl ?_
  refine rx_Go.ls (la := [some (.inr 38), some (.inl x1), some (.inl x2), some (.inl x3), some (.inl x4), some (.inr A1), some (.inl x6), some (.inl (rx_w (x7 + 1))), q8]) rfl ?_
  refine g_goto iX2_answer_152 ?_
  exact H
set_option maxRecDepth 20000 in
set_option maxHeartbeats 4000000 in
theorem bX2_answer_106 (L d : Nat) (x1 : Int) (x2 : Int) (x3 : Int) (x4 : Int) (A1 : Nat) (hA1 : rx_len L 0 A1 = 96 ∧ A1 < 159) (x6 : Int) (x7 : Int) (q8 : Option rx_V) (σ : rx_St) (K : Int → rx_St → Prop)
    (H : rx_Go L (d + 1) mX2_answer 149 [some (.inr 38), some (.inl x1), some (.inl x2), some (.inl x3), some (.inl x4), some (.inr A1), some (.inl x6), some (.inl x7), q8] [] σ (rx_PI K)) :
    rx_Go L (d + 1) mX2_answer 106 [some (.inr 38), some (.inl x1), some (.inl x2), some (.inl x3), some (.inl x4), some (.inr A1), some (.inl x6), some (.inl x7), q8] [] σ (rx_PI K) := by
  refine g_goto iX2_answer_106 ?_
  exact H
set_option maxRecDepth 20000 in
set_option maxHeartbeats 4000000 in
theorem bX2_valueOf (L d : Nat) (x0 : Int) (x1 : Int) (x2 : Int) (x3 : Int) (σ : rx_St) (K : Int → rx_St → Prop)
    (H : if x0 = (-3) then (K x3 σ) else (if x0 = (-2) then (K x2 σ) else (if x0 = (-1) then (K x1 σ) else (K x0 σ)))) :
    rx_CI L d mX2_valueOf [.inl x0, .inl x1, .inl x2, .inl x3] σ K := by
  refine rx_CI.of (la := [some (.inl x0), some (.inl x1), some (.inl x2), some (.inl x3)]) rfl ?_
  refine g_il iX2_valueOf_0 rfl ?_
  by_cases c1 : x0 = (-3)
  · rw [if_pos c1] at H
    refine g_sw iX2_valueOf_1 (by simp only [rx_sw]; rw [if_pos c1]) ?_
    refine g_il iX2_valueOf_32 rfl ?_
    exact g_ri iX2_valueOf_33 (Or.inl rfl) H
  · rw [if_neg c1] at H
    by_cases c2 : x0 = (-2)
    · rw [if_pos c2] at H
      refine g_sw iX2_valueOf_1 (by simp only [rx_sw]; rw [if_neg c1, if_pos c2]) ?_
      refine g_il iX2_valueOf_30 rfl ?_
      exact g_ri iX2_valueOf_31 (Or.inl rfl) H
    · rw [if_neg c2] at H
      by_cases c3 : x0 = (-1)
      · rw [if_pos c3] at H
        refine g_sw iX2_valueOf_1 (by simp only [rx_sw]; rw [if_neg c1, if_neg c2, if_pos c3]) ?_
        refine g_il iX2_valueOf_28 rfl ?_
        exact g_ri iX2_valueOf_29 (Or.inl rfl) H
      · rw [if_neg c3] at H
        refine g_sw (t := 34) iX2_valueOf_1 (by simp only [rx_sw, c1, c2, c3, if_false]) ?_
        refine g_il iX2_valueOf_34 rfl ?_
        exact g_ri iX2_valueOf_35 (Or.inl rfl) H
set_option maxRecDepth 20000 in
set_option maxHeartbeats 4000000 in
theorem bX2_apply (L d : Nat) (x0 : Int) (x1 : Int) (x2 : Int) (σ : rx_St) (K : Int → rx_St → Prop)
    (H : if x0 = 38 then (if x1 = 0 then (K 0 σ) else (if x2 = 0 then (K 0 σ) else (K 1 σ))) else (if x0 = 42 then (K (rx_w (x1 * x2)) σ) else (if x0 = 43 then (K (rx_w (x1 + x2)) σ) else (if x0 = 45 then (K (rx_w (x1 - x2)) σ) else (if x0 = 60 then (if x2 ≤ x1 then (K 0 σ) else (K 1 σ)) else (if x0 = 61 then (if x1 ≠ x2 then (K 0 σ) else (K 1 σ)) else (if x0 = 62 then (if x1 ≤ x2 then (K 0 σ) else (K 1 σ)) else (if x0 = 124 then (if x1 ≠ 0 then (K 1 σ) else (if x2 = 0 then (K 0 σ) else (K 1 σ))) else (if x2 ≠ 0 then (¬ x2 = 0 ∧ (K (rx_w (Int.tdiv x1 x2)) σ)) else (K 0 σ)))))))))) :
    rx_CI L d mX2_apply [.inl x0, .inl x1, .inl x2] σ K := by
  refine rx_CI.of (la := [some (.inl x0), some (.inl x1), some (.inl x2)]) rfl ?_
  refine g_il iX2_apply_0 rfl ?_
  by_cases c1 : x0 = 38
  · rw [if_pos c1] at H
    refine g_sw iX2_apply_1 (by simp only [rx_sw]; rw [if_pos c1]) ?_
    refine g_il iX2_apply_90 rfl ?_
    by_cases c2 : x1 = 0
    · rw [if_pos c2] at H
      refine g_if0t iX2_apply_91 c2 ?_
      refine g_c iX2_apply_102 ?_
      exact g_ri iX2_apply_103 (Or.inl rfl) H
    · rw [if_neg c2] at H
      refine g_if0f iX2_apply_91 c2 ?_
      refine g_il iX2_apply_94 rfl ?_
      by_cases c3 : x2 = 0
      · rw [if_pos c3] at H
        refine g_if0t iX2_apply_95 c3 ?_
        refine g_c iX2_apply_102 ?_
        exact g_ri iX2_apply_103 (Or.inl rfl) H
      · rw [if_neg c3] at H
        refine g_if0f iX2_apply_95 c3 ?_
        refine g_c iX2_apply_98 ?_
        refine g_goto iX2_apply_99 ?_
        exact g_ri iX2_apply_103 (Or.inl rfl) H
  · rw [if_neg c1] at H
    by_cases c4 : x0 = 42
    · rw [if_pos c4] at H
      refine g_sw iX2_apply_1 (by simp only [rx_sw]; rw [if_neg c1, if_pos c4]) ?_
      refine g_il iX2_apply_145 rfl ?_
      refine g_il iX2_apply_146 rfl ?_
      refine g_mul iX2_apply_147 ?_
      exact g_ri iX2_apply_148 (Or.inl rfl) H
    · rw [if_neg c4] at H
      by_cases c5 : x0 = 43
      · rw [if_pos c5] at H
        refine g_sw iX2_apply_1 (by simp only [rx_sw]; rw [if_neg c1, if_neg c4, if_pos c5]) ?_
        refine g_il iX2_apply_137 rfl ?_
        refine g_il iX2_apply_138 rfl ?_
        refine g_add iX2_apply_139 ?_
        exact g_ri iX2_apply_140 (Or.inl rfl) H
      · rw [if_neg c5] at H
        by_cases c6 : x0 = 45
        · rw [if_pos c6] at H
          refine g_sw iX2_apply_1 (by simp only [rx_sw]; rw [if_neg c1, if_neg c4, if_neg c5, if_pos c6]) ?_
          refine g_il iX2_apply_141 rfl ?_
          refine g_il iX2_apply_142 rfl ?_
          refine g_sub iX2_apply_143 ?_
          exact g_ri iX2_apply_144 (Or.inl rfl) H
        · rw [if_neg c6] at H
          by_cases c7 : x0 = 60
          · rw [if_pos c7] at H
            refine g_sw iX2_apply_1 (by simp only [rx_sw]; rw [if_neg c1, if_neg c4, if_neg c5, if_neg c6, if_pos c7]) ?_
            refine g_il iX2_apply_104 rfl ?_
            refine g_il iX2_apply_105 rfl ?_
            by_cases c8 : x2 ≤ x1
            · rw [if_pos c8] at H
              refine g_ic3t iX2_apply_106 c8 ?_
              refine g_c iX2_apply_113 ?_
              exact g_ri iX2_apply_114 (Or.inl rfl) H
            · rw [if_neg c8] at H
              refine g_ic3f iX2_apply_106 c8 ?_
              refine g_c iX2_apply_109 ?_
              refine g_goto iX2_apply_110 ?_
              exact g_ri iX2_apply_114 (Or.inl rfl) H
          · rw [if_neg c7] at H
            by_cases c9 : x0 = 61
            · rw [if_pos c9] at H
              refine g_sw iX2_apply_1 (by simp only [rx_sw]; rw [if_neg c1, if_neg c4, if_neg c5, if_neg c6, if_neg c7, if_pos c9]) ?_
              refine g_il iX2_apply_115 rfl ?_
              refine g_il iX2_apply_116 rfl ?_
              by_cases c10 : x1 ≠ x2
              · rw [if_pos c10] at H
                refine g_ic1t iX2_apply_117 c10 ?_
                refine g_c iX2_apply_124 ?_
                exact g_ri iX2_apply_125 (Or.inl rfl) H
              · rw [if_neg c10] at H
                refine g_ic1f iX2_apply_117 c10 ?_
                refine g_c iX2_apply_120 ?_
                refine g_goto iX2_apply_121 ?_
                exact g_ri iX2_apply_125 (Or.inl rfl) H
            · rw [if_neg c9] at H
              by_cases c11 : x0 = 62
              · rw [if_pos c11] at H
                refine g_sw iX2_apply_1 (by simp only [rx_sw]; rw [if_neg c1, if_neg c4, if_neg c5, if_neg c6, if_neg c7, if_neg c9, if_pos c11]) ?_
                refine g_il iX2_apply_126 rfl ?_
                refine g_il iX2_apply_127 rfl ?_
                by_cases c12 : x1 ≤ x2
                · rw [if_pos c12] at H
                  refine g_ic5t iX2_apply_128 c12 ?_
                  refine g_c iX2_apply_135 ?_
                  exact g_ri iX2_apply_136 (Or.inl rfl) H
                · rw [if_neg c12] at H
                  refine g_ic5f iX2_apply_128 c12 ?_
                  refine g_c iX2_apply_131 ?_
                  refine g_goto iX2_apply_132 ?_
                  exact g_ri iX2_apply_136 (Or.inl rfl) H
              · rw [if_neg c11] at H
                by_cases c13 : x0 = 124
                · rw [if_pos c13] at H
                  refine g_sw iX2_apply_1 (by simp only [rx_sw]; rw [if_neg c1, if_neg c4, if_neg c5, if_neg c6, if_neg c7, if_neg c9, if_neg c11, if_pos c13]) ?_
                  refine g_il iX2_apply_76 rfl ?_
                  by_cases c14 : x1 ≠ 0
                  · rw [if_pos c14] at H
                    refine g_if1t iX2_apply_77 c14 ?_
                    refine g_c iX2_apply_84 ?_
                    refine g_goto iX2_apply_85 ?_
                    exact g_ri iX2_apply_89 (Or.inl rfl) H
                  · rw [if_neg c14] at H
                    refine g_if1f iX2_apply_77 c14 ?_
                    refine g_il iX2_apply_80 rfl ?_
                    by_cases c15 : x2 = 0
                    · rw [if_pos c15] at H
                      refine g_if0t iX2_apply_81 c15 ?_
                      refine g_c iX2_apply_88 ?_
                      exact g_ri iX2_apply_89 (Or.inl rfl) H
                    · rw [if_neg c15] at H
                      refine g_if0f iX2_apply_81 c15 ?_
                      refine g_c iX2_apply_84 ?_
                      refine g_goto iX2_apply_85 ?_
                      exact g_ri iX2_apply_89 (Or.inl rfl) H
                · rw [if_neg c13] at H
                  refine g_sw (t := 149) iX2_apply_1 (by simp only [rx_sw, c1, c4, c5, c6, c7, c9, c11, c13, if_false]) ?_
                  refine g_il iX2_apply_149 rfl ?_
                  by_cases c16 : x2 ≠ 0
                  · rw [if_pos c16] at H
                    refine g_if1t iX2_apply_150 c16 ?_
                    refine g_il iX2_apply_157 rfl ?_
                    refine g_il iX2_apply_158 rfl ?_
                    obtain ⟨o17, H⟩ := H
                    refine g_div iX2_apply_159 o17 ?_
                    exact g_ri iX2_apply_160 (Or.inl rfl) H
                  · rw [if_neg c16] at H
                    refine g_if1f iX2_apply_150 c16 ?_
                    refine g_c iX2_apply_153 ?_
                    refine g_goto iX2_apply_154 ?_
                    exact g_ri iX2_apply_160 (Or.inl rfl) H
set_option maxRecDepth 20000 in
set_option maxHeartbeats 4000000 in
theorem bX3_search (L d : Nat) (A1 : Nat) (hA1 : rx_isO 1 A1 = true) (σ : rx_St) (K : rx_St → Prop)
    (H : rx_Go L (d + 1) mX3_search 10 [some (.inr 83), some (.inr A1), some (.inr 59), some (.inl 0)] [] (rx_up σ 83 4 (σ A1 0)) (rx_PV K)) :
    rx_CV L (d + 1) mX3_search [.inr 83, .inr A1, .inr 59] σ K := by
  refine rx_CV.of (la := [some (.inr 83), some (.inr A1), some (.inr 59), none]) rfl ?_
  refine g_al iX3_search_0 rfl ?_
  refine g_al iX3_search_1 rfl ?_
  refine g_gf (kI := 0) rfl iX3_search_2 (fi_1_0 hA1) ?_
  refine g_pf (kI := 4) rfl iX3_search_5 fi_3_4_83 (Or.inl rfl) ?_
  refine g_c iX3_search_8 ?_
  refine g_is iX3_search_9 (Nat.le_of_ble_eq_true rfl) ?_
  refine rx_Go.ls (la := [some (.inr 83), some (.inr A1), some (.inr 59), some (.inl 0)]) rfl ?_
  exact H
set_option maxRecDepth 20000 in
set_option maxHeartbeats 4000000 in
theorem bX3_search_10 (L d : Nat) (A1 : Nat) (hA1 : rx_isO 1 A1 = true) (x3 : Int) (σ : rx_St) (K : rx_St → Prop)
    (H : if (σ 83 4) ≤ x3 then (rx_Go L (d + 1) mX3_search 36 [some (.inr 83), some (.inr A1), some (.inr 59), some (.inl 0)] [] σ (rx_PV K)) else ((0 ≤ x3 ∧ x3 < 8) ∧ ∀ A2 : Nat, A2 = 87 + x3.toNat → rx_len L 0 A2 = 8 ∧ A2 < 159 → (rx_CV L d mJ7_fill_53178 [.inr A2, .inl (-1)] σ (fun σ4 => rx_Go L (d + 1) mX3_search 10 [some (.inr 83), some (.inr A1), some (.inr 59), some (.inl (rx_w (x3 + 1)))] [] σ4 (rx_PV K))))) :
    rx_Go L (d + 1) mX3_search 10 [some (.inr 83), some (.inr A1), some (.inr 59), some (.inl x3)] [] σ (rx_PV K) := by
  refine g_il iX3_search_10 rfl ?_
  refine g_al iX3_search_11 rfl ?_
  refine g_gf (kI := 4) rfl iX3_search_12 fi_3_4_83 ?_
  by_cases c1 : (σ 83 4) ≤ x3
  · rw [if_pos c1] at H
    refine g_ic3t iX3_search_15 c1 ?_
    refine g_c iX3_search_34 ?_
    refine g_is iX3_search_35 (Nat.le_of_ble_eq_true rfl) ?_
    refine rx_Go.ls (la := [some (.inr 83), some (.inr A1), some (.inr 59), some (.inl 0)]) rfl ?_
    exact H
  · rw [if_neg c1] at H
    refine g_ic3f iX3_search_15 c1 ?_
    refine g_al iX3_search_18 rfl ?_
    refine g_gr iX3_search_19 fr_3_5_83 ?_
    refine g_il iX3_search_22 rfl ?_
    obtain ⟨o3, H⟩ := H
    refine g_aa iX3_search_23 (ae_86 L o3).1 ?_
    obtain ⟨A2, eA2⟩ : ∃ z, z = 87 + x3.toNat := ⟨_, rfl⟩
    have hA2 : rx_len L 0 A2 = 8 ∧ A2 < 159 := by rw [eA2]; exact (ae_86 L o3).2
    rw [← eA2]
    replace H := H A2 eA2 hA2
    refine g_c iX3_search_24 ?_
    refine g_cv (as := [.inr A2, .inl (-1)]) (rest := []) iX3_search_25 rfl rfl (Nat.le_of_ble_eq_true rfl) (Or.inl (by decide)) (rx_CV.imp H (fun σ4 H => ?_))
    refine g_ii iX3_search_28 rfl ?_
    refine rx_Go.ls (la := [some (.inr 83), some (.inr A1), some (.inr 59), some (.inl (rx_w (x3 + 1)))]) rfl ?_
    refine g_goto iX3_search_31 ?_
    exact H
set_option maxRecDepth 20000 in
set_option maxHeartbeats 4000000 in
theorem bX3_search_36 (L d : Nat) (A1 : Nat) (hA1 : rx_isO 1 A1 = true) (x3 : Int) (σ : rx_St) (K : rx_St → Prop)
    (H : if (σ A1 6) ≤ x3 then (rx_CV L d mX3_extend [.inr 83, .inr 59, .inl 1, .inl 0] (rx_up (rx_up (rx_up σ 83 1 2147483647) 85 0 0) 83 3 1) (fun σ6 => K σ6)) else ((0 ≤ x3 ∧ x3 < 18) ∧ ((0 ≤ (σ (A1 + 7) x3) ∧ (σ (A1 + 7) x3) < 8) ∧ ∀ A8 : Nat, A8 = 87 + (σ (A1 + 7) x3).toNat → rx_len L 0 A8 = 8 ∧ A8 < 159 → ((0 ≤ (σ (A1 + 8) x3) ∧ (σ (A1 + 8) x3) < 8) ∧ ((0 ≤ ((rx_up σ A8 (σ (A1 + 8) x3) x3) (A1 + 8) x3) ∧ ((rx_up σ A8 (σ (A1 + 8) x3) x3) (A1 + 8) x3) < 8) ∧ ∀ A11 : Nat, A11 = 87 + ((rx_up σ A8 (σ (A1 + 8) x3) x3) (A1 + 8) x3).toNat → rx_len L 0 A11 = 8 ∧ A11 < 159 → ((0 ≤ ((rx_up σ A8 (σ (A1 + 8) x3) x3) (A1 + 7) x3) ∧ ((rx_up σ A8 (σ (A1 + 8) x3) x3) (A1 + 7) x3) < 8) ∧ (rx_Go L (d + 1) mX3_search 36 [some (.inr 83), some (.inr A1), some (.inr 59), some (.inl (rx_w (x3 + 1)))] [] (rx_up (rx_up σ A8 (σ (A1 + 8) x3) x3) A11 ((rx_up σ A8 (σ (A1 + 8) x3) x3) (A1 + 7) x3) x3) (rx_PV K)))))))) :
    rx_Go L (d + 1) mX3_search 36 [some (.inr 83), some (.inr A1), some (.inr 59), some (.inl x3)] [] σ (rx_PV K) := by
  refine g_il iX3_search_36 rfl ?_
  refine g_al iX3_search_37 rfl ?_
  refine g_gf (kI := 6) rfl iX3_search_38 (fi_1_6 hA1) ?_
  by_cases c5 : (σ A1 6) ≤ x3
  · rw [if_pos c5] at H
    refine g_ic3t iX3_search_41 c5 ?_
    refine g_al iX3_search_88 rfl ?_
    refine g_c iX3_search_89 ?_
    refine g_pf (kI := 1) rfl iX3_search_91 fi_3_1_83 (Or.inl rfl) ?_
    refine g_al iX3_search_94 rfl ?_
    refine g_gr iX3_search_95 fr_3_2_83 ?_
    refine g_c iX3_search_98 ?_
    refine g_c iX3_search_99 ?_
    refine g_st iX3_search_100 (ln_85 L) (by decide) (by decide) rfl ?_
    refine g_al iX3_search_101 rfl ?_
    refine g_c iX3_search_102 ?_
    refine g_pf (kI := 3) rfl iX3_search_103 fi_3_3_83 (Or.inl rfl) ?_
    refine g_al iX3_search_106 rfl ?_
    refine g_al iX3_search_107 rfl ?_
    refine g_c iX3_search_108 ?_
    refine g_c iX3_search_109 ?_
    refine g_cv (as := [.inr 83, .inr 59, .inl 1, .inl 0]) (rest := []) iX3_search_110 rfl rfl (Nat.le_of_ble_eq_true rfl) (Or.inl (by decide)) (rx_CV.imp H (fun σ6 H => ?_))
    exact g_rv iX3_search_113 H
  · rw [if_neg c5] at H
    refine g_ic3f iX3_search_41 c5 ?_
    refine g_al iX3_search_44 rfl ?_
    refine g_gr iX3_search_45 fr_3_5_83 ?_
    refine g_al iX3_search_48 rfl ?_
    refine g_gr iX3_search_49 (fr_1_8 hA1) ?_
    refine g_il iX3_search_52 rfl ?_
    obtain ⟨o7, H⟩ := H
    refine g_ld iX3_search_53 (ln_1_o7 L hA1).1 o7 ?_
    obtain ⟨o9, H⟩ := H
    refine g_aa iX3_search_54 (ae_86 L o9).1 ?_
    obtain ⟨A8, eA8⟩ : ∃ z, z = 87 + (σ (A1 + 7) x3).toNat := ⟨_, rfl⟩
    have hA8 : rx_len L 0 A8 = 8 ∧ A8 < 159 := by rw [eA8]; exact (ae_86 L o9).2
    rw [← eA8]
    replace H := H A8 eA8 hA8
    refine g_al iX3_search_55 rfl ?_
    refine g_gr iX3_search_56 (fr_1_9 hA1) ?_
    refine g_il iX3_search_59 rfl ?_
    refine g_ld iX3_search_60 (ln_1_o8 L hA1).1 o7 ?_
    refine g_il iX3_search_61 rfl ?_
    obtain ⟨o10, H⟩ := H
    refine g_st iX3_search_62 hA8.1 hA8.2 o10 rfl ?_
    refine g_al iX3_search_63 rfl ?_
    refine g_gr iX3_search_64 fr_3_5_83 ?_
    refine g_al iX3_search_67 rfl ?_
    refine g_gr iX3_search_68 (fr_1_9 hA1) ?_
    refine g_il iX3_search_71 rfl ?_
    refine g_ld iX3_search_72 (ln_1_o8 L hA1).1 o7 ?_
    obtain ⟨o12, H⟩ := H
    refine g_aa iX3_search_73 (ae_86 L o12).1 ?_
    obtain ⟨A11, eA11⟩ : ∃ z, z = 87 + ((rx_up σ A8 (σ (A1 + 8) x3) x3) (A1 + 8) x3).toNat := ⟨_, rfl⟩
    have hA11 : rx_len L 0 A11 = 8 ∧ A11 < 159 := by rw [eA11]; exact (ae_86 L o12).2
    rw [← eA11]
    replace H := H A11 eA11 hA11
    refine g_al iX3_search_74 rfl ?_
    refine g_gr iX3_search_75 (fr_1_8 hA1) ?_
    refine g_il iX3_search_78 rfl ?_
    refine g_ld iX3_search_79 (ln_1_o7 L hA1).1 o7 ?_
    refine g_il iX3_search_80 rfl ?_
    obtain ⟨o13, H⟩ := H
    refine g_st iX3_search_81 hA11.1 hA11.2 o13 rfl ?_
    refine g_ii iX3_search_82 rfl ?_
    refine rx_Go.ls (la := [some (.inr 83), some (.inr A1), some (.inr 59), some (.inl (rx_w (x3 + 1)))]) rfl ?_
    refine g_goto iX3_search_85 ?_
    exact H
set_option maxRecDepth 20000 in
set_option maxHeartbeats 4000000 in
theorem bX3_extend (L d : Nat) (x2 : Int) (x3 : Int) (σ : rx_St) (K : rx_St → Prop)
    (H : if (σ 83 4) ≤ x2 then (rx_cpOK 8 0 8 0 8 ∧ (K (rx_cp (rx_up σ 83 1 x3) 85 0 84 0 8))) else (if x2 < 8 then (rx_Go L (d + 1) mX3_extend 38 [some (.inr 83), some (.inr 59), some (.inl x2), some (.inl x3), some (.inl 1), none] [] σ (rx_PV K)) else (rx_cpOK 8 0 8 0 8 ∧ (K (rx_cp (rx_up σ 83 1 x3) 85 0 84 0 8))))) :
    rx_CV L (d + 1) mX3_extend [.inr 83, .inr 59, .inl x2, .inl x3] σ K := by
  refine rx_CV.of (la := [some (.inr 83), some (.inr 59), some (.inl x2), some (.inl x3), none, none]) rfl ?_
  refine g_il iX3_extend_0 rfl ?_
  refine g_al iX3_extend_1 rfl ?_
  refine g_gf (kI := 4) rfl iX3_extend_2 fi_3_4_83 ?_
  by_cases c1 : (σ 83 4) ≤ x2
  · rw [if_pos c1] at H
    refine g_ic3t iX3_extend_5 c1 ?_
    refine g_al iX3_extend_14 rfl ?_
    refine g_il iX3_extend_15 rfl ?_
    refine g_pf (kI := 1) rfl iX3_extend_16 fi_3_1_83 (Or.inl rfl) ?_
    refine g_al iX3_extend_19 rfl ?_
    refine g_gr iX3_extend_20 fr_3_2_83 ?_
    refine g_c iX3_extend_23 ?_
    refine g_al iX3_extend_24 rfl ?_
    refine g_gr iX3_extend_25 fr_3_0_83 ?_
    refine g_c iX3_extend_28 ?_
    refine g_c iX3_extend_29 ?_
    obtain ⟨o2, H⟩ := H
    refine g_cp iX3_extend_31 (ln_85 L) (ln_84 L) o2 ⟨(by decide), (by decide)⟩ ?_
    exact g_rv iX3_extend_34 H
  · rw [if_neg c1] at H
    refine g_ic3f iX3_extend_5 c1 ?_
    refine g_il iX3_extend_8 rfl ?_
    refine g_c iX3_extend_9 ?_
    by_cases c3 : x2 < 8
    · rw [if_pos c3] at H
      refine g_ic2t iX3_extend_11 c3 ?_
      refine g_c iX3_extend_35 ?_
      refine g_is iX3_extend_36 (Nat.le_of_ble_eq_true rfl) ?_
      refine rx_Go.ls (la := [some (.inr 83), some (.inr 59), some (.inl x2), some (.inl x3), some (.inl 1), none]) rfl ?_
      exact H
    · rw [if_neg c3] at H
      refine g_ic2f iX3_extend_11 c3 ?_
      refine g_al iX3_extend_14 rfl ?_
      refine g_il iX3_extend_15 rfl ?_
      refine g_pf (kI := 1) rfl iX3_extend_16 fi_3_1_83 (Or.inl rfl) ?_
      refine g_al iX3_extend_19 rfl ?_
      refine g_gr iX3_extend_20 fr_3_2_83 ?_
      refine g_c iX3_extend_23 ?_
      refine g_al iX3_extend_24 rfl ?_
      refine g_gr iX3_extend_25 fr_3_0_83 ?_
      refine g_c iX3_extend_28 ?_
      refine g_c iX3_extend_29 ?_
      obtain ⟨o4, H⟩ := H
      refine g_cp iX3_extend_31 (ln_85 L) (ln_84 L) o4 ⟨(by decide), (by decide)⟩ ?_
      exact g_rv iX3_extend_34 H
set_option maxRecDepth 20000 in
set_option maxHeartbeats 4000000 in
theorem bX3_extend_38 (L d : Nat) (x2 : Int) (x3 : Int) (x4 : Int) (q5 : Option rx_V) (σ : rx_St) (K : rx_St → Prop)
    (H : if (σ 83 4) ≤ x4 then (K σ) else (if (rx_alu 3 (rx_alu 7 (σ 83 3) x4) 1) ≠ 0 then (rx_Go L (d + 1) mX3_extend 38 [some (.inr 83), some (.inr 59), some (.inl x2), some (.inl x3), some (.inl (rx_w (x4 + 1))), q5] [] σ (rx_PV K)) else (rx_CI L d mX3_costOfNext [.inr 83, .inr 59, .inl x2, .inl x4] σ (fun v8 σ7 => if (σ7 83 1) ≤ (rx_w (x3 + v8)) then (rx_Go L (d + 1) mX3_extend 38 [some (.inr 83), some (.inr 59), some (.inl x2), some (.inl x3), some (.inl (rx_w (x4 + 1))), some (.inl (rx_w (x3 + v8)))] [] σ7 (rx_PV K)) else ((0 ≤ x2 ∧ x2 < 8) ∧ (rx_CV L d mX3_extend [.inr 83, .inr 59, .inl (rx_w (x2 + 1)), .inl (rx_w (x3 + v8))] (rx_up (rx_up σ7 85 x2 x4) 83 3 (rx_alu 4 ((rx_up σ7 85 x2 x4) 83 3) (rx_alu 6 1 x4))) (fun σ11 => rx_Go L (d + 1) mX3_extend 38 [some (.inr 83), some (.inr 59), some (.inl x2), some (.inl x3), some (.inl (rx_w (x4 + 1))), some (.inl (rx_w (x3 + v8)))] [] (rx_up σ11 83 3 (rx_alu 3 (σ11 83 3) (rx_alu 5 (rx_alu 6 1 x4) (-1)))) (rx_PV K)))))))) :
    rx_Go L (d + 1) mX3_extend 38 [some (.inr 83), some (.inr 59), some (.inl x2), some (.inl x3), some (.inl x4), q5] [] σ (rx_PV K) := by
  refine g_il iX3_extend_38 rfl ?_
  refine g_al iX3_extend_40 rfl ?_
  refine g_gf (kI := 4) rfl iX3_extend_41 fi_3_4_83 ?_
  by_cases c5 : (σ 83 4) ≤ x4
  · rw [if_pos c5] at H
    refine g_ic3t iX3_extend_44 c5 ?_
    exact g_rv iX3_extend_132 H
  · rw [if_neg c5] at H
    refine g_ic3f iX3_extend_44 c5 ?_
    refine g_al iX3_extend_47 rfl ?_
    refine g_gf (kI := 3) rfl iX3_extend_48 fi_3_3_83 ?_
    refine g_il iX3_extend_51 rfl ?_
    refine g_bit iX3_extend_53 ?_
    refine g_c iX3_extend_54 ?_
    refine g_bit iX3_extend_55 ?_
    by_cases c6 : (rx_alu 3 (rx_alu 7 (σ 83 3) x4) 1) ≠ 0
    · rw [if_pos c6] at H
      refine g_if1t iX3_extend_56 c6 ?_
      refine g_ii iX3_extend_126 rfl ?_
      refine rx_Go.ls (la := [some (.inr 83), some (.inr 59), some (.inl x2), some (.inl x3), some (.inl (rx_w (x4 + 1))), q5]) rfl ?_
      refine g_goto iX3_extend_129 ?_
      exact H
    · rw [if_neg c6] at H
      refine g_if1f iX3_extend_56 c6 ?_
      refine g_il iX3_extend_59 rfl ?_
      refine g_al iX3_extend_60 rfl ?_
      refine g_al iX3_extend_61 rfl ?_
      refine g_il iX3_extend_62 rfl ?_
      refine g_il iX3_extend_63 rfl ?_
      refine g_ci (as := [.inr 83, .inr 59, .inl x2, .inl x4]) (rest := [.inl x3]) iX3_extend_65 rfl rfl (Nat.le_of_ble_eq_true rfl) (Or.inr ⟨_, _, rfl, oo_3_83⟩) (rx_CI.imp H (fun v8 σ7 H => ?_))
      refine g_add iX3_extend_68 ?_
      refine g_is iX3_extend_69 (Nat.le_of_ble_eq_true rfl) ?_
      refine rx_Go.ls (la := [some (.inr 83), some (.inr 59), some (.inl x2), some (.inl x3), some (.inl x4), some (.inl (rx_w (x3 + v8)))]) rfl ?_
      refine g_il iX3_extend_71 rfl ?_
      refine g_al iX3_extend_73 rfl ?_
      refine g_gf (kI := 1) rfl iX3_extend_74 fi_3_1_83 ?_
      by_cases c9 : (σ7 83 1) ≤ (rx_w (x3 + v8))
      · rw [if_pos c9] at H
        refine g_ic3t iX3_extend_77 c9 ?_
        refine g_ii iX3_extend_126 rfl ?_
        refine rx_Go.ls (la := [some (.inr 83), some (.inr 59), some (.inl x2), some (.inl x3), some (.inl (rx_w (x4 + 1))), some (.inl (rx_w (x3 + v8)))]) rfl ?_
        refine g_goto iX3_extend_129 ?_
        exact H
      · rw [if_neg c9] at H
        refine g_ic3f iX3_extend_77 c9 ?_
        refine g_al iX3_extend_80 rfl ?_
        refine g_gr iX3_extend_81 fr_3_2_83 ?_
        refine g_il iX3_extend_84 rfl ?_
        refine g_il iX3_extend_85 rfl ?_
        obtain ⟨o10, H⟩ := H
        refine g_st iX3_extend_87 (ln_85 L) (by decide) o10 rfl ?_
        refine g_al iX3_extend_88 rfl ?_
        refine g_dup iX3_extend_89 ?_
        refine g_gf (kI := 3) rfl iX3_extend_90 fi_3_3_83 ?_
        refine g_c iX3_extend_93 ?_
        refine g_il iX3_extend_94 rfl ?_
        refine g_bit iX3_extend_96 ?_
        refine g_bit iX3_extend_97 ?_
        refine g_pf (kI := 3) rfl iX3_extend_98 fi_3_3_83 (Or.inl rfl) ?_
        refine g_al iX3_extend_101 rfl ?_
        refine g_al iX3_extend_102 rfl ?_
        refine g_il iX3_extend_103 rfl ?_
        refine g_c iX3_extend_104 ?_
        refine g_add iX3_extend_105 ?_
        refine g_il iX3_extend_106 rfl ?_
        refine g_cv (as := [.inr 83, .inr 59, .inl (rx_w (x2 + 1)), .inl (rx_w (x3 + v8))]) (rest := []) iX3_extend_108 rfl rfl (Nat.le_of_ble_eq_true rfl) (Or.inl (by decide)) (rx_CV.imp H (fun σ11 H => ?_))
        refine g_al iX3_extend_111 rfl ?_
        refine g_dup iX3_extend_112 ?_
        refine g_gf (kI := 3) rfl iX3_extend_113 fi_3_3_83 ?_
        refine g_c iX3_extend_116 ?_
        refine g_il iX3_extend_117 rfl ?_
        refine g_bit iX3_extend_119 ?_
        refine g_c iX3_extend_120 ?_
        refine g_bit iX3_extend_121 ?_
        refine g_bit iX3_extend_122 ?_
        refine g_pf (kI := 3) rfl iX3_extend_123 fi_3_3_83 (Or.inl rfl) ?_
        refine g_ii iX3_extend_126 rfl ?_
        refine rx_Go.ls (la := [some (.inr 83), some (.inr 59), some (.inl x2), some (.inl x3), some (.inl (rx_w (x4 + 1))), some (.inl (rx_w (x3 + v8)))]) rfl ?_
        refine g_goto iX3_extend_129 ?_
        exact H
set_option maxRecDepth 20000 in
set_option maxHeartbeats 4000000 in
theorem bX3_costOfNext (L d : Nat) (x2 : Int) (x3 : Int) (σ : rx_St) (K : Int → rx_St → Prop)
    (H : rx_Go L (d + 1) mX3_costOfNext 6 [some (.inr 83), some (.inr 59), some (.inl x2), some (.inl x3), some (.inl 0), some (.inl 0), none, none] [] σ (rx_PI K)) :
    rx_CI L (d + 1) mX3_costOfNext [.inr 83, .inr 59, .inl x2, .inl x3] σ K := by
  refine rx_CI.of (la := [some (.inr 83), some (.inr 59), some (.inl x2), some (.inl x3), none, none, none, none]) rfl ?_
  refine g_c iX3_costOfNext_0 ?_
  refine g_is iX3_costOfNext_1 (Nat.le_of_ble_eq_true rfl) ?_
  refine rx_Go.ls (la := [some (.inr 83), some (.inr 59), some (.inl x2), some (.inl x3), some (.inl 0), none, none, none]) rfl ?_
  refine g_c iX3_costOfNext_3 ?_
  refine g_is iX3_costOfNext_4 (Nat.le_of_ble_eq_true rfl) ?_
  refine rx_Go.ls (la := [some (.inr 83), some (.inr 59), some (.inl x2), some (.inl x3), some (.inl 0), some (.inl 0), none, none]) rfl ?_
  exact H
set_option maxRecDepth 20000 in
set_option maxHeartbeats 4000000 in
theorem bX3_costOfNext_6 (L d : Nat) (x2 : Int) (x3 : Int) (x4 : Int) (x5 : Int) (q6 : Option rx_V) (q7 : Option rx_V) (σ : rx_St) (K : Int → rx_St → Prop)
    (H : if x2 ≤ x5 then (K x4 σ) else ((0 ≤ x5 ∧ x5 < 8) ∧ ((0 ≤ (σ 85 x5) ∧ (σ 85 x5) < 8) ∧ ∀ A3 : Nat, A3 = 87 + (σ 85 x5).toNat → rx_len L 0 A3 = 8 ∧ A3 < 159 → ((0 ≤ x3 ∧ x3 < 8) ∧ (if (σ A3 x3) < 0 then (rx_Go L (d + 1) mX3_costOfNext 6 [some (.inr 83), some (.inr 59), some (.inl x2), some (.inl x3), some (.inl x4), some (.inl (rx_w (x5 + 1))), some (.inl (σ A3 x3)), q7] [] σ (rx_PI K)) else (rx_Go L (d + 1) mX3_costOfNext 39 [some (.inr 83), some (.inr 59), some (.inl x2), some (.inl x3), some (.inl x4), some (.inl x5), some (.inl (σ A3 x3)), some (.inl (rx_w (x5 + 1)))] [] σ (rx_PI K))))))) :
    rx_Go L (d + 1) mX3_costOfNext 6 [some (.inr 83), some (.inr 59), some (.inl x2), some (.inl x3), some (.inl x4), some (.inl x5), q6, q7] [] σ (rx_PI K) := by
  refine g_il iX3_costOfNext_6 rfl ?_
  refine g_il iX3_costOfNext_8 rfl ?_
  by_cases c1 : x2 ≤ x5
  · rw [if_pos c1] at H
    refine g_ic3t iX3_costOfNext_9 c1 ?_
    refine g_il iX3_costOfNext_78 rfl ?_
    exact g_ri iX3_costOfNext_80 (Or.inl rfl) H
  · rw [if_neg c1] at H
    refine g_ic3f iX3_costOfNext_9 c1 ?_
    refine g_al iX3_costOfNext_12 rfl ?_
    refine g_gr iX3_costOfNext_13 fr_3_5_83 ?_
    refine g_al iX3_costOfNext_16 rfl ?_
    refine g_gr iX3_costOfNext_17 fr_3_2_83 ?_
    refine g_il iX3_costOfNext_20 rfl ?_
    obtain ⟨o2, H⟩ := H
    refine g_ld iX3_costOfNext_22 (ln_85 L) o2 ?_
    obtain ⟨o4, H⟩ := H
    refine g_aa iX3_costOfNext_23 (ae_86 L o4).1 ?_
    obtain ⟨A3, eA3⟩ : ∃ z, z = 87 + (σ 85 x5).toNat := ⟨_, rfl⟩
    have hA3 : rx_len L 0 A3 = 8 ∧ A3 < 159 := by rw [eA3]; exact (ae_86 L o4).2
    rw [← eA3]
    replace H := H A3 eA3 hA3
    refine g_il iX3_costOfNext_24 rfl ?_
    obtain ⟨o5, H⟩ := H
    refine g_ld iX3_costOfNext_25 hA3.1 o5 ?_
    refine g_is iX3_costOfNext_26 (Nat.le_of_ble_eq_true rfl) ?_
    refine rx_Go.ls (la := [some (.inr 83), some (.inr 59), some (.inl x2), some (.inl x3), some (.inl x4), some (.inl x5), some (.inl (σ A3 x3)), q7]) rfl ?_
    refine g_il iX3_costOfNext_28 rfl ?_
    by_cases c6 : (σ A3 x3) < 0
    · rw [if_pos c6] at H
      refine g_if2t iX3_costOfNext_30 c6 ?_
      refine g_ii iX3_costOfNext_72 rfl ?_
      refine rx_Go.ls (la := [some (.inr 83), some (.inr 59), some (.inl x2), some (.inl x3), some (.inl x4), some (.inl (rx_w (x5 + 1))), some (.inl (σ A3 x3)), q7]) rfl ?_
      refine g_goto iX3_costOfNext_75 ?_
      exact H
    · rw [if_neg c6] at H
      refine g_if2f iX3_costOfNext_30 c6 ?_
      refine g_il iX3_costOfNext_33 rfl ?_
      refine g_c iX3_costOfNext_35 ?_
      refine g_add iX3_costOfNext_36 ?_
      refine g_is iX3_costOfNext_37 (Nat.le_of_ble_eq_true rfl) ?_
      refine rx_Go.ls (la := [some (.inr 83), some (.inr 59), some (.inl x2), some (.inl x3), some (.inl x4), some (.inl x5), some (.inl (σ A3 x3)), some (.inl (rx_w (x5 + 1)))]) rfl ?_
      exact H
set_option maxRecDepth 20000 in
set_option maxHeartbeats 4000000 in
theorem bX3_costOfNext_39 (L d : Nat) (x2 : Int) (x3 : Int) (x4 : Int) (x5 : Int) (x6 : Int) (x7 : Int) (σ : rx_St) (K : Int → rx_St → Prop)
    (H : if x2 ≤ x7 then (rx_Go L (d + 1) mX3_costOfNext 6 [some (.inr 83), some (.inr 59), some (.inl x2), some (.inl x3), some (.inl x4), some (.inl (rx_w (x5 + 1))), some (.inl x6), some (.inl x7)] [] σ (rx_PI K)) else ((0 ≤ x6 ∧ x6 < 18) ∧ ∀ A8 : Nat, A8 = 60 + x6.toNat → rx_len L 0 A8 = 18 ∧ A8 < 159 → ((0 ≤ x7 ∧ x7 < 8) ∧ (rx_CI L d mX3_costOfOpen [.inr 83, .inr A8, .inl (σ 85 x7), .inl x3] σ (fun v12 σ11 => rx_Go L (d + 1) mX3_costOfNext 39 [some (.inr 83), some (.inr 59), some (.inl x2), some (.inl x3), some (.inl (rx_w (x4 + v12))), some (.inl x5), some (.inl x6), some (.inl (rx_w (x7 + 1)))] [] σ11 (rx_PI K)))))) :
    rx_Go L (d + 1) mX3_costOfNext 39 [some (.inr 83), some (.inr 59), some (.inl x2), some (.inl x3), some (.inl x4), some (.inl x5), some (.inl x6), some (.inl x7)] [] σ (rx_PI K) := by
  refine g_il iX3_costOfNext_39 rfl ?_
  refine g_il iX3_costOfNext_41 rfl ?_
  by_cases c7 : x2 ≤ x7
  · rw [if_pos c7] at H
    refine g_ic3t iX3_costOfNext_42 c7 ?_
    refine g_ii iX3_costOfNext_72 rfl ?_
    refine rx_Go.ls (la := [some (.inr 83), some (.inr 59), some (.inl x2), some (.inl x3), some (.inl x4), some (.inl (rx_w (x5 + 1))), some (.inl x6), some (.inl x7)]) rfl ?_
    refine g_goto iX3_costOfNext_75 ?_
    exact H
  · rw [if_neg c7] at H
    refine g_ic3f iX3_costOfNext_42 c7 ?_
    refine g_il iX3_costOfNext_45 rfl ?_
    refine g_al iX3_costOfNext_47 rfl ?_
    refine g_al iX3_costOfNext_48 rfl ?_
    refine g_il iX3_costOfNext_49 rfl ?_
    obtain ⟨o9, H⟩ := H
    refine g_aa iX3_costOfNext_51 (ae_59 L o9).1 ?_
    obtain ⟨A8, eA8⟩ : ∃ z, z = 60 + x6.toNat := ⟨_, rfl⟩
    have hA8 : rx_len L 0 A8 = 18 ∧ A8 < 159 := by rw [eA8]; exact (ae_59 L o9).2
    rw [← eA8]
    replace H := H A8 eA8 hA8
    refine g_al iX3_costOfNext_52 rfl ?_
    refine g_gr iX3_costOfNext_53 fr_3_2_83 ?_
    refine g_il iX3_costOfNext_56 rfl ?_
    obtain ⟨o10, H⟩ := H
    refine g_ld iX3_costOfNext_58 (ln_85 L) o10 ?_
    refine g_il iX3_costOfNext_59 rfl ?_
    refine g_ci (as := [.inr 83, .inr A8, .inl (σ 85 x7), .inl x3]) (rest := [.inl x4]) iX3_costOfNext_60 rfl rfl (Nat.le_of_ble_eq_true rfl) (Or.inr ⟨_, _, rfl, oo_3_83⟩) (rx_CI.imp H (fun v12 σ11 H => ?_))
    refine g_add iX3_costOfNext_63 ?_
    refine g_is iX3_costOfNext_64 (Nat.le_of_ble_eq_true rfl) ?_
    refine rx_Go.ls (la := [some (.inr 83), some (.inr 59), some (.inl x2), some (.inl x3), some (.inl (rx_w (x4 + v12))), some (.inl x5), some (.inl x6), some (.inl x7)]) rfl ?_
    refine g_ii iX3_costOfNext_66 rfl ?_
    refine rx_Go.ls (la := [some (.inr 83), some (.inr 59), some (.inl x2), some (.inl x3), some (.inl (rx_w (x4 + v12))), some (.inl x5), some (.inl x6), some (.inl (rx_w (x7 + 1)))]) rfl ?_
    refine g_goto iX3_costOfNext_69 ?_
    exact H
set_option maxRecDepth 20000 in
set_option maxHeartbeats 4000000 in
theorem bX3_costOfOpen (L d : Nat) (A1 : Nat) (n1 : Int) (hA1 : rx_len L 0 A1 = n1 ∧ A1 < 159) (hA1a : rx_alen L A1 = some n1) (x2 : Int) (x3 : Int) (σ : rx_St) (K : Int → rx_St → Prop)
    (H : rx_Go L d mX3_costOfOpen 6 [some (.inr 83), some (.inr A1), some (.inl x2), some (.inl x3), some (.inl 0), some (.inl 0), none] [] σ (rx_PI K)) :
    rx_CI L d mX3_costOfOpen [.inr 83, .inr A1, .inl x2, .inl x3] σ K := by
  refine rx_CI.of (la := [some (.inr 83), some (.inr A1), some (.inl x2), some (.inl x3), none, none, none]) rfl ?_
  refine g_c iX3_costOfOpen_0 ?_
  refine g_is iX3_costOfOpen_1 (Nat.le_of_ble_eq_true rfl) ?_
  refine rx_Go.ls (la := [some (.inr 83), some (.inr A1), some (.inl x2), some (.inl x3), some (.inl 0), none, none]) rfl ?_
  refine g_c iX3_costOfOpen_3 ?_
  refine g_is iX3_costOfOpen_4 (Nat.le_of_ble_eq_true rfl) ?_
  refine rx_Go.ls (la := [some (.inr 83), some (.inr A1), some (.inl x2), some (.inl x3), some (.inl 0), some (.inl 0), none]) rfl ?_
  exact H
set_option maxRecDepth 20000 in
set_option maxHeartbeats 4000000 in
theorem bX3_costOfOpen_6 (L d : Nat) (A1 : Nat) (n1 : Int) (hA1 : rx_len L 0 A1 = n1 ∧ A1 < 159) (x2 : Int) (x3 : Int) (x4 : Int) (x5 : Int) (q6 : Option rx_V) (σ : rx_St) (K : Int → rx_St → Prop)
    (H : if (σ 83 4) ≤ x5 then (K x4 σ) else ((0 ≤ x2 ∧ x2 < 8) ∧ ∀ A2 : Nat, A2 = 87 + x2.toNat → rx_len L 0 A2 = 8 ∧ A2 < 159 → ((0 ≤ x5 ∧ x5 < 8) ∧ (if (σ A2 x5) < 0 then (rx_Go L d mX3_costOfOpen 6 [some (.inr 83), some (.inr A1), some (.inl x2), some (.inl x3), some (.inl x4), some (.inl (rx_w (x5 + 1))), some (.inl (σ A2 x5))] [] σ (rx_PI K)) else (if x5 = x3 then (rx_Go L d mX3_costOfOpen 6 [some (.inr 83), some (.inr A1), some (.inl x2), some (.inl x3), some (.inl x4), some (.inl (rx_w (x5 + 1))), some (.inl (σ A2 x5))] [] σ (rx_PI K)) else (if (rx_alu 3 (rx_alu 7 (σ 83 3) x5) 1) ≠ 0 then (rx_Go L d mX3_costOfOpen 6 [some (.inr 83), some (.inr A1), some (.inl x2), some (.inl x3), some (.inl x4), some (.inl (rx_w (x5 + 1))), some (.inl (σ A2 x5))] [] σ (rx_PI K)) else ((0 ≤ (σ A2 x5) ∧ (σ A2 x5) < n1) ∧ (rx_Go L d mX3_costOfOpen 6 [some (.inr 83), some (.inr A1), some (.inl x2), some (.inl x3), some (.inl (rx_w (x4 + (σ A1 (σ A2 x5))))), some (.inl (rx_w (x5 + 1))), some (.inl (σ A2 x5))] [] σ (rx_PI K))))))))) :
    rx_Go L d mX3_costOfOpen 6 [some (.inr 83), some (.inr A1), some (.inl x2), some (.inl x3), some (.inl x4), some (.inl x5), q6] [] σ (rx_PI K) := by
  refine g_il iX3_costOfOpen_6 rfl ?_
  refine g_al iX3_costOfOpen_8 rfl ?_
  refine g_gf (kI := 4) rfl iX3_costOfOpen_9 fi_3_4_83 ?_
  by_cases c1 : (σ 83 4) ≤ x5
  · rw [if_pos c1] at H
    refine g_ic3t iX3_costOfOpen_12 c1 ?_
    refine g_il iX3_costOfOpen_64 rfl ?_
    exact g_ri iX3_costOfOpen_66 (Or.inl rfl) H
  · rw [if_neg c1] at H
    refine g_ic3f iX3_costOfOpen_12 c1 ?_
    refine g_al iX3_costOfOpen_15 rfl ?_
    refine g_gr iX3_costOfOpen_16 fr_3_5_83 ?_
    refine g_il iX3_costOfOpen_19 rfl ?_
    obtain ⟨o3, H⟩ := H
    refine g_aa iX3_costOfOpen_20 (ae_86 L o3).1 ?_
    obtain ⟨A2, eA2⟩ : ∃ z, z = 87 + x2.toNat := ⟨_, rfl⟩
    have hA2 : rx_len L 0 A2 = 8 ∧ A2 < 159 := by rw [eA2]; exact (ae_86 L o3).2
    rw [← eA2]
    replace H := H A2 eA2 hA2
    refine g_il iX3_costOfOpen_21 rfl ?_
    obtain ⟨o4, H⟩ := H
    refine g_ld iX3_costOfOpen_23 hA2.1 o4 ?_
    refine g_is iX3_costOfOpen_24 (Nat.le_of_ble_eq_true rfl) ?_
    refine rx_Go.ls (la := [some (.inr 83), some (.inr A1), some (.inl x2), some (.inl x3), some (.inl x4), some (.inl x5), some (.inl (σ A2 x5))]) rfl ?_
    refine g_il iX3_costOfOpen_26 rfl ?_
    by_cases c5 : (σ A2 x5) < 0
    · rw [if_pos c5] at H
      refine g_if2t iX3_costOfOpen_28 c5 ?_
      refine g_ii iX3_costOfOpen_58 rfl ?_
      refine rx_Go.ls (la := [some (.inr 83), some (.inr A1), some (.inl x2), some (.inl x3), some (.inl x4), some (.inl (rx_w (x5 + 1))), some (.inl (σ A2 x5))]) rfl ?_
      refine g_goto iX3_costOfOpen_61 ?_
      exact H
    · rw [if_neg c5] at H
      refine g_if2f iX3_costOfOpen_28 c5 ?_
      refine g_il iX3_costOfOpen_31 rfl ?_
      refine g_il iX3_costOfOpen_33 rfl ?_
      by_cases c6 : x5 = x3
      · rw [if_pos c6] at H
        refine g_ic0t iX3_costOfOpen_34 c6 ?_
        refine g_ii iX3_costOfOpen_58 rfl ?_
        refine rx_Go.ls (la := [some (.inr 83), some (.inr A1), some (.inl x2), some (.inl x3), some (.inl x4), some (.inl (rx_w (x5 + 1))), some (.inl (σ A2 x5))]) rfl ?_
        refine g_goto iX3_costOfOpen_61 ?_
        exact H
      · rw [if_neg c6] at H
        refine g_ic0f iX3_costOfOpen_34 c6 ?_
        refine g_al iX3_costOfOpen_37 rfl ?_
        refine g_gf (kI := 3) rfl iX3_costOfOpen_38 fi_3_3_83 ?_
        refine g_il iX3_costOfOpen_41 rfl ?_
        refine g_bit iX3_costOfOpen_43 ?_
        refine g_c iX3_costOfOpen_44 ?_
        refine g_bit iX3_costOfOpen_45 ?_
        by_cases c7 : (rx_alu 3 (rx_alu 7 (σ 83 3) x5) 1) ≠ 0
        · rw [if_pos c7] at H
          refine g_if1t iX3_costOfOpen_46 c7 ?_
          refine g_ii iX3_costOfOpen_58 rfl ?_
          refine rx_Go.ls (la := [some (.inr 83), some (.inr A1), some (.inl x2), some (.inl x3), some (.inl x4), some (.inl (rx_w (x5 + 1))), some (.inl (σ A2 x5))]) rfl ?_
          refine g_goto iX3_costOfOpen_61 ?_
          exact H
        · rw [if_neg c7] at H
          refine g_if1f iX3_costOfOpen_46 c7 ?_
          refine g_il iX3_costOfOpen_49 rfl ?_
          refine g_al iX3_costOfOpen_51 rfl ?_
          refine g_il iX3_costOfOpen_52 rfl ?_
          obtain ⟨o8, H⟩ := H
          refine g_ld iX3_costOfOpen_54 hA1.1 o8 ?_
          refine g_add iX3_costOfOpen_55 ?_
          refine g_is iX3_costOfOpen_56 (Nat.le_of_ble_eq_true rfl) ?_
          refine rx_Go.ls (la := [some (.inr 83), some (.inr A1), some (.inl x2), some (.inl x3), some (.inl (rx_w (x4 + (σ A1 (σ A2 x5))))), some (.inl x5), some (.inl (σ A2 x5))]) rfl ?_
          refine g_ii iX3_costOfOpen_58 rfl ?_
          refine rx_Go.ls (la := [some (.inr 83), some (.inr A1), some (.inl x2), some (.inl x3), some (.inl (rx_w (x4 + (σ A1 (σ A2 x5))))), some (.inl (rx_w (x5 + 1))), some (.inl (σ A2 x5))]) rfl ?_
          refine g_goto iX3_costOfOpen_61 ?_
          exact H
set_option maxRecDepth 20000 in
set_option maxHeartbeats 4000000 in
theorem bX4_search (L d : Nat) (A1 : Nat) (hA1 : rx_isO 1 A1 = true) (σ : rx_St) (K : Int → rx_St → Prop)
    (H : rx_Go L (d + 1) mX4_search 10 [some (.inr 79), some (.inr A1), some (.inl 0)] [] (rx_up σ 79 3 (σ A1 6)) (rx_PI K)) :
    rx_CI L (d + 1) mX4_search [.inr 79, .inr A1] σ K := by
  refine rx_CI.of (la := [some (.inr 79), some (.inr A1), none]) rfl ?_
  refine g_al iX4_search_0 rfl ?_
  refine g_al iX4_search_1 rfl ?_
  refine g_gf (kI := 6) rfl iX4_search_2 (fi_1_6 hA1) ?_
  refine g_pf (kI := 3) rfl iX4_search_5 fi_4_3_79 (Or.inl rfl) ?_
  refine g_c iX4_search_8 ?_
  refine g_is iX4_search_9 (Nat.le_of_ble_eq_true rfl) ?_
  refine rx_Go.ls (la := [some (.inr 79), some (.inr A1), some (.inl 0)]) rfl ?_
  exact H
set_option maxRecDepth 20000 in
set_option maxHeartbeats 4000000 in
theorem bX4_search_10 (L d : Nat) (A1 : Nat) (hA1 : rx_isO 1 A1 = true) (x2 : Int) (σ : rx_St) (K : Int → rx_St → Prop)
    (H : if (σ 79 3) ≤ x2 then (rx_Go L (d + 1) mX4_search 37 [some (.inr 79), some (.inr A1), some (.inl 0)] [] σ (rx_PI K)) else (rx_CI L d mX4_clashesOf [.inr A1, .inl x2] σ (fun v3 σ2 => (0 ≤ x2 ∧ x2 < 18) ∧ (rx_Go L (d + 1) mX4_search 10 [some (.inr 79), some (.inr A1), some (.inl (rx_w (x2 + 1)))] [] (rx_up σ2 81 x2 v3) (rx_PI K))))) :
    rx_Go L (d + 1) mX4_search 10 [some (.inr 79), some (.inr A1), some (.inl x2)] [] σ (rx_PI K) := by
  refine g_il iX4_search_10 rfl ?_
  refine g_al iX4_search_11 rfl ?_
  refine g_gf (kI := 3) rfl iX4_search_12 fi_4_3_79 ?_
  by_cases c1 : (σ 79 3) ≤ x2
  · rw [if_pos c1] at H
    refine g_ic3t iX4_search_15 c1 ?_
    refine g_c iX4_search_35 ?_
    refine g_is iX4_search_36 (Nat.le_of_ble_eq_true rfl) ?_
    refine rx_Go.ls (la := [some (.inr 79), some (.inr A1), some (.inl 0)]) rfl ?_
    exact H
  · rw [if_neg c1] at H
    refine g_ic3f iX4_search_15 c1 ?_
    refine g_al iX4_search_18 rfl ?_
    refine g_gr iX4_search_19 fr_4_1_79 ?_
    refine g_il iX4_search_22 rfl ?_
    refine g_al iX4_search_23 rfl ?_
    refine g_il iX4_search_24 rfl ?_
    refine g_ci (as := [.inr A1, .inl x2]) (rest := [.inl x2, .inr 81]) iX4_search_25 rfl rfl (Nat.le_of_ble_eq_true rfl) (Or.inl (by decide)) (rx_CI.imp H (fun v3 σ2 H => ?_))
    obtain ⟨o4, H⟩ := H
    refine g_st iX4_search_28 (ln_81 L) (by decide) o4 rfl ?_
    refine g_ii iX4_search_29 rfl ?_
    refine rx_Go.ls (la := [some (.inr 79), some (.inr A1), some (.inl (rx_w (x2 + 1)))]) rfl ?_
    refine g_goto iX4_search_32 ?_
    exact H
set_option maxRecDepth 20000 in
set_option maxHeartbeats 4000000 in
theorem bX4_search_37 (L d : Nat) (q1 : Option rx_V) (x2 : Int) (σ : rx_St) (K : Int → rx_St → Prop)
    (H : if 18 ≤ x2 then (K 18 σ) else (rx_CV L d mJ7_fill_53178 [.inr 82, .inl 0] σ (fun σ6 => rx_CI L d mX4_paint [.inr 79, .inl 0, .inl 0, .inl x2] σ6 (fun v8 σ7 => if v8 = 0 then (rx_Go L (d + 1) mX4_search 37 [some (.inr 79), q1, some (.inl (rx_w (x2 + 1)))] [] σ7 (rx_PI K)) else (K x2 σ7))))) :
    rx_Go L (d + 1) mX4_search 37 [some (.inr 79), q1, some (.inl x2)] [] σ (rx_PI K) := by
  refine g_il iX4_search_37 rfl ?_
  refine g_c iX4_search_38 ?_
  by_cases c5 : 18 ≤ x2
  · rw [if_pos c5] at H
    refine g_ic3t iX4_search_40 c5 ?_
    refine g_c iX4_search_69 ?_
    exact g_ri iX4_search_71 (Or.inl rfl) H
  · rw [if_neg c5] at H
    refine g_ic3f iX4_search_40 c5 ?_
    refine g_al iX4_search_43 rfl ?_
    refine g_gr iX4_search_44 fr_4_2_79 ?_
    refine g_c iX4_search_47 ?_
    refine g_cv (as := [.inr 82, .inl 0]) (rest := []) iX4_search_48 rfl rfl (Nat.le_of_ble_eq_true rfl) (Or.inl (by decide)) (rx_CV.imp H (fun σ6 H => ?_))
    refine g_al iX4_search_51 rfl ?_
    refine g_c iX4_search_52 ?_
    refine g_c iX4_search_53 ?_
    refine g_il iX4_search_54 rfl ?_
    refine g_ci (as := [.inr 79, .inl 0, .inl 0, .inl x2]) (rest := []) iX4_search_55 rfl rfl (Nat.le_of_ble_eq_true rfl) (Or.inl (by decide)) (rx_CI.imp H (fun v8 σ7 H => ?_))
    by_cases c9 : v8 = 0
    · rw [if_pos c9] at H
      refine g_if0t iX4_search_58 c9 ?_
      refine g_ii iX4_search_63 rfl ?_
      refine rx_Go.ls (la := [some (.inr 79), q1, some (.inl (rx_w (x2 + 1)))]) rfl ?_
      refine g_goto iX4_search_66 ?_
      exact H
    · rw [if_neg c9] at H
      refine g_if0f iX4_search_58 c9 ?_
      refine g_il iX4_search_61 rfl ?_
      exact g_ri iX4_search_62 (Or.inl rfl) H
set_option maxRecDepth 20000 in
set_option maxHeartbeats 4000000 in
theorem bX4_clashesOf (L d : Nat) (A0 : Nat) (hA0 : rx_isO 1 A0 = true) (x1 : Int) (σ : rx_St) (K : Int → rx_St → Prop)
    (H : rx_Go L (d + 1) mX4_clashesOf 4 [some (.inr A0), some (.inl x1), some (.inl 0), some (.inl 0)] [] σ (rx_PI K)) :
    rx_CI L (d + 1) mX4_clashesOf [.inr A0, .inl x1] σ K := by
  refine rx_CI.of (la := [some (.inr A0), some (.inl x1), none, none]) rfl ?_
  refine g_c iX4_clashesOf_0 ?_
  refine g_is iX4_clashesOf_1 (Nat.le_of_ble_eq_true rfl) ?_
  refine rx_Go.ls (la := [some (.inr A0), some (.inl x1), some (.inl 0), none]) rfl ?_
  refine g_c iX4_clashesOf_2 ?_
  refine g_is iX4_clashesOf_3 (Nat.le_of_ble_eq_true rfl) ?_
  refine rx_Go.ls (la := [some (.inr A0), some (.inl x1), some (.inl 0), some (.inl 0)]) rfl ?_
  exact H
set_option maxRecDepth 20000 in
set_option maxHeartbeats 4000000 in
theorem bX4_clashesOf_4 (L d : Nat) (A0 : Nat) (hA0 : rx_isO 1 A0 = true) (x1 : Int) (x2 : Int) (x3 : Int) (σ : rx_St) (K : Int → rx_St → Prop)
    (H : if (σ A0 6) ≤ x3 then (K x2 σ) else (if x3 = x1 then (rx_Go L (d + 1) mX4_clashesOf 4 [some (.inr A0), some (.inl x1), some (.inl x2), some (.inl (rx_w (x3 + 1)))] [] σ (rx_PI K)) else (rx_CI L d mX1_shareEnd [.inr A0, .inl x1, .inl x3] σ (fun v4 σ3 => if v4 ≠ 0 then (rx_Go L (d + 1) mX4_clashesOf 4 [some (.inr A0), some (.inl x1), some (.inl x2), some (.inl (rx_w (x3 + 1)))] [] σ3 (rx_PI K)) else (rx_CI L d mX1_meetInLine [.inr A0, .inl x1, .inl x3] σ3 (fun v7 σ6 => if v7 = 0 then (rx_Go L (d + 1) mX4_clashesOf 4 [some (.inr A0), some (.inl x1), some (.inl x2), some (.inl (rx_w (x3 + 1)))] [] σ6 (rx_PI K)) else (rx_Go L (d + 1) mX4_clashesOf 4 [some (.inr A0), some (.inl x1), some (.inl (rx_alu 4 x2 (rx_alu 6 1 x3))), some (.inl (rx_w (x3 + 1)))] [] σ6 (rx_PI K)))))))) :
    rx_Go L (d + 1) mX4_clashesOf 4 [some (.inr A0), some (.inl x1), some (.inl x2), some (.inl x3)] [] σ (rx_PI K) := by
  refine g_il iX4_clashesOf_4 rfl ?_
  refine g_al iX4_clashesOf_5 rfl ?_
  refine g_gf (kI := 6) rfl iX4_clashesOf_6 (fi_1_6 hA0) ?_
  by_cases c1 : (σ A0 6) ≤ x3
  · rw [if_pos c1] at H
    refine g_ic3t iX4_clashesOf_9 c1 ?_
    refine g_il iX4_clashesOf_47 rfl ?_
    exact g_ri iX4_clashesOf_48 (Or.inl rfl) H
  · rw [if_neg c1] at H
    refine g_ic3f iX4_clashesOf_9 c1 ?_
    refine g_il iX4_clashesOf_12 rfl ?_
    refine g_il iX4_clashesOf_13 rfl ?_
    by_cases c2 : x3 = x1
    · rw [if_pos c2] at H
      refine g_ic0t iX4_clashesOf_14 c2 ?_
      refine g_ii iX4_clashesOf_41 rfl ?_
      refine rx_Go.ls (la := [some (.inr A0), some (.inl x1), some (.inl x2), some (.inl (rx_w (x3 + 1)))]) rfl ?_
      refine g_goto iX4_clashesOf_44 ?_
      exact H
    · rw [if_neg c2] at H
      refine g_ic0f iX4_clashesOf_14 c2 ?_
      refine g_al iX4_clashesOf_17 rfl ?_
      refine g_il iX4_clashesOf_18 rfl ?_
      refine g_il iX4_clashesOf_19 rfl ?_
      refine g_ci (as := [.inr A0, .inl x1, .inl x3]) (rest := []) iX4_clashesOf_20 rfl rfl (Nat.le_of_ble_eq_true rfl) (Or.inr ⟨_, _, rfl, hA0⟩) (rx_CI.imp H (fun v4 σ3 H => ?_))
      by_cases c5 : v4 ≠ 0
      · rw [if_pos c5] at H
        refine g_if1t iX4_clashesOf_23 c5 ?_
        refine g_ii iX4_clashesOf_41 rfl ?_
        refine rx_Go.ls (la := [some (.inr A0), some (.inl x1), some (.inl x2), some (.inl (rx_w (x3 + 1)))]) rfl ?_
        refine g_goto iX4_clashesOf_44 ?_
        exact H
      · rw [if_neg c5] at H
        refine g_if1f iX4_clashesOf_23 c5 ?_
        refine g_al iX4_clashesOf_26 rfl ?_
        refine g_il iX4_clashesOf_27 rfl ?_
        refine g_il iX4_clashesOf_28 rfl ?_
        refine g_ci (as := [.inr A0, .inl x1, .inl x3]) (rest := []) iX4_clashesOf_29 rfl rfl (Nat.le_of_ble_eq_true rfl) (Or.inr ⟨_, _, rfl, hA0⟩) (rx_CI.imp H (fun v7 σ6 H => ?_))
        by_cases c8 : v7 = 0
        · rw [if_pos c8] at H
          refine g_if0t iX4_clashesOf_32 c8 ?_
          refine g_ii iX4_clashesOf_41 rfl ?_
          refine rx_Go.ls (la := [some (.inr A0), some (.inl x1), some (.inl x2), some (.inl (rx_w (x3 + 1)))]) rfl ?_
          refine g_goto iX4_clashesOf_44 ?_
          exact H
        · rw [if_neg c8] at H
          refine g_if0f iX4_clashesOf_32 c8 ?_
          refine g_il iX4_clashesOf_35 rfl ?_
          refine g_c iX4_clashesOf_36 ?_
          refine g_il iX4_clashesOf_37 rfl ?_
          refine g_bit iX4_clashesOf_38 ?_
          refine g_bit iX4_clashesOf_39 ?_
          refine g_is iX4_clashesOf_40 (Nat.le_of_ble_eq_true rfl) ?_
          refine rx_Go.ls (la := [some (.inr A0), some (.inl x1), some (.inl (rx_alu 4 x2 (rx_alu 6 1 x3))), some (.inl x3)]) rfl ?_
          refine g_ii iX4_clashesOf_41 rfl ?_
          refine rx_Go.ls (la := [some (.inr A0), some (.inl x1), some (.inl (rx_alu 4 x2 (rx_alu 6 1 x3))), some (.inl (rx_w (x3 + 1)))]) rfl ?_
          refine g_goto iX4_clashesOf_44 ?_
          exact H
set_option maxRecDepth 20000 in
set_option maxHeartbeats 4000000 in
theorem bX4_paint (L d : Nat) (x1 : Int) (x2 : Int) (x3 : Int) (σ : rx_St) (K : Int → rx_St → Prop)
    (H : if (σ 79 3) ≤ x1 then (K 1 σ) else (if x1 < 18 then ((0 ≤ x1 ∧ x1 < 18) ∧ (if (σ 81 x1) ≠ 0 then (rx_Go L (d + 1) mX4_paint 45 [some (.inr 79), some (.inl x1), some (.inl x2), some (.inl x3), some (.inl (rx_mn (rx_w (x2 + 1)) x3)), some (.inl 0)] [] σ (rx_PI K)) else (rx_Go L (d + 1) mX4_paint 45 [some (.inr 79), some (.inl x1), some (.inl x2), some (.inl x3), some (.inl (rx_mn 1 x3)), some (.inl 0)] [] σ (rx_PI K)))) else (K 1 σ))) :
    rx_CI L (d + 1) mX4_paint [.inr 79, .inl x1, .inl x2, .inl x3] σ K := by
  refine rx_CI.of (la := [some (.inr 79), some (.inl x1), some (.inl x2), some (.inl x3), none, none]) rfl ?_
  refine g_il iX4_paint_0 rfl ?_
  refine g_al iX4_paint_1 rfl ?_
  refine g_gf (kI := 3) rfl iX4_paint_2 fi_4_3_79 ?_
  by_cases c1 : (σ 79 3) ≤ x1
  · rw [if_pos c1] at H
    refine g_ic3t iX4_paint_5 c1 ?_
    refine g_c iX4_paint_14 ?_
    exact g_ri iX4_paint_15 (by decide) H
  · rw [if_neg c1] at H
    refine g_ic3f iX4_paint_5 c1 ?_
    refine g_il iX4_paint_8 rfl ?_
    refine g_c iX4_paint_9 ?_
    by_cases c2 : x1 < 18
    · rw [if_pos c2] at H
      refine g_ic2t iX4_paint_11 c2 ?_
      refine g_al iX4_paint_16 rfl ?_
      refine g_gr iX4_paint_17 fr_4_1_79 ?_
      refine g_il iX4_paint_20 rfl ?_
      obtain ⟨o3, H⟩ := H
      refine g_ld iX4_paint_21 (ln_81 L) o3 ?_
      by_cases c4 : (σ 81 x1) ≠ 0
      · rw [if_pos c4] at H
        refine g_if1t iX4_paint_22 c4 ?_
        refine g_il iX4_paint_33 rfl ?_
        refine g_c iX4_paint_34 ?_
        refine g_add iX4_paint_35 ?_
        refine g_il iX4_paint_36 rfl ?_
        refine g_mn iX4_paint_37 (Nat.le_of_ble_eq_true rfl) ?_
        refine g_is iX4_paint_40 (Nat.le_of_ble_eq_true rfl) ?_
        refine rx_Go.ls (la := [some (.inr 79), some (.inl x1), some (.inl x2), some (.inl x3), some (.inl (rx_mn (rx_w (x2 + 1)) x3)), none]) rfl ?_
        refine g_c iX4_paint_42 ?_
        refine g_is iX4_paint_43 (Nat.le_of_ble_eq_true rfl) ?_
        refine rx_Go.ls (la := [some (.inr 79), some (.inl x1), some (.inl x2), some (.inl x3), some (.inl (rx_mn (rx_w (x2 + 1)) x3)), some (.inl 0)]) rfl ?_
        exact H
      · rw [if_neg c4] at H
        refine g_if1f iX4_paint_22 c4 ?_
        refine g_c iX4_paint_25 ?_
        refine g_il iX4_paint_26 rfl ?_
        refine g_mn iX4_paint_27 (Nat.le_of_ble_eq_true rfl) ?_
        refine g_goto iX4_paint_30 ?_
        refine g_is iX4_paint_40 (Nat.le_of_ble_eq_true rfl) ?_
        refine rx_Go.ls (la := [some (.inr 79), some (.inl x1), some (.inl x2), some (.inl x3), some (.inl (rx_mn 1 x3)), none]) rfl ?_
        refine g_c iX4_paint_42 ?_
        refine g_is iX4_paint_43 (Nat.le_of_ble_eq_true rfl) ?_
        refine rx_Go.ls (la := [some (.inr 79), some (.inl x1), some (.inl x2), some (.inl x3), some (.inl (rx_mn 1 x3)), some (.inl 0)]) rfl ?_
        exact H
    · rw [if_neg c2] at H
      refine g_ic2f iX4_paint_11 c2 ?_
      refine g_c iX4_paint_14 ?_
      exact g_ri iX4_paint_15 (by decide) H
set_option maxRecDepth 20000 in
set_option maxHeartbeats 4000000 in
theorem bX4_paint_45 (L d : Nat) (x1 : Int) (x2 : Int) (x3 : Int) (x4 : Int) (x5 : Int) (σ : rx_St) (K : Int → rx_St → Prop)
    (H : if x4 ≤ x5 then (K 0 σ) else ((0 ≤ x1 ∧ x1 < 18) ∧ ((0 ≤ x5 ∧ x5 < 18) ∧ (if (rx_alu 3 (σ 81 x1) (σ 82 x5)) ≠ 0 then (rx_Go L (d + 1) mX4_paint 45 [some (.inr 79), some (.inl x1), some (.inl x2), some (.inl x3), some (.inl x4), some (.inl (rx_w (x5 + 1)))] [] σ (rx_PI K)) else (rx_CI L d mX4_paint [.inr 79, .inl (rx_w (x1 + 1)), .inl (rx_mx x2 (rx_w (x5 + 1))), .inl x3] (rx_up (rx_up σ 80 x1 x5) 82 x5 (rx_alu 4 ((rx_up σ 80 x1 x5) 82 x5) (rx_alu 6 1 x1))) (fun v10 σ9 => if v10 = 0 then (rx_Go L (d + 1) mX4_paint 45 [some (.inr 79), some (.inl x1), some (.inl x2), some (.inl x3), some (.inl x4), some (.inl (rx_w (x5 + 1)))] [] (rx_up σ9 82 x5 (rx_alu 3 (σ9 82 x5) (rx_alu 5 (rx_alu 6 1 x1) (-1)))) (rx_PI K)) else (K 1 σ9))))))) :
    rx_Go L (d + 1) mX4_paint 45 [some (.inr 79), some (.inl x1), some (.inl x2), some (.inl x3), some (.inl x4), some (.inl x5)] [] σ (rx_PI K) := by
  refine g_il iX4_paint_45 rfl ?_
  refine g_il iX4_paint_47 rfl ?_
  by_cases c5 : x4 ≤ x5
  · rw [if_pos c5] at H
    refine g_ic3t iX4_paint_49 c5 ?_
    refine g_c iX4_paint_132 ?_
    exact g_ri iX4_paint_133 (by decide) H
  · rw [if_neg c5] at H
    refine g_ic3f iX4_paint_49 c5 ?_
    refine g_al iX4_paint_52 rfl ?_
    refine g_gr iX4_paint_53 fr_4_1_79 ?_
    refine g_il iX4_paint_56 rfl ?_
    obtain ⟨o6, H⟩ := H
    refine g_ld iX4_paint_57 (ln_81 L) o6 ?_
    refine g_al iX4_paint_58 rfl ?_
    refine g_gr iX4_paint_59 fr_4_2_79 ?_
    refine g_il iX4_paint_62 rfl ?_
    obtain ⟨o7, H⟩ := H
    refine g_ld iX4_paint_64 (ln_82 L) o7 ?_
    refine g_bit iX4_paint_65 ?_
    by_cases c8 : (rx_alu 3 (σ 81 x1) (σ 82 x5)) ≠ 0
    · rw [if_pos c8] at H
      refine g_if1t iX4_paint_66 c8 ?_
      refine g_ii iX4_paint_126 rfl ?_
      refine rx_Go.ls (la := [some (.inr 79), some (.inl x1), some (.inl x2), some (.inl x3), some (.inl x4), some (.inl (rx_w (x5 + 1)))]) rfl ?_
      refine g_goto iX4_paint_129 ?_
      exact H
    · rw [if_neg c8] at H
      refine g_if1f iX4_paint_66 c8 ?_
      refine g_al iX4_paint_69 rfl ?_
      refine g_gr iX4_paint_70 fr_4_0_79 ?_
      refine g_il iX4_paint_73 rfl ?_
      refine g_il iX4_paint_74 rfl ?_
      refine g_st iX4_paint_76 (ln_80 L) (by decide) o6 rfl ?_
      refine g_al iX4_paint_77 rfl ?_
      refine g_gr iX4_paint_78 fr_4_2_79 ?_
      refine g_il iX4_paint_81 rfl ?_
      refine g_dup2 iX4_paint_83 ?_
      refine g_ld iX4_paint_84 (ln_82 L) o7 ?_
      refine g_c iX4_paint_85 ?_
      refine g_il iX4_paint_86 rfl ?_
      refine g_bit iX4_paint_87 ?_
      refine g_bit iX4_paint_88 ?_
      refine g_st iX4_paint_89 (ln_82 L) (by decide) o7 rfl ?_
      refine g_al iX4_paint_90 rfl ?_
      refine g_il iX4_paint_91 rfl ?_
      refine g_c iX4_paint_92 ?_
      refine g_add iX4_paint_93 ?_
      refine g_il iX4_paint_94 rfl ?_
      refine g_il iX4_paint_95 rfl ?_
      refine g_c iX4_paint_97 ?_
      refine g_add iX4_paint_98 ?_
      refine g_mx iX4_paint_99 (Nat.le_of_ble_eq_true rfl) ?_
      refine g_il iX4_paint_102 rfl ?_
      refine g_ci (as := [.inr 79, .inl (rx_w (x1 + 1)), .inl (rx_mx x2 (rx_w (x5 + 1))), .inl x3]) (rest := []) iX4_paint_103 rfl rfl (Nat.le_of_ble_eq_true rfl) (Or.inl (by decide)) (rx_CI.imp H (fun v10 σ9 H => ?_))
      by_cases c11 : v10 = 0
      · rw [if_pos c11] at H
        refine g_if0t iX4_paint_106 c11 ?_
        refine g_al iX4_paint_111 rfl ?_
        refine g_gr iX4_paint_112 fr_4_2_79 ?_
        refine g_il iX4_paint_115 rfl ?_
        refine g_dup2 iX4_paint_117 ?_
        refine g_ld iX4_paint_118 (ln_82 L) o7 ?_
        refine g_c iX4_paint_119 ?_
        refine g_il iX4_paint_120 rfl ?_
        refine g_bit iX4_paint_121 ?_
        refine g_c iX4_paint_122 ?_
        refine g_bit iX4_paint_123 ?_
        refine g_bit iX4_paint_124 ?_
        refine g_st iX4_paint_125 (ln_82 L) (by decide) o7 rfl ?_
        refine g_ii iX4_paint_126 rfl ?_
        refine rx_Go.ls (la := [some (.inr 79), some (.inl x1), some (.inl x2), some (.inl x3), some (.inl x4), some (.inl (rx_w (x5 + 1)))]) rfl ?_
        refine g_goto iX4_paint_129 ?_
        exact H
      · rw [if_neg c11] at H
        refine g_if0f iX4_paint_106 c11 ?_
        refine g_c iX4_paint_109 ?_
        exact g_ri iX4_paint_110 (by decide) H
set_option maxRecDepth 20000 in
set_option maxHeartbeats 4000000 in
theorem bX5_feedNumber (L d : Nat) (x1 : Int) (σ : rx_St) (K : rx_St → Prop)
    (H : rx_Go L d mX5_feedNumber 3 [some (.inr 34), some (.inl x1), some (.inl 24)] [] σ (rx_PV K)) :
    rx_CV L d mX5_feedNumber [.inr 34, .inl x1] σ K := by
  refine rx_CV.of (la := [some (.inr 34), some (.inl x1), none]) rfl ?_
  refine g_c iX5_feedNumber_0 ?_
  refine g_is iX5_feedNumber_2 (Nat.le_of_ble_eq_true rfl) ?_
  refine rx_Go.ls (la := [some (.inr 34), some (.inl x1), some (.inl 24)]) rfl ?_
  exact H
set_option maxRecDepth 20000 in
set_option maxHeartbeats 4000000 in
theorem bX5_feedNumber_3 (L d : Nat) (x1 : Int) (x2 : Int) (σ : rx_St) (K : rx_St → Prop)
    (H : if x2 < 0 then (K σ) else (if 96 ≤ (σ 34 0) then (rx_Go L d mX5_feedNumber 3 [some (.inr 34), some (.inl x1), some (.inl (rx_w (x2 + (-8))))] [] σ (rx_PV K)) else ((0 ≤ (σ 34 0) ∧ (σ 34 0) < 96) ∧ (rx_Go L d mX5_feedNumber 3 [some (.inr 34), some (.inl x1), some (.inl (rx_w (x2 + (-8))))] [] (rx_up (rx_up σ 36 (σ 34 0) (rx_alu 3 (rx_alu 8 x1 x2) 255)) 34 0 (rx_w (((rx_up σ 36 (σ 34 0) (rx_alu 3 (rx_alu 8 x1 x2) 255)) 34 0) + 1))) (rx_PV K))))) :
    rx_Go L d mX5_feedNumber 3 [some (.inr 34), some (.inl x1), some (.inl x2)] [] σ (rx_PV K) := by
  refine g_il iX5_feedNumber_3 rfl ?_
  by_cases c1 : x2 < 0
  · rw [if_pos c1] at H
    refine g_if2t iX5_feedNumber_4 c1 ?_
    exact g_rv iX5_feedNumber_48 H
  · rw [if_neg c1] at H
    refine g_if2f iX5_feedNumber_4 c1 ?_
    refine g_al iX5_feedNumber_7 rfl ?_
    refine g_gf (kI := 0) rfl iX5_feedNumber_8 fi_5_0_34 ?_
    refine g_c iX5_feedNumber_11 ?_
    by_cases c2 : 96 ≤ (σ 34 0)
    · rw [if_pos c2] at H
      refine g_ic3t iX5_feedNumber_13 c2 ?_
      refine g_ii iX5_feedNumber_42 rfl ?_
      refine rx_Go.ls (la := [some (.inr 34), some (.inl x1), some (.inl (rx_w (x2 + (-8))))]) rfl ?_
      refine g_goto iX5_feedNumber_45 ?_
      exact H
    · rw [if_neg c2] at H
      refine g_ic3f iX5_feedNumber_13 c2 ?_
      refine g_al iX5_feedNumber_16 rfl ?_
      refine g_gr iX5_feedNumber_17 fr_5_5_34 ?_
      refine g_al iX5_feedNumber_20 rfl ?_
      refine g_gf (kI := 0) rfl iX5_feedNumber_21 fi_5_0_34 ?_
      refine g_il iX5_feedNumber_24 rfl ?_
      refine g_il iX5_feedNumber_25 rfl ?_
      refine g_bit iX5_feedNumber_26 ?_
      refine g_c iX5_feedNumber_27 ?_
      refine g_bit iX5_feedNumber_30 ?_
      obtain ⟨o3, H⟩ := H
      refine g_st iX5_feedNumber_31 (ln_36 L) (by decide) o3 rfl ?_
      refine g_al iX5_feedNumber_32 rfl ?_
      refine g_dup iX5_feedNumber_33 ?_
      refine g_gf (kI := 0) rfl iX5_feedNumber_34 fi_5_0_34 ?_
      refine g_c iX5_feedNumber_37 ?_
      refine g_add iX5_feedNumber_38 ?_
      refine g_pf (kI := 0) rfl iX5_feedNumber_39 fi_5_0_34 (Or.inl rfl) ?_
      refine g_ii iX5_feedNumber_42 rfl ?_
      refine rx_Go.ls (la := [some (.inr 34), some (.inl x1), some (.inl (rx_w (x2 + (-8))))]) rfl ?_
      refine g_goto iX5_feedNumber_45 ?_
      exact H
set_option maxRecDepth 20000 in
set_option maxHeartbeats 4000000 in
theorem bX5_read (L d : Nat)  (σ : rx_St) (K : Int → rx_St → Prop)
    (H : rx_CV L d mX5_next [.inr 34] (rx_up (rx_up (rx_up (rx_up (rx_up σ 34 6 (-1)) 34 8 0) 34 9 (-1)) 34 2 0) 34 3 0) (fun σ1 => rx_CI L d mX5_keyHere [.inr 34] σ1 (fun v3 σ2 => if 0 ≤ ((rx_up σ2 34 1 v3) 34 1) then (rx_CV L d mX5_next [.inr 34] (rx_up σ2 34 1 v3) (fun σ5 => rx_CV L d mX5_chain [.inr 34, .inl 0, .inl 0, .inl 0] σ5 (fun σ6 => if (σ6 34 6) = (-1) then (K (σ6 34 9) σ6) else (rx_CV L d mX5_fail [.inr 34] σ6 (fun σ8 => K (σ8 34 9) σ8))))) else (rx_CV L d mX5_fail [.inr 34] (rx_up σ2 34 1 v3) (fun σ9 => K (σ9 34 9) σ9))))) :
    rx_CI L (d + 1) mX5_read [.inr 34] σ K := by
  refine rx_CI.of (la := [some (.inr 34)]) rfl ?_
  refine g_al iX5_read_0 rfl ?_
  refine g_c iX5_read_1 ?_
  refine g_pf (kI := 6) rfl iX5_read_2 fi_5_6_34 (Or.inl rfl) ?_
  refine g_al iX5_read_5 rfl ?_
  refine g_c iX5_read_6 ?_
  refine g_pf (kI := 8) rfl iX5_read_7 fi_5_8_34 (Or.inl rfl) ?_
  refine g_al iX5_read_10 rfl ?_
  refine g_c iX5_read_11 ?_
  refine g_pf (kI := 9) rfl iX5_read_12 fi_5_9_34 (Or.inl rfl) ?_
  refine g_al iX5_read_15 rfl ?_
  refine g_c iX5_read_16 ?_
  refine g_pf (kI := 2) rfl iX5_read_17 fi_5_2_34 (Or.inl rfl) ?_
  refine g_al iX5_read_20 rfl ?_
  refine g_c iX5_read_21 ?_
  refine g_pf (kI := 3) rfl iX5_read_22 fi_5_3_34 (Or.inl rfl) ?_
  refine g_al iX5_read_25 rfl ?_
  refine g_cv (as := [.inr 34]) (rest := []) iX5_read_26 rfl rfl (Nat.le_of_ble_eq_true rfl) (Or.inr ⟨_, _, rfl, oo_5_34⟩) (rx_CV.imp H (fun σ1 H => ?_))
  refine g_al iX5_read_29 rfl ?_
  refine g_al iX5_read_30 rfl ?_
  refine g_ci (as := [.inr 34]) (rest := [.inr 34]) iX5_read_31 rfl rfl (Nat.le_of_ble_eq_true rfl) (Or.inr ⟨_, _, rfl, oo_5_34⟩) (rx_CI.imp H (fun v3 σ2 H => ?_))
  refine g_pf (kI := 1) rfl iX5_read_34 fi_5_1_34 (Or.inl rfl) ?_
  refine g_al iX5_read_37 rfl ?_
  refine g_gf (kI := 1) rfl iX5_read_38 fi_5_1_34 ?_
  by_cases c4 : 0 ≤ ((rx_up σ2 34 1 v3) 34 1)
  · rw [if_pos c4] at H
    refine g_if3t iX5_read_41 c4 ?_
    refine g_al iX5_read_53 rfl ?_
    refine g_cv (as := [.inr 34]) (rest := []) iX5_read_54 rfl rfl (Nat.le_of_ble_eq_true rfl) (Or.inr ⟨_, _, rfl, oo_5_34⟩) (rx_CV.imp H (fun σ5 H => ?_))
    refine g_al iX5_read_57 rfl ?_
    refine g_c iX5_read_58 ?_
    refine g_c iX5_read_59 ?_
    refine g_c iX5_read_60 ?_
    refine g_cv (as := [.inr 34, .inl 0, .inl 0, .inl 0]) (rest := []) iX5_read_61 rfl rfl (Nat.le_of_ble_eq_true rfl) (Or.inr ⟨_, _, rfl, oo_5_34⟩) (rx_CV.imp H (fun σ6 H => ?_))
    refine g_al iX5_read_64 rfl ?_
    refine g_gf (kI := 6) rfl iX5_read_65 fi_5_6_34 ?_
    refine g_c iX5_read_68 ?_
    by_cases c7 : (σ6 34 6) = (-1)
    · rw [if_pos c7] at H
      refine g_ic0t iX5_read_69 c7 ?_
      refine g_al iX5_read_76 rfl ?_
      refine g_gf (kI := 9) rfl iX5_read_77 fi_5_9_34 ?_
      exact g_ri iX5_read_80 (Or.inl rfl) H
    · rw [if_neg c7] at H
      refine g_ic0f iX5_read_69 c7 ?_
      refine g_al iX5_read_72 rfl ?_
      refine g_cv (as := [.inr 34]) (rest := []) iX5_read_73 rfl rfl (Nat.le_of_ble_eq_true rfl) (Or.inr ⟨_, _, rfl, oo_5_34⟩) (rx_CV.imp H (fun σ8 H => ?_))
      refine g_al iX5_read_76 rfl ?_
      refine g_gf (kI := 9) rfl iX5_read_77 fi_5_9_34 ?_
      exact g_ri iX5_read_80 (Or.inl rfl) H
  · rw [if_neg c4] at H
    refine g_if3f iX5_read_41 c4 ?_
    refine g_al iX5_read_44 rfl ?_
    refine g_cv (as := [.inr 34]) (rest := []) iX5_read_45 rfl rfl (Nat.le_of_ble_eq_true rfl) (Or.inr ⟨_, _, rfl, oo_5_34⟩) (rx_CV.imp H (fun σ9 H => ?_))
    refine g_al iX5_read_48 rfl ?_
    refine g_gf (kI := 9) rfl iX5_read_49 fi_5_9_34 ?_
    exact g_ri iX5_read_52 (Or.inl rfl) H
set_option maxRecDepth 20000 in
set_option maxHeartbeats 4000000 in
theorem bX5_fail (L d : Nat)  (σ : rx_St) (K : rx_St → Prop)
    (H : if 0 ≤ (σ 34 9) then (K σ) else (K (rx_up σ 34 9 (σ 34 7)))) :
    rx_CV L d mX5_fail [.inr 34] σ K := by
  refine rx_CV.of (la := [some (.inr 34)]) rfl ?_
  refine g_al iX5_fail_0 rfl ?_
  refine g_gf (kI := 9) rfl iX5_fail_1 fi_5_9_34 ?_
  by_cases c1 : 0 ≤ (σ 34 9)
  · rw [if_pos c1] at H
    refine g_if3t iX5_fail_4 c1 ?_
    exact g_rv iX5_fail_15 H
  · rw [if_neg c1] at H
    refine g_if3f iX5_fail_4 c1 ?_
    refine g_al iX5_fail_7 rfl ?_
    refine g_al iX5_fail_8 rfl ?_
    refine g_gf (kI := 7) rfl iX5_fail_9 fi_5_7_34 ?_
    refine g_pf (kI := 9) rfl iX5_fail_12 fi_5_9_34 (Or.inl rfl) ?_
    exact g_rv iX5_fail_15 H
set_option maxRecDepth 20000 in
set_option maxHeartbeats 4000000 in
theorem bX5_next (L d : Nat)  (σ : rx_St) (K : rx_St → Prop)
    (H : if (σ 34 6) = (-2) then (rx_Go L (d + 1) mX5_next 23 [some (.inr 34), some (.inl (σ 34 8)), none] [] σ (rx_PV K)) else (if (σ 34 6) ≠ (-3) then (rx_Go L (d + 1) mX5_next 29 [some (.inr 34), some (.inl (σ 34 8)), some (.inl 0)] [] σ (rx_PV K)) else (rx_Go L (d + 1) mX5_next 23 [some (.inr 34), some (.inl (σ 34 8)), none] [] σ (rx_PV K)))) :
    rx_CV L (d + 1) mX5_next [.inr 34] σ K := by
  refine rx_CV.of (la := [some (.inr 34), none, none]) rfl ?_
  refine g_al iX5_next_0 rfl ?_
  refine g_gf (kI := 8) rfl iX5_next_1 fi_5_8_34 ?_
  refine g_is iX5_next_4 (Nat.le_of_ble_eq_true rfl) ?_
  refine rx_Go.ls (la := [some (.inr 34), some (.inl (σ 34 8)), none]) rfl ?_
  refine g_al iX5_next_5 rfl ?_
  refine g_gf (kI := 6) rfl iX5_next_6 fi_5_6_34 ?_
  refine g_c iX5_next_9 ?_
  by_cases c1 : (σ 34 6) = (-2)
  · rw [if_pos c1] at H
    refine g_ic0t iX5_next_11 c1 ?_
    exact H
  · rw [if_neg c1] at H
    refine g_ic0f iX5_next_11 c1 ?_
    refine g_al iX5_next_14 rfl ?_
    refine g_gf (kI := 6) rfl iX5_next_15 fi_5_6_34 ?_
    refine g_c iX5_next_18 ?_
    by_cases c2 : (σ 34 6) ≠ (-3)
    · rw [if_pos c2] at H
      refine g_ic1t iX5_next_20 c2 ?_
      refine g_c iX5_next_27 ?_
      refine g_is iX5_next_28 (Nat.le_of_ble_eq_true rfl) ?_
      refine rx_Go.ls (la := [some (.inr 34), some (.inl (σ 34 8)), some (.inl 0)]) rfl ?_
      exact H
    · rw [if_neg c2] at H
      refine g_ic1f iX5_next_20 c2 ?_
      exact H
set_option maxRecDepth 20000 in
set_option maxHeartbeats 4000000 in
theorem bX5_next_23 (L d : Nat) (x1 : Int) (q2 : Option rx_V) (σ : rx_St) (K : rx_St → Prop)
    (H : rx_Go L (d + 1) mX5_next 29 [some (.inr 34), some (.inl x1), some (.inl 1)] [] σ (rx_PV K)) :
    rx_Go L (d + 1) mX5_next 23 [some (.inr 34), some (.inl x1), q2] [] σ (rx_PV K) := by
  refine g_c iX5_next_23 ?_
  refine g_goto iX5_next_24 ?_
  refine g_is iX5_next_28 (Nat.le_of_ble_eq_true rfl) ?_
  refine rx_Go.ls (la := [some (.inr 34), some (.inl x1), some (.inl 1)]) rfl ?_
  exact H
set_option maxRecDepth 20000 in
set_option maxHeartbeats 4000000 in
theorem bX5_next_29 (L d : Nat) (x1 : Int) (x2 : Int) (σ : rx_St) (K : rx_St → Prop)
    (H : rx_CI L d mX5_behindRow [.inr 34, .inl x1, .inl 32, .inl 32] σ (fun v4 σ3 => if ((rx_up σ3 34 7 v4) 34 7) < ((rx_up σ3 34 7 v4) 34 0) then ((0 ≤ ((rx_up σ3 34 7 v4) 34 7) ∧ ((rx_up σ3 34 7 v4) 34 7) < 96) ∧ (rx_CI L d mX5_isWithin [.inl ((rx_up σ3 34 7 v4) 36 ((rx_up σ3 34 7 v4) 34 7)), .inl 97, .inl 122] (rx_up σ3 34 7 v4) (fun v8 σ7 => if v8 = 0 then ((0 ≤ (σ7 34 7) ∧ (σ7 34 7) < 96) ∧ (rx_CI L d mX5_isWithin [.inl (σ7 36 (σ7 34 7)), .inl 48, .inl 57] σ7 (fun v12 σ11 => if v12 = 0 then ((0 ≤ ((rx_up σ11 34 8 (rx_w ((σ11 34 7) + 1))) 34 7) ∧ ((rx_up σ11 34 8 (rx_w ((σ11 34 7) + 1))) 34 7) < 96) ∧ (rx_Go L (d + 1) mX5_next 180 [some (.inr 34), some (.inl x1), some (.inl x2)] [] (rx_up (rx_up σ11 34 8 (rx_w ((σ11 34 7) + 1))) 34 6 ((rx_up σ11 34 8 (rx_w ((σ11 34 7) + 1))) 36 ((rx_up σ11 34 8 (rx_w ((σ11 34 7) + 1))) 34 7))) (rx_PV K))) else (rx_CI L d mX5_behindRow [.inr 34, .inl (σ11 34 7), .inl 48, .inl 57] σ11 (fun v16 σ15 => rx_Go L (d + 1) mX5_next 180 [some (.inr 34), some (.inl x1), some (.inl x2)] [] (rx_up (rx_up σ15 34 8 v16) 34 6 (-3)) (rx_PV K)))))) else (rx_CI L d mX5_behindRow [.inr 34, .inl (σ7 34 7), .inl 97, .inl 122] σ7 (fun v18 σ17 => rx_Go L (d + 1) mX5_next 180 [some (.inr 34), some (.inl x1), some (.inl x2)] [] (rx_up (rx_up σ17 34 8 v18) 34 6 (-2)) (rx_PV K)))))) else (rx_Go L (d + 1) mX5_next 180 [some (.inr 34), some (.inl x1), some (.inl x2)] [] (rx_up (rx_up (rx_up σ3 34 7 v4) 34 8 ((rx_up σ3 34 7 v4) 34 0)) 34 6 (-1)) (rx_PV K)))) :
    rx_Go L (d + 1) mX5_next 29 [some (.inr 34), some (.inl x1), some (.inl x2)] [] σ (rx_PV K) := by
  refine g_al iX5_next_29 rfl ?_
  refine g_al iX5_next_30 rfl ?_
  refine g_il iX5_next_31 rfl ?_
  refine g_c iX5_next_32 ?_
  refine g_c iX5_next_34 ?_
  refine g_ci (as := [.inr 34, .inl x1, .inl 32, .inl 32]) (rest := [.inr 34]) iX5_next_36 rfl rfl (Nat.le_of_ble_eq_true rfl) (Or.inr ⟨_, _, rfl, oo_5_34⟩) (rx_CI.imp H (fun v4 σ3 H => ?_))
  refine g_pf (kI := 7) rfl iX5_next_39 fi_5_7_34 (Or.inl rfl) ?_
  refine g_al iX5_next_42 rfl ?_
  refine g_gf (kI := 7) rfl iX5_next_43 fi_5_7_34 ?_
  refine g_al iX5_next_46 rfl ?_
  refine g_gf (kI := 0) rfl iX5_next_47 fi_5_0_34 ?_
  by_cases c5 : ((rx_up σ3 34 7 v4) 34 7) < ((rx_up σ3 34 7 v4) 34 0)
  · rw [if_pos c5] at H
    refine g_ic2t iX5_next_50 c5 ?_
    refine g_al iX5_next_69 rfl ?_
    refine g_gr iX5_next_70 fr_5_5_34 ?_
    refine g_al iX5_next_73 rfl ?_
    refine g_gf (kI := 7) rfl iX5_next_74 fi_5_7_34 ?_
    obtain ⟨o6, H⟩ := H
    refine g_ld iX5_next_77 (ln_36 L) o6 ?_
    refine g_c iX5_next_78 ?_
    refine g_c iX5_next_80 ?_
    refine g_ci (as := [.inl ((rx_up σ3 34 7 v4) 36 ((rx_up σ3 34 7 v4) 34 7)), .inl 97, .inl 122]) (rest := []) iX5_next_82 rfl rfl (Nat.le_of_ble_eq_true rfl) (Or.inl (by decide)) (rx_CI.imp H (fun v8 σ7 H => ?_))
    by_cases c9 : v8 = 0
    · rw [if_pos c9] at H
      refine g_if0t iX5_next_85 c9 ?_
      refine g_al iX5_next_113 rfl ?_
      refine g_gr iX5_next_114 fr_5_5_34 ?_
      refine g_al iX5_next_117 rfl ?_
      refine g_gf (kI := 7) rfl iX5_next_118 fi_5_7_34 ?_
      obtain ⟨o10, H⟩ := H
      refine g_ld iX5_next_121 (ln_36 L) o10 ?_
      refine g_c iX5_next_122 ?_
      refine g_c iX5_next_124 ?_
      refine g_ci (as := [.inl (σ7 36 (σ7 34 7)), .inl 48, .inl 57]) (rest := []) iX5_next_126 rfl rfl (Nat.le_of_ble_eq_true rfl) (Or.inl (by decide)) (rx_CI.imp H (fun v12 σ11 H => ?_))
      by_cases c13 : v12 = 0
      · rw [if_pos c13] at H
        refine g_if0t iX5_next_129 c13 ?_
        refine g_al iX5_next_157 rfl ?_
        refine g_al iX5_next_158 rfl ?_
        refine g_gf (kI := 7) rfl iX5_next_159 fi_5_7_34 ?_
        refine g_c iX5_next_162 ?_
        refine g_add iX5_next_163 ?_
        refine g_pf (kI := 8) rfl iX5_next_164 fi_5_8_34 (Or.inl rfl) ?_
        refine g_al iX5_next_167 rfl ?_
        refine g_al iX5_next_168 rfl ?_
        refine g_gr iX5_next_169 fr_5_5_34 ?_
        refine g_al iX5_next_172 rfl ?_
        refine g_gf (kI := 7) rfl iX5_next_173 fi_5_7_34 ?_
        obtain ⟨o14, H⟩ := H
        refine g_ld iX5_next_176 (ln_36 L) o14 ?_
        refine g_pf (kI := 6) rfl iX5_next_177 fi_5_6_34 (Or.inl rfl) ?_
        exact H
      · rw [if_neg c13] at H
        refine g_if0f iX5_next_129 c13 ?_
        refine g_al iX5_next_132 rfl ?_
        refine g_al iX5_next_133 rfl ?_
        refine g_al iX5_next_134 rfl ?_
        refine g_gf (kI := 7) rfl iX5_next_135 fi_5_7_34 ?_
        refine g_c iX5_next_138 ?_
        refine g_c iX5_next_140 ?_
        refine g_ci (as := [.inr 34, .inl (σ11 34 7), .inl 48, .inl 57]) (rest := [.inr 34]) iX5_next_142 rfl rfl (Nat.le_of_ble_eq_true rfl) (Or.inr ⟨_, _, rfl, oo_5_34⟩) (rx_CI.imp H (fun v16 σ15 H => ?_))
        refine g_pf (kI := 8) rfl iX5_next_145 fi_5_8_34 (Or.inl rfl) ?_
        refine g_al iX5_next_148 rfl ?_
        refine g_c iX5_next_149 ?_
        refine g_pf (kI := 6) rfl iX5_next_151 fi_5_6_34 (Or.inl rfl) ?_
        refine g_goto iX5_next_154 ?_
        exact H
    · rw [if_neg c9] at H
      refine g_if0f iX5_next_85 c9 ?_
      refine g_al iX5_next_88 rfl ?_
      refine g_al iX5_next_89 rfl ?_
      refine g_al iX5_next_90 rfl ?_
      refine g_gf (kI := 7) rfl iX5_next_91 fi_5_7_34 ?_
      refine g_c iX5_next_94 ?_
      refine g_c iX5_next_96 ?_
      refine g_ci (as := [.inr 34, .inl (σ7 34 7), .inl 97, .inl 122]) (rest := [.inr 34]) iX5_next_98 rfl rfl (Nat.le_of_ble_eq_true rfl) (Or.inr ⟨_, _, rfl, oo_5_34⟩) (rx_CI.imp H (fun v18 σ17 H => ?_))
      refine g_pf (kI := 8) rfl iX5_next_101 fi_5_8_34 (Or.inl rfl) ?_
      refine g_al iX5_next_104 rfl ?_
      refine g_c iX5_next_105 ?_
      refine g_pf (kI := 6) rfl iX5_next_107 fi_5_6_34 (Or.inl rfl) ?_
      refine g_goto iX5_next_110 ?_
      exact H
  · rw [if_neg c5] at H
    refine g_ic2f iX5_next_50 c5 ?_
    refine g_al iX5_next_53 rfl ?_
    refine g_al iX5_next_54 rfl ?_
    refine g_gf (kI := 0) rfl iX5_next_55 fi_5_0_34 ?_
    refine g_pf (kI := 8) rfl iX5_next_58 fi_5_8_34 (Or.inl rfl) ?_
    refine g_al iX5_next_61 rfl ?_
    refine g_c iX5_next_62 ?_
    refine g_pf (kI := 6) rfl iX5_next_63 fi_5_6_34 (Or.inl rfl) ?_
    refine g_goto iX5_next_66 ?_
    exact H
set_option maxRecDepth 20000 in
set_option maxHeartbeats 4000000 in
theorem bX5_next_180 (L d : Nat) (x1 : Int) (x2 : Int) (σ : rx_St) (K : rx_St → Prop)
    (H : if x2 = 0 then (K σ) else (if (σ 34 7) ≠ x1 then (K σ) else (if (σ 34 6) = (-2) then (rx_Go L (d + 1) mX5_next 210 [some (.inr 34), some (.inl x1), some (.inl x2)] [] σ (rx_PV K)) else (if (σ 34 6) ≠ (-3) then (K σ) else (rx_Go L (d + 1) mX5_next 210 [some (.inr 34), some (.inl x1), some (.inl x2)] [] σ (rx_PV K)))))) :
    rx_Go L (d + 1) mX5_next 180 [some (.inr 34), some (.inl x1), some (.inl x2)] [] σ (rx_PV K) := by
  refine g_il iX5_next_180 rfl ?_
  by_cases c19 : x2 = 0
  · rw [if_pos c19] at H
    refine g_if0t iX5_next_181 c19 ?_
    exact g_rv iX5_next_216 H
  · rw [if_neg c19] at H
    refine g_if0f iX5_next_181 c19 ?_
    refine g_al iX5_next_184 rfl ?_
    refine g_gf (kI := 7) rfl iX5_next_185 fi_5_7_34 ?_
    refine g_il iX5_next_188 rfl ?_
    by_cases c20 : (σ 34 7) ≠ x1
    · rw [if_pos c20] at H
      refine g_ic1t iX5_next_189 c20 ?_
      exact g_rv iX5_next_216 H
    · rw [if_neg c20] at H
      refine g_ic1f iX5_next_189 c20 ?_
      refine g_al iX5_next_192 rfl ?_
      refine g_gf (kI := 6) rfl iX5_next_193 fi_5_6_34 ?_
      refine g_c iX5_next_196 ?_
      by_cases c21 : (σ 34 6) = (-2)
      · rw [if_pos c21] at H
        refine g_ic0t iX5_next_198 c21 ?_
        exact H
      · rw [if_neg c21] at H
        refine g_ic0f iX5_next_198 c21 ?_
        refine g_al iX5_next_201 rfl ?_
        refine g_gf (kI := 6) rfl iX5_next_202 fi_5_6_34 ?_
        refine g_c iX5_next_205 ?_
        by_cases c22 : (σ 34 6) ≠ (-3)
        · rw [if_pos c22] at H
          refine g_ic1t iX5_next_207 c22 ?_
          exact g_rv iX5_next_216 H
        · rw [if_neg c22] at H
          refine g_ic1f iX5_next_207 c22 ?_
          exact H
set_option maxRecDepth 20000 in
set_option maxHeartbeats 4000000 in
theorem bX5_next_210 (L d : Nat) (q1 : Option rx_V) (q2 : Option rx_V) (σ : rx_St) (K : rx_St → Prop)
    (H : K (rx_up σ 34 6 (-4))) :
    rx_Go L (d + 1) mX5_next 210 [some (.inr 34), q1, q2] [] σ (rx_PV K) := by
  refine g_al iX5_next_210 rfl ?_
  refine g_c iX5_next_211 ?_
  refine g_pf (kI := 6) rfl iX5_next_213 fi_5_6_34 (Or.inl rfl) ?_
  exact g_rv iX5_next_216 H
set_option maxRecDepth 20000 in
set_option maxHeartbeats 4000000 in
theorem bX5_isWithin (L d : Nat) (x0 : Int) (x1 : Int) (x2 : Int) (σ : rx_St) (K : Int → rx_St → Prop)
    (H : if x0 < x1 then (K 0 σ) else (if x2 < x0 then (K 0 σ) else (K 1 σ))) :
    rx_CI L d mX5_isWithin [.inl x0, .inl x1, .inl x2] σ K := by
  refine rx_CI.of (la := [some (.inl x0), some (.inl x1), some (.inl x2)]) rfl ?_
  refine g_il iX5_isWithin_0 rfl ?_
  refine g_il iX5_isWithin_1 rfl ?_
  by_cases c1 : x0 < x1
  · rw [if_pos c1] at H
    refine g_ic2t iX5_isWithin_2 c1 ?_
    refine g_c iX5_isWithin_14 ?_
    exact g_ri iX5_isWithin_15 (by decide) H
  · rw [if_neg c1] at H
    refine g_ic2f iX5_isWithin_2 c1 ?_
    refine g_il iX5_isWithin_5 rfl ?_
    refine g_il iX5_isWithin_6 rfl ?_
    by_cases c2 : x2 < x0
    · rw [if_pos c2] at H
      refine g_ic4t iX5_isWithin_7 c2 ?_
      refine g_c iX5_isWithin_14 ?_
      exact g_ri iX5_isWithin_15 (by decide) H
    · rw [if_neg c2] at H
      refine g_ic4f iX5_isWithin_7 c2 ?_
      refine g_c iX5_isWithin_10 ?_
      refine g_goto iX5_isWithin_11 ?_
      exact g_ri iX5_isWithin_15 (by decide) H
set_option maxRecDepth 20000 in
set_option maxHeartbeats 4000000 in
theorem bX5_behindRow (L d : Nat) (x1 : Int) (x2 : Int) (x3 : Int) (σ : rx_St) (K : Int → rx_St → Prop)
    (H : rx_Go L (d + 1) mX5_behindRow 3 [some (.inr 34), some (.inl x1), some (.inl x2), some (.inl x3), some (.inl x1)] [] σ (rx_PI K)) :
    rx_CI L (d + 1) mX5_behindRow [.inr 34, .inl x1, .inl x2, .inl x3] σ K := by
  refine rx_CI.of (la := [some (.inr 34), some (.inl x1), some (.inl x2), some (.inl x3), none]) rfl ?_
  refine g_il iX5_behindRow_0 rfl ?_
  refine g_is iX5_behindRow_1 (Nat.le_of_ble_eq_true rfl) ?_
  refine rx_Go.ls (la := [some (.inr 34), some (.inl x1), some (.inl x2), some (.inl x3), some (.inl x1)]) rfl ?_
  exact H
set_option maxRecDepth 20000 in
set_option maxHeartbeats 4000000 in
theorem bX5_behindRow_3 (L d : Nat) (q1 : Option rx_V) (x2 : Int) (x3 : Int) (x4 : Int) (σ : rx_St) (K : Int → rx_St → Prop)
    (H : if (σ 34 0) ≤ x4 then (K (σ 34 0) σ) else ((0 ≤ x4 ∧ x4 < 96) ∧ (rx_CI L d mX5_isWithin [.inl (σ 36 x4), .inl x2, .inl x3] σ (fun v4 σ3 => if v4 ≠ 0 then (rx_Go L (d + 1) mX5_behindRow 3 [some (.inr 34), q1, some (.inl x2), some (.inl x3), some (.inl (rx_w (x4 + 1)))] [] σ3 (rx_PI K)) else (K x4 σ3))))) :
    rx_Go L (d + 1) mX5_behindRow 3 [some (.inr 34), q1, some (.inl x2), some (.inl x3), some (.inl x4)] [] σ (rx_PI K) := by
  refine g_il iX5_behindRow_3 rfl ?_
  refine g_al iX5_behindRow_5 rfl ?_
  refine g_gf (kI := 0) rfl iX5_behindRow_6 fi_5_0_34 ?_
  by_cases c1 : (σ 34 0) ≤ x4
  · rw [if_pos c1] at H
    refine g_ic3t iX5_behindRow_9 c1 ?_
    refine g_al iX5_behindRow_36 rfl ?_
    refine g_gf (kI := 0) rfl iX5_behindRow_37 fi_5_0_34 ?_
    exact g_ri iX5_behindRow_40 (Or.inl rfl) H
  · rw [if_neg c1] at H
    refine g_ic3f iX5_behindRow_9 c1 ?_
    refine g_al iX5_behindRow_12 rfl ?_
    refine g_gr iX5_behindRow_13 fr_5_5_34 ?_
    refine g_il iX5_behindRow_16 rfl ?_
    obtain ⟨o2, H⟩ := H
    refine g_ld iX5_behindRow_18 (ln_36 L) o2 ?_
    refine g_il iX5_behindRow_19 rfl ?_
    refine g_il iX5_behindRow_20 rfl ?_
    refine g_ci (as := [.inl (σ 36 x4), .inl x2, .inl x3]) (rest := []) iX5_behindRow_21 rfl rfl (Nat.le_of_ble_eq_true rfl) (Or.inl (by decide)) (rx_CI.imp H (fun v4 σ3 H => ?_))
    by_cases c5 : v4 ≠ 0
    · rw [if_pos c5] at H
      refine g_if1t iX5_behindRow_24 c5 ?_
      refine g_ii iX5_behindRow_30 rfl ?_
      refine rx_Go.ls (la := [some (.inr 34), q1, some (.inl x2), some (.inl x3), some (.inl (rx_w (x4 + 1)))]) rfl ?_
      refine g_goto iX5_behindRow_33 ?_
      exact H
    · rw [if_neg c5] at H
      refine g_if1f iX5_behindRow_24 c5 ?_
      refine g_il iX5_behindRow_27 rfl ?_
      exact g_ri iX5_behindRow_29 (Or.inl rfl) H
set_option maxRecDepth 20000 in
set_option maxHeartbeats 4000000 in
theorem bX5_isHere (L d : Nat) (A1 : Nat) (hA1n : rx_str A1 ≠ []) (σ : rx_St) (K : Int → rx_St → Prop)
    (H : if (σ 34 6) ≠ (-2) then (K 0 σ) else (if (rx_w ((σ 34 8) - (σ 34 7))) = ((rx_str A1).length : Int) then (rx_Go L d mX5_isHere 29 [some (.inr 34), some (.inr A1), some (.inl 0)] [] σ (rx_PI K)) else (K 0 σ))) :
    rx_CI L d mX5_isHere [.inr 34, .inr A1] σ K := by
  refine rx_CI.of (la := [some (.inr 34), some (.inr A1), none]) rfl ?_
  refine g_al iX5_isHere_0 rfl ?_
  refine g_gf (kI := 6) rfl iX5_isHere_1 fi_5_6_34 ?_
  refine g_c iX5_isHere_4 ?_
  by_cases c1 : (σ 34 6) ≠ (-2)
  · rw [if_pos c1] at H
    refine g_ic1t iX5_isHere_6 c1 ?_
    refine g_c iX5_isHere_25 ?_
    exact g_ri iX5_isHere_26 (by decide) H
  · rw [if_neg c1] at H
    refine g_ic1f iX5_isHere_6 c1 ?_
    refine g_al iX5_isHere_9 rfl ?_
    refine g_gf (kI := 8) rfl iX5_isHere_10 fi_5_8_34 ?_
    refine g_al iX5_isHere_13 rfl ?_
    refine g_gf (kI := 7) rfl iX5_isHere_14 fi_5_7_34 ?_
    refine g_sub iX5_isHere_17 ?_
    refine g_al iX5_isHere_18 rfl ?_
    refine g_sl iX5_isHere_19 hA1n (Nat.le_of_ble_eq_true rfl) ?_
    by_cases c2 : (rx_w ((σ 34 8) - (σ 34 7))) = ((rx_str A1).length : Int)
    · rw [if_pos c2] at H
      refine g_ic0t iX5_isHere_22 c2 ?_
      refine g_c iX5_isHere_27 ?_
      refine g_is iX5_isHere_28 (Nat.le_of_ble_eq_true rfl) ?_
      refine rx_Go.ls (la := [some (.inr 34), some (.inr A1), some (.inl 0)]) rfl ?_
      exact H
    · rw [if_neg c2] at H
      refine g_ic0f iX5_isHere_22 c2 ?_
      refine g_c iX5_isHere_25 ?_
      exact g_ri iX5_isHere_26 (by decide) H
set_option maxRecDepth 20000 in
set_option maxHeartbeats 4000000 in
theorem bX5_isHere_29 (L d : Nat) (A1 : Nat) (hA1n : rx_str A1 ≠ []) (x2 : Int) (σ : rx_St) (K : Int → rx_St → Prop)
    (H : if ((rx_str A1).length : Int) ≤ x2 then (K 1 σ) else ((0 ≤ (rx_w ((σ 34 7) + x2)) ∧ (rx_w ((σ 34 7) + x2)) < 96) ∧ (0 ≤ x2 ∧ ∃ v7, (rx_str A1)[(x2).toNat]? = some v7 ∧ (if (σ 36 (rx_w ((σ 34 7) + x2))) = v7 then (rx_Go L d mX5_isHere 29 [some (.inr 34), some (.inr A1), some (.inl (rx_w (x2 + 1)))] [] σ (rx_PI K)) else (K 0 σ))))) :
    rx_Go L d mX5_isHere 29 [some (.inr 34), some (.inr A1), some (.inl x2)] [] σ (rx_PI K) := by
  refine g_il iX5_isHere_29 rfl ?_
  refine g_al iX5_isHere_30 rfl ?_
  refine g_sl iX5_isHere_31 hA1n (Nat.le_of_ble_eq_true rfl) ?_
  by_cases c3 : ((rx_str A1).length : Int) ≤ x2
  · rw [if_pos c3] at H
    refine g_ic3t iX5_isHere_34 c3 ?_
    refine g_c iX5_isHere_64 ?_
    exact g_ri iX5_isHere_65 (by decide) H
  · rw [if_neg c3] at H
    refine g_ic3f iX5_isHere_34 c3 ?_
    refine g_al iX5_isHere_37 rfl ?_
    refine g_gr iX5_isHere_38 fr_5_5_34 ?_
    refine g_al iX5_isHere_41 rfl ?_
    refine g_gf (kI := 7) rfl iX5_isHere_42 fi_5_7_34 ?_
    refine g_il iX5_isHere_45 rfl ?_
    refine g_add iX5_isHere_46 ?_
    obtain ⟨o4, H⟩ := H
    refine g_ld iX5_isHere_47 (ln_36 L) o4 ?_
    refine g_al iX5_isHere_48 rfl ?_
    refine g_il iX5_isHere_49 rfl ?_
    obtain ⟨o5, v7, o6, H⟩ := H
    refine g_sc iX5_isHere_50 o5 (Nat.le_of_ble_eq_true rfl) o6 ?_
    by_cases c8 : (σ 36 (rx_w ((σ 34 7) + x2))) = v7
    · rw [if_pos c8] at H
      refine g_ic0t iX5_isHere_53 c8 ?_
      refine g_ii iX5_isHere_58 rfl ?_
      refine rx_Go.ls (la := [some (.inr 34), some (.inr A1), some (.inl (rx_w (x2 + 1)))]) rfl ?_
      refine g_goto iX5_isHere_61 ?_
      exact H
    · rw [if_neg c8] at H
      refine g_ic0f iX5_isHere_53 c8 ?_
      refine g_c iX5_isHere_56 ?_
      exact g_ri iX5_isHere_57 (by decide) H
set_option maxRecDepth 20000 in
set_option maxHeartbeats 4000000 in
theorem bX5_keyHere (L d : Nat)  (σ : rx_St) (K : Int → rx_St → Prop)
    (H : rx_CI L d mX5_isHere [.inr 34, .inr 161] σ (fun v2 σ1 => if v2 = 0 then (rx_CI L d mX5_isHere [.inr 34, .inr 162] σ1 (fun v5 σ4 => if v5 = 0 then (rx_CI L d mX5_isHere [.inr 34, .inr 163] σ4 (fun v8 σ7 => if v8 = 0 then (K (-1) σ7) else (K 2 σ7))) else (K 1 σ4))) else (K 0 σ1))) :
    rx_CI L (d + 1) mX5_keyHere [.inr 34] σ K := by
  refine rx_CI.of (la := [some (.inr 34)]) rfl ?_
  refine g_al iX5_keyHere_0 rfl ?_
  refine g_ref iX5_keyHere_1 ?_
  refine g_ci (as := [.inr 34, .inr 161]) (rest := []) iX5_keyHere_3 rfl rfl (Nat.le_of_ble_eq_true rfl) (Or.inr ⟨_, _, rfl, oo_5_34⟩) (rx_CI.imp H (fun v2 σ1 H => ?_))
  by_cases c3 : v2 = 0
  · rw [if_pos c3] at H
    refine g_if0t iX5_keyHere_6 c3 ?_
    refine g_al iX5_keyHere_11 rfl ?_
    refine g_ref iX5_keyHere_12 ?_
    refine g_ci (as := [.inr 34, .inr 162]) (rest := []) iX5_keyHere_14 rfl rfl (Nat.le_of_ble_eq_true rfl) (Or.inr ⟨_, _, rfl, oo_5_34⟩) (rx_CI.imp H (fun v5 σ4 H => ?_))
    by_cases c6 : v5 = 0
    · rw [if_pos c6] at H
      refine g_if0t iX5_keyHere_17 c6 ?_
      refine g_al iX5_keyHere_22 rfl ?_
      refine g_ref iX5_keyHere_23 ?_
      refine g_ci (as := [.inr 34, .inr 163]) (rest := []) iX5_keyHere_25 rfl rfl (Nat.le_of_ble_eq_true rfl) (Or.inr ⟨_, _, rfl, oo_5_34⟩) (rx_CI.imp H (fun v8 σ7 H => ?_))
      by_cases c9 : v8 = 0
      · rw [if_pos c9] at H
        refine g_if0t iX5_keyHere_28 c9 ?_
        refine g_c iX5_keyHere_35 ?_
        exact g_ri iX5_keyHere_36 (Or.inl rfl) H
      · rw [if_neg c9] at H
        refine g_if0f iX5_keyHere_28 c9 ?_
        refine g_c iX5_keyHere_31 ?_
        refine g_goto iX5_keyHere_32 ?_
        exact g_ri iX5_keyHere_36 (Or.inl rfl) H
    · rw [if_neg c6] at H
      refine g_if0f iX5_keyHere_17 c6 ?_
      refine g_c iX5_keyHere_20 ?_
      exact g_ri iX5_keyHere_21 (Or.inl rfl) H
  · rw [if_neg c3] at H
    refine g_if0f iX5_keyHere_6 c3 ?_
    refine g_c iX5_keyHere_9 ?_
    exact g_ri iX5_keyHere_10 (Or.inl rfl) H
set_option maxRecDepth 20000 in
set_option maxHeartbeats 4000000 in
theorem bX5_chain (L d : Nat) (x1 : Int) (x2 : Int) (x3 : Int) (σ : rx_St) (K : rx_St → Prop)
    (H : if x1 ≤ 4 then (rx_CV L d mX5_chain [.inr 34, .inl (rx_w (x1 + 1)), .inl x2, .inl x3] σ (fun σ2 => if x1 ≠ 2 then (rx_Go L (d + 1) mX5_chain 37 [some (.inr 34), some (.inl x1), some (.inl x2), some (.inl x3), some (.inl 96), some (.inl 0), none] [] σ2 (rx_PV K)) else (rx_Go L (d + 1) mX5_chain 37 [some (.inr 34), some (.inl x1), some (.inl x2), some (.inl x3), some (.inl 1), some (.inl 0), none] [] σ2 (rx_PV K)))) else (rx_CV L d mX5_piece [.inr 34, .inl x2, .inl x3] σ (fun σ4 => K σ4))) :
    rx_CV L (d + 1) mX5_chain [.inr 34, .inl x1, .inl x2, .inl x3] σ K := by
  refine rx_CV.of (la := [some (.inr 34), some (.inl x1), some (.inl x2), some (.inl x3), none, none, none]) rfl ?_
  refine g_il iX5_chain_0 rfl ?_
  refine g_c iX5_chain_1 ?_
  by_cases c1 : x1 ≤ 4
  · rw [if_pos c1] at H
    refine g_ic5t iX5_chain_2 c1 ?_
    refine g_al iX5_chain_12 rfl ?_
    refine g_il iX5_chain_13 rfl ?_
    refine g_c iX5_chain_14 ?_
    refine g_add iX5_chain_15 ?_
    refine g_il iX5_chain_16 rfl ?_
    refine g_il iX5_chain_17 rfl ?_
    refine g_cv (as := [.inr 34, .inl (rx_w (x1 + 1)), .inl x2, .inl x3]) (rest := []) iX5_chain_18 rfl rfl (Nat.le_of_ble_eq_true rfl) (Or.inr ⟨_, _, rfl, oo_5_34⟩) (rx_CV.imp H (fun σ2 H => ?_))
    refine g_il iX5_chain_21 rfl ?_
    refine g_c iX5_chain_22 ?_
    by_cases c3 : x1 ≠ 2
    · rw [if_pos c3] at H
      refine g_ic1t iX5_chain_23 c3 ?_
      refine g_c iX5_chain_30 ?_
      refine g_is iX5_chain_32 (Nat.le_of_ble_eq_true rfl) ?_
      refine rx_Go.ls (la := [some (.inr 34), some (.inl x1), some (.inl x2), some (.inl x3), some (.inl 96), none, none]) rfl ?_
      refine g_c iX5_chain_34 ?_
      refine g_is iX5_chain_35 (Nat.le_of_ble_eq_true rfl) ?_
      refine rx_Go.ls (la := [some (.inr 34), some (.inl x1), some (.inl x2), some (.inl x3), some (.inl 96), some (.inl 0), none]) rfl ?_
      exact H
    · rw [if_neg c3] at H
      refine g_ic1f iX5_chain_23 c3 ?_
      refine g_c iX5_chain_26 ?_
      refine g_goto iX5_chain_27 ?_
      refine g_is iX5_chain_32 (Nat.le_of_ble_eq_true rfl) ?_
      refine rx_Go.ls (la := [some (.inr 34), some (.inl x1), some (.inl x2), some (.inl x3), some (.inl 1), none, none]) rfl ?_
      refine g_c iX5_chain_34 ?_
      refine g_is iX5_chain_35 (Nat.le_of_ble_eq_true rfl) ?_
      refine rx_Go.ls (la := [some (.inr 34), some (.inl x1), some (.inl x2), some (.inl x3), some (.inl 1), some (.inl 0), none]) rfl ?_
      exact H
  · rw [if_neg c1] at H
    refine g_ic5f iX5_chain_2 c1 ?_
    refine g_al iX5_chain_5 rfl ?_
    refine g_il iX5_chain_6 rfl ?_
    refine g_il iX5_chain_7 rfl ?_
    refine g_cv (as := [.inr 34, .inl x2, .inl x3]) (rest := []) iX5_chain_8 rfl rfl (Nat.le_of_ble_eq_true rfl) (Or.inr ⟨_, _, rfl, oo_5_34⟩) (rx_CV.imp H (fun σ4 H => ?_))
    exact g_rv iX5_chain_11 H
set_option maxRecDepth 20000 in
set_option maxHeartbeats 4000000 in
theorem bX5_chain_37 (L d : Nat) (x1 : Int) (x2 : Int) (x3 : Int) (x4 : Int) (x5 : Int) (q6 : Option rx_V) (σ : rx_St) (K : rx_St → Prop)
    (H : if x4 ≤ x5 then (K σ) else (if 0 ≤ (σ 34 9) then (K σ) else (rx_CI L d mX5_levelOf [.inl (σ 34 6)] σ (fun v8 σ7 => if v8 ≠ x1 then (K σ7) else (rx_CV L d mX5_next [.inr 34] σ7 (fun σ10 => rx_CV L d mX5_chain [.inr 34, .inl (rx_w (x1 + 1)), .inl x2, .inl x3] σ10 (fun σ11 => rx_CV L d mX5_write [.inr 34, .inl (rx_w (-(σ7 34 6)))] σ11 (fun σ12 => rx_Go L (d + 1) mX5_chain 37 [some (.inr 34), some (.inl x1), some (.inl x2), some (.inl x3), some (.inl x4), some (.inl (rx_w (x5 + 1))), some (.inl (σ7 34 6))] [] σ12 (rx_PV K))))))))) :
    rx_Go L (d + 1) mX5_chain 37 [some (.inr 34), some (.inl x1), some (.inl x2), some (.inl x3), some (.inl x4), some (.inl x5), q6] [] σ (rx_PV K) := by
  refine g_il iX5_chain_37 rfl ?_
  refine g_il iX5_chain_39 rfl ?_
  by_cases c5 : x4 ≤ x5
  · rw [if_pos c5] at H
    refine g_ic3t iX5_chain_41 c5 ?_
    exact g_rv iX5_chain_94 H
  · rw [if_neg c5] at H
    refine g_ic3f iX5_chain_41 c5 ?_
    refine g_al iX5_chain_44 rfl ?_
    refine g_gf (kI := 9) rfl iX5_chain_45 fi_5_9_34 ?_
    by_cases c6 : 0 ≤ (σ 34 9)
    · rw [if_pos c6] at H
      refine g_if3t iX5_chain_48 c6 ?_
      exact g_rv iX5_chain_94 H
    · rw [if_neg c6] at H
      refine g_if3f iX5_chain_48 c6 ?_
      refine g_al iX5_chain_51 rfl ?_
      refine g_gf (kI := 6) rfl iX5_chain_52 fi_5_6_34 ?_
      refine g_ci (as := [.inl (σ 34 6)]) (rest := []) iX5_chain_55 rfl rfl (Nat.le_of_ble_eq_true rfl) (Or.inl (by decide)) (rx_CI.imp H (fun v8 σ7 H => ?_))
      refine g_il iX5_chain_58 rfl ?_
      by_cases c9 : v8 ≠ x1
      · rw [if_pos c9] at H
        refine g_ic1t iX5_chain_59 c9 ?_
        exact g_rv iX5_chain_94 H
      · rw [if_neg c9] at H
        refine g_ic1f iX5_chain_59 c9 ?_
        refine g_al iX5_chain_62 rfl ?_
        refine g_gf (kI := 6) rfl iX5_chain_63 fi_5_6_34 ?_
        refine g_is iX5_chain_66 (Nat.le_of_ble_eq_true rfl) ?_
        refine rx_Go.ls (la := [some (.inr 34), some (.inl x1), some (.inl x2), some (.inl x3), some (.inl x4), some (.inl x5), some (.inl (σ7 34 6))]) rfl ?_
        refine g_al iX5_chain_68 rfl ?_
        refine g_cv (as := [.inr 34]) (rest := []) iX5_chain_69 rfl rfl (Nat.le_of_ble_eq_true rfl) (Or.inr ⟨_, _, rfl, oo_5_34⟩) (rx_CV.imp H (fun σ10 H => ?_))
        refine g_al iX5_chain_72 rfl ?_
        refine g_il iX5_chain_73 rfl ?_
        refine g_c iX5_chain_74 ?_
        refine g_add iX5_chain_75 ?_
        refine g_il iX5_chain_76 rfl ?_
        refine g_il iX5_chain_77 rfl ?_
        refine g_cv (as := [.inr 34, .inl (rx_w (x1 + 1)), .inl x2, .inl x3]) (rest := []) iX5_chain_78 rfl rfl (Nat.le_of_ble_eq_true rfl) (Or.inr ⟨_, _, rfl, oo_5_34⟩) (rx_CV.imp H (fun σ11 H => ?_))
        refine g_al iX5_chain_81 rfl ?_
        refine g_il iX5_chain_82 rfl ?_
        refine g_neg iX5_chain_84 ?_
        refine g_cv (as := [.inr 34, .inl (rx_w (-(σ7 34 6)))]) (rest := []) iX5_chain_85 rfl rfl (Nat.le_of_ble_eq_true rfl) (Or.inr ⟨_, _, rfl, oo_5_34⟩) (rx_CV.imp H (fun σ12 H => ?_))
        refine g_ii iX5_chain_88 rfl ?_
        refine rx_Go.ls (la := [some (.inr 34), some (.inl x1), some (.inl x2), some (.inl x3), some (.inl x4), some (.inl (rx_w (x5 + 1))), some (.inl (σ7 34 6))]) rfl ?_
        refine g_goto iX5_chain_91 ?_
        exact H
set_option maxRecDepth 20000 in
set_option maxHeartbeats 4000000 in
theorem bX5_levelOf (L d : Nat) (x0 : Int) (σ : rx_St) (K : Int → rx_St → Prop)
    (H : if x0 = 38 then (K 1 σ) else (if x0 = 42 then (K 4 σ) else (if x0 = 43 then (K 3 σ) else (if x0 = 45 then (K 3 σ) else (if x0 = 47 then (K 4 σ) else (if x0 = 60 then (K 2 σ) else (if x0 = 61 then (K 2 σ) else (if x0 = 62 then (K 2 σ) else (if x0 = 124 then (K 0 σ) else (K (-1) σ)))))))))) :
    rx_CI L d mX5_levelOf [.inl x0] σ K := by
  refine rx_CI.of (la := [some (.inl x0)]) rfl ?_
  refine g_il iX5_levelOf_0 rfl ?_
  by_cases c1 : x0 = 38
  · rw [if_pos c1] at H
    refine g_sw iX5_levelOf_1 (by simp only [rx_sw]; rw [if_pos c1]) ?_
    refine g_c iX5_levelOf_86 ?_
    exact g_ri iX5_levelOf_87 (Or.inl rfl) H
  · rw [if_neg c1] at H
    by_cases c2 : x0 = 42
    · rw [if_pos c2] at H
      refine g_sw iX5_levelOf_1 (by simp only [rx_sw]; rw [if_neg c1, if_pos c2]) ?_
      refine g_c iX5_levelOf_92 ?_
      exact g_ri iX5_levelOf_93 (Or.inl rfl) H
    · rw [if_neg c2] at H
      by_cases c3 : x0 = 43
      · rw [if_pos c3] at H
        refine g_sw iX5_levelOf_1 (by simp only [rx_sw]; rw [if_neg c1, if_neg c2, if_pos c3]) ?_
        refine g_c iX5_levelOf_90 ?_
        exact g_ri iX5_levelOf_91 (Or.inl rfl) H
      · rw [if_neg c3] at H
        by_cases c4 : x0 = 45
        · rw [if_pos c4] at H
          refine g_sw iX5_levelOf_1 (by simp only [rx_sw]; rw [if_neg c1, if_neg c2, if_neg c3, if_pos c4]) ?_
          refine g_c iX5_levelOf_90 ?_
          exact g_ri iX5_levelOf_91 (Or.inl rfl) H
        · rw [if_neg c4] at H
          by_cases c5 : x0 = 47
          · rw [if_pos c5] at H
            refine g_sw iX5_levelOf_1 (by simp only [rx_sw]; rw [if_neg c1, if_neg c2, if_neg c3, if_neg c4, if_pos c5]) ?_
            refine g_c iX5_levelOf_92 ?_
            exact g_ri iX5_levelOf_93 (Or.inl rfl) H
          · rw [if_neg c5] at H
            by_cases c6 : x0 = 60
            · rw [if_pos c6] at H
              refine g_sw iX5_levelOf_1 (by simp only [rx_sw]; rw [if_neg c1, if_neg c2, if_neg c3, if_neg c4, if_neg c5, if_pos c6]) ?_
              refine g_c iX5_levelOf_88 ?_
              exact g_ri iX5_levelOf_89 (Or.inl rfl) H
            · rw [if_neg c6] at H
              by_cases c7 : x0 = 61
              · rw [if_pos c7] at H
                refine g_sw iX5_levelOf_1 (by simp only [rx_sw]; rw [if_neg c1, if_neg c2, if_neg c3, if_neg c4, if_neg c5, if_neg c6, if_pos c7]) ?_
                refine g_c iX5_levelOf_88 ?_
                exact g_ri iX5_levelOf_89 (Or.inl rfl) H
              · rw [if_neg c7] at H
                by_cases c8 : x0 = 62
                · rw [if_pos c8] at H
                  refine g_sw iX5_levelOf_1 (by simp only [rx_sw]; rw [if_neg c1, if_neg c2, if_neg c3, if_neg c4, if_neg c5, if_neg c6, if_neg c7, if_pos c8]) ?_
                  refine g_c iX5_levelOf_88 ?_
                  exact g_ri iX5_levelOf_89 (Or.inl rfl) H
                · rw [if_neg c8] at H
                  by_cases c9 : x0 = 124
                  · rw [if_pos c9] at H
                    refine g_sw iX5_levelOf_1 (by simp only [rx_sw]; rw [if_neg c1, if_neg c2, if_neg c3, if_neg c4, if_neg c5, if_neg c6, if_neg c7, if_neg c8, if_pos c9]) ?_
                    refine g_c iX5_levelOf_84 ?_
                    exact g_ri iX5_levelOf_85 (Or.inl rfl) H
                  · rw [if_neg c9] at H
                    refine g_sw (t := 94) iX5_levelOf_1 (by simp only [rx_sw, c1, c2, c3, c4, c5, c6, c7, c8, c9, if_false]) ?_
                    refine g_c iX5_levelOf_94 ?_
                    exact g_ri iX5_levelOf_95 (Or.inl rfl) H
set_option maxRecDepth 20000 in
set_option maxHeartbeats 4000000 in
theorem bX5_piece (L d : Nat) (x1 : Int) (x2 : Int) (σ : rx_St) (K : rx_St → Prop)
    (H : if (σ 34 6) ≠ (-3) then (rx_Go L (d + 1) mX5_piece 33 [some (.inr 34), some (.inl x1), some (.inl x2)] [] σ (rx_PV K)) else (if 4 < (rx_w ((σ 34 8) - (σ 34 7))) then (rx_Go L (d + 1) mX5_piece 33 [some (.inr 34), some (.inl x1), some (.inl x2)] [] σ (rx_PV K)) else (rx_CI L d mX5_numberHere [.inr 34] σ (fun v4 σ3 => rx_CV L d mX5_writeLeaf [.inr 34, .inl v4] σ3 (fun σ5 => K σ5))))) :
    rx_CV L (d + 1) mX5_piece [.inr 34, .inl x1, .inl x2] σ K := by
  refine rx_CV.of (la := [some (.inr 34), some (.inl x1), some (.inl x2)]) rfl ?_
  refine g_al iX5_piece_0 rfl ?_
  refine g_gf (kI := 6) rfl iX5_piece_1 fi_5_6_34 ?_
  refine g_c iX5_piece_4 ?_
  by_cases c1 : (σ 34 6) ≠ (-3)
  · rw [if_pos c1] at H
    refine g_ic1t iX5_piece_6 c1 ?_
    exact H
  · rw [if_neg c1] at H
    refine g_ic1f iX5_piece_6 c1 ?_
    refine g_al iX5_piece_9 rfl ?_
    refine g_gf (kI := 8) rfl iX5_piece_10 fi_5_8_34 ?_
    refine g_al iX5_piece_13 rfl ?_
    refine g_gf (kI := 7) rfl iX5_piece_14 fi_5_7_34 ?_
    refine g_sub iX5_piece_17 ?_
    refine g_c iX5_piece_18 ?_
    by_cases c2 : 4 < (rx_w ((σ 34 8) - (σ 34 7)))
    · rw [if_pos c2] at H
      refine g_ic4t iX5_piece_19 c2 ?_
      exact H
    · rw [if_neg c2] at H
      refine g_ic4f iX5_piece_19 c2 ?_
      refine g_al iX5_piece_22 rfl ?_
      refine g_al iX5_piece_23 rfl ?_
      refine g_ci (as := [.inr 34]) (rest := [.inr 34]) iX5_piece_24 rfl rfl (Nat.le_of_ble_eq_true rfl) (Or.inr ⟨_, _, rfl, oo_5_34⟩) (rx_CI.imp H (fun v4 σ3 H => ?_))
      refine g_cv (as := [.inr 34, .inl v4]) (rest := []) iX5_piece_27 rfl rfl (Nat.le_of_ble_eq_true rfl) (Or.inr ⟨_, _, rfl, oo_5_34⟩) (rx_CV.imp H (fun σ5 H => ?_))
      refine g_goto iX5_piece_30 ?_
      exact g_rv iX5_piece_151 H
set_option maxRecDepth 20000 in
set_option maxHeartbeats 4000000 in
theorem bX5_piece_33 (L d : Nat) (x1 : Int) (x2 : Int) (σ : rx_St) (K : rx_St → Prop)
    (H : if (σ 34 6) ≠ (-2) then (rx_Go L (d + 1) mX5_piece 60 [some (.inr 34), some (.inl x1), some (.inl x2)] [] σ (rx_PV K)) else (rx_CI L d mX5_nameHere [.inr 34] σ (fun v8 σ7 => if 0 ≤ v8 then (rx_Go L (d + 1) mX5_piece 60 [some (.inr 34), some (.inl x1), some (.inl x2)] [] σ7 (rx_PV K)) else (rx_CI L d mX5_nameHere [.inr 34] σ7 (fun v11 σ10 => rx_CV L d mX5_writeLeaf [.inr 34, .inl v11] σ10 (fun σ12 => K σ12)))))) :
    rx_Go L (d + 1) mX5_piece 33 [some (.inr 34), some (.inl x1), some (.inl x2)] [] σ (rx_PV K) := by
  refine g_al iX5_piece_33 rfl ?_
  refine g_gf (kI := 6) rfl iX5_piece_34 fi_5_6_34 ?_
  refine g_c iX5_piece_37 ?_
  by_cases c6 : (σ 34 6) ≠ (-2)
  · rw [if_pos c6] at H
    refine g_ic1t iX5_piece_39 c6 ?_
    exact H
  · rw [if_neg c6] at H
    refine g_ic1f iX5_piece_39 c6 ?_
    refine g_al iX5_piece_42 rfl ?_
    refine g_ci (as := [.inr 34]) (rest := []) iX5_piece_43 rfl rfl (Nat.le_of_ble_eq_true rfl) (Or.inr ⟨_, _, rfl, oo_5_34⟩) (rx_CI.imp H (fun v8 σ7 H => ?_))
    by_cases c9 : 0 ≤ v8
    · rw [if_pos c9] at H
      refine g_if3t iX5_piece_46 c9 ?_
      exact H
    · rw [if_neg c9] at H
      refine g_if3f iX5_piece_46 c9 ?_
      refine g_al iX5_piece_49 rfl ?_
      refine g_al iX5_piece_50 rfl ?_
      refine g_ci (as := [.inr 34]) (rest := [.inr 34]) iX5_piece_51 rfl rfl (Nat.le_of_ble_eq_true rfl) (Or.inr ⟨_, _, rfl, oo_5_34⟩) (rx_CI.imp H (fun v11 σ10 H => ?_))
      refine g_cv (as := [.inr 34, .inl v11]) (rest := []) iX5_piece_54 rfl rfl (Nat.le_of_ble_eq_true rfl) (Or.inr ⟨_, _, rfl, oo_5_34⟩) (rx_CV.imp H (fun σ12 H => ?_))
      refine g_goto iX5_piece_57 ?_
      exact g_rv iX5_piece_151 H
set_option maxRecDepth 20000 in
set_option maxHeartbeats 4000000 in
theorem bX5_piece_60 (L d : Nat) (x1 : Int) (x2 : Int) (σ : rx_St) (K : rx_St → Prop)
    (H : if (σ 34 6) ≠ 33 then (rx_Go L (d + 1) mX5_piece 96 [some (.inr 34), some (.inl x1), some (.inl x2)] [] σ (rx_PV K)) else (if 8 ≤ x2 then (rx_Go L (d + 1) mX5_piece 96 [some (.inr 34), some (.inl x1), some (.inl x2)] [] σ (rx_PV K)) else (rx_CV L d mX5_next [.inr 34] σ (fun σ15 => rx_CV L d mX5_piece [.inr 34, .inl x1, .inl (rx_w (x2 + 1))] σ15 (fun σ16 => rx_CV L d mX5_write [.inr 34, .inl (-33)] σ16 (fun σ17 => K σ17)))))) :
    rx_Go L (d + 1) mX5_piece 60 [some (.inr 34), some (.inl x1), some (.inl x2)] [] σ (rx_PV K) := by
  refine g_al iX5_piece_60 rfl ?_
  refine g_gf (kI := 6) rfl iX5_piece_61 fi_5_6_34 ?_
  refine g_c iX5_piece_64 ?_
  by_cases c13 : (σ 34 6) ≠ 33
  · rw [if_pos c13] at H
    refine g_ic1t iX5_piece_66 c13 ?_
    exact H
  · rw [if_neg c13] at H
    refine g_ic1f iX5_piece_66 c13 ?_
    refine g_il iX5_piece_69 rfl ?_
    refine g_c iX5_piece_70 ?_
    by_cases c14 : 8 ≤ x2
    · rw [if_pos c14] at H
      refine g_ic3t iX5_piece_72 c14 ?_
      exact H
    · rw [if_neg c14] at H
      refine g_ic3f iX5_piece_72 c14 ?_
      refine g_al iX5_piece_75 rfl ?_
      refine g_cv (as := [.inr 34]) (rest := []) iX5_piece_76 rfl rfl (Nat.le_of_ble_eq_true rfl) (Or.inr ⟨_, _, rfl, oo_5_34⟩) (rx_CV.imp H (fun σ15 H => ?_))
      refine g_al iX5_piece_79 rfl ?_
      refine g_il iX5_piece_80 rfl ?_
      refine g_il iX5_piece_81 rfl ?_
      refine g_c iX5_piece_82 ?_
      refine g_add iX5_piece_83 ?_
      refine g_cv (as := [.inr 34, .inl x1, .inl (rx_w (x2 + 1))]) (rest := []) iX5_piece_84 rfl rfl (Nat.le_of_ble_eq_true rfl) (Or.inr ⟨_, _, rfl, oo_5_34⟩) (rx_CV.imp H (fun σ16 H => ?_))
      refine g_al iX5_piece_87 rfl ?_
      refine g_c iX5_piece_88 ?_
      refine g_cv (as := [.inr 34, .inl (-33)]) (rest := []) iX5_piece_90 rfl rfl (Nat.le_of_ble_eq_true rfl) (Or.inr ⟨_, _, rfl, oo_5_34⟩) (rx_CV.imp H (fun σ17 H => ?_))
      refine g_goto iX5_piece_93 ?_
      exact g_rv iX5_piece_151 H
set_option maxRecDepth 20000 in
set_option maxHeartbeats 4000000 in
theorem bX5_piece_96 (L d : Nat) (x1 : Int) (x2 : Int) (σ : rx_St) (K : rx_St → Prop)
    (H : if (σ 34 6) ≠ 40 then (rx_Go L (d + 1) mX5_piece 147 [some (.inr 34), some (.inl x1), some (.inl x2)] [] σ (rx_PV K)) else (if 8 ≤ x1 then (rx_Go L (d + 1) mX5_piece 147 [some (.inr 34), some (.inl x1), some (.inl x2)] [] σ (rx_PV K)) else (rx_CV L d mX5_next [.inr 34] σ (fun σ20 => rx_CV L d mX5_chain [.inr 34, .inl 0, .inl (rx_w (x1 + 1)), .inl x2] σ20 (fun σ21 => if (σ21 34 6) ≠ 41 then (rx_CV L d mX5_fail [.inr 34] σ21 (fun σ23 => K σ23)) else (rx_CV L d mX5_next [.inr 34] σ21 (fun σ24 => K σ24))))))) :
    rx_Go L (d + 1) mX5_piece 96 [some (.inr 34), some (.inl x1), some (.inl x2)] [] σ (rx_PV K) := by
  refine g_al iX5_piece_96 rfl ?_
  refine g_gf (kI := 6) rfl iX5_piece_97 fi_5_6_34 ?_
  refine g_c iX5_piece_100 ?_
  by_cases c18 : (σ 34 6) ≠ 40
  · rw [if_pos c18] at H
    refine g_ic1t iX5_piece_102 c18 ?_
    exact H
  · rw [if_neg c18] at H
    refine g_ic1f iX5_piece_102 c18 ?_
    refine g_il iX5_piece_105 rfl ?_
    refine g_c iX5_piece_106 ?_
    by_cases c19 : 8 ≤ x1
    · rw [if_pos c19] at H
      refine g_ic3t iX5_piece_108 c19 ?_
      exact H
    · rw [if_neg c19] at H
      refine g_ic3f iX5_piece_108 c19 ?_
      refine g_al iX5_piece_111 rfl ?_
      refine g_cv (as := [.inr 34]) (rest := []) iX5_piece_112 rfl rfl (Nat.le_of_ble_eq_true rfl) (Or.inr ⟨_, _, rfl, oo_5_34⟩) (rx_CV.imp H (fun σ20 H => ?_))
      refine g_al iX5_piece_115 rfl ?_
      refine g_c iX5_piece_116 ?_
      refine g_il iX5_piece_117 rfl ?_
      refine g_c iX5_piece_118 ?_
      refine g_add iX5_piece_119 ?_
      refine g_il iX5_piece_120 rfl ?_
      refine g_cv (as := [.inr 34, .inl 0, .inl (rx_w (x1 + 1)), .inl x2]) (rest := []) iX5_piece_121 rfl rfl (Nat.le_of_ble_eq_true rfl) (Or.inr ⟨_, _, rfl, oo_5_34⟩) (rx_CV.imp H (fun σ21 H => ?_))
      refine g_al iX5_piece_124 rfl ?_
      refine g_gf (kI := 6) rfl iX5_piece_125 fi_5_6_34 ?_
      refine g_c iX5_piece_128 ?_
      by_cases c22 : (σ21 34 6) ≠ 41
      · rw [if_pos c22] at H
        refine g_ic1t iX5_piece_130 c22 ?_
        refine g_al iX5_piece_140 rfl ?_
        refine g_cv (as := [.inr 34]) (rest := []) iX5_piece_141 rfl rfl (Nat.le_of_ble_eq_true rfl) (Or.inr ⟨_, _, rfl, oo_5_34⟩) (rx_CV.imp H (fun σ23 H => ?_))
        refine g_goto iX5_piece_144 ?_
        exact g_rv iX5_piece_151 H
      · rw [if_neg c22] at H
        refine g_ic1f iX5_piece_130 c22 ?_
        refine g_al iX5_piece_133 rfl ?_
        refine g_cv (as := [.inr 34]) (rest := []) iX5_piece_134 rfl rfl (Nat.le_of_ble_eq_true rfl) (Or.inr ⟨_, _, rfl, oo_5_34⟩) (rx_CV.imp H (fun σ24 H => ?_))
        refine g_goto iX5_piece_137 ?_
        exact g_rv iX5_piece_151 H
set_option maxRecDepth 20000 in
set_option maxHeartbeats 4000000 in
theorem bX5_piece_147 (L d : Nat) (q1 : Option rx_V) (q2 : Option rx_V) (σ : rx_St) (K : rx_St → Prop)
    (H : rx_CV L d mX5_fail [.inr 34] σ (fun σ25 => K σ25)) :
    rx_Go L (d + 1) mX5_piece 147 [some (.inr 34), q1, q2] [] σ (rx_PV K) := by
  refine g_al iX5_piece_147 rfl ?_
  refine g_cv (as := [.inr 34]) (rest := []) iX5_piece_148 rfl rfl (Nat.le_of_ble_eq_true rfl) (Or.inr ⟨_, _, rfl, oo_5_34⟩) (rx_CV.imp H (fun σ25 H => ?_))
  exact g_rv iX5_piece_151 H
set_option maxRecDepth 20000 in
set_option maxHeartbeats 4000000 in
theorem bX5_numberHere (L d : Nat)  (σ : rx_St) (K : Int → rx_St → Prop)
    (H : rx_Go L d mX5_numberHere 7 [some (.inr 34), some (.inl 0), some (.inl (σ 34 7))] [] σ (rx_PI K)) :
    rx_CI L d mX5_numberHere [.inr 34] σ K := by
  refine rx_CI.of (la := [some (.inr 34), none, none]) rfl ?_
  refine g_c iX5_numberHere_0 ?_
  refine g_is iX5_numberHere_1 (Nat.le_of_ble_eq_true rfl) ?_
  refine rx_Go.ls (la := [some (.inr 34), some (.inl 0), none]) rfl ?_
  refine g_al iX5_numberHere_2 rfl ?_
  refine g_gf (kI := 7) rfl iX5_numberHere_3 fi_5_7_34 ?_
  refine g_is iX5_numberHere_6 (Nat.le_of_ble_eq_true rfl) ?_
  refine rx_Go.ls (la := [some (.inr 34), some (.inl 0), some (.inl (σ 34 7))]) rfl ?_
  exact H
set_option maxRecDepth 20000 in
set_option maxHeartbeats 4000000 in
theorem bX5_numberHere_7 (L d : Nat) (x1 : Int) (x2 : Int) (σ : rx_St) (K : Int → rx_St → Prop)
    (H : if (σ 34 8) ≤ x2 then (K x1 σ) else ((0 ≤ x2 ∧ x2 < 96) ∧ (rx_Go L d mX5_numberHere 7 [some (.inr 34), some (.inl (rx_w ((rx_w ((rx_w (10 * x1)) + (σ 36 x2))) - 48))), some (.inl (rx_w (x2 + 1)))] [] σ (rx_PI K)))) :
    rx_Go L d mX5_numberHere 7 [some (.inr 34), some (.inl x1), some (.inl x2)] [] σ (rx_PI K) := by
  refine g_il iX5_numberHere_7 rfl ?_
  refine g_al iX5_numberHere_8 rfl ?_
  refine g_gf (kI := 8) rfl iX5_numberHere_9 fi_5_8_34 ?_
  by_cases c1 : (σ 34 8) ≤ x2
  · rw [if_pos c1] at H
    refine g_ic3t iX5_numberHere_12 c1 ?_
    refine g_il iX5_numberHere_36 rfl ?_
    exact g_ri iX5_numberHere_37 (Or.inl rfl) H
  · rw [if_neg c1] at H
    refine g_ic3f iX5_numberHere_12 c1 ?_
    refine g_c iX5_numberHere_15 ?_
    refine g_il iX5_numberHere_17 rfl ?_
    refine g_mul iX5_numberHere_18 ?_
    refine g_al iX5_numberHere_19 rfl ?_
    refine g_gr iX5_numberHere_20 fr_5_5_34 ?_
    refine g_il iX5_numberHere_23 rfl ?_
    obtain ⟨o2, H⟩ := H
    refine g_ld iX5_numberHere_24 (ln_36 L) o2 ?_
    refine g_add iX5_numberHere_25 ?_
    refine g_c iX5_numberHere_26 ?_
    refine g_sub iX5_numberHere_28 ?_
    refine g_is iX5_numberHere_29 (Nat.le_of_ble_eq_true rfl) ?_
    refine rx_Go.ls (la := [some (.inr 34), some (.inl (rx_w ((rx_w ((rx_w (10 * x1)) + (σ 36 x2))) - 48))), some (.inl x2)]) rfl ?_
    refine g_ii iX5_numberHere_30 rfl ?_
    refine rx_Go.ls (la := [some (.inr 34), some (.inl (rx_w ((rx_w ((rx_w (10 * x1)) + (σ 36 x2))) - 48))), some (.inl (rx_w (x2 + 1)))]) rfl ?_
    refine g_goto iX5_numberHere_33 ?_
    exact H
set_option maxRecDepth 20000 in
set_option maxHeartbeats 4000000 in
theorem bX5_nameHere (L d : Nat)  (σ : rx_St) (K : Int → rx_St → Prop)
    (H : if (rx_w ((σ 34 8) - (σ 34 7))) = 1 then ((0 ≤ (σ 34 7) ∧ (σ 34 7) < 96) ∧ (if (σ 36 (σ 34 7)) = 97 then (if (σ 34 1) ≠ 0 then (if (σ 34 1) ≠ 2 then (K 0 σ) else (K (-1) σ)) else (K (-2) σ)) else (if (σ 36 (σ 34 7)) = 98 then (if (σ 34 1) ≠ 0 then (if (σ 34 1) ≠ 2 then (K 0 σ) else (K (-2) σ)) else (K (-3) σ)) else (if (σ 36 (σ 34 7)) = 112 then (if (σ 34 1) ≠ 1 then (K 0 σ) else (K (-1) σ)) else (if (σ 36 (σ 34 7)) = 113 then (if (σ 34 1) ≠ 1 then (K 0 σ) else (K (-2) σ)) else (if (σ 36 (σ 34 7)) = 119 then (if (σ 34 1) ≠ 0 then (K 0 σ) else (K (-1) σ)) else (K 0 σ))))))) else (K 0 σ)) :
    rx_CI L d mX5_nameHere [.inr 34] σ K := by
  refine rx_CI.of (la := [some (.inr 34)]) rfl ?_
  refine g_al iX5_nameHere_0 rfl ?_
  refine g_gf (kI := 8) rfl iX5_nameHere_1 fi_5_8_34 ?_
  refine g_al iX5_nameHere_4 rfl ?_
  refine g_gf (kI := 7) rfl iX5_nameHere_5 fi_5_7_34 ?_
  refine g_sub iX5_nameHere_8 ?_
  refine g_c iX5_nameHere_9 ?_
  by_cases c1 : (rx_w ((σ 34 8) - (σ 34 7))) = 1
  · rw [if_pos c1] at H
    refine g_ic0t iX5_nameHere_10 c1 ?_
    refine g_al iX5_nameHere_15 rfl ?_
    refine g_gr iX5_nameHere_16 fr_5_5_34 ?_
    refine g_al iX5_nameHere_19 rfl ?_
    refine g_gf (kI := 7) rfl iX5_nameHere_20 fi_5_7_34 ?_
    obtain ⟨o2, H⟩ := H
    refine g_ld iX5_nameHere_23 (ln_36 L) o2 ?_
    by_cases c3 : (σ 36 (σ 34 7)) = 97
    · rw [if_pos c3] at H
      refine g_sw iX5_nameHere_24 (by simp only [rx_sw]; rw [if_pos c3]) ?_
      refine g_al iX5_nameHere_89 rfl ?_
      refine g_gf (kI := 1) rfl iX5_nameHere_90 fi_5_1_34 ?_
      by_cases c4 : (σ 34 1) ≠ 0
      · rw [if_pos c4] at H
        refine g_if1t iX5_nameHere_93 c4 ?_
        refine g_al iX5_nameHere_101 rfl ?_
        refine g_gf (kI := 1) rfl iX5_nameHere_102 fi_5_1_34 ?_
        refine g_c iX5_nameHere_105 ?_
        by_cases c5 : (σ 34 1) ≠ 2
        · rw [if_pos c5] at H
          refine g_ic1t iX5_nameHere_106 c5 ?_
          refine g_c iX5_nameHere_113 ?_
          exact g_ri iX5_nameHere_114 (Or.inl rfl) H
        · rw [if_neg c5] at H
          refine g_ic1f iX5_nameHere_106 c5 ?_
          refine g_c iX5_nameHere_109 ?_
          refine g_goto iX5_nameHere_110 ?_
          exact g_ri iX5_nameHere_114 (Or.inl rfl) H
      · rw [if_neg c4] at H
        refine g_if1f iX5_nameHere_93 c4 ?_
        refine g_c iX5_nameHere_96 ?_
        refine g_goto iX5_nameHere_98 ?_
        exact g_ri iX5_nameHere_114 (Or.inl rfl) H
    · rw [if_neg c3] at H
      by_cases c6 : (σ 36 (σ 34 7)) = 98
      · rw [if_pos c6] at H
        refine g_sw iX5_nameHere_24 (by simp only [rx_sw]; rw [if_neg c3, if_pos c6]) ?_
        refine g_al iX5_nameHere_115 rfl ?_
        refine g_gf (kI := 1) rfl iX5_nameHere_116 fi_5_1_34 ?_
        by_cases c7 : (σ 34 1) ≠ 0
        · rw [if_pos c7] at H
          refine g_if1t iX5_nameHere_119 c7 ?_
          refine g_al iX5_nameHere_127 rfl ?_
          refine g_gf (kI := 1) rfl iX5_nameHere_128 fi_5_1_34 ?_
          refine g_c iX5_nameHere_131 ?_
          by_cases c8 : (σ 34 1) ≠ 2
          · rw [if_pos c8] at H
            refine g_ic1t iX5_nameHere_132 c8 ?_
            refine g_c iX5_nameHere_140 ?_
            exact g_ri iX5_nameHere_141 (Or.inl rfl) H
          · rw [if_neg c8] at H
            refine g_ic1f iX5_nameHere_132 c8 ?_
            refine g_c iX5_nameHere_135 ?_
            refine g_goto iX5_nameHere_137 ?_
            exact g_ri iX5_nameHere_141 (Or.inl rfl) H
        · rw [if_neg c7] at H
          refine g_if1f iX5_nameHere_119 c7 ?_
          refine g_c iX5_nameHere_122 ?_
          refine g_goto iX5_nameHere_124 ?_
          exact g_ri iX5_nameHere_141 (Or.inl rfl) H
      · rw [if_neg c6] at H
        by_cases c9 : (σ 36 (σ 34 7)) = 112
        · rw [if_pos c9] at H
          refine g_sw iX5_nameHere_24 (by simp only [rx_sw]; rw [if_neg c3, if_neg c6, if_pos c9]) ?_
          refine g_al iX5_nameHere_142 rfl ?_
          refine g_gf (kI := 1) rfl iX5_nameHere_143 fi_5_1_34 ?_
          refine g_c iX5_nameHere_146 ?_
          by_cases c10 : (σ 34 1) ≠ 1
          · rw [if_pos c10] at H
            refine g_ic1t iX5_nameHere_147 c10 ?_
            refine g_c iX5_nameHere_154 ?_
            exact g_ri iX5_nameHere_155 (Or.inl rfl) H
          · rw [if_neg c10] at H
            refine g_ic1f iX5_nameHere_147 c10 ?_
            refine g_c iX5_nameHere_150 ?_
            refine g_goto iX5_nameHere_151 ?_
            exact g_ri iX5_nameHere_155 (Or.inl rfl) H
        · rw [if_neg c9] at H
          by_cases c11 : (σ 36 (σ 34 7)) = 113
          · rw [if_pos c11] at H
            refine g_sw iX5_nameHere_24 (by simp only [rx_sw]; rw [if_neg c3, if_neg c6, if_neg c9, if_pos c11]) ?_
            refine g_al iX5_nameHere_156 rfl ?_
            refine g_gf (kI := 1) rfl iX5_nameHere_157 fi_5_1_34 ?_
            refine g_c iX5_nameHere_160 ?_
            by_cases c12 : (σ 34 1) ≠ 1
            · rw [if_pos c12] at H
              refine g_ic1t iX5_nameHere_161 c12 ?_
              refine g_c iX5_nameHere_169 ?_
              exact g_ri iX5_nameHere_170 (Or.inl rfl) H
            · rw [if_neg c12] at H
              refine g_ic1f iX5_nameHere_161 c12 ?_
              refine g_c iX5_nameHere_164 ?_
              refine g_goto iX5_nameHere_166 ?_
              exact g_ri iX5_nameHere_170 (Or.inl rfl) H
          · rw [if_neg c11] at H
            by_cases c13 : (σ 36 (σ 34 7)) = 119
            · rw [if_pos c13] at H
              refine g_sw iX5_nameHere_24 (by simp only [rx_sw]; rw [if_neg c3, if_neg c6, if_neg c9, if_neg c11, if_pos c13]) ?_
              refine g_al iX5_nameHere_76 rfl ?_
              refine g_gf (kI := 1) rfl iX5_nameHere_77 fi_5_1_34 ?_
              by_cases c14 : (σ 34 1) ≠ 0
              · rw [if_pos c14] at H
                refine g_if1t iX5_nameHere_80 c14 ?_
                refine g_c iX5_nameHere_87 ?_
                exact g_ri iX5_nameHere_88 (Or.inl rfl) H
              · rw [if_neg c14] at H
                refine g_if1f iX5_nameHere_80 c14 ?_
                refine g_c iX5_nameHere_83 ?_
                refine g_goto iX5_nameHere_84 ?_
                exact g_ri iX5_nameHere_88 (Or.inl rfl) H
            · rw [if_neg c13] at H
              refine g_sw (t := 171) iX5_nameHere_24 (by simp only [rx_sw, c3, c6, c9, c11, c13, if_false]) ?_
              refine g_c iX5_nameHere_171 ?_
              exact g_ri iX5_nameHere_172 (Or.inl rfl) H
  · rw [if_neg c1] at H
    refine g_ic0f iX5_nameHere_10 c1 ?_
    refine g_c iX5_nameHere_13 ?_
    exact g_ri iX5_nameHere_14 (Or.inl rfl) H
set_option maxRecDepth 20000 in
set_option maxHeartbeats 4000000 in
theorem bX5_writeLeaf (L d : Nat) (x1 : Int) (σ : rx_St) (K : rx_St → Prop)
    (H : rx_CV L d mX5_write [.inr 34, .inl x1] (rx_up σ 34 2 (rx_w ((σ 34 2) + 1))) (fun σ1 => rx_CV L d mX5_next [.inr 34] σ1 (fun σ2 => K σ2))) :
    rx_CV L (d + 1) mX5_writeLeaf [.inr 34, .inl x1] σ K := by
  refine rx_CV.of (la := [some (.inr 34), some (.inl x1)]) rfl ?_
  refine g_al iX5_writeLeaf_0 rfl ?_
  refine g_dup iX5_writeLeaf_1 ?_
  refine g_gf (kI := 2) rfl iX5_writeLeaf_2 fi_5_2_34 ?_
  refine g_c iX5_writeLeaf_5 ?_
  refine g_add iX5_writeLeaf_6 ?_
  refine g_pf (kI := 2) rfl iX5_writeLeaf_7 fi_5_2_34 (Or.inl rfl) ?_
  refine g_al iX5_writeLeaf_10 rfl ?_
  refine g_il iX5_writeLeaf_11 rfl ?_
  refine g_cv (as := [.inr 34, .inl x1]) (rest := []) iX5_writeLeaf_12 rfl rfl (Nat.le_of_ble_eq_true rfl) (Or.inr ⟨_, _, rfl, oo_5_34⟩) (rx_CV.imp H (fun σ1 H => ?_))
  refine g_al iX5_writeLeaf_15 rfl ?_
  refine g_cv (as := [.inr 34]) (rest := []) iX5_writeLeaf_16 rfl rfl (Nat.le_of_ble_eq_true rfl) (Or.inr ⟨_, _, rfl, oo_5_34⟩) (rx_CV.imp H (fun σ2 H => ?_))
  exact g_rv iX5_writeLeaf_19 H
set_option maxRecDepth 20000 in
set_option maxHeartbeats 4000000 in
theorem bX5_write (L d : Nat) (x1 : Int) (σ : rx_St) (K : rx_St → Prop)
    (H : if 96 ≤ (σ 34 3) then (K σ) else ((0 ≤ (σ 34 3) ∧ (σ 34 3) < 96) ∧ (K (rx_up (rx_up σ 35 (σ 34 3) x1) 34 3 (rx_w (((rx_up σ 35 (σ 34 3) x1) 34 3) + 1)))))) :
    rx_CV L d mX5_write [.inr 34, .inl x1] σ K := by
  refine rx_CV.of (la := [some (.inr 34), some (.inl x1)]) rfl ?_
  refine g_al iX5_write_0 rfl ?_
  refine g_gf (kI := 3) rfl iX5_write_1 fi_5_3_34 ?_
  refine g_c iX5_write_4 ?_
  by_cases c1 : 96 ≤ (σ 34 3)
  · rw [if_pos c1] at H
    refine g_ic3t iX5_write_6 c1 ?_
    exact g_rv iX5_write_29 H
  · rw [if_neg c1] at H
    refine g_ic3f iX5_write_6 c1 ?_
    refine g_al iX5_write_9 rfl ?_
    refine g_gr iX5_write_10 fr_5_4_34 ?_
    refine g_al iX5_write_13 rfl ?_
    refine g_gf (kI := 3) rfl iX5_write_14 fi_5_3_34 ?_
    refine g_il iX5_write_17 rfl ?_
    obtain ⟨o2, H⟩ := H
    refine g_st iX5_write_18 (ln_35 L) (by decide) o2 rfl ?_
    refine g_al iX5_write_19 rfl ?_
    refine g_dup iX5_write_20 ?_
    refine g_gf (kI := 3) rfl iX5_write_21 fi_5_3_34 ?_
    refine g_c iX5_write_24 ?_
    refine g_add iX5_write_25 ?_
    refine g_pf (kI := 3) rfl iX5_write_26 fi_5_3_34 (Or.inl rfl) ?_
    exact g_rv iX5_write_29 H
set_option maxRecDepth 20000 in
set_option maxHeartbeats 4000000 in
theorem bX6_search (L d : Nat) (A1 : Nat) (hA1 : rx_isO 1 A1 = true) (x2 : Int) (σ : rx_St) (K : rx_St → Prop)
    (H : rx_CV L d mX6_collect [.inr 95, .inr A1, .inl x2] σ (fun σ1 => rx_Go L (d + 1) mX6_search 15 [some (.inr 95), some (.inr A1), some (.inl x2), some (.inr 37), some (.inl 0), none] [] (rx_up σ1 95 1 2147483647) (rx_PV K))) :
    rx_CV L (d + 1) mX6_search [.inr 95, .inr A1, .inl x2, .inr 37] σ K := by
  refine rx_CV.of (la := [some (.inr 95), some (.inr A1), some (.inl x2), some (.inr 37), none, none]) rfl ?_
  refine g_al iX6_search_0 rfl ?_
  refine g_al iX6_search_1 rfl ?_
  refine g_il iX6_search_2 rfl ?_
  refine g_cv (as := [.inr 95, .inr A1, .inl x2]) (rest := []) iX6_search_3 rfl rfl (Nat.le_of_ble_eq_true rfl) (Or.inr ⟨_, _, rfl, oo_6_95⟩) (rx_CV.imp H (fun σ1 H => ?_))
  refine g_al iX6_search_6 rfl ?_
  refine g_c iX6_search_7 ?_
  refine g_pf (kI := 1) rfl iX6_search_9 fi_6_1_95 (Or.inl rfl) ?_
  refine g_c iX6_search_12 ?_
  refine g_is iX6_search_13 (Nat.le_of_ble_eq_true rfl) ?_
  refine rx_Go.ls (la := [some (.inr 95), some (.inr A1), some (.inl x2), some (.inr 37), some (.inl 0), none]) rfl ?_
  exact H
set_option maxRecDepth 20000 in
set_option maxHeartbeats 4000000 in
theorem bX6_search_15 (L d : Nat) (A1 : Nat) (hA1 : rx_isO 1 A1 = true) (q2 : Option rx_V) (x4 : Int) (q5 : Option rx_V) (σ : rx_St) (K : rx_St → Prop)
    (H : if 120 ≤ x4 then (K σ) else (rx_Go L (d + 1) mX6_search 25 [some (.inr 95), some (.inr A1), q2, some (.inr 37), some (.inl x4), some (.inl 0)] [] σ (rx_PV K))) :
    rx_Go L (d + 1) mX6_search 15 [some (.inr 95), some (.inr A1), q2, some (.inr 37), some (.inl x4), q5] [] σ (rx_PV K) := by
  refine g_il iX6_search_15 rfl ?_
  refine g_c iX6_search_17 ?_
  by_cases c2 : 120 ≤ x4
  · rw [if_pos c2] at H
    refine g_ic3t iX6_search_19 c2 ?_
    exact g_rv iX6_search_115 H
  · rw [if_neg c2] at H
    refine g_ic3f iX6_search_19 c2 ?_
    refine g_c iX6_search_22 ?_
    refine g_is iX6_search_23 (Nat.le_of_ble_eq_true rfl) ?_
    refine rx_Go.ls (la := [some (.inr 95), some (.inr A1), q2, some (.inr 37), some (.inl x4), some (.inl 0)]) rfl ?_
    exact H
set_option maxRecDepth 20000 in
set_option maxHeartbeats 4000000 in
theorem bX6_search_25 (L d : Nat) (A1 : Nat) (hA1 : rx_isO 1 A1 = true) (q2 : Option rx_V) (x4 : Int) (x5 : Int) (σ : rx_St) (K : rx_St → Prop)
    (H : if (σ 95 4) ≤ x5 then (rx_CI L d mX0_sum [.inr 37, .inr A1, .inl 2, .inl (σ 95 1)] σ (fun v5 σ4 => if (σ4 95 1) ≤ v5 then (rx_CI L d mX6_nextOrder [.inr 95] σ4 (fun v8 σ7 => if v8 ≠ 0 then (rx_Go L (d + 1) mX6_search 15 [some (.inr 95), some (.inr A1), q2, some (.inr 37), some (.inl (rx_w (x4 + 1))), some (.inl v5)] [] σ7 (rx_PV K)) else (K σ7))) else (rx_cpOK 5 0 5 0 5 ∧ (rx_CI L d mX6_nextOrder [.inr 95] (rx_cp (rx_up σ4 95 1 v5) 97 0 96 0 5) (fun v12 σ11 => if v12 ≠ 0 then (rx_Go L (d + 1) mX6_search 15 [some (.inr 95), some (.inr A1), q2, some (.inr 37), some (.inl (rx_w (x4 + 1))), some (.inl v5)] [] σ11 (rx_PV K)) else (K σ11)))))) else ((0 ≤ x5 ∧ x5 < 5) ∧ (rx_CV L d mX1_putInLine [.inr A1, .inl (σ 98 x5), .inl (σ 97 x5)] σ (fun σ15 => rx_Go L (d + 1) mX6_search 25 [some (.inr 95), some (.inr A1), q2, some (.inr 37), some (.inl x4), some (.inl (rx_w (x5 + 1)))] [] σ15 (rx_PV K))))) :
    rx_Go L (d + 1) mX6_search 25 [some (.inr 95), some (.inr A1), q2, some (.inr 37), some (.inl x4), some (.inl x5)] [] σ (rx_PV K) := by
  refine g_il iX6_search_25 rfl ?_
  refine g_al iX6_search_27 rfl ?_
  refine g_gf (kI := 4) rfl iX6_search_28 fi_6_4_95 ?_
  by_cases c3 : (σ 95 4) ≤ x5
  · rw [if_pos c3] at H
    refine g_ic3t iX6_search_31 c3 ?_
    refine g_al iX6_search_58 rfl ?_
    refine g_al iX6_search_59 rfl ?_
    refine g_c iX6_search_60 ?_
    refine g_al iX6_search_61 rfl ?_
    refine g_gf (kI := 1) rfl iX6_search_62 fi_6_1_95 ?_
    refine g_ci (as := [.inr 37, .inr A1, .inl 2, .inl (σ 95 1)]) (rest := []) iX6_search_65 rfl rfl (Nat.le_of_ble_eq_true rfl) (Or.inr ⟨_, _, rfl, oo_0_37⟩) (rx_CI.imp H (fun v5 σ4 H => ?_))
    refine g_is iX6_search_68 (Nat.le_of_ble_eq_true rfl) ?_
    refine rx_Go.ls (la := [some (.inr 95), some (.inr A1), q2, some (.inr 37), some (.inl x4), some (.inl v5)]) rfl ?_
    refine g_il iX6_search_70 rfl ?_
    refine g_al iX6_search_72 rfl ?_
    refine g_gf (kI := 1) rfl iX6_search_73 fi_6_1_95 ?_
    by_cases c6 : (σ4 95 1) ≤ v5
    · rw [if_pos c6] at H
      refine g_ic3t iX6_search_76 c6 ?_
      refine g_al iX6_search_99 rfl ?_
      refine g_ci (as := [.inr 95]) (rest := []) iX6_search_100 rfl rfl (Nat.le_of_ble_eq_true rfl) (Or.inr ⟨_, _, rfl, oo_6_95⟩) (rx_CI.imp H (fun v8 σ7 H => ?_))
      by_cases c9 : v8 ≠ 0
      · rw [if_pos c9] at H
        refine g_if1t iX6_search_103 c9 ?_
        refine g_ii iX6_search_109 rfl ?_
        refine rx_Go.ls (la := [some (.inr 95), some (.inr A1), q2, some (.inr 37), some (.inl (rx_w (x4 + 1))), some (.inl v5)]) rfl ?_
        refine g_goto iX6_search_112 ?_
        exact H
      · rw [if_neg c9] at H
        refine g_if1f iX6_search_103 c9 ?_
        refine g_goto iX6_search_106 ?_
        exact g_rv iX6_search_115 H
    · rw [if_neg c6] at H
      refine g_ic3f iX6_search_76 c6 ?_
      refine g_al iX6_search_79 rfl ?_
      refine g_il iX6_search_80 rfl ?_
      refine g_pf (kI := 1) rfl iX6_search_82 fi_6_1_95 (Or.inl rfl) ?_
      refine g_al iX6_search_85 rfl ?_
      refine g_gr iX6_search_86 fr_6_2_95 ?_
      refine g_c iX6_search_89 ?_
      refine g_al iX6_search_90 rfl ?_
      refine g_gr iX6_search_91 fr_6_0_95 ?_
      refine g_c iX6_search_94 ?_
      refine g_c iX6_search_95 ?_
      obtain ⟨o10, H⟩ := H
      refine g_cp iX6_search_96 (ln_97 L) (ln_96 L) o10 ⟨(by decide), (by decide)⟩ ?_
      refine g_al iX6_search_99 rfl ?_
      refine g_ci (as := [.inr 95]) (rest := []) iX6_search_100 rfl rfl (Nat.le_of_ble_eq_true rfl) (Or.inr ⟨_, _, rfl, oo_6_95⟩) (rx_CI.imp H (fun v12 σ11 H => ?_))
      by_cases c13 : v12 ≠ 0
      · rw [if_pos c13] at H
        refine g_if1t iX6_search_103 c13 ?_
        refine g_ii iX6_search_109 rfl ?_
        refine rx_Go.ls (la := [some (.inr 95), some (.inr A1), q2, some (.inr 37), some (.inl (rx_w (x4 + 1))), some (.inl v5)]) rfl ?_
        refine g_goto iX6_search_112 ?_
        exact H
      · rw [if_neg c13] at H
        refine g_if1f iX6_search_103 c13 ?_
        refine g_goto iX6_search_106 ?_
        exact g_rv iX6_search_115 H
  · rw [if_neg c3] at H
    refine g_ic3f iX6_search_31 c3 ?_
    refine g_al iX6_search_34 rfl ?_
    refine g_al iX6_search_35 rfl ?_
    refine g_gr iX6_search_36 fr_6_3_95 ?_
    refine g_il iX6_search_39 rfl ?_
    obtain ⟨o14, H⟩ := H
    refine g_ld iX6_search_41 (ln_98 L) o14 ?_
    refine g_al iX6_search_42 rfl ?_
    refine g_gr iX6_search_43 fr_6_2_95 ?_
    refine g_il iX6_search_46 rfl ?_
    refine g_ld iX6_search_48 (ln_97 L) o14 ?_
    refine g_cv (as := [.inr A1, .inl (σ 98 x5), .inl (σ 97 x5)]) (rest := []) iX6_search_49 rfl rfl (Nat.le_of_ble_eq_true rfl) (Or.inr ⟨_, _, rfl, hA1⟩) (rx_CV.imp H (fun σ15 H => ?_))
    refine g_ii iX6_search_52 rfl ?_
    refine rx_Go.ls (la := [some (.inr 95), some (.inr A1), q2, some (.inr 37), some (.inl x4), some (.inl (rx_w (x5 + 1)))]) rfl ?_
    refine g_goto iX6_search_55 ?_
    exact H
set_option maxRecDepth 20000 in
set_option maxHeartbeats 4000000 in
theorem bX6_collect (L d : Nat) (A1 : Nat) (hA1 : rx_isO 1 A1 = true) (x2 : Int) (σ : rx_St) (K : rx_St → Prop)
    (H : rx_Go L d mX6_collect 7 [some (.inr 95), some (.inr A1), some (.inl x2), some (.inl 0), none] [] (rx_up σ 95 4 0) (rx_PV K)) :
    rx_CV L d mX6_collect [.inr 95, .inr A1, .inl x2] σ K := by
  refine rx_CV.of (la := [some (.inr 95), some (.inr A1), some (.inl x2), none, none]) rfl ?_
  refine g_al iX6_collect_0 rfl ?_
  refine g_c iX6_collect_1 ?_
  refine g_pf (kI := 4) rfl iX6_collect_2 fi_6_4_95 (Or.inl rfl) ?_
  refine g_c iX6_collect_5 ?_
  refine g_is iX6_collect_6 (Nat.le_of_ble_eq_true rfl) ?_
  refine rx_Go.ls (la := [some (.inr 95), some (.inr A1), some (.inl x2), some (.inl 0), none]) rfl ?_
  exact H
set_option maxRecDepth 20000 in
set_option maxHeartbeats 4000000 in
theorem bX6_collect_7 (L d : Nat) (A1 : Nat) (hA1 : rx_isO 1 A1 = true) (x2 : Int) (x3 : Int) (q4 : Option rx_V) (σ : rx_St) (K : rx_St → Prop)
    (H : if (σ A1 0) ≤ x3 then (rx_Go L d mX6_collect 64 [some (.inr 95), some (.inr A1), some (.inl x2), some (.inl 0), some (.inl 0)] [] σ (rx_PV K)) else ((0 ≤ x3 ∧ x3 < 8) ∧ (if (σ (A1 + 3) x3) ≠ x2 then (rx_Go L d mX6_collect 7 [some (.inr 95), some (.inr A1), some (.inl x2), some (.inl (rx_w (x3 + 1))), q4] [] σ (rx_PV K)) else (if 5 ≤ (σ 95 4) then (rx_Go L d mX6_collect 7 [some (.inr 95), some (.inr A1), some (.inl x2), some (.inl (rx_w (x3 + 1))), q4] [] σ (rx_PV K)) else ((0 ≤ (σ 95 4) ∧ (σ 95 4) < 5) ∧ (rx_Go L d mX6_collect 7 [some (.inr 95), some (.inr A1), some (.inl x2), some (.inl (rx_w (x3 + 1))), q4] [] (rx_up (rx_up σ 97 (σ 95 4) x3) 95 4 (rx_w (((rx_up σ 97 (σ 95 4) x3) 95 4) + 1))) (rx_PV K))))))) :
    rx_Go L d mX6_collect 7 [some (.inr 95), some (.inr A1), some (.inl x2), some (.inl x3), q4] [] σ (rx_PV K) := by
  refine g_il iX6_collect_7 rfl ?_
  refine g_al iX6_collect_8 rfl ?_
  refine g_gf (kI := 0) rfl iX6_collect_9 (fi_1_0 hA1) ?_
  by_cases c1 : (σ A1 0) ≤ x3
  · rw [if_pos c1] at H
    refine g_ic3t iX6_collect_12 c1 ?_
    refine g_c iX6_collect_59 ?_
    refine g_is iX6_collect_60 (Nat.le_of_ble_eq_true rfl) ?_
    refine rx_Go.ls (la := [some (.inr 95), some (.inr A1), some (.inl x2), some (.inl 0), q4]) rfl ?_
    refine g_c iX6_collect_61 ?_
    refine g_is iX6_collect_62 (Nat.le_of_ble_eq_true rfl) ?_
    refine rx_Go.ls (la := [some (.inr 95), some (.inr A1), some (.inl x2), some (.inl 0), some (.inl 0)]) rfl ?_
    exact H
  · rw [if_neg c1] at H
    refine g_ic3f iX6_collect_12 c1 ?_
    refine g_al iX6_collect_15 rfl ?_
    refine g_gr iX6_collect_16 (fr_1_3 hA1) ?_
    refine g_il iX6_collect_19 rfl ?_
    obtain ⟨o2, H⟩ := H
    refine g_ld iX6_collect_20 (ln_1_o3 L hA1).1 o2 ?_
    refine g_il iX6_collect_21 rfl ?_
    by_cases c3 : (σ (A1 + 3) x3) ≠ x2
    · rw [if_pos c3] at H
      refine g_ic1t iX6_collect_22 c3 ?_
      refine g_ii iX6_collect_53 rfl ?_
      refine rx_Go.ls (la := [some (.inr 95), some (.inr A1), some (.inl x2), some (.inl (rx_w (x3 + 1))), q4]) rfl ?_
      refine g_goto iX6_collect_56 ?_
      exact H
    · rw [if_neg c3] at H
      refine g_ic1f iX6_collect_22 c3 ?_
      refine g_al iX6_collect_25 rfl ?_
      refine g_gf (kI := 4) rfl iX6_collect_26 fi_6_4_95 ?_
      refine g_c iX6_collect_29 ?_
      by_cases c4 : 5 ≤ (σ 95 4)
      · rw [if_pos c4] at H
        refine g_ic3t iX6_collect_30 c4 ?_
        refine g_ii iX6_collect_53 rfl ?_
        refine rx_Go.ls (la := [some (.inr 95), some (.inr A1), some (.inl x2), some (.inl (rx_w (x3 + 1))), q4]) rfl ?_
        refine g_goto iX6_collect_56 ?_
        exact H
      · rw [if_neg c4] at H
        refine g_ic3f iX6_collect_30 c4 ?_
        refine g_al iX6_collect_33 rfl ?_
        refine g_gr iX6_collect_34 fr_6_2_95 ?_
        refine g_al iX6_collect_37 rfl ?_
        refine g_gf (kI := 4) rfl iX6_collect_38 fi_6_4_95 ?_
        refine g_il iX6_collect_41 rfl ?_
        obtain ⟨o5, H⟩ := H
        refine g_st iX6_collect_42 (ln_97 L) (by decide) o5 rfl ?_
        refine g_al iX6_collect_43 rfl ?_
        refine g_dup iX6_collect_44 ?_
        refine g_gf (kI := 4) rfl iX6_collect_45 fi_6_4_95 ?_
        refine g_c iX6_collect_48 ?_
        refine g_add iX6_collect_49 ?_
        refine g_pf (kI := 4) rfl iX6_collect_50 fi_6_4_95 (Or.inl rfl) ?_
        refine g_ii iX6_collect_53 rfl ?_
        refine rx_Go.ls (la := [some (.inr 95), some (.inr A1), some (.inl x2), some (.inl (rx_w (x3 + 1))), q4]) rfl ?_
        refine g_goto iX6_collect_56 ?_
        exact H
set_option maxRecDepth 20000 in
set_option maxHeartbeats 4000000 in
theorem bX6_collect_64 (L d : Nat) (A1 : Nat) (hA1 : rx_isO 1 A1 = true) (x2 : Int) (x3 : Int) (x4 : Int) (σ : rx_St) (K : rx_St → Prop)
    (H : if (σ A1 0) ≤ x4 then (K σ) else ((0 ≤ x4 ∧ x4 < 8) ∧ ((0 ≤ (σ (A1 + 4) x4) ∧ (σ (A1 + 4) x4) < 8) ∧ (if (σ (A1 + 3) (σ (A1 + 4) x4)) ≠ x2 then (rx_Go L d mX6_collect 64 [some (.inr 95), some (.inr A1), some (.inl x2), some (.inl x3), some (.inl (rx_w (x4 + 1)))] [] σ (rx_PV K)) else (if 5 ≤ x3 then (rx_Go L d mX6_collect 64 [some (.inr 95), some (.inr A1), some (.inl x2), some (.inl x3), some (.inl (rx_w (x4 + 1)))] [] σ (rx_PV K)) else ((0 ≤ x3 ∧ x3 < 5) ∧ (rx_Go L d mX6_collect 64 [some (.inr 95), some (.inr A1), some (.inl x2), some (.inl (rx_w (x3 + 1))), some (.inl (rx_w (x4 + 1)))] [] (rx_up σ 98 x3 x4) (rx_PV K)))))))) :
    rx_Go L d mX6_collect 64 [some (.inr 95), some (.inr A1), some (.inl x2), some (.inl x3), some (.inl x4)] [] σ (rx_PV K) := by
  refine g_il iX6_collect_64 rfl ?_
  refine g_al iX6_collect_66 rfl ?_
  refine g_gf (kI := 0) rfl iX6_collect_67 (fi_1_0 hA1) ?_
  by_cases c6 : (σ A1 0) ≤ x4
  · rw [if_pos c6] at H
    refine g_ic3t iX6_collect_70 c6 ?_
    exact g_rv iX6_collect_111 H
  · rw [if_neg c6] at H
    refine g_ic3f iX6_collect_70 c6 ?_
    refine g_al iX6_collect_73 rfl ?_
    refine g_gr iX6_collect_74 (fr_1_3 hA1) ?_
    refine g_al iX6_collect_77 rfl ?_
    refine g_gr iX6_collect_78 (fr_1_4 hA1) ?_
    refine g_il iX6_collect_81 rfl ?_
    obtain ⟨o7, H⟩ := H
    refine g_ld iX6_collect_83 (ln_1_o4 L hA1).1 o7 ?_
    obtain ⟨o8, H⟩ := H
    refine g_ld iX6_collect_84 (ln_1_o3 L hA1).1 o8 ?_
    refine g_il iX6_collect_85 rfl ?_
    by_cases c9 : (σ (A1 + 3) (σ (A1 + 4) x4)) ≠ x2
    · rw [if_pos c9] at H
      refine g_ic1t iX6_collect_86 c9 ?_
      refine g_ii iX6_collect_105 rfl ?_
      refine rx_Go.ls (la := [some (.inr 95), some (.inr A1), some (.inl x2), some (.inl x3), some (.inl (rx_w (x4 + 1)))]) rfl ?_
      refine g_goto iX6_collect_108 ?_
      exact H
    · rw [if_neg c9] at H
      refine g_ic1f iX6_collect_86 c9 ?_
      refine g_il iX6_collect_89 rfl ?_
      refine g_c iX6_collect_90 ?_
      by_cases c10 : 5 ≤ x3
      · rw [if_pos c10] at H
        refine g_ic3t iX6_collect_91 c10 ?_
        refine g_ii iX6_collect_105 rfl ?_
        refine rx_Go.ls (la := [some (.inr 95), some (.inr A1), some (.inl x2), some (.inl x3), some (.inl (rx_w (x4 + 1)))]) rfl ?_
        refine g_goto iX6_collect_108 ?_
        exact H
      · rw [if_neg c10] at H
        refine g_ic3f iX6_collect_91 c10 ?_
        refine g_al iX6_collect_94 rfl ?_
        refine g_gr iX6_collect_95 fr_6_3_95 ?_
        refine g_il iX6_collect_98 rfl ?_
        refine g_il iX6_collect_99 rfl ?_
        obtain ⟨o11, H⟩ := H
        refine g_st iX6_collect_101 (ln_98 L) (by decide) o11 rfl ?_
        refine g_ii iX6_collect_102 rfl ?_
        refine rx_Go.ls (la := [some (.inr 95), some (.inr A1), some (.inl x2), some (.inl (rx_w (x3 + 1))), some (.inl x4)]) rfl ?_
        refine g_ii iX6_collect_105 rfl ?_
        refine rx_Go.ls (la := [some (.inr 95), some (.inr A1), some (.inl x2), some (.inl (rx_w (x3 + 1))), some (.inl (rx_w (x4 + 1)))]) rfl ?_
        refine g_goto iX6_collect_108 ?_
        exact H
set_option maxRecDepth 20000 in
set_option maxHeartbeats 4000000 in
theorem bX6_nextOrder (L d : Nat)  (σ : rx_St) (K : Int → rx_St → Prop)
    (H : rx_Go L (d + 1) mX6_nextOrder 7 [some (.inr 95), some (.inl (rx_w ((σ 95 4) - 2))), none, none, none] [] σ (rx_PI K)) :
    rx_CI L (d + 1) mX6_nextOrder [.inr 95] σ K := by
  refine rx_CI.of (la := [some (.inr 95), none, none, none, none]) rfl ?_
  refine g_al iX6_nextOrder_0 rfl ?_
  refine g_gf (kI := 4) rfl iX6_nextOrder_1 fi_6_4_95 ?_
  refine g_c iX6_nextOrder_4 ?_
  refine g_sub iX6_nextOrder_5 ?_
  refine g_is iX6_nextOrder_6 (Nat.le_of_ble_eq_true rfl) ?_
  refine rx_Go.ls (la := [some (.inr 95), some (.inl (rx_w ((σ 95 4) - 2))), none, none, none]) rfl ?_
  exact H
set_option maxRecDepth 20000 in
set_option maxHeartbeats 4000000 in
theorem bX6_nextOrder_7 (L d : Nat) (x1 : Int) (q2 : Option rx_V) (q3 : Option rx_V) (q4 : Option rx_V) (σ : rx_St) (K : Int → rx_St → Prop)
    (H : if x1 < 0 then (K 0 σ) else ((0 ≤ x1 ∧ x1 < 5) ∧ ((0 ≤ (rx_w (x1 + 1)) ∧ (rx_w (x1 + 1)) < 5) ∧ (if (σ 97 (rx_w (x1 + 1))) ≤ (σ 97 x1) then (rx_Go L (d + 1) mX6_nextOrder 7 [some (.inr 95), some (.inl (rx_w (x1 + (-1)))), q2, q3, q4] [] σ (rx_PI K)) else (rx_Go L (d + 1) mX6_nextOrder 50 [some (.inr 95), some (.inl x1), some (.inl (rx_w ((σ 95 4) - 1))), q3, q4] [] σ (rx_PI K)))))) :
    rx_Go L (d + 1) mX6_nextOrder 7 [some (.inr 95), some (.inl x1), q2, q3, q4] [] σ (rx_PI K) := by
  refine g_il iX6_nextOrder_7 rfl ?_
  by_cases c1 : x1 < 0
  · rw [if_pos c1] at H
    refine g_if2t iX6_nextOrder_8 c1 ?_
    refine g_il iX6_nextOrder_37 rfl ?_
    refine g_if3f iX6_nextOrder_38 (Int.not_le.mpr c1) ?_
    refine g_c iX6_nextOrder_41 ?_
    exact g_ri iX6_nextOrder_42 (by decide) H
  · rw [if_neg c1] at H
    refine g_if2f iX6_nextOrder_8 c1 ?_
    refine g_al iX6_nextOrder_11 rfl ?_
    refine g_gr iX6_nextOrder_12 fr_6_2_95 ?_
    refine g_il iX6_nextOrder_15 rfl ?_
    obtain ⟨o2, H⟩ := H
    refine g_ld iX6_nextOrder_16 (ln_97 L) o2 ?_
    refine g_al iX6_nextOrder_17 rfl ?_
    refine g_gr iX6_nextOrder_18 fr_6_2_95 ?_
    refine g_il iX6_nextOrder_21 rfl ?_
    refine g_c iX6_nextOrder_22 ?_
    refine g_add iX6_nextOrder_23 ?_
    obtain ⟨o3, H⟩ := H
    refine g_ld iX6_nextOrder_24 (ln_97 L) o3 ?_
    by_cases c4 : (σ 97 (rx_w (x1 + 1))) ≤ (σ 97 x1)
    · rw [if_pos c4] at H
      refine g_ic3t iX6_nextOrder_25 c4 ?_
      refine g_ii iX6_nextOrder_31 rfl ?_
      refine rx_Go.ls (la := [some (.inr 95), some (.inl (rx_w (x1 + (-1)))), q2, q3, q4]) rfl ?_
      refine g_goto iX6_nextOrder_34 ?_
      exact H
    · rw [if_neg c4] at H
      refine g_ic3f iX6_nextOrder_25 c4 ?_
      refine g_goto iX6_nextOrder_28 ?_
      refine g_il iX6_nextOrder_37 rfl ?_
      refine g_if3t iX6_nextOrder_38 (Int.not_lt.mp c1) ?_
      refine g_al iX6_nextOrder_43 rfl ?_
      refine g_gf (kI := 4) rfl iX6_nextOrder_44 fi_6_4_95 ?_
      refine g_c iX6_nextOrder_47 ?_
      refine g_sub iX6_nextOrder_48 ?_
      refine g_is iX6_nextOrder_49 (Nat.le_of_ble_eq_true rfl) ?_
      refine rx_Go.ls (la := [some (.inr 95), some (.inl x1), some (.inl (rx_w ((σ 95 4) - 1))), q3, q4]) rfl ?_
      exact H
set_option maxRecDepth 20000 in
set_option maxHeartbeats 4000000 in
theorem bX6_nextOrder_50 (L d : Nat) (x1 : Int) (x2 : Int) (q3 : Option rx_V) (q4 : Option rx_V) (σ : rx_St) (K : Int → rx_St → Prop)
    (H : if x2 ≤ (rx_w (x1 + 1)) then (rx_CV L d mX6_exchange [.inr 95, .inl x1, .inl x2] σ (fun σ6 => rx_Go L (d + 1) mX6_nextOrder 99 [some (.inr 95), some (.inl x1), some (.inl x2), some (.inl (rx_w (x1 + 1))), some (.inl (rx_w ((σ6 95 4) - 1)))] [] σ6 (rx_PI K))) else ((0 ≤ x2 ∧ x2 < 5) ∧ ((0 ≤ x1 ∧ x1 < 5) ∧ (if (σ 97 x2) ≤ (σ 97 x1) then (rx_Go L (d + 1) mX6_nextOrder 50 [some (.inr 95), some (.inl x1), some (.inl (rx_w (x2 + (-1)))), q3, q4] [] σ (rx_PI K)) else (rx_CV L d mX6_exchange [.inr 95, .inl x1, .inl x2] σ (fun σ10 => rx_Go L (d + 1) mX6_nextOrder 99 [some (.inr 95), some (.inl x1), some (.inl x2), some (.inl (rx_w (x1 + 1))), some (.inl (rx_w ((σ10 95 4) - 1)))] [] σ10 (rx_PI K))))))) :
    rx_Go L (d + 1) mX6_nextOrder 50 [some (.inr 95), some (.inl x1), some (.inl x2), q3, q4] [] σ (rx_PI K) := by
  refine g_il iX6_nextOrder_50 rfl ?_
  refine g_il iX6_nextOrder_51 rfl ?_
  refine g_c iX6_nextOrder_52 ?_
  refine g_add iX6_nextOrder_53 ?_
  by_cases c5 : x2 ≤ (rx_w (x1 + 1))
  · rw [if_pos c5] at H
    refine g_ic5t iX6_nextOrder_54 c5 ?_
    refine g_al iX6_nextOrder_81 rfl ?_
    refine g_il iX6_nextOrder_82 rfl ?_
    refine g_il iX6_nextOrder_83 rfl ?_
    refine g_cv (as := [.inr 95, .inl x1, .inl x2]) (rest := []) iX6_nextOrder_84 rfl rfl (Nat.le_of_ble_eq_true rfl) (Or.inr ⟨_, _, rfl, oo_6_95⟩) (rx_CV.imp H (fun σ6 H => ?_))
    refine g_il iX6_nextOrder_87 rfl ?_
    refine g_c iX6_nextOrder_88 ?_
    refine g_add iX6_nextOrder_89 ?_
    refine g_is iX6_nextOrder_90 (Nat.le_of_ble_eq_true rfl) ?_
    refine rx_Go.ls (la := [some (.inr 95), some (.inl x1), some (.inl x2), some (.inl (rx_w (x1 + 1))), q4]) rfl ?_
    refine g_al iX6_nextOrder_91 rfl ?_
    refine g_gf (kI := 4) rfl iX6_nextOrder_92 fi_6_4_95 ?_
    refine g_c iX6_nextOrder_95 ?_
    refine g_sub iX6_nextOrder_96 ?_
    refine g_is iX6_nextOrder_97 (Nat.le_of_ble_eq_true rfl) ?_
    refine rx_Go.ls (la := [some (.inr 95), some (.inl x1), some (.inl x2), some (.inl (rx_w (x1 + 1))), some (.inl (rx_w ((σ6 95 4) - 1)))]) rfl ?_
    exact H
  · rw [if_neg c5] at H
    refine g_ic5f iX6_nextOrder_54 c5 ?_
    refine g_al iX6_nextOrder_57 rfl ?_
    refine g_gr iX6_nextOrder_58 fr_6_2_95 ?_
    refine g_il iX6_nextOrder_61 rfl ?_
    obtain ⟨o7, H⟩ := H
    refine g_ld iX6_nextOrder_62 (ln_97 L) o7 ?_
    refine g_al iX6_nextOrder_63 rfl ?_
    refine g_gr iX6_nextOrder_64 fr_6_2_95 ?_
    refine g_il iX6_nextOrder_67 rfl ?_
    obtain ⟨o8, H⟩ := H
    refine g_ld iX6_nextOrder_68 (ln_97 L) o8 ?_
    by_cases c9 : (σ 97 x2) ≤ (σ 97 x1)
    · rw [if_pos c9] at H
      refine g_ic5t iX6_nextOrder_69 c9 ?_
      refine g_ii iX6_nextOrder_75 rfl ?_
      refine rx_Go.ls (la := [some (.inr 95), some (.inl x1), some (.inl (rx_w (x2 + (-1)))), q3, q4]) rfl ?_
      refine g_goto iX6_nextOrder_78 ?_
      exact H
    · rw [if_neg c9] at H
      refine g_ic5f iX6_nextOrder_69 c9 ?_
      refine g_goto iX6_nextOrder_72 ?_
      refine g_al iX6_nextOrder_81 rfl ?_
      refine g_il iX6_nextOrder_82 rfl ?_
      refine g_il iX6_nextOrder_83 rfl ?_
      refine g_cv (as := [.inr 95, .inl x1, .inl x2]) (rest := []) iX6_nextOrder_84 rfl rfl (Nat.le_of_ble_eq_true rfl) (Or.inr ⟨_, _, rfl, oo_6_95⟩) (rx_CV.imp H (fun σ10 H => ?_))
      refine g_il iX6_nextOrder_87 rfl ?_
      refine g_c iX6_nextOrder_88 ?_
      refine g_add iX6_nextOrder_89 ?_
      refine g_is iX6_nextOrder_90 (Nat.le_of_ble_eq_true rfl) ?_
      refine rx_Go.ls (la := [some (.inr 95), some (.inl x1), some (.inl x2), some (.inl (rx_w (x1 + 1))), q4]) rfl ?_
      refine g_al iX6_nextOrder_91 rfl ?_
      refine g_gf (kI := 4) rfl iX6_nextOrder_92 fi_6_4_95 ?_
      refine g_c iX6_nextOrder_95 ?_
      refine g_sub iX6_nextOrder_96 ?_
      refine g_is iX6_nextOrder_97 (Nat.le_of_ble_eq_true rfl) ?_
      refine rx_Go.ls (la := [some (.inr 95), some (.inl x1), some (.inl x2), some (.inl (rx_w (x1 + 1))), some (.inl (rx_w ((σ10 95 4) - 1)))]) rfl ?_
      exact H
set_option maxRecDepth 20000 in
set_option maxHeartbeats 4000000 in
theorem bX6_nextOrder_99 (L d : Nat) (q1 : Option rx_V) (q2 : Option rx_V) (x3 : Int) (x4 : Int) (σ : rx_St) (K : Int → rx_St → Prop)
    (H : if x4 ≤ x3 then (K 1 σ) else (rx_CV L d mX6_exchange [.inr 95, .inl x3, .inl x4] σ (fun σ12 => rx_Go L (d + 1) mX6_nextOrder 99 [some (.inr 95), q1, q2, some (.inl (rx_w (x3 + 1))), some (.inl (rx_w (x4 + (-1))))] [] σ12 (rx_PI K)))) :
    rx_Go L (d + 1) mX6_nextOrder 99 [some (.inr 95), q1, q2, some (.inl x3), some (.inl x4)] [] σ (rx_PI K) := by
  refine g_il iX6_nextOrder_99 rfl ?_
  refine g_il iX6_nextOrder_100 rfl ?_
  by_cases c11 : x4 ≤ x3
  · rw [if_pos c11] at H
    refine g_ic3t iX6_nextOrder_102 c11 ?_
    refine g_c iX6_nextOrder_121 ?_
    exact g_ri iX6_nextOrder_122 (by decide) H
  · rw [if_neg c11] at H
    refine g_ic3f iX6_nextOrder_102 c11 ?_
    refine g_al iX6_nextOrder_105 rfl ?_
    refine g_il iX6_nextOrder_106 rfl ?_
    refine g_il iX6_nextOrder_107 rfl ?_
    refine g_cv (as := [.inr 95, .inl x3, .inl x4]) (rest := []) iX6_nextOrder_109 rfl rfl (Nat.le_of_ble_eq_true rfl) (Or.inr ⟨_, _, rfl, oo_6_95⟩) (rx_CV.imp H (fun σ12 H => ?_))
    refine g_ii iX6_nextOrder_112 rfl ?_
    refine rx_Go.ls (la := [some (.inr 95), q1, q2, some (.inl (rx_w (x3 + 1))), some (.inl x4)]) rfl ?_
    refine g_ii iX6_nextOrder_115 rfl ?_
    refine rx_Go.ls (la := [some (.inr 95), q1, q2, some (.inl (rx_w (x3 + 1))), some (.inl (rx_w (x4 + (-1))))]) rfl ?_
    refine g_goto iX6_nextOrder_118 ?_
    exact H
set_option maxRecDepth 20000 in
set_option maxHeartbeats 4000000 in
theorem bX6_exchange (L d : Nat) (x1 : Int) (x2 : Int) (σ : rx_St) (K : rx_St → Prop)
    (H : (0 ≤ x1 ∧ x1 < 5) ∧ ((0 ≤ x2 ∧ x2 < 5) ∧ (K (rx_up (rx_up σ 97 x1 (σ 97 x2)) 97 x2 (σ 97 x1))))) :
    rx_CV L d mX6_exchange [.inr 95, .inl x1, .inl x2] σ K := by
  refine rx_CV.of (la := [some (.inr 95), some (.inl x1), some (.inl x2), none]) rfl ?_
  refine g_al iX6_exchange_0 rfl ?_
  refine g_gr iX6_exchange_1 fr_6_2_95 ?_
  refine g_il iX6_exchange_4 rfl ?_
  obtain ⟨o1, H⟩ := H
  refine g_ld iX6_exchange_5 (ln_97 L) o1 ?_
  refine g_is iX6_exchange_6 (Nat.le_of_ble_eq_true rfl) ?_
  refine rx_Go.ls (la := [some (.inr 95), some (.inl x1), some (.inl x2), some (.inl (σ 97 x1))]) rfl ?_
  refine g_al iX6_exchange_7 rfl ?_
  refine g_gr iX6_exchange_8 fr_6_2_95 ?_
  refine g_il iX6_exchange_11 rfl ?_
  refine g_al iX6_exchange_12 rfl ?_
  refine g_gr iX6_exchange_13 fr_6_2_95 ?_
  refine g_il iX6_exchange_16 rfl ?_
  obtain ⟨o2, H⟩ := H
  refine g_ld iX6_exchange_17 (ln_97 L) o2 ?_
  refine g_st iX6_exchange_18 (ln_97 L) (by decide) o1 rfl ?_
  refine g_al iX6_exchange_19 rfl ?_
  refine g_gr iX6_exchange_20 fr_6_2_95 ?_
  refine g_il iX6_exchange_23 rfl ?_
  refine g_il iX6_exchange_24 rfl ?_
  refine g_st iX6_exchange_25 (ln_97 L) (by decide) o2 rfl ?_
  exact g_rv iX6_exchange_26 H
set_option maxRecDepth 20000 in
set_option maxHeartbeats 4000000 in
theorem bX7_become (L d : Nat) (A0 : Nat) (hA0 : rx_isO 7 A0 = true) (x1 : Int) (x2 : Int) (σ : rx_St) (K : rx_St → Prop)
    (H : rx_CV L d mJ7_fill_53178 [.inr (A0 + 1), .inl 0] (rx_up (rx_up σ A0 0 x1) A0 1 x2) (fun σ1 => K σ1)) :
    rx_CV L (d + 1) mX7_become [.inr A0, .inl x1, .inl x2] σ K := by
  refine rx_CV.of (la := [some (.inr A0), some (.inl x1), some (.inl x2)]) rfl ?_
  refine g_al iX7_become_0 rfl ?_
  refine g_il iX7_become_1 rfl ?_
  refine g_pf (kI := 0) rfl iX7_become_2 (fi_7_0 hA0) (Or.inl rfl) ?_
  refine g_al iX7_become_5 rfl ?_
  refine g_il iX7_become_6 rfl ?_
  refine g_pf (kI := 1) rfl iX7_become_7 (fi_7_1 hA0) (Or.inl rfl) ?_
  refine g_al iX7_become_10 rfl ?_
  refine g_gr iX7_become_11 (fr_7_2 hA0) ?_
  refine g_c iX7_become_14 ?_
  refine g_cv (as := [.inr (A0 + 1), .inl 0]) (rest := []) iX7_become_15 rfl rfl (Nat.le_of_ble_eq_true rfl) (Or.inl (by decide)) (rx_CV.imp H (fun σ1 H => ?_))
  exact g_rv iX7_become_18 H
set_option maxRecDepth 20000 in
set_option maxHeartbeats 4000000 in
theorem bX7_takeFrom (L d : Nat) (A0 : Nat) (hA0 : rx_isO 7 A0 = true) (A1 : Nat) (hA1 : rx_isO 7 A1 = true) (σ : rx_St) (K : rx_St → Prop)
    (H : rx_cpOK 24 0 24 0 24 ∧ (K (rx_cp (rx_up (rx_up σ A0 0 (σ A1 0)) A0 1 ((rx_up σ A0 0 (σ A1 0)) A1 1)) (A1 + 1) 0 (A0 + 1) 0 24))) :
    rx_CV L d mX7_takeFrom [.inr A0, .inr A1] σ K := by
  refine rx_CV.of (la := [some (.inr A0), some (.inr A1)]) rfl ?_
  refine g_al iX7_takeFrom_0 rfl ?_
  refine g_al iX7_takeFrom_1 rfl ?_
  refine g_gf (kI := 0) rfl iX7_takeFrom_2 (fi_7_0 hA1) ?_
  refine g_pf (kI := 0) rfl iX7_takeFrom_5 (fi_7_0 hA0) (Or.inl rfl) ?_
  refine g_al iX7_takeFrom_8 rfl ?_
  refine g_al iX7_takeFrom_9 rfl ?_
  refine g_gf (kI := 1) rfl iX7_takeFrom_10 (fi_7_1 hA1) ?_
  refine g_pf (kI := 1) rfl iX7_takeFrom_13 (fi_7_1 hA0) (Or.inl rfl) ?_
  refine g_al iX7_takeFrom_16 rfl ?_
  refine g_gr iX7_takeFrom_17 (fr_7_2 hA1) ?_
  refine g_c iX7_takeFrom_20 ?_
  refine g_al iX7_takeFrom_21 rfl ?_
  refine g_gr iX7_takeFrom_22 (fr_7_2 hA0) ?_
  refine g_c iX7_takeFrom_25 ?_
  refine g_c iX7_takeFrom_26 ?_
  obtain ⟨o1, H⟩ := H
  refine g_cp iX7_takeFrom_28 (ln_7_o1 L hA1).1 (ln_7_o1 L hA0).1 o1 ⟨(ln_7_o1 L hA1).2, (ln_7_o1 L hA0).2⟩ ?_
  exact g_rv iX7_takeFrom_31 H
set_option maxRecDepth 20000 in
set_option maxHeartbeats 4000000 in
theorem bX7_isMissing (L d : Nat) (A0 : Nat) (hA0 : rx_isO 7 A0 = true) (σ : rx_St) (K : Int → rx_St → Prop)
    (H : if (σ A0 0) ≠ (-1) then (K 0 σ) else (K 1 σ)) :
    rx_CI L d mX7_isMissing [.inr A0] σ K := by
  refine rx_CI.of (la := [some (.inr A0)]) rfl ?_
  refine g_al iX7_isMissing_0 rfl ?_
  refine g_gf (kI := 0) rfl iX7_isMissing_1 (fi_7_0 hA0) ?_
  refine g_c iX7_isMissing_4 ?_
  by_cases c1 : (σ A0 0) ≠ (-1)
  · rw [if_pos c1] at H
    refine g_ic1t iX7_isMissing_5 c1 ?_
    refine g_c iX7_isMissing_12 ?_
    exact g_ri iX7_isMissing_13 (by decide) H
  · rw [if_neg c1] at H
    refine g_ic1f iX7_isMissing_5 c1 ?_
    refine g_c iX7_isMissing_8 ?_
    refine g_goto iX7_isMissing_9 ?_
    exact g_ri iX7_isMissing_13 (by decide) H
set_option maxRecDepth 20000 in
set_option maxHeartbeats 4000000 in
theorem bX7_hasPlace (L d : Nat) (A0 : Nat) (hA0 : rx_isO 7 A0 = true) (x1 : Int) (σ : rx_St) (K : Int → rx_St → Prop)
    (H : if x1 < 0 then (K 0 σ) else (if (σ A0 1) ≤ x1 then (K 0 σ) else (K 1 σ))) :
    rx_CI L d mX7_hasPlace [.inr A0, .inl x1] σ K := by
  refine rx_CI.of (la := [some (.inr A0), some (.inl x1)]) rfl ?_
  refine g_il iX7_hasPlace_0 rfl ?_
  by_cases c1 : x1 < 0
  · rw [if_pos c1] at H
    refine g_if2t iX7_hasPlace_1 c1 ?_
    refine g_c iX7_hasPlace_16 ?_
    exact g_ri iX7_hasPlace_17 (by decide) H
  · rw [if_neg c1] at H
    refine g_if2f iX7_hasPlace_1 c1 ?_
    refine g_il iX7_hasPlace_4 rfl ?_
    refine g_al iX7_hasPlace_5 rfl ?_
    refine g_gf (kI := 1) rfl iX7_hasPlace_6 (fi_7_1 hA0) ?_
    by_cases c2 : (σ A0 1) ≤ x1
    · rw [if_pos c2] at H
      refine g_ic3t iX7_hasPlace_9 c2 ?_
      refine g_c iX7_hasPlace_16 ?_
      exact g_ri iX7_hasPlace_17 (by decide) H
    · rw [if_neg c2] at H
      refine g_ic3f iX7_hasPlace_9 c2 ?_
      refine g_c iX7_hasPlace_12 ?_
      refine g_goto iX7_hasPlace_13 ?_
      exact g_ri iX7_hasPlace_17 (by decide) H
set_option maxRecDepth 20000 in
set_option maxHeartbeats 4000000 in
theorem bX7_hasPlaces (L d : Nat) (A0 : Nat) (hA0 : rx_isO 7 A0 = true) (x1 : Int) (x2 : Int) (σ : rx_St) (K : Int → rx_St → Prop)
    (H : if x1 < 0 then (K 0 σ) else (if x2 < 0 then (K 0 σ) else (if (σ A0 1) < x1 then (K 0 σ) else (if (rx_w ((σ A0 1) - x1)) < x2 then (K 0 σ) else (K 1 σ))))) :
    rx_CI L d mX7_hasPlaces [.inr A0, .inl x1, .inl x2] σ K := by
  refine rx_CI.of (la := [some (.inr A0), some (.inl x1), some (.inl x2)]) rfl ?_
  refine g_il iX7_hasPlaces_0 rfl ?_
  by_cases c1 : x1 < 0
  · rw [if_pos c1] at H
    refine g_if2t iX7_hasPlaces_1 c1 ?_
    refine g_c iX7_hasPlaces_30 ?_
    exact g_ri iX7_hasPlaces_31 (by decide) H
  · rw [if_neg c1] at H
    refine g_if2f iX7_hasPlaces_1 c1 ?_
    refine g_il iX7_hasPlaces_4 rfl ?_
    by_cases c2 : x2 < 0
    · rw [if_pos c2] at H
      refine g_if2t iX7_hasPlaces_5 c2 ?_
      refine g_c iX7_hasPlaces_30 ?_
      exact g_ri iX7_hasPlaces_31 (by decide) H
    · rw [if_neg c2] at H
      refine g_if2f iX7_hasPlaces_5 c2 ?_
      refine g_il iX7_hasPlaces_8 rfl ?_
      refine g_al iX7_hasPlaces_9 rfl ?_
      refine g_gf (kI := 1) rfl iX7_hasPlaces_10 (fi_7_1 hA0) ?_
      by_cases c3 : (σ A0 1) < x1
      · rw [if_pos c3] at H
        refine g_ic4t iX7_hasPlaces_13 c3 ?_
        refine g_c iX7_hasPlaces_30 ?_
        exact g_ri iX7_hasPlaces_31 (by decide) H
      · rw [if_neg c3] at H
        refine g_ic4f iX7_hasPlaces_13 c3 ?_
        refine g_il iX7_hasPlaces_16 rfl ?_
        refine g_al iX7_hasPlaces_17 rfl ?_
        refine g_gf (kI := 1) rfl iX7_hasPlaces_18 (fi_7_1 hA0) ?_
        refine g_il iX7_hasPlaces_21 rfl ?_
        refine g_sub iX7_hasPlaces_22 ?_
        by_cases c4 : (rx_w ((σ A0 1) - x1)) < x2
        · rw [if_pos c4] at H
          refine g_ic4t iX7_hasPlaces_23 c4 ?_
          refine g_c iX7_hasPlaces_30 ?_
          exact g_ri iX7_hasPlaces_31 (by decide) H
        · rw [if_neg c4] at H
          refine g_ic4f iX7_hasPlaces_23 c4 ?_
          refine g_c iX7_hasPlaces_26 ?_
          refine g_goto iX7_hasPlaces_27 ?_
          exact g_ri iX7_hasPlaces_31 (by decide) H
set_option maxRecDepth 20000 in
set_option maxHeartbeats 4000000 in
theorem bX7_hasNoNumber (L d : Nat) (A0 : Nat) (hA0 : rx_isO 7 A0 = true) (σ : rx_St) (K : Int → rx_St → Prop)
    (H : rx_Go L d mX7_hasNoNumber 2 [some (.inr A0), some (.inl 0)] [] σ (rx_PI K)) :
    rx_CI L d mX7_hasNoNumber [.inr A0] σ K := by
  refine rx_CI.of (la := [some (.inr A0), none]) rfl ?_
  refine g_c iX7_hasNoNumber_0 ?_
  refine g_is iX7_hasNoNumber_1 (Nat.le_of_ble_eq_true rfl) ?_
  refine rx_Go.ls (la := [some (.inr A0), some (.inl 0)]) rfl ?_
  exact H
set_option maxRecDepth 20000 in
set_option maxHeartbeats 4000000 in
theorem bX7_hasNoNumber_2 (L d : Nat) (A0 : Nat) (hA0 : rx_isO 7 A0 = true) (x1 : Int) (σ : rx_St) (K : Int → rx_St → Prop)
    (H : if (σ A0 1) ≤ x1 then (K 0 σ) else ((0 ≤ x1 ∧ x1 < 24) ∧ (if (σ (A0 + 1) x1) ≠ (-1000000005) then (rx_Go L d mX7_hasNoNumber 2 [some (.inr A0), some (.inl (rx_w (x1 + 1)))] [] σ (rx_PI K)) else (K 1 σ)))) :
    rx_Go L d mX7_hasNoNumber 2 [some (.inr A0), some (.inl x1)] [] σ (rx_PI K) := by
  refine g_il iX7_hasNoNumber_2 rfl ?_
  refine g_al iX7_hasNoNumber_3 rfl ?_
  refine g_gf (kI := 1) rfl iX7_hasNoNumber_4 (fi_7_1 hA0) ?_
  by_cases c1 : (σ A0 1) ≤ x1
  · rw [if_pos c1] at H
    refine g_ic3t iX7_hasNoNumber_7 c1 ?_
    refine g_c iX7_hasNoNumber_29 ?_
    exact g_ri iX7_hasNoNumber_30 (by decide) H
  · rw [if_neg c1] at H
    refine g_ic3f iX7_hasNoNumber_7 c1 ?_
    refine g_al iX7_hasNoNumber_10 rfl ?_
    refine g_gr iX7_hasNoNumber_11 (fr_7_2 hA0) ?_
    refine g_il iX7_hasNoNumber_14 rfl ?_
    obtain ⟨o2, H⟩ := H
    refine g_ld iX7_hasNoNumber_15 (ln_7_o1 L hA0).1 o2 ?_
    refine g_c iX7_hasNoNumber_16 ?_
    by_cases c3 : (σ (A0 + 1) x1) ≠ (-1000000005)
    · rw [if_pos c3] at H
      refine g_ic1t iX7_hasNoNumber_18 c3 ?_
      refine g_ii iX7_hasNoNumber_23 rfl ?_
      refine rx_Go.ls (la := [some (.inr A0), some (.inl (rx_w (x1 + 1)))]) rfl ?_
      refine g_goto iX7_hasNoNumber_26 ?_
      exact H
    · rw [if_neg c3] at H
      refine g_ic1f iX7_hasNoNumber_18 c3 ?_
      refine g_c iX7_hasNoNumber_21 ?_
      exact g_ri iX7_hasNoNumber_22 (by decide) H
set_option maxRecDepth 20000 in
set_option maxHeartbeats 4000000 in
theorem bX7_isOrderOf (L d : Nat) (A0 : Nat) (hA0 : rx_isO 7 A0 = true) (x1 : Int) (σ : rx_St) (K : Int → rx_St → Prop)
    (H : rx_Go L d mX7_isOrderOf 4 [some (.inr A0), some (.inl x1), some (.inl 0), some (.inl 0), none] [] σ (rx_PI K)) :
    rx_CI L d mX7_isOrderOf [.inr A0, .inl x1] σ K := by
  refine rx_CI.of (la := [some (.inr A0), some (.inl x1), none, none, none]) rfl ?_
  refine g_c iX7_isOrderOf_0 ?_
  refine g_is iX7_isOrderOf_1 (Nat.le_of_ble_eq_true rfl) ?_
  refine rx_Go.ls (la := [some (.inr A0), some (.inl x1), some (.inl 0), none, none]) rfl ?_
  refine g_c iX7_isOrderOf_2 ?_
  refine g_is iX7_isOrderOf_3 (Nat.le_of_ble_eq_true rfl) ?_
  refine rx_Go.ls (la := [some (.inr A0), some (.inl x1), some (.inl 0), some (.inl 0), none]) rfl ?_
  exact H
set_option maxRecDepth 20000 in
set_option maxHeartbeats 4000000 in
theorem bX7_isOrderOf_4 (L d : Nat) (A0 : Nat) (hA0 : rx_isO 7 A0 = true) (x1 : Int) (x2 : Int) (x3 : Int) (q4 : Option rx_V) (σ : rx_St) (K : Int → rx_St → Prop)
    (H : if (σ A0 1) ≤ x3 then (if (σ A0 1) ≠ x1 then (K 0 σ) else (K 1 σ)) else ((0 ≤ x3 ∧ x3 < 24) ∧ (if (σ (A0 + 1) x3) < 0 then (K 0 σ) else (if x1 ≤ (σ (A0 + 1) x3) then (K 0 σ) else (if (rx_alu 3 (rx_alu 7 x2 (σ (A0 + 1) x3)) 1) ≠ 1 then (rx_Go L d mX7_isOrderOf 4 [some (.inr A0), some (.inl x1), some (.inl (rx_alu 4 x2 (rx_alu 6 1 (σ (A0 + 1) x3)))), some (.inl (rx_w (x3 + 1))), some (.inl (σ (A0 + 1) x3))] [] σ (rx_PI K)) else (K 0 σ)))))) :
    rx_Go L d mX7_isOrderOf 4 [some (.inr A0), some (.inl x1), some (.inl x2), some (.inl x3), q4] [] σ (rx_PI K) := by
  refine g_il iX7_isOrderOf_4 rfl ?_
  refine g_al iX7_isOrderOf_5 rfl ?_
  refine g_gf (kI := 1) rfl iX7_isOrderOf_6 (fi_7_1 hA0) ?_
  by_cases c1 : (σ A0 1) ≤ x3
  · rw [if_pos c1] at H
    refine g_ic3t iX7_isOrderOf_9 c1 ?_
    refine g_al iX7_isOrderOf_56 rfl ?_
    refine g_gf (kI := 1) rfl iX7_isOrderOf_57 (fi_7_1 hA0) ?_
    refine g_il iX7_isOrderOf_60 rfl ?_
    by_cases c2 : (σ A0 1) ≠ x1
    · rw [if_pos c2] at H
      refine g_ic1t iX7_isOrderOf_61 c2 ?_
      refine g_c iX7_isOrderOf_68 ?_
      exact g_ri iX7_isOrderOf_69 (by decide) H
    · rw [if_neg c2] at H
      refine g_ic1f iX7_isOrderOf_61 c2 ?_
      refine g_c iX7_isOrderOf_64 ?_
      refine g_goto iX7_isOrderOf_65 ?_
      exact g_ri iX7_isOrderOf_69 (by decide) H
  · rw [if_neg c1] at H
    refine g_ic3f iX7_isOrderOf_9 c1 ?_
    refine g_al iX7_isOrderOf_12 rfl ?_
    refine g_gr iX7_isOrderOf_13 (fr_7_2 hA0) ?_
    refine g_il iX7_isOrderOf_16 rfl ?_
    obtain ⟨o3, H⟩ := H
    refine g_ld iX7_isOrderOf_17 (ln_7_o1 L hA0).1 o3 ?_
    refine g_is iX7_isOrderOf_18 (Nat.le_of_ble_eq_true rfl) ?_
    refine rx_Go.ls (la := [some (.inr A0), some (.inl x1), some (.inl x2), some (.inl x3), some (.inl (σ (A0 + 1) x3))]) rfl ?_
    refine g_il iX7_isOrderOf_20 rfl ?_
    by_cases c4 : (σ (A0 + 1) x3) < 0
    · rw [if_pos c4] at H
      refine g_if2t iX7_isOrderOf_22 c4 ?_
      refine g_c iX7_isOrderOf_41 ?_
      exact g_ri iX7_isOrderOf_42 (by decide) H
    · rw [if_neg c4] at H
      refine g_if2f iX7_isOrderOf_22 c4 ?_
      refine g_il iX7_isOrderOf_25 rfl ?_
      refine g_il iX7_isOrderOf_27 rfl ?_
      by_cases c5 : x1 ≤ (σ (A0 + 1) x3)
      · rw [if_pos c5] at H
        refine g_ic3t iX7_isOrderOf_28 c5 ?_
        refine g_c iX7_isOrderOf_41 ?_
        exact g_ri iX7_isOrderOf_42 (by decide) H
      · rw [if_neg c5] at H
        refine g_ic3f iX7_isOrderOf_28 c5 ?_
        refine g_il iX7_isOrderOf_31 rfl ?_
        refine g_il iX7_isOrderOf_32 rfl ?_
        refine g_bit iX7_isOrderOf_34 ?_
        refine g_c iX7_isOrderOf_35 ?_
        refine g_bit iX7_isOrderOf_36 ?_
        refine g_c iX7_isOrderOf_37 ?_
        by_cases c6 : (rx_alu 3 (rx_alu 7 x2 (σ (A0 + 1) x3)) 1) ≠ 1
        · rw [if_pos c6] at H
          refine g_ic1t iX7_isOrderOf_38 c6 ?_
          refine g_il iX7_isOrderOf_43 rfl ?_
          refine g_c iX7_isOrderOf_44 ?_
          refine g_il iX7_isOrderOf_45 rfl ?_
          refine g_bit iX7_isOrderOf_47 ?_
          refine g_bit iX7_isOrderOf_48 ?_
          refine g_is iX7_isOrderOf_49 (Nat.le_of_ble_eq_true rfl) ?_
          refine rx_Go.ls (la := [some (.inr A0), some (.inl x1), some (.inl (rx_alu 4 x2 (rx_alu 6 1 (σ (A0 + 1) x3)))), some (.inl x3), some (.inl (σ (A0 + 1) x3))]) rfl ?_
          refine g_ii iX7_isOrderOf_50 rfl ?_
          refine rx_Go.ls (la := [some (.inr A0), some (.inl x1), some (.inl (rx_alu 4 x2 (rx_alu 6 1 (σ (A0 + 1) x3)))), some (.inl (rx_w (x3 + 1))), some (.inl (σ (A0 + 1) x3))]) rfl ?_
          refine g_goto iX7_isOrderOf_53 ?_
          exact H
        · rw [if_neg c6] at H
          refine g_ic1f iX7_isOrderOf_38 c6 ?_
          refine g_c iX7_isOrderOf_41 ?_
          exact g_ri iX7_isOrderOf_42 (by decide) H
set_option maxRecDepth 20000 in
set_option maxHeartbeats 4000000 in
theorem bX8_refusalAs (L d : Nat) (A0 : Nat) (hA0 : rx_isO 8 A0 = true) (x1 : Int) (σ : rx_St) (K : Int → rx_St → Prop)
    (H : if (σ A0 0) ≠ 0 then (if (σ A0 0) ≠ x1 then (K (-1000000012) σ) else (K 0 σ)) else (K (-1000000011) σ)) :
    rx_CI L d mX8_refusalAs [.inr A0, .inl x1] σ K := by
  refine rx_CI.of (la := [some (.inr A0), some (.inl x1)]) rfl ?_
  refine g_al iX8_refusalAs_0 rfl ?_
  refine g_gf (kI := 0) rfl iX8_refusalAs_1 (fi_8_0 hA0) ?_
  by_cases c1 : (σ A0 0) ≠ 0
  · rw [if_pos c1] at H
    refine g_if1t iX8_refusalAs_4 c1 ?_
    refine g_al iX8_refusalAs_10 rfl ?_
    refine g_gf (kI := 0) rfl iX8_refusalAs_11 (fi_8_0 hA0) ?_
    refine g_il iX8_refusalAs_14 rfl ?_
    by_cases c2 : (σ A0 0) ≠ x1
    · rw [if_pos c2] at H
      refine g_ic1t iX8_refusalAs_15 c2 ?_
      refine g_c iX8_refusalAs_22 ?_
      exact g_ri iX8_refusalAs_24 (Or.inl rfl) H
    · rw [if_neg c2] at H
      refine g_ic1f iX8_refusalAs_15 c2 ?_
      refine g_c iX8_refusalAs_18 ?_
      refine g_goto iX8_refusalAs_19 ?_
      exact g_ri iX8_refusalAs_24 (Or.inl rfl) H
  · rw [if_neg c1] at H
    refine g_if1f iX8_refusalAs_4 c1 ?_
    refine g_c iX8_refusalAs_7 ?_
    exact g_ri iX8_refusalAs_9 (Or.inl rfl) H
set_option maxRecDepth 20000 in
set_option maxHeartbeats 4000000 in
theorem bX9_search (L d : Nat) (A1 : Nat) (hA1 : rx_isO 1 A1 = true) (σ : rx_St) (K : Int → rx_St → Prop)
    (H : rx_CI L d mX2_lastOf [.inr 38, .inl (σ A1 12), .inl 2] σ (fun v2 σ1 => rx_CI L d mX0_sum [.inr 37, .inr A1, .inl 0, .inl 2147483647] σ1 (fun v4 σ3 => rx_Go L (d + 1) mX9_search 31 [some (.inr 78), some (.inr A1), some (.inr 37), some (.inl v2), some (.inl 0), some (.inl 0), none, none] [] (rx_up σ3 78 2 v4) (rx_PI K)))) :
    rx_CI L (d + 1) mX9_search [.inr 78, .inr A1, .inr 37] σ K := by
  refine rx_CI.of (la := [some (.inr 78), some (.inr A1), some (.inr 37), none, none, none, none, none]) rfl ?_
  refine g_al iX9_search_0 rfl ?_
  refine g_gr iX9_search_1 fr_0_0_37 ?_
  refine g_al iX9_search_4 rfl ?_
  refine g_gf (kI := 12) rfl iX9_search_5 (fi_1_12 hA1) ?_
  refine g_c iX9_search_8 ?_
  refine g_ci (as := [.inr 38, .inl (σ A1 12), .inl 2]) (rest := []) iX9_search_9 rfl rfl (Nat.le_of_ble_eq_true rfl) (Or.inr ⟨_, _, rfl, oo_2_38⟩) (rx_CI.imp H (fun v2 σ1 H => ?_))
  refine g_is iX9_search_12 (Nat.le_of_ble_eq_true rfl) ?_
  refine rx_Go.ls (la := [some (.inr 78), some (.inr A1), some (.inr 37), some (.inl v2), none, none, none, none]) rfl ?_
  refine g_c iX9_search_13 ?_
  refine g_is iX9_search_14 (Nat.le_of_ble_eq_true rfl) ?_
  refine rx_Go.ls (la := [some (.inr 78), some (.inr A1), some (.inr 37), some (.inl v2), some (.inl 0), none, none, none]) rfl ?_
  refine g_al iX9_search_16 rfl ?_
  refine g_al iX9_search_17 rfl ?_
  refine g_al iX9_search_18 rfl ?_
  refine g_c iX9_search_19 ?_
  refine g_c iX9_search_20 ?_
  refine g_ci (as := [.inr 37, .inr A1, .inl 0, .inl 2147483647]) (rest := [.inr 78]) iX9_search_22 rfl rfl (Nat.le_of_ble_eq_true rfl) (Or.inr ⟨_, _, rfl, oo_0_37⟩) (rx_CI.imp H (fun v4 σ3 H => ?_))
  refine g_pf (kI := 2) rfl iX9_search_25 fi_9_2_78 (Or.inl rfl) ?_
  refine g_c iX9_search_28 ?_
  refine g_is iX9_search_29 (Nat.le_of_ble_eq_true rfl) ?_
  refine rx_Go.ls (la := [some (.inr 78), some (.inr A1), some (.inr 37), some (.inl v2), some (.inl 0), some (.inl 0), none, none]) rfl ?_
  exact H
set_option maxRecDepth 20000 in
set_option maxHeartbeats 4000000 in
theorem bX9_search_31 (L d : Nat) (A1 : Nat) (hA1 : rx_isO 1 A1 = true) (x3 : Int) (x4 : Int) (x5 : Int) (q6 : Option rx_V) (q7 : Option rx_V) (σ : rx_St) (K : Int → rx_St → Prop)
    (H : if (σ A1 0) ≤ x5 then ((x4 = 0 ∨ x4 = 1) ∧ K x4 σ) else (rx_Go L (d + 1) mX9_search 46 [some (.inr 78), some (.inr A1), some (.inr 37), some (.inl x3), some (.inl x4), some (.inl x5), some (.inl (rx_w (x5 + 1))), q7] [] σ (rx_PI K))) :
    rx_Go L (d + 1) mX9_search 31 [some (.inr 78), some (.inr A1), some (.inr 37), some (.inl x3), some (.inl x4), some (.inl x5), q6, q7] [] σ (rx_PI K) := by
  refine g_il iX9_search_31 rfl ?_
  refine g_al iX9_search_33 rfl ?_
  refine g_gf (kI := 0) rfl iX9_search_34 (fi_1_0 hA1) ?_
  by_cases c5 : (σ A1 0) ≤ x5
  · rw [if_pos c5] at H
    refine g_ic3t iX9_search_37 c5 ?_
    refine g_il iX9_search_148 rfl ?_
    exact g_ri iX9_search_150 (Or.inr H.1) H.2
  · rw [if_neg c5] at H
    refine g_ic3f iX9_search_37 c5 ?_
    refine g_il iX9_search_40 rfl ?_
    refine g_c iX9_search_42 ?_
    refine g_add iX9_search_43 ?_
    refine g_is iX9_search_44 (Nat.le_of_ble_eq_true rfl) ?_
    refine rx_Go.ls (la := [some (.inr 78), some (.inr A1), some (.inr 37), some (.inl x3), some (.inl x4), some (.inl x5), some (.inl (rx_w (x5 + 1))), q7]) rfl ?_
    exact H
set_option maxRecDepth 20000 in
set_option maxHeartbeats 4000000 in
theorem bX9_search_46 (L d : Nat) (A1 : Nat) (hA1 : rx_isO 1 A1 = true) (x3 : Int) (x4 : Int) (x5 : Int) (x6 : Int) (q7 : Option rx_V) (σ : rx_St) (K : Int → rx_St → Prop)
    (H : if (σ A1 0) ≤ x6 then (rx_Go L (d + 1) mX9_search 31 [some (.inr 78), some (.inr A1), some (.inr 37), some (.inl x3), some (.inl x4), some (.inl (rx_w (x5 + 1))), some (.inl x6), q7] [] σ (rx_PI K)) else (if x3 < 0 then (rx_Go L (d + 1) mX9_search 78 [some (.inr 78), some (.inr A1), some (.inr 37), some (.inl x3), some (.inl x4), some (.inl x5), some (.inl x6), q7] [] σ (rx_PI K)) else (rx_CI L d mX2_answer [.inr 38, .inl x3, .inl x5, .inl x6, .inl 0] σ (fun v9 σ8 => if v9 ≠ 0 then (rx_Go L (d + 1) mX9_search 78 [some (.inr 78), some (.inr A1), some (.inr 37), some (.inl x3), some (.inl x4), some (.inl x5), some (.inl x6), q7] [] σ8 (rx_PI K)) else (rx_Go L (d + 1) mX9_search 136 [some (.inr 78), some (.inr A1), some (.inr 37), some (.inl x3), some (.inl x4), some (.inl x5), some (.inl x6), q7] [] σ8 (rx_PI K)))))) :
    rx_Go L (d + 1) mX9_search 46 [some (.inr 78), some (.inr A1), some (.inr 37), some (.inl x3), some (.inl x4), some (.inl x5), some (.inl x6), q7] [] σ (rx_PI K) := by
  refine g_il iX9_search_46 rfl ?_
  refine g_al iX9_search_48 rfl ?_
  refine g_gf (kI := 0) rfl iX9_search_49 (fi_1_0 hA1) ?_
  by_cases c6 : (σ A1 0) ≤ x6
  · rw [if_pos c6] at H
    refine g_ic3t iX9_search_52 c6 ?_
    refine g_ii iX9_search_142 rfl ?_
    refine rx_Go.ls (la := [some (.inr 78), some (.inr A1), some (.inr 37), some (.inl x3), some (.inl x4), some (.inl (rx_w (x5 + 1))), some (.inl x6), q7]) rfl ?_
    refine g_goto iX9_search_145 ?_
    exact H
  · rw [if_neg c6] at H
    refine g_ic3f iX9_search_52 c6 ?_
    refine g_il iX9_search_55 rfl ?_
    by_cases c7 : x3 < 0
    · rw [if_pos c7] at H
      refine g_if2t iX9_search_56 c7 ?_
      exact H
    · rw [if_neg c7] at H
      refine g_if2f iX9_search_56 c7 ?_
      refine g_al iX9_search_59 rfl ?_
      refine g_gr iX9_search_60 fr_0_0_37 ?_
      refine g_il iX9_search_63 rfl ?_
      refine g_il iX9_search_64 rfl ?_
      refine g_il iX9_search_66 rfl ?_
      refine g_c iX9_search_68 ?_
      refine g_ci (as := [.inr 38, .inl x3, .inl x5, .inl x6, .inl 0]) (rest := []) iX9_search_69 rfl rfl (Nat.le_of_ble_eq_true rfl) (Or.inr ⟨_, _, rfl, oo_2_38⟩) (rx_CI.imp H (fun v9 σ8 H => ?_))
      by_cases c10 : v9 ≠ 0
      · rw [if_pos c10] at H
        refine g_if1t iX9_search_72 c10 ?_
        exact H
      · rw [if_neg c10] at H
        refine g_if1f iX9_search_72 c10 ?_
        refine g_goto iX9_search_75 ?_
        exact H
set_option maxRecDepth 20000 in
set_option maxHeartbeats 4000000 in
theorem bX9_search_78 (L d : Nat) (A1 : Nat) (hA1 : rx_isO 1 A1 = true) (x3 : Int) (x4 : Int) (x5 : Int) (x6 : Int) (q7 : Option rx_V) (σ : rx_St) (K : Int → rx_St → Prop)
    (H : rx_CV L d mX1_swapPosts [.inr A1, .inl x5, .inl x6] σ (fun σ11 => rx_CI L d mX0_sum [.inr 37, .inr A1, .inl 0, .inl (σ11 78 2)] σ11 (fun v13 σ12 => rx_CV L d mX1_swapPosts [.inr A1, .inl x5, .inl x6] σ12 (fun σ14 => if (σ14 78 2) ≤ v13 then (rx_Go L (d + 1) mX9_search 136 [some (.inr 78), some (.inr A1), some (.inr 37), some (.inl x3), some (.inl x4), some (.inl x5), some (.inl x6), some (.inl v13)] [] σ14 (rx_PI K)) else (rx_Go L (d + 1) mX9_search 136 [some (.inr 78), some (.inr A1), some (.inr 37), some (.inl x3), some (.inl 1), some (.inl x5), some (.inl x6), some (.inl v13)] [] (rx_up (rx_up (rx_up σ14 78 0 x5) 78 1 x6) 78 2 v13) (rx_PI K)))))) :
    rx_Go L (d + 1) mX9_search 78 [some (.inr 78), some (.inr A1), some (.inr 37), some (.inl x3), some (.inl x4), some (.inl x5), some (.inl x6), q7] [] σ (rx_PI K) := by
  refine g_al iX9_search_78 rfl ?_
  refine g_il iX9_search_79 rfl ?_
  refine g_il iX9_search_81 rfl ?_
  refine g_cv (as := [.inr A1, .inl x5, .inl x6]) (rest := []) iX9_search_83 rfl rfl (Nat.le_of_ble_eq_true rfl) (Or.inr ⟨_, _, rfl, hA1⟩) (rx_CV.imp H (fun σ11 H => ?_))
  refine g_al iX9_search_86 rfl ?_
  refine g_al iX9_search_87 rfl ?_
  refine g_c iX9_search_88 ?_
  refine g_al iX9_search_89 rfl ?_
  refine g_gf (kI := 2) rfl iX9_search_90 fi_9_2_78 ?_
  refine g_ci (as := [.inr 37, .inr A1, .inl 0, .inl (σ11 78 2)]) (rest := []) iX9_search_93 rfl rfl (Nat.le_of_ble_eq_true rfl) (Or.inr ⟨_, _, rfl, oo_0_37⟩) (rx_CI.imp H (fun v13 σ12 H => ?_))
  refine g_is iX9_search_96 (Nat.le_of_ble_eq_true rfl) ?_
  refine rx_Go.ls (la := [some (.inr 78), some (.inr A1), some (.inr 37), some (.inl x3), some (.inl x4), some (.inl x5), some (.inl x6), some (.inl v13)]) rfl ?_
  refine g_al iX9_search_98 rfl ?_
  refine g_il iX9_search_99 rfl ?_
  refine g_il iX9_search_101 rfl ?_
  refine g_cv (as := [.inr A1, .inl x5, .inl x6]) (rest := []) iX9_search_103 rfl rfl (Nat.le_of_ble_eq_true rfl) (Or.inr ⟨_, _, rfl, hA1⟩) (rx_CV.imp H (fun σ14 H => ?_))
  refine g_il iX9_search_106 rfl ?_
  refine g_al iX9_search_108 rfl ?_
  refine g_gf (kI := 2) rfl iX9_search_109 fi_9_2_78 ?_
  by_cases c15 : (σ14 78 2) ≤ v13
  · rw [if_pos c15] at H
    refine g_ic3t iX9_search_112 c15 ?_
    exact H
  · rw [if_neg c15] at H
    refine g_ic3f iX9_search_112 c15 ?_
    refine g_c iX9_search_115 ?_
    refine g_is iX9_search_116 (Nat.le_of_ble_eq_true rfl) ?_
    refine rx_Go.ls (la := [some (.inr 78), some (.inr A1), some (.inr 37), some (.inl x3), some (.inl 1), some (.inl x5), some (.inl x6), some (.inl v13)]) rfl ?_
    refine g_al iX9_search_118 rfl ?_
    refine g_il iX9_search_119 rfl ?_
    refine g_pf (kI := 0) rfl iX9_search_121 fi_9_0_78 (Or.inl rfl) ?_
    refine g_al iX9_search_124 rfl ?_
    refine g_il iX9_search_125 rfl ?_
    refine g_pf (kI := 1) rfl iX9_search_127 fi_9_1_78 (Or.inl rfl) ?_
    refine g_al iX9_search_130 rfl ?_
    refine g_il iX9_search_131 rfl ?_
    refine g_pf (kI := 2) rfl iX9_search_133 fi_9_2_78 (Or.inl rfl) ?_
    exact H
set_option maxRecDepth 20000 in
set_option maxHeartbeats 4000000 in
theorem bX9_search_136 (L d : Nat) (A1 : Nat) (hA1 : rx_isO 1 A1 = true) (x3 : Int) (x4 : Int) (x5 : Int) (x6 : Int) (q7 : Option rx_V) (σ : rx_St) (K : Int → rx_St → Prop)
    (H : rx_Go L (d + 1) mX9_search 46 [some (.inr 78), some (.inr A1), some (.inr 37), some (.inl x3), some (.inl x4), some (.inl x5), some (.inl (rx_w (x6 + 1))), q7] [] σ (rx_PI K)) :
    rx_Go L (d + 1) mX9_search 136 [some (.inr 78), some (.inr A1), some (.inr 37), some (.inl x3), some (.inl x4), some (.inl x5), some (.inl x6), q7] [] σ (rx_PI K) := by
  refine g_ii iX9_search_136 rfl ?_
  refine rx_Go.ls (la := [some (.inr 78), some (.inr A1), some (.inr 37), some (.inl x3), some (.inl x4), some (.inl x5), some (.inl (rx_w (x6 + 1))), q7]) rfl ?_
  refine g_goto iX9_search_139 ?_
  exact H
set_option maxRecDepth 20000 in
set_option maxHeartbeats 4000000 in
theorem bX9_pair (L d : Nat)  (σ : rx_St) (K : Int → rx_St → Prop)
    (H : K (rx_w ((rx_w (10 * (σ 78 0))) + (σ 78 1))) σ) :
    rx_CI L d mX9_pair [.inr 78] σ K := by
  refine rx_CI.of (la := [some (.inr 78)]) rfl ?_
  refine g_c iX9_pair_0 ?_
  refine g_al iX9_pair_2 rfl ?_
  refine g_gf (kI := 0) rfl iX9_pair_3 fi_9_0_78 ?_
  refine g_mul iX9_pair_6 ?_
  refine g_al iX9_pair_7 rfl ?_
  refine g_gf (kI := 1) rfl iX9_pair_8 fi_9_1_78 ?_
  refine g_add iX9_pair_11 ?_
  exact g_ri iX9_pair_12 (Or.inl rfl) H
set_option maxRecDepth 20000 in
set_option maxHeartbeats 4000000 in
theorem bJ7_fill_53178 (L d : Nat) (A0 : Nat) (n0 : Int) (hA0 : rx_len L 0 A0 = n0 ∧ A0 < 159) (hA0a : rx_alen L A0 = some n0) (x1 : Int) (σ : rx_St) (K : rx_St → Prop)
    (H : rx_Go L d mJ7_fill_53178 5 [some (.inr A0), some (.inl x1), some (.inl 0), some (.inl n0)] [] σ (rx_PV K)) :
    rx_CV L d mJ7_fill_53178 [.inr A0, .inl x1] σ K := by
  refine rx_CV.of (la := [some (.inr A0), some (.inl x1), none, none]) rfl ?_
  refine g_c iJ7_fill_53178_0 ?_
  refine g_is iJ7_fill_53178_1 (Nat.le_of_ble_eq_true rfl) ?_
  refine rx_Go.ls (la := [some (.inr A0), some (.inl x1), some (.inl 0), none]) rfl ?_
  refine g_al iJ7_fill_53178_2 rfl ?_
  refine g_len (n := n0) iJ7_fill_53178_3 hA0a ?_
  refine g_is iJ7_fill_53178_4 (Nat.le_of_ble_eq_true rfl) ?_
  refine rx_Go.ls (la := [some (.inr A0), some (.inl x1), some (.inl 0), some (.inl n0)]) rfl ?_
  exact H
set_option maxRecDepth 20000 in
set_option maxHeartbeats 4000000 in
theorem bJ7_fill_53178_5 (L d : Nat) (A0 : Nat) (n0 : Int) (hA0 : rx_len L 0 A0 = n0 ∧ A0 < 159) (hA0a : rx_alen L A0 = some n0) (x1 : Int) (x2 : Int) (x3 : Int) (σ : rx_St) (K : rx_St → Prop)
    (H : if x3 ≤ x2 then (K σ) else ((0 ≤ x2 ∧ x2 < n0) ∧ (rx_Go L d mJ7_fill_53178 5 [some (.inr A0), some (.inl x1), some (.inl (rx_w (x2 + 1))), some (.inl x3)] [] (rx_up σ A0 x2 x1) (rx_PV K)))) :
    rx_Go L d mJ7_fill_53178 5 [some (.inr A0), some (.inl x1), some (.inl x2), some (.inl x3)] [] σ (rx_PV K) := by
  refine g_il iJ7_fill_53178_5 rfl ?_
  refine g_il iJ7_fill_53178_6 rfl ?_
  by_cases c1 : x3 ≤ x2
  · rw [if_pos c1] at H
    refine g_ic3t iJ7_fill_53178_7 c1 ?_
    exact g_rv iJ7_fill_53178_20 H
  · rw [if_neg c1] at H
    refine g_ic3f iJ7_fill_53178_7 c1 ?_
    refine g_al iJ7_fill_53178_10 rfl ?_
    refine g_il iJ7_fill_53178_11 rfl ?_
    refine g_il iJ7_fill_53178_12 rfl ?_
    obtain ⟨o2, H⟩ := H
    refine g_st iJ7_fill_53178_13 hA0.1 hA0.2 o2 rfl ?_
    refine g_ii iJ7_fill_53178_14 rfl ?_
    refine rx_Go.ls (la := [some (.inr A0), some (.inl x1), some (.inl (rx_w (x2 + 1))), some (.inl x3)]) rfl ?_
    refine g_goto iJ7_fill_53178_17 ?_
    exact H
