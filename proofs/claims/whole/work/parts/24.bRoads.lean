theorem tbX10_bestRow : rx_tab.getD mX10_bestRow [] = rt_X10_bestRow := rfl
theorem ndX10_bestRow : rx_inc rt_X10_bestRow = true := by decide +kernel
theorem tbX10_feed : rx_tab.getD mX10_feed [] = rt_X10_feed := rfl
theorem ndX10_feed : rx_inc rt_X10_feed = true := by decide +kernel
theorem tbX10_dearestRoad : rx_tab.getD mX10_dearestRoad [] = rt_X10_dearestRoad := rfl
theorem ndX10_dearestRoad : rx_inc rt_X10_dearestRoad = true := by decide +kernel
theorem tbX10_isSlot : rx_tab.getD mX10_isSlot [] = rt_X10_isSlot := rfl
theorem ndX10_isSlot : rx_inc rt_X10_isSlot = true := by decide +kernel
theorem tbX10_layers : rx_tab.getD mX10_layers [] = rt_X10_layers := rfl
theorem ndX10_layers : rx_inc rt_X10_layers = true := by decide +kernel
theorem tbX10_isLayer : rx_tab.getD mX10_isLayer [] = rt_X10_isLayer := rfl
theorem ndX10_isLayer : rx_inc rt_X10_isLayer = true := by decide +kernel
theorem tbX10_line : rx_tab.getD mX10_line [] = rt_X10_line := rfl
theorem ndX10_line : rx_inc rt_X10_line = true := by decide +kernel
theorem tbX10_bestLine : rx_tab.getD mX10_bestLine [] = rt_X10_bestLine := rfl
theorem ndX10_bestLine : rx_inc rt_X10_bestLine = true := by decide +kernel
theorem tbX10_pour : rx_tab.getD mX10_pour [] = rt_X10_pour := rfl
theorem ndX10_pour : rx_inc rt_X10_pour = true := by decide +kernel
theorem tbX10_set : rx_tab.getD mX10_set [] = rt_X10_set := rfl
theorem ndX10_set : rx_inc rt_X10_set = true := by decide +kernel
theorem tbX10_isUnder : rx_tab.getD mX10_isUnder [] = rt_X10_isUnder := rfl
theorem ndX10_isUnder : rx_inc rt_X10_isUnder = true := by decide +kernel
theorem tbX10_text : rx_tab.getD mX10_text [] = rt_X10_text := rfl
theorem ndX10_text : rx_inc rt_X10_text = true := by decide +kernel
theorem tbX10_isWeight : rx_tab.getD mX10_isWeight [] = rt_X10_isWeight := rfl
theorem ndX10_isWeight : rx_inc rt_X10_isWeight = true := by decide +kernel
theorem tbX10_as : rx_tab.getD mX10_as [] = rt_X10_as := rfl
theorem ndX10_as : rx_inc rt_X10_as = true := by decide +kernel
theorem tbX10_isPlace : rx_tab.getD mX10_isPlace [] = rt_X10_isPlace := rfl
theorem ndX10_isPlace : rx_inc rt_X10_isPlace = true := by decide +kernel
theorem tbX10_postTold : rx_tab.getD mX10_postTold [] = rt_X10_postTold := rfl
theorem ndX10_postTold : rx_inc rt_X10_postTold = true := by decide +kernel
theorem tbX10_rest : rx_tab.getD mX10_rest [] = rt_X10_rest := rfl
theorem ndX10_rest : rx_inc rt_X10_rest = true := by decide +kernel
theorem tbX10_trim : rx_tab.getD mX10_trim [] = rt_X10_trim := rfl
theorem ndX10_trim : rx_inc rt_X10_trim = true := by decide +kernel
theorem tbX10_move : rx_tab.getD mX10_move [] = rt_X10_move := rfl
theorem ndX10_move : rx_inc rt_X10_move = true := by decide +kernel
theorem tbX10_road : rx_tab.getD mX10_road [] = rt_X10_road := rfl
theorem ndX10_road : rx_inc rt_X10_road = true := by decide +kernel
theorem tbX10_checkSwapsTold : rx_tab.getD mX10_checkSwapsTold [] = rt_X10_checkSwapsTold := rfl
theorem ndX10_checkSwapsTold : rx_inc rt_X10_checkSwapsTold = true := by decide +kernel
theorem tbX10_worthOf : rx_tab.getD mX10_worthOf [] = rt_X10_worthOf := rfl
theorem ndX10_worthOf : rx_inc rt_X10_worthOf = true := by decide +kernel
theorem tbX10_layer : rx_tab.getD mX10_layer [] = rt_X10_layer := rfl
theorem ndX10_layer : rx_inc rt_X10_layer = true := by decide +kernel
theorem tbX10_item : rx_tab.getD mX10_item [] = rt_X10_item := rfl
theorem ndX10_item : rx_inc rt_X10_item = true := by decide +kernel
theorem tbX10_check : rx_tab.getD mX10_check [] = rt_X10_check := rfl
theorem ndX10_check : rx_inc rt_X10_check = true := by decide +kernel
theorem tbX10_isKind : rx_tab.getD mX10_isKind [] = rt_X10_isKind := rfl
theorem ndX10_isKind : rx_inc rt_X10_isKind = true := by decide +kernel
theorem tbX10_at : rx_tab.getD mX10_at [] = rt_X10_at := rfl
theorem ndX10_at : rx_inc rt_X10_at = true := by decide +kernel
theorem tbX10_straight : rx_tab.getD mX10_straight [] = rt_X10_straight := rfl
theorem ndX10_straight : rx_inc rt_X10_straight = true := by decide +kernel
theorem tbX10_within : rx_tab.getD mX10_within [] = rt_X10_within := rfl
theorem ndX10_within : rx_inc rt_X10_within = true := by decide +kernel
theorem tbX10_deal : rx_tab.getD mX10_deal [] = rt_X10_deal := rfl
theorem ndX10_deal : rx_inc rt_X10_deal = true := by decide +kernel
theorem tbX10_cross : rx_tab.getD mX10_cross [] = rt_X10_cross := rfl
theorem ndX10_cross : rx_inc rt_X10_cross = true := by decide +kernel
theorem tbX10_mark : rx_tab.getD mX10_mark [] = rt_X10_mark := rfl
theorem ndX10_mark : rx_inc rt_X10_mark = true := by decide +kernel
theorem tbX10_why : rx_tab.getD mX10_why [] = rt_X10_why := rfl
theorem ndX10_why : rx_inc rt_X10_why = true := by decide +kernel
theorem tbX10_isSheet : rx_tab.getD mX10_isSheet [] = rt_X10_isSheet := rfl
theorem ndX10_isSheet : rx_inc rt_X10_isSheet = true := by decide +kernel
theorem tbX10_book : rx_tab.getD mX10_book [] = rt_X10_book := rfl
theorem ndX10_book : rx_inc rt_X10_book = true := by decide +kernel
theorem tbX10_told : rx_tab.getD mX10_told [] = rt_X10_told := rfl
theorem ndX10_told : rx_inc rt_X10_told = true := by decide +kernel
theorem tbX10_back : rx_tab.getD mX10_back [] = rt_X10_back := rfl
theorem ndX10_back : rx_inc rt_X10_back = true := by decide +kernel
theorem tbX10_textTold : rx_tab.getD mX10_textTold [] = rt_X10_textTold := rfl
theorem ndX10_textTold : rx_inc rt_X10_textTold = true := by decide +kernel
theorem tbX10_post : rx_tab.getD mX10_post [] = rt_X10_post := rfl
theorem ndX10_post : rx_inc rt_X10_post = true := by decide +kernel
theorem tbX10_swaps : rx_tab.getD mX10_swaps [] = rt_X10_swaps := rfl
theorem ndX10_swaps : rx_inc rt_X10_swaps = true := by decide +kernel
theorem tbX10_harmAs : rx_tab.getD mX10_harmAs [] = rt_X10_harmAs := rfl
theorem ndX10_harmAs : rx_inc rt_X10_harmAs = true := by decide +kernel
theorem tbX10_tell : rx_tab.getD mX10_tell [] = rt_X10_tell := rfl
theorem ndX10_tell : rx_inc rt_X10_tell = true := by decide +kernel
theorem tbX10_seed : rx_tab.getD mX10_seed [] = rt_X10_seed := rfl
theorem ndX10_seed : rx_inc rt_X10_seed = true := by decide +kernel
theorem tbX10_crossingsTold : rx_tab.getD mX10_crossingsTold [] = rt_X10_crossingsTold := rfl
theorem ndX10_crossingsTold : rx_inc rt_X10_crossingsTold = true := by decide +kernel
theorem tbX10_sheet : rx_tab.getD mX10_sheet [] = rt_X10_sheet := rfl
theorem ndX10_sheet : rx_inc rt_X10_sheet = true := by decide +kernel
theorem tbX10_ask : rx_tab.getD mX10_ask [] = rt_X10_ask := rfl
theorem ndX10_ask : rx_inc rt_X10_ask = true := by decide +kernel
theorem tbX10_would : rx_tab.getD mX10_would [] = rt_X10_would := rfl
theorem ndX10_would : rx_inc rt_X10_would = true := by decide +kernel
theorem tbX10_turns : rx_tab.getD mX10_turns [] = rt_X10_turns := rfl
theorem ndX10_turns : rx_inc rt_X10_turns = true := by decide +kernel
theorem tbX10_best : rx_tab.getD mX10_best [] = rt_X10_best := rfl
theorem ndX10_best : rx_inc rt_X10_best = true := by decide +kernel
theorem tbX10_pages : rx_tab.getD mX10_pages [] = rt_X10_pages := rfl
theorem ndX10_pages : rx_inc rt_X10_pages = true := by decide +kernel
theorem tbX10_copy : rx_tab.getD mX10_copy [] = rt_X10_copy := rfl
theorem ndX10_copy : rx_inc rt_X10_copy = true := by decide +kernel
theorem tbX10_lay : rx_tab.getD mX10_lay [] = rt_X10_lay := rfl
theorem ndX10_lay : rx_inc rt_X10_lay = true := by decide +kernel
theorem tbX10_bound : rx_tab.getD mX10_bound [] = rt_X10_bound := rfl
theorem ndX10_bound : rx_inc rt_X10_bound = true := by decide +kernel
theorem tbX10_drop : rx_tab.getD mX10_drop [] = rt_X10_drop := rfl
theorem ndX10_drop : rx_inc rt_X10_drop = true := by decide +kernel
theorem tbX10_keep : rx_tab.getD mX10_keep [] = rt_X10_keep := rfl
theorem ndX10_keep : rx_inc rt_X10_keep = true := by decide +kernel
theorem tbX10_isPage : rx_tab.getD mX10_isPage [] = rt_X10_isPage := rfl
theorem ndX10_isPage : rx_inc rt_X10_isPage = true := by decide +kernel
theorem tbX10_count : rx_tab.getD mX10_count [] = rt_X10_count := rfl
theorem ndX10_count : rx_inc rt_X10_count = true := by decide +kernel
theorem iX10_post_0 : rx_ins mX10_post 0 = some (3, 1, 0, 0, 0, []) := rx_at tbX10_post ndX10_post (j := 0) rfl
theorem iX10_post_1 : rx_ins mX10_post 1 = some (18, 4, 0, 10, 0, [(12, 75)]) := rx_at tbX10_post ndX10_post (j := 1) rfl
theorem iX10_post_4 : rx_ins mX10_post 4 = some (2, 5, 0, 1, 0, []) := rx_at tbX10_post ndX10_post (j := 2) rfl
theorem iX10_post_5 : rx_ins mX10_post 5 = some (2, 6, 0, 2, 0, []) := rx_at tbX10_post ndX10_post (j := 3) rfl
theorem iX10_post_6 : rx_ins mX10_post 6 = some (28, 9, 3, 10, 3, [(92, 147)]) := rx_at tbX10_post ndX10_post (j := 4) rfl
theorem iX10_post_9 : rx_ins mX10_post 9 = some (4, 10, 0, 3, 0, []) := rx_at tbX10_post ndX10_post (j := 5) rfl
theorem iX10_post_10 : rx_ins mX10_post 10 = some (2, 11, 0, 3, 0, []) := rx_at tbX10_post ndX10_post (j := 6) rfl
theorem iX10_post_11 : rx_ins mX10_post 11 = some (13, 14, 7, 0, 18, []) := rx_at tbX10_post ndX10_post (j := 7) rfl
theorem iX10_post_18 : rx_ins mX10_post 18 = some (3, 19, 0, 0, 0, []) := rx_at tbX10_post ndX10_post (j := 10) rfl
theorem iX10_post_19 : rx_ins mX10_post 19 = some (18, 22, 0, 10, 0, [(12, 75)]) := rx_at tbX10_post ndX10_post (j := 11) rfl
theorem iX10_post_22 : rx_ins mX10_post 22 = some (2, 23, 0, 1, 0, []) := rx_at tbX10_post ndX10_post (j := 12) rfl
theorem iX10_post_23 : rx_ins mX10_post 23 = some (2, 24, 0, 2, 0, []) := rx_at tbX10_post ndX10_post (j := 13) rfl
theorem iX10_post_24 : rx_ins mX10_post 24 = some (28, 27, 3, 11, 3, [(96, 148)]) := rx_at tbX10_post ndX10_post (j := 14) rfl
theorem iX10_post_27 : rx_ins mX10_post 27 = some (29, 28, 0, 0, 0, []) := rx_at tbX10_post ndX10_post (j := 15) rfl
theorem iX10_post_14 : rx_ins mX10_post 14 = some (2, 15, 0, 3, 0, []) := rx_at tbX10_post ndX10_post (j := 8) rfl
theorem iX10_post_15 : rx_ins mX10_post 15 = some (15, 18, 12, 0, 27, []) := rx_at tbX10_post ndX10_post (j := 9) rfl
theorem iX10_postTold_0 : rx_ins mX10_postTold 0 = some (3, 1, 0, 0, 0, []) := rx_at tbX10_postTold ndX10_postTold (j := 0) rfl
theorem iX10_postTold_1 : rx_ins mX10_postTold 1 = some (18, 4, 0, 10, 0, [(12, 75)]) := rx_at tbX10_postTold ndX10_postTold (j := 1) rfl
theorem iX10_postTold_4 : rx_ins mX10_postTold 4 = some (2, 5, 0, 1, 0, []) := rx_at tbX10_postTold ndX10_postTold (j := 2) rfl
theorem iX10_postTold_5 : rx_ins mX10_postTold 5 = some (28, 8, 3, 7, 2, [(99, 149)]) := rx_at tbX10_postTold ndX10_postTold (j := 3) rfl
theorem iX10_postTold_8 : rx_ins mX10_postTold 8 = some (13, 11, 6, 1, 14, []) := rx_at tbX10_postTold ndX10_postTold (j := 4) rfl
theorem iX10_postTold_14 : rx_ins mX10_postTold 14 = some (2, 15, 0, 2, 0, []) := rx_at tbX10_postTold ndX10_postTold (j := 7) rfl
theorem iX10_postTold_15 : rx_ins mX10_postTold 15 = some (16, 48, 0, 0, 97, [(0, 48), (1, 58), (2, 68), (3, 78), (4, 88)]) := rx_at tbX10_postTold ndX10_postTold (j := 8) rfl
theorem iX10_postTold_48 : rx_ins mX10_postTold 48 = some (3, 49, 0, 0, 0, []) := rx_at tbX10_postTold ndX10_postTold (j := 9) rfl
theorem iX10_postTold_49 : rx_ins mX10_postTold 49 = some (18, 52, 0, 10, 0, [(12, 75)]) := rx_at tbX10_postTold ndX10_postTold (j := 10) rfl
theorem iX10_postTold_52 : rx_ins mX10_postTold 52 = some (18, 55, 0, 1, 1, [(104, 76)]) := rx_at tbX10_postTold ndX10_postTold (j := 11) rfl
theorem iX10_postTold_55 : rx_ins mX10_postTold 55 = some (2, 56, 0, 1, 0, []) := rx_at tbX10_postTold ndX10_postTold (j := 12) rfl
theorem iX10_postTold_56 : rx_ins mX10_postTold 56 = some (20, 57, 0, 0, 0, []) := rx_at tbX10_postTold ndX10_postTold (j := 13) rfl
theorem iX10_postTold_57 : rx_ins mX10_postTold 57 = some (29, 58, 0, 0, 0, []) := rx_at tbX10_postTold ndX10_postTold (j := 14) rfl
theorem iX10_postTold_58 : rx_ins mX10_postTold 58 = some (3, 59, 0, 0, 0, []) := rx_at tbX10_postTold ndX10_postTold (j := 15) rfl
theorem iX10_postTold_59 : rx_ins mX10_postTold 59 = some (18, 62, 0, 10, 0, [(12, 75)]) := rx_at tbX10_postTold ndX10_postTold (j := 16) rfl
theorem iX10_postTold_62 : rx_ins mX10_postTold 62 = some (18, 65, 0, 1, 2, [(107, 77)]) := rx_at tbX10_postTold ndX10_postTold (j := 17) rfl
theorem iX10_postTold_65 : rx_ins mX10_postTold 65 = some (2, 66, 0, 1, 0, []) := rx_at tbX10_postTold ndX10_postTold (j := 18) rfl
theorem iX10_postTold_66 : rx_ins mX10_postTold 66 = some (20, 67, 0, 0, 0, []) := rx_at tbX10_postTold ndX10_postTold (j := 19) rfl
theorem iX10_postTold_67 : rx_ins mX10_postTold 67 = some (29, 68, 0, 0, 0, []) := rx_at tbX10_postTold ndX10_postTold (j := 20) rfl
theorem iX10_postTold_68 : rx_ins mX10_postTold 68 = some (3, 69, 0, 0, 0, []) := rx_at tbX10_postTold ndX10_postTold (j := 21) rfl
theorem iX10_postTold_69 : rx_ins mX10_postTold 69 = some (18, 72, 0, 10, 0, [(12, 75)]) := rx_at tbX10_postTold ndX10_postTold (j := 22) rfl
theorem iX10_postTold_72 : rx_ins mX10_postTold 72 = some (18, 75, 0, 1, 3, [(110, 78)]) := rx_at tbX10_postTold ndX10_postTold (j := 23) rfl
theorem iX10_postTold_75 : rx_ins mX10_postTold 75 = some (2, 76, 0, 1, 0, []) := rx_at tbX10_postTold ndX10_postTold (j := 24) rfl
theorem iX10_postTold_76 : rx_ins mX10_postTold 76 = some (20, 77, 0, 0, 0, []) := rx_at tbX10_postTold ndX10_postTold (j := 25) rfl
theorem iX10_postTold_77 : rx_ins mX10_postTold 77 = some (29, 78, 0, 0, 0, []) := rx_at tbX10_postTold ndX10_postTold (j := 26) rfl
theorem iX10_postTold_78 : rx_ins mX10_postTold 78 = some (3, 79, 0, 0, 0, []) := rx_at tbX10_postTold ndX10_postTold (j := 27) rfl
theorem iX10_postTold_79 : rx_ins mX10_postTold 79 = some (18, 82, 0, 10, 0, [(12, 75)]) := rx_at tbX10_postTold ndX10_postTold (j := 28) rfl
theorem iX10_postTold_82 : rx_ins mX10_postTold 82 = some (18, 85, 0, 1, 5, [(113, 79)]) := rx_at tbX10_postTold ndX10_postTold (j := 29) rfl
theorem iX10_postTold_85 : rx_ins mX10_postTold 85 = some (2, 86, 0, 1, 0, []) := rx_at tbX10_postTold ndX10_postTold (j := 30) rfl
theorem iX10_postTold_86 : rx_ins mX10_postTold 86 = some (20, 87, 0, 0, 0, []) := rx_at tbX10_postTold ndX10_postTold (j := 31) rfl
theorem iX10_postTold_87 : rx_ins mX10_postTold 87 = some (29, 88, 0, 0, 0, []) := rx_at tbX10_postTold ndX10_postTold (j := 32) rfl
theorem iX10_postTold_88 : rx_ins mX10_postTold 88 = some (3, 89, 0, 0, 0, []) := rx_at tbX10_postTold ndX10_postTold (j := 33) rfl
theorem iX10_postTold_89 : rx_ins mX10_postTold 89 = some (18, 92, 0, 10, 0, [(12, 75)]) := rx_at tbX10_postTold ndX10_postTold (j := 34) rfl
theorem iX10_postTold_92 : rx_ins mX10_postTold 92 = some (2, 93, 0, 1, 0, []) := rx_at tbX10_postTold ndX10_postTold (j := 35) rfl
theorem iX10_postTold_93 : rx_ins mX10_postTold 93 = some (28, 96, 3, 15, 2, [(116, 150)]) := rx_at tbX10_postTold ndX10_postTold (j := 36) rfl
theorem iX10_postTold_96 : rx_ins mX10_postTold 96 = some (29, 97, 0, 0, 0, []) := rx_at tbX10_postTold ndX10_postTold (j := 37) rfl
theorem iX10_postTold_97 : rx_ins mX10_postTold 97 = some (1, 99, (-1000000001), 3, 10, [(103, 0)]) := rx_at tbX10_postTold ndX10_postTold (j := 38) rfl
theorem iX10_postTold_99 : rx_ins mX10_postTold 99 = some (29, 100, 0, 0, 0, []) := rx_at tbX10_postTold ndX10_postTold (j := 39) rfl
theorem iX10_postTold_11 : rx_ins mX10_postTold 11 = some (1, 13, (-1000000001), 3, 10, [(103, 0)]) := rx_at tbX10_postTold ndX10_postTold (j := 5) rfl
theorem iX10_postTold_13 : rx_ins mX10_postTold 13 = some (29, 14, 0, 0, 0, []) := rx_at tbX10_postTold ndX10_postTold (j := 6) rfl
theorem iX10_move_0 : rx_ins mX10_move 0 = some (3, 1, 0, 0, 0, []) := rx_at tbX10_move ndX10_move (j := 0) rfl
theorem iX10_move_1 : rx_ins mX10_move 1 = some (18, 4, 0, 10, 0, [(12, 75)]) := rx_at tbX10_move ndX10_move (j := 1) rfl
theorem iX10_move_4 : rx_ins mX10_move 4 = some (2, 5, 0, 1, 0, []) := rx_at tbX10_move ndX10_move (j := 2) rfl
theorem iX10_move_5 : rx_ins mX10_move 5 = some (28, 8, 3, 7, 2, [(99, 149)]) := rx_at tbX10_move ndX10_move (j := 3) rfl
theorem iX10_move_8 : rx_ins mX10_move 8 = some (13, 11, 11, 0, 19, []) := rx_at tbX10_move ndX10_move (j := 4) rfl
theorem iX10_move_19 : rx_ins mX10_move 19 = some (1, 21, (-1000000001), 3, 10, [(103, 0)]) := rx_at tbX10_move ndX10_move (j := 9) rfl
theorem iX10_move_21 : rx_ins mX10_move 21 = some (29, 22, 0, 0, 0, []) := rx_at tbX10_move ndX10_move (j := 10) rfl
theorem iX10_move_11 : rx_ins mX10_move 11 = some (2, 12, 0, 2, 0, []) := rx_at tbX10_move ndX10_move (j := 5) rfl
theorem iX10_move_12 : rx_ins mX10_move 12 = some (2, 13, 0, 3, 0, []) := rx_at tbX10_move ndX10_move (j := 6) rfl
theorem iX10_move_13 : rx_ins mX10_move 13 = some (28, 16, 0, 122, 2, [(120, 151)]) := rx_at tbX10_move ndX10_move (j := 7) rfl
theorem iX10_move_16 : rx_ins mX10_move 16 = some (13, 19, 6, 1, 22, []) := rx_at tbX10_move ndX10_move (j := 8) rfl
theorem iX10_move_22 : rx_ins mX10_move 22 = some (3, 23, 0, 0, 0, []) := rx_at tbX10_move ndX10_move (j := 11) rfl
theorem iX10_move_23 : rx_ins mX10_move 23 = some (18, 26, 0, 10, 0, [(12, 75)]) := rx_at tbX10_move ndX10_move (j := 12) rfl
theorem iX10_move_26 : rx_ins mX10_move 26 = some (2, 27, 0, 2, 0, []) := rx_at tbX10_move ndX10_move (j := 13) rfl
theorem iX10_move_27 : rx_ins mX10_move 27 = some (2, 28, 0, 3, 0, []) := rx_at tbX10_move ndX10_move (j := 14) rfl
theorem iX10_move_28 : rx_ins mX10_move 28 = some (28, 31, 3, 9, 3, [(124, 152)]) := rx_at tbX10_move ndX10_move (j := 15) rfl
theorem iX10_move_31 : rx_ins mX10_move 31 = some (4, 33, 1, 4, 0, []) := rx_at tbX10_move ndX10_move (j := 16) rfl
theorem iX10_move_33 : rx_ins mX10_move 33 = some (2, 35, 1, 4, 0, []) := rx_at tbX10_move ndX10_move (j := 17) rfl
theorem iX10_move_35 : rx_ins mX10_move 35 = some (2, 36, 0, 1, 0, []) := rx_at tbX10_move ndX10_move (j := 18) rfl
theorem iX10_move_36 : rx_ins mX10_move 36 = some (14, 39, 5, 1, 41, []) := rx_at tbX10_move ndX10_move (j := 19) rfl
theorem iX10_move_41 : rx_ins mX10_move 41 = some (2, 43, 1, 4, 0, []) := rx_at tbX10_move ndX10_move (j := 22) rfl
theorem iX10_move_43 : rx_ins mX10_move 43 = some (13, 46, 6, 2, 49, []) := rx_at tbX10_move ndX10_move (j := 23) rfl
theorem iX10_move_49 : rx_ins mX10_move 49 = some (3, 50, 0, 0, 0, []) := rx_at tbX10_move ndX10_move (j := 26) rfl
theorem iX10_move_50 : rx_ins mX10_move 50 = some (18, 53, 0, 10, 0, [(12, 75)]) := rx_at tbX10_move ndX10_move (j := 27) rfl
theorem iX10_move_53 : rx_ins mX10_move 53 = some (18, 56, 0, 1, 1, [(104, 76)]) := rx_at tbX10_move ndX10_move (j := 28) rfl
theorem iX10_move_56 : rx_ins mX10_move 56 = some (2, 57, 0, 1, 0, []) := rx_at tbX10_move ndX10_move (j := 29) rfl
theorem iX10_move_57 : rx_ins mX10_move 57 = some (2, 58, 0, 2, 0, []) := rx_at tbX10_move ndX10_move (j := 30) rfl
theorem iX10_move_58 : rx_ins mX10_move 58 = some (21, 59, 0, 0, 0, []) := rx_at tbX10_move ndX10_move (j := 31) rfl
theorem iX10_move_59 : rx_ins mX10_move 59 = some (3, 60, 0, 0, 0, []) := rx_at tbX10_move ndX10_move (j := 32) rfl
theorem iX10_move_60 : rx_ins mX10_move 60 = some (18, 63, 0, 10, 0, [(12, 75)]) := rx_at tbX10_move ndX10_move (j := 33) rfl
theorem iX10_move_63 : rx_ins mX10_move 63 = some (18, 66, 0, 1, 2, [(107, 77)]) := rx_at tbX10_move ndX10_move (j := 34) rfl
theorem iX10_move_66 : rx_ins mX10_move 66 = some (2, 67, 0, 1, 0, []) := rx_at tbX10_move ndX10_move (j := 35) rfl
theorem iX10_move_67 : rx_ins mX10_move 67 = some (2, 68, 0, 3, 0, []) := rx_at tbX10_move ndX10_move (j := 36) rfl
theorem iX10_move_68 : rx_ins mX10_move 68 = some (21, 69, 0, 0, 0, []) := rx_at tbX10_move ndX10_move (j := 37) rfl
theorem iX10_move_69 : rx_ins mX10_move 69 = some (1, 70, 1, 0, 0, []) := rx_at tbX10_move ndX10_move (j := 38) rfl
theorem iX10_move_70 : rx_ins mX10_move 70 = some (29, 71, 0, 0, 0, []) := rx_at tbX10_move ndX10_move (j := 39) rfl
theorem iX10_move_46 : rx_ins mX10_move 46 = some (1, 48, (-1000000002), 3, 11, [(127, 0)]) := rx_at tbX10_move ndX10_move (j := 24) rfl
theorem iX10_move_48 : rx_ins mX10_move 48 = some (29, 49, 0, 0, 0, []) := rx_at tbX10_move ndX10_move (j := 25) rfl
theorem iX10_move_39 : rx_ins mX10_move 39 = some (1, 40, 0, 0, 0, []) := rx_at tbX10_move ndX10_move (j := 20) rfl
theorem iX10_move_40 : rx_ins mX10_move 40 = some (29, 41, 0, 0, 0, []) := rx_at tbX10_move ndX10_move (j := 21) rfl
theorem iX10_layer_0 : rx_ins mX10_layer 0 = some (3, 1, 0, 0, 0, []) := rx_at tbX10_layer ndX10_layer (j := 0) rfl
theorem iX10_layer_1 : rx_ins mX10_layer 1 = some (18, 4, 0, 10, 0, [(12, 75)]) := rx_at tbX10_layer ndX10_layer (j := 1) rfl
theorem iX10_layer_4 : rx_ins mX10_layer 4 = some (2, 5, 0, 1, 0, []) := rx_at tbX10_layer ndX10_layer (j := 2) rfl
theorem iX10_layer_5 : rx_ins mX10_layer 5 = some (28, 8, 3, 7, 2, [(99, 149)]) := rx_at tbX10_layer ndX10_layer (j := 3) rfl
theorem iX10_layer_8 : rx_ins mX10_layer 8 = some (13, 11, 10, 0, 18, []) := rx_at tbX10_layer ndX10_layer (j := 4) rfl
theorem iX10_layer_18 : rx_ins mX10_layer 18 = some (1, 20, (-1000000001), 3, 10, [(103, 0)]) := rx_at tbX10_layer ndX10_layer (j := 8) rfl
theorem iX10_layer_20 : rx_ins mX10_layer 20 = some (29, 21, 0, 0, 0, []) := rx_at tbX10_layer ndX10_layer (j := 9) rfl
theorem iX10_layer_11 : rx_ins mX10_layer 11 = some (2, 12, 0, 2, 0, []) := rx_at tbX10_layer ndX10_layer (j := 5) rfl
theorem iX10_layer_12 : rx_ins mX10_layer 12 = some (28, 15, 0, 123, 1, [(128, 153)]) := rx_at tbX10_layer ndX10_layer (j := 6) rfl
theorem iX10_layer_15 : rx_ins mX10_layer 15 = some (13, 18, 6, 1, 21, []) := rx_at tbX10_layer ndX10_layer (j := 7) rfl
theorem iX10_layer_21 : rx_ins mX10_layer 21 = some (3, 22, 0, 0, 0, []) := rx_at tbX10_layer ndX10_layer (j := 10) rfl
theorem iX10_layer_22 : rx_ins mX10_layer 22 = some (18, 25, 0, 10, 0, [(12, 75)]) := rx_at tbX10_layer ndX10_layer (j := 11) rfl
theorem iX10_layer_25 : rx_ins mX10_layer 25 = some (18, 28, 0, 1, 3, [(110, 78)]) := rx_at tbX10_layer ndX10_layer (j := 12) rfl
theorem iX10_layer_28 : rx_ins mX10_layer 28 = some (2, 29, 0, 1, 0, []) := rx_at tbX10_layer ndX10_layer (j := 13) rfl
theorem iX10_layer_29 : rx_ins mX10_layer 29 = some (20, 30, 0, 0, 0, []) := rx_at tbX10_layer ndX10_layer (j := 14) rfl
theorem iX10_layer_30 : rx_ins mX10_layer 30 = some (4, 31, 0, 3, 0, []) := rx_at tbX10_layer ndX10_layer (j := 15) rfl
theorem iX10_layer_31 : rx_ins mX10_layer 31 = some (3, 32, 0, 0, 0, []) := rx_at tbX10_layer ndX10_layer (j := 16) rfl
theorem iX10_layer_32 : rx_ins mX10_layer 32 = some (18, 35, 0, 10, 0, [(12, 75)]) := rx_at tbX10_layer ndX10_layer (j := 17) rfl
theorem iX10_layer_35 : rx_ins mX10_layer 35 = some (18, 38, 0, 1, 3, [(110, 78)]) := rx_at tbX10_layer ndX10_layer (j := 18) rfl
theorem iX10_layer_38 : rx_ins mX10_layer 38 = some (2, 39, 0, 1, 0, []) := rx_at tbX10_layer ndX10_layer (j := 19) rfl
theorem iX10_layer_39 : rx_ins mX10_layer 39 = some (2, 40, 0, 2, 0, []) := rx_at tbX10_layer ndX10_layer (j := 20) rfl
theorem iX10_layer_40 : rx_ins mX10_layer 40 = some (21, 41, 0, 0, 0, []) := rx_at tbX10_layer ndX10_layer (j := 21) rfl
theorem iX10_layer_41 : rx_ins mX10_layer 41 = some (2, 42, 0, 3, 0, []) := rx_at tbX10_layer ndX10_layer (j := 22) rfl
theorem iX10_layer_42 : rx_ins mX10_layer 42 = some (29, 43, 0, 0, 0, []) := rx_at tbX10_layer ndX10_layer (j := 23) rfl
theorem iX10_road_0 : rx_ins mX10_road 0 = some (2, 1, 0, 2, 0, []) := rx_at tbX10_road ndX10_road (j := 0) rfl
theorem iX10_road_1 : rx_ins mX10_road 1 = some (1, 3, 10, 1, 0, []) := rx_at tbX10_road ndX10_road (j := 1) rfl
theorem iX10_road_3 : rx_ins mX10_road 3 = some (8, 4, 0, 0, 0, []) := rx_at tbX10_road ndX10_road (j := 2) rfl
theorem iX10_road_4 : rx_ins mX10_road 4 = some (4, 6, 1, 4, 0, []) := rx_at tbX10_road ndX10_road (j := 3) rfl
theorem iX10_road_6 : rx_ins mX10_road 6 = some (2, 7, 0, 2, 0, []) := rx_at tbX10_road ndX10_road (j := 4) rfl
theorem iX10_road_7 : rx_ins mX10_road 7 = some (1, 9, 10, 1, 0, []) := rx_at tbX10_road ndX10_road (j := 5) rfl
theorem iX10_road_9 : rx_ins mX10_road 9 = some (8, 10, 0, 1, 0, []) := rx_at tbX10_road ndX10_road (j := 6) rfl
theorem iX10_road_10 : rx_ins mX10_road 10 = some (4, 12, 1, 5, 0, []) := rx_at tbX10_road ndX10_road (j := 7) rfl
theorem iX10_road_12 : rx_ins mX10_road 12 = some (2, 13, 0, 1, 0, []) := rx_at tbX10_road ndX10_road (j := 8) rfl
theorem iX10_road_13 : rx_ins mX10_road 13 = some (28, 16, 0, 125, 1, [(131, 154)]) := rx_at tbX10_road ndX10_road (j := 9) rfl
theorem iX10_road_16 : rx_ins mX10_road 16 = some (13, 19, 10, 0, 26, []) := rx_at tbX10_road ndX10_road (j := 10) rfl
theorem iX10_road_26 : rx_ins mX10_road 26 = some (1, 28, (-1000000001), 3, 10, [(103, 0)]) := rx_at tbX10_road ndX10_road (j := 14) rfl
theorem iX10_road_28 : rx_ins mX10_road 28 = some (29, 29, 0, 0, 0, []) := rx_at tbX10_road ndX10_road (j := 15) rfl
theorem iX10_road_19 : rx_ins mX10_road 19 = some (2, 20, 0, 3, 0, []) := rx_at tbX10_road ndX10_road (j := 11) rfl
theorem iX10_road_20 : rx_ins mX10_road 20 = some (28, 23, 0, 126, 1, [(134, 155)]) := rx_at tbX10_road ndX10_road (j := 12) rfl
theorem iX10_road_23 : rx_ins mX10_road 23 = some (13, 26, 6, 1, 29, []) := rx_at tbX10_road ndX10_road (j := 13) rfl
theorem iX10_road_29 : rx_ins mX10_road 29 = some (3, 30, 0, 0, 0, []) := rx_at tbX10_road ndX10_road (j := 16) rfl
theorem iX10_road_30 : rx_ins mX10_road 30 = some (18, 33, 0, 10, 0, [(12, 75)]) := rx_at tbX10_road ndX10_road (j := 17) rfl
theorem iX10_road_33 : rx_ins mX10_road 33 = some (2, 35, 1, 4, 0, []) := rx_at tbX10_road ndX10_road (j := 18) rfl
theorem iX10_road_35 : rx_ins mX10_road 35 = some (2, 37, 1, 5, 0, []) := rx_at tbX10_road ndX10_road (j := 19) rfl
theorem iX10_road_37 : rx_ins mX10_road 37 = some (28, 40, 3, 17, 3, [(137, 156)]) := rx_at tbX10_road ndX10_road (j := 20) rfl
theorem iX10_road_40 : rx_ins mX10_road 40 = some (4, 42, 1, 6, 0, []) := rx_at tbX10_road ndX10_road (j := 21) rfl
theorem iX10_road_42 : rx_ins mX10_road 42 = some (2, 44, 1, 6, 0, []) := rx_at tbX10_road ndX10_road (j := 22) rfl
theorem iX10_road_44 : rx_ins mX10_road 44 = some (13, 47, 8, 0, 52, []) := rx_at tbX10_road ndX10_road (j := 23) rfl
theorem iX10_road_52 : rx_ins mX10_road 52 = some (3, 53, 0, 0, 0, []) := rx_at tbX10_road ndX10_road (j := 26) rfl
theorem iX10_road_53 : rx_ins mX10_road 53 = some (18, 56, 0, 10, 0, [(12, 75)]) := rx_at tbX10_road ndX10_road (j := 27) rfl
theorem iX10_road_56 : rx_ins mX10_road 56 = some (2, 57, 0, 1, 0, []) := rx_at tbX10_road ndX10_road (j := 28) rfl
theorem iX10_road_57 : rx_ins mX10_road 57 = some (2, 59, 1, 4, 0, []) := rx_at tbX10_road ndX10_road (j := 29) rfl
theorem iX10_road_59 : rx_ins mX10_road 59 = some (2, 61, 1, 5, 0, []) := rx_at tbX10_road ndX10_road (j := 30) rfl
theorem iX10_road_61 : rx_ins mX10_road 61 = some (2, 62, 0, 3, 0, []) := rx_at tbX10_road ndX10_road (j := 31) rfl
theorem iX10_road_62 : rx_ins mX10_road 62 = some (28, 65, 3, 18, 5, [(140, 157)]) := rx_at tbX10_road ndX10_road (j := 32) rfl
theorem iX10_road_65 : rx_ins mX10_road 65 = some (29, 66, 0, 0, 0, []) := rx_at tbX10_road ndX10_road (j := 33) rfl
theorem iX10_road_47 : rx_ins mX10_road 47 = some (2, 49, 1, 6, 0, []) := rx_at tbX10_road ndX10_road (j := 24) rfl
theorem iX10_road_49 : rx_ins mX10_road 49 = some (15, 52, 16, 0, 65, []) := rx_at tbX10_road ndX10_road (j := 25) rfl
theorem iX10_told_0 : rx_ins mX10_told 0 = some (3, 1, 0, 0, 0, []) := rx_at tbX10_told ndX10_told (j := 0) rfl
theorem iX10_told_1 : rx_ins mX10_told 1 = some (18, 4, 0, 10, 0, [(12, 75)]) := rx_at tbX10_told ndX10_told (j := 1) rfl
theorem iX10_told_4 : rx_ins mX10_told 4 = some (2, 5, 0, 1, 0, []) := rx_at tbX10_told ndX10_told (j := 2) rfl
theorem iX10_told_5 : rx_ins mX10_told 5 = some (28, 8, 3, 8, 2, [(144, 158)]) := rx_at tbX10_told ndX10_told (j := 3) rfl
theorem iX10_told_8 : rx_ins mX10_told 8 = some (13, 11, 6, 1, 14, []) := rx_at tbX10_told ndX10_told (j := 4) rfl
theorem iX10_told_14 : rx_ins mX10_told 14 = some (2, 15, 0, 2, 0, []) := rx_at tbX10_told ndX10_told (j := 7) rfl
theorem iX10_told_15 : rx_ins mX10_told 15 = some (16, 56, 0, 0, 141, [(0, 56), (1, 66), (2, 76), (3, 86), (4, 96), (5, 106), (6, 119)]) := rx_at tbX10_told ndX10_told (j := 8) rfl
theorem iX10_told_56 : rx_ins mX10_told 56 = some (3, 57, 0, 0, 0, []) := rx_at tbX10_told ndX10_told (j := 9) rfl
theorem iX10_told_57 : rx_ins mX10_told 57 = some (18, 60, 0, 10, 0, [(12, 75)]) := rx_at tbX10_told ndX10_told (j := 10) rfl
theorem iX10_told_60 : rx_ins mX10_told 60 = some (18, 63, 0, 1, 7, [(147, 80)]) := rx_at tbX10_told ndX10_told (j := 11) rfl
theorem iX10_told_63 : rx_ins mX10_told 63 = some (2, 64, 0, 1, 0, []) := rx_at tbX10_told ndX10_told (j := 12) rfl
theorem iX10_told_64 : rx_ins mX10_told 64 = some (20, 65, 0, 0, 0, []) := rx_at tbX10_told ndX10_told (j := 13) rfl
theorem iX10_told_65 : rx_ins mX10_told 65 = some (29, 66, 0, 0, 0, []) := rx_at tbX10_told ndX10_told (j := 14) rfl
theorem iX10_told_66 : rx_ins mX10_told 66 = some (3, 67, 0, 0, 0, []) := rx_at tbX10_told ndX10_told (j := 15) rfl
theorem iX10_told_67 : rx_ins mX10_told 67 = some (18, 70, 0, 10, 0, [(12, 75)]) := rx_at tbX10_told ndX10_told (j := 16) rfl
theorem iX10_told_70 : rx_ins mX10_told 70 = some (18, 73, 0, 1, 8, [(150, 81)]) := rx_at tbX10_told ndX10_told (j := 17) rfl
theorem iX10_told_73 : rx_ins mX10_told 73 = some (2, 74, 0, 1, 0, []) := rx_at tbX10_told ndX10_told (j := 18) rfl
theorem iX10_told_74 : rx_ins mX10_told 74 = some (20, 75, 0, 0, 0, []) := rx_at tbX10_told ndX10_told (j := 19) rfl
theorem iX10_told_75 : rx_ins mX10_told 75 = some (29, 76, 0, 0, 0, []) := rx_at tbX10_told ndX10_told (j := 20) rfl
theorem iX10_told_76 : rx_ins mX10_told 76 = some (3, 77, 0, 0, 0, []) := rx_at tbX10_told ndX10_told (j := 21) rfl
theorem iX10_told_77 : rx_ins mX10_told 77 = some (18, 80, 0, 10, 0, [(12, 75)]) := rx_at tbX10_told ndX10_told (j := 22) rfl
theorem iX10_told_80 : rx_ins mX10_told 80 = some (18, 83, 0, 1, 9, [(153, 82)]) := rx_at tbX10_told ndX10_told (j := 23) rfl
theorem iX10_told_83 : rx_ins mX10_told 83 = some (2, 84, 0, 1, 0, []) := rx_at tbX10_told ndX10_told (j := 24) rfl
theorem iX10_told_84 : rx_ins mX10_told 84 = some (20, 85, 0, 0, 0, []) := rx_at tbX10_told ndX10_told (j := 25) rfl
theorem iX10_told_85 : rx_ins mX10_told 85 = some (29, 86, 0, 0, 0, []) := rx_at tbX10_told ndX10_told (j := 26) rfl
theorem iX10_told_86 : rx_ins mX10_told 86 = some (3, 87, 0, 0, 0, []) := rx_at tbX10_told ndX10_told (j := 27) rfl
theorem iX10_told_87 : rx_ins mX10_told 87 = some (18, 90, 0, 10, 0, [(12, 75)]) := rx_at tbX10_told ndX10_told (j := 28) rfl
theorem iX10_told_90 : rx_ins mX10_told 90 = some (18, 93, 0, 1, 10, [(156, 83)]) := rx_at tbX10_told ndX10_told (j := 29) rfl
theorem iX10_told_93 : rx_ins mX10_told 93 = some (2, 94, 0, 1, 0, []) := rx_at tbX10_told ndX10_told (j := 30) rfl
theorem iX10_told_94 : rx_ins mX10_told 94 = some (20, 95, 0, 0, 0, []) := rx_at tbX10_told ndX10_told (j := 31) rfl
theorem iX10_told_95 : rx_ins mX10_told 95 = some (29, 96, 0, 0, 0, []) := rx_at tbX10_told ndX10_told (j := 32) rfl
theorem iX10_told_96 : rx_ins mX10_told 96 = some (3, 97, 0, 0, 0, []) := rx_at tbX10_told ndX10_told (j := 33) rfl
theorem iX10_told_97 : rx_ins mX10_told 97 = some (18, 100, 0, 10, 0, [(12, 75)]) := rx_at tbX10_told ndX10_told (j := 34) rfl
theorem iX10_told_100 : rx_ins mX10_told 100 = some (18, 103, 0, 1, 11, [(159, 84)]) := rx_at tbX10_told ndX10_told (j := 35) rfl
theorem iX10_told_103 : rx_ins mX10_told 103 = some (2, 104, 0, 1, 0, []) := rx_at tbX10_told ndX10_told (j := 36) rfl
theorem iX10_told_104 : rx_ins mX10_told 104 = some (20, 105, 0, 0, 0, []) := rx_at tbX10_told ndX10_told (j := 37) rfl
theorem iX10_told_105 : rx_ins mX10_told 105 = some (29, 106, 0, 0, 0, []) := rx_at tbX10_told ndX10_told (j := 38) rfl
theorem iX10_told_106 : rx_ins mX10_told 106 = some (3, 107, 0, 0, 0, []) := rx_at tbX10_told ndX10_told (j := 39) rfl
theorem iX10_told_107 : rx_ins mX10_told 107 = some (18, 110, 0, 10, 5, [(38, 85)]) := rx_at tbX10_told ndX10_told (j := 40) rfl
theorem iX10_told_110 : rx_ins mX10_told 110 = some (3, 111, 0, 0, 0, []) := rx_at tbX10_told ndX10_told (j := 41) rfl
theorem iX10_told_111 : rx_ins mX10_told 111 = some (18, 114, 0, 10, 0, [(12, 75)]) := rx_at tbX10_told ndX10_told (j := 42) rfl
theorem iX10_told_114 : rx_ins mX10_told 114 = some (2, 115, 0, 1, 0, []) := rx_at tbX10_told ndX10_told (j := 43) rfl
theorem iX10_told_115 : rx_ins mX10_told 115 = some (28, 118, 2, 1, 3, [(162, 159)]) := rx_at tbX10_told ndX10_told (j := 44) rfl
theorem iX10_told_118 : rx_ins mX10_told 118 = some (29, 119, 0, 0, 0, []) := rx_at tbX10_told ndX10_told (j := 45) rfl
theorem iX10_told_119 : rx_ins mX10_told 119 = some (3, 120, 0, 0, 0, []) := rx_at tbX10_told ndX10_told (j := 46) rfl
theorem iX10_told_120 : rx_ins mX10_told 120 = some (18, 123, 0, 10, 0, [(12, 75)]) := rx_at tbX10_told ndX10_told (j := 47) rfl
theorem iX10_told_123 : rx_ins mX10_told 123 = some (18, 126, 0, 1, 7, [(147, 80)]) := rx_at tbX10_told ndX10_told (j := 48) rfl
theorem iX10_told_126 : rx_ins mX10_told 126 = some (2, 127, 0, 1, 0, []) := rx_at tbX10_told ndX10_told (j := 49) rfl
theorem iX10_told_127 : rx_ins mX10_told 127 = some (20, 128, 0, 0, 0, []) := rx_at tbX10_told ndX10_told (j := 50) rfl
theorem iX10_told_128 : rx_ins mX10_told 128 = some (3, 129, 0, 0, 0, []) := rx_at tbX10_told ndX10_told (j := 51) rfl
theorem iX10_told_129 : rx_ins mX10_told 129 = some (18, 132, 0, 10, 0, [(12, 75)]) := rx_at tbX10_told ndX10_told (j := 52) rfl
theorem iX10_told_132 : rx_ins mX10_told 132 = some (18, 135, 0, 1, 10, [(156, 83)]) := rx_at tbX10_told ndX10_told (j := 53) rfl
theorem iX10_told_135 : rx_ins mX10_told 135 = some (2, 136, 0, 1, 0, []) := rx_at tbX10_told ndX10_told (j := 54) rfl
theorem iX10_told_136 : rx_ins mX10_told 136 = some (20, 137, 0, 0, 0, []) := rx_at tbX10_told ndX10_told (j := 55) rfl
theorem iX10_told_137 : rx_ins mX10_told 137 = some (28, 140, 0, 132, 2, [(166, 160)]) := rx_at tbX10_told ndX10_told (j := 56) rfl
theorem iX10_told_140 : rx_ins mX10_told 140 = some (29, 141, 0, 0, 0, []) := rx_at tbX10_told ndX10_told (j := 57) rfl
theorem iX10_told_141 : rx_ins mX10_told 141 = some (1, 143, (-1000000001), 3, 10, [(103, 0)]) := rx_at tbX10_told ndX10_told (j := 58) rfl
theorem iX10_told_143 : rx_ins mX10_told 143 = some (29, 144, 0, 0, 0, []) := rx_at tbX10_told ndX10_told (j := 59) rfl
theorem iX10_told_11 : rx_ins mX10_told 11 = some (1, 13, (-1000000001), 3, 10, [(103, 0)]) := rx_at tbX10_told ndX10_told (j := 5) rfl
theorem iX10_told_13 : rx_ins mX10_told 13 = some (29, 14, 0, 0, 0, []) := rx_at tbX10_told ndX10_told (j := 6) rfl
theorem iX10_as_0 : rx_ins mX10_as 0 = some (3, 1, 0, 0, 0, []) := rx_at tbX10_as ndX10_as (j := 0) rfl
theorem iX10_as_1 : rx_ins mX10_as 1 = some (18, 4, 0, 10, 0, [(12, 75)]) := rx_at tbX10_as ndX10_as (j := 1) rfl
theorem iX10_as_4 : rx_ins mX10_as 4 = some (2, 5, 0, 1, 0, []) := rx_at tbX10_as ndX10_as (j := 2) rfl
theorem iX10_as_5 : rx_ins mX10_as 5 = some (28, 8, 3, 8, 2, [(144, 158)]) := rx_at tbX10_as ndX10_as (j := 3) rfl
theorem iX10_as_8 : rx_ins mX10_as 8 = some (13, 11, 10, 0, 18, []) := rx_at tbX10_as ndX10_as (j := 4) rfl
theorem iX10_as_18 : rx_ins mX10_as 18 = some (1, 20, (-1000000001), 3, 10, [(103, 0)]) := rx_at tbX10_as ndX10_as (j := 8) rfl
theorem iX10_as_20 : rx_ins mX10_as 20 = some (29, 21, 0, 0, 0, []) := rx_at tbX10_as ndX10_as (j := 9) rfl
theorem iX10_as_11 : rx_ins mX10_as 11 = some (2, 12, 0, 2, 0, []) := rx_at tbX10_as ndX10_as (j := 5) rfl
theorem iX10_as_12 : rx_ins mX10_as 12 = some (28, 15, 0, 125, 1, [(131, 154)]) := rx_at tbX10_as ndX10_as (j := 6) rfl
theorem iX10_as_15 : rx_ins mX10_as 15 = some (13, 18, 6, 1, 21, []) := rx_at tbX10_as ndX10_as (j := 7) rfl
theorem iX10_as_21 : rx_ins mX10_as 21 = some (3, 22, 0, 0, 0, []) := rx_at tbX10_as ndX10_as (j := 10) rfl
theorem iX10_as_22 : rx_ins mX10_as 22 = some (18, 25, 0, 10, 0, [(12, 75)]) := rx_at tbX10_as ndX10_as (j := 11) rfl
theorem iX10_as_25 : rx_ins mX10_as 25 = some (18, 28, 0, 1, 7, [(147, 80)]) := rx_at tbX10_as ndX10_as (j := 12) rfl
theorem iX10_as_28 : rx_ins mX10_as 28 = some (2, 29, 0, 1, 0, []) := rx_at tbX10_as ndX10_as (j := 13) rfl
theorem iX10_as_29 : rx_ins mX10_as 29 = some (20, 30, 0, 0, 0, []) := rx_at tbX10_as ndX10_as (j := 14) rfl
theorem iX10_as_30 : rx_ins mX10_as 30 = some (2, 31, 0, 2, 0, []) := rx_at tbX10_as ndX10_as (j := 15) rfl
theorem iX10_as_31 : rx_ins mX10_as 31 = some (28, 34, 0, 130, 2, [(169, 161)]) := rx_at tbX10_as ndX10_as (j := 16) rfl
theorem iX10_as_34 : rx_ins mX10_as 34 = some (13, 37, 15, 0, 49, []) := rx_at tbX10_as ndX10_as (j := 17) rfl
theorem iX10_as_49 : rx_ins mX10_as 49 = some (1, 51, (-1000000012), 3, 12, [(172, 0)]) := rx_at tbX10_as ndX10_as (j := 24) rfl
theorem iX10_as_51 : rx_ins mX10_as 51 = some (29, 52, 0, 0, 0, []) := rx_at tbX10_as ndX10_as (j := 25) rfl
theorem iX10_as_37 : rx_ins mX10_as 37 = some (3, 38, 0, 0, 0, []) := rx_at tbX10_as ndX10_as (j := 18) rfl
theorem iX10_as_38 : rx_ins mX10_as 38 = some (18, 41, 0, 10, 0, [(12, 75)]) := rx_at tbX10_as ndX10_as (j := 19) rfl
theorem iX10_as_41 : rx_ins mX10_as 41 = some (18, 44, 0, 1, 10, [(156, 83)]) := rx_at tbX10_as ndX10_as (j := 20) rfl
theorem iX10_as_44 : rx_ins mX10_as 44 = some (2, 45, 0, 1, 0, []) := rx_at tbX10_as ndX10_as (j := 21) rfl
theorem iX10_as_45 : rx_ins mX10_as 45 = some (20, 46, 0, 0, 0, []) := rx_at tbX10_as ndX10_as (j := 22) rfl
theorem iX10_as_46 : rx_ins mX10_as 46 = some (15, 49, 5, 0, 51, []) := rx_at tbX10_as ndX10_as (j := 23) rfl
theorem iX10_turns_0 : rx_ins mX10_turns 0 = some (3, 1, 0, 0, 0, []) := rx_at tbX10_turns ndX10_turns (j := 0) rfl
theorem iX10_turns_1 : rx_ins mX10_turns 1 = some (18, 4, 0, 10, 0, [(12, 75)]) := rx_at tbX10_turns ndX10_turns (j := 1) rfl
theorem iX10_turns_4 : rx_ins mX10_turns 4 = some (2, 5, 0, 1, 0, []) := rx_at tbX10_turns ndX10_turns (j := 2) rfl
theorem iX10_turns_5 : rx_ins mX10_turns 5 = some (28, 8, 3, 8, 2, [(144, 158)]) := rx_at tbX10_turns ndX10_turns (j := 3) rfl
theorem iX10_turns_8 : rx_ins mX10_turns 8 = some (13, 11, 10, 0, 18, []) := rx_at tbX10_turns ndX10_turns (j := 4) rfl
theorem iX10_turns_18 : rx_ins mX10_turns 18 = some (1, 20, (-1000000001), 3, 10, [(103, 0)]) := rx_at tbX10_turns ndX10_turns (j := 8) rfl
theorem iX10_turns_20 : rx_ins mX10_turns 20 = some (29, 21, 0, 0, 0, []) := rx_at tbX10_turns ndX10_turns (j := 9) rfl
theorem iX10_turns_11 : rx_ins mX10_turns 11 = some (2, 12, 0, 2, 0, []) := rx_at tbX10_turns ndX10_turns (j := 5) rfl
theorem iX10_turns_12 : rx_ins mX10_turns 12 = some (28, 15, 0, 125, 1, [(131, 154)]) := rx_at tbX10_turns ndX10_turns (j := 6) rfl
theorem iX10_turns_15 : rx_ins mX10_turns 15 = some (13, 18, 6, 1, 21, []) := rx_at tbX10_turns ndX10_turns (j := 7) rfl
theorem iX10_turns_21 : rx_ins mX10_turns 21 = some (3, 22, 0, 0, 0, []) := rx_at tbX10_turns ndX10_turns (j := 10) rfl
theorem iX10_turns_22 : rx_ins mX10_turns 22 = some (18, 25, 0, 10, 0, [(12, 75)]) := rx_at tbX10_turns ndX10_turns (j := 11) rfl
theorem iX10_turns_25 : rx_ins mX10_turns 25 = some (18, 28, 0, 1, 7, [(147, 80)]) := rx_at tbX10_turns ndX10_turns (j := 12) rfl
theorem iX10_turns_28 : rx_ins mX10_turns 28 = some (2, 29, 0, 1, 0, []) := rx_at tbX10_turns ndX10_turns (j := 13) rfl
theorem iX10_turns_29 : rx_ins mX10_turns 29 = some (20, 30, 0, 0, 0, []) := rx_at tbX10_turns ndX10_turns (j := 14) rfl
theorem iX10_turns_30 : rx_ins mX10_turns 30 = some (4, 31, 0, 3, 0, []) := rx_at tbX10_turns ndX10_turns (j := 15) rfl
theorem iX10_turns_31 : rx_ins mX10_turns 31 = some (3, 32, 0, 0, 0, []) := rx_at tbX10_turns ndX10_turns (j := 16) rfl
theorem iX10_turns_32 : rx_ins mX10_turns 32 = some (18, 35, 0, 10, 0, [(12, 75)]) := rx_at tbX10_turns ndX10_turns (j := 17) rfl
theorem iX10_turns_35 : rx_ins mX10_turns 35 = some (18, 38, 0, 1, 7, [(147, 80)]) := rx_at tbX10_turns ndX10_turns (j := 18) rfl
theorem iX10_turns_38 : rx_ins mX10_turns 38 = some (2, 39, 0, 1, 0, []) := rx_at tbX10_turns ndX10_turns (j := 19) rfl
theorem iX10_turns_39 : rx_ins mX10_turns 39 = some (2, 40, 0, 2, 0, []) := rx_at tbX10_turns ndX10_turns (j := 20) rfl
theorem iX10_turns_40 : rx_ins mX10_turns 40 = some (21, 41, 0, 0, 0, []) := rx_at tbX10_turns ndX10_turns (j := 21) rfl
theorem iX10_turns_41 : rx_ins mX10_turns 41 = some (2, 42, 0, 3, 0, []) := rx_at tbX10_turns ndX10_turns (j := 22) rfl
theorem iX10_turns_42 : rx_ins mX10_turns 42 = some (29, 43, 0, 0, 0, []) := rx_at tbX10_turns ndX10_turns (j := 23) rfl
theorem iX10_set_0 : rx_ins mX10_set 0 = some (3, 1, 0, 0, 0, []) := rx_at tbX10_set ndX10_set (j := 0) rfl
theorem iX10_set_1 : rx_ins mX10_set 1 = some (18, 4, 0, 10, 0, [(12, 75)]) := rx_at tbX10_set ndX10_set (j := 1) rfl
theorem iX10_set_4 : rx_ins mX10_set 4 = some (2, 5, 0, 1, 0, []) := rx_at tbX10_set ndX10_set (j := 2) rfl
theorem iX10_set_5 : rx_ins mX10_set 5 = some (28, 8, 3, 8, 2, [(144, 158)]) := rx_at tbX10_set ndX10_set (j := 3) rfl
theorem iX10_set_8 : rx_ins mX10_set 8 = some (13, 11, 6, 1, 14, []) := rx_at tbX10_set ndX10_set (j := 4) rfl
theorem iX10_set_14 : rx_ins mX10_set 14 = some (2, 15, 0, 2, 0, []) := rx_at tbX10_set ndX10_set (j := 7) rfl
theorem iX10_set_15 : rx_ins mX10_set 15 = some (13, 18, 34, 1, 49, []) := rx_at tbX10_set ndX10_set (j := 8) rfl
theorem iX10_set_49 : rx_ins mX10_set 49 = some (2, 50, 0, 2, 0, []) := rx_at tbX10_set ndX10_set (j := 26) rfl
theorem iX10_set_50 : rx_ins mX10_set 50 = some (1, 51, 1, 0, 0, []) := rx_at tbX10_set ndX10_set (j := 27) rfl
theorem iX10_set_51 : rx_ins mX10_set 51 = some (14, 54, 34, 1, 85, []) := rx_at tbX10_set ndX10_set (j := 28) rfl
theorem iX10_set_85 : rx_ins mX10_set 85 = some (1, 87, (-1000000001), 3, 10, [(103, 0)]) := rx_at tbX10_set ndX10_set (j := 46) rfl
theorem iX10_set_87 : rx_ins mX10_set 87 = some (29, 88, 0, 0, 0, []) := rx_at tbX10_set ndX10_set (j := 47) rfl
theorem iX10_set_54 : rx_ins mX10_set 54 = some (2, 55, 0, 3, 0, []) := rx_at tbX10_set ndX10_set (j := 29) rfl
theorem iX10_set_55 : rx_ins mX10_set 55 = some (28, 58, 0, 124, 1, [(173, 162)]) := rx_at tbX10_set ndX10_set (j := 30) rfl
theorem iX10_set_58 : rx_ins mX10_set 58 = some (13, 61, 27, 0, 85, []) := rx_at tbX10_set ndX10_set (j := 31) rfl
theorem iX10_set_61 : rx_ins mX10_set 61 = some (3, 62, 0, 0, 0, []) := rx_at tbX10_set ndX10_set (j := 32) rfl
theorem iX10_set_62 : rx_ins mX10_set 62 = some (18, 65, 0, 10, 0, [(12, 75)]) := rx_at tbX10_set ndX10_set (j := 33) rfl
theorem iX10_set_65 : rx_ins mX10_set 65 = some (18, 68, 0, 1, 11, [(159, 84)]) := rx_at tbX10_set ndX10_set (j := 34) rfl
theorem iX10_set_68 : rx_ins mX10_set 68 = some (2, 69, 0, 1, 0, []) := rx_at tbX10_set ndX10_set (j := 35) rfl
theorem iX10_set_69 : rx_ins mX10_set 69 = some (20, 70, 0, 0, 0, []) := rx_at tbX10_set ndX10_set (j := 36) rfl
theorem iX10_set_70 : rx_ins mX10_set 70 = some (4, 72, 1, 4, 0, []) := rx_at tbX10_set ndX10_set (j := 37) rfl
theorem iX10_set_72 : rx_ins mX10_set 72 = some (3, 73, 0, 0, 0, []) := rx_at tbX10_set ndX10_set (j := 38) rfl
theorem iX10_set_73 : rx_ins mX10_set 73 = some (18, 76, 0, 10, 0, [(12, 75)]) := rx_at tbX10_set ndX10_set (j := 39) rfl
theorem iX10_set_76 : rx_ins mX10_set 76 = some (18, 79, 0, 1, 11, [(159, 84)]) := rx_at tbX10_set ndX10_set (j := 40) rfl
theorem iX10_set_79 : rx_ins mX10_set 79 = some (2, 80, 0, 1, 0, []) := rx_at tbX10_set ndX10_set (j := 41) rfl
theorem iX10_set_80 : rx_ins mX10_set 80 = some (2, 81, 0, 3, 0, []) := rx_at tbX10_set ndX10_set (j := 42) rfl
theorem iX10_set_81 : rx_ins mX10_set 81 = some (21, 82, 0, 0, 0, []) := rx_at tbX10_set ndX10_set (j := 43) rfl
theorem iX10_set_82 : rx_ins mX10_set 82 = some (2, 84, 1, 4, 0, []) := rx_at tbX10_set ndX10_set (j := 44) rfl
theorem iX10_set_84 : rx_ins mX10_set 84 = some (29, 85, 0, 0, 0, []) := rx_at tbX10_set ndX10_set (j := 45) rfl
theorem iX10_set_18 : rx_ins mX10_set 18 = some (2, 19, 0, 3, 0, []) := rx_at tbX10_set ndX10_set (j := 9) rfl
theorem iX10_set_19 : rx_ins mX10_set 19 = some (28, 22, 0, 126, 1, [(134, 155)]) := rx_at tbX10_set ndX10_set (j := 10) rfl
theorem iX10_set_22 : rx_ins mX10_set 22 = some (13, 25, 27, 0, 49, []) := rx_at tbX10_set ndX10_set (j := 11) rfl
theorem iX10_set_25 : rx_ins mX10_set 25 = some (3, 26, 0, 0, 0, []) := rx_at tbX10_set ndX10_set (j := 12) rfl
theorem iX10_set_26 : rx_ins mX10_set 26 = some (18, 29, 0, 10, 0, [(12, 75)]) := rx_at tbX10_set ndX10_set (j := 13) rfl
theorem iX10_set_29 : rx_ins mX10_set 29 = some (18, 32, 0, 1, 10, [(156, 83)]) := rx_at tbX10_set ndX10_set (j := 14) rfl
theorem iX10_set_32 : rx_ins mX10_set 32 = some (2, 33, 0, 1, 0, []) := rx_at tbX10_set ndX10_set (j := 15) rfl
theorem iX10_set_33 : rx_ins mX10_set 33 = some (20, 34, 0, 0, 0, []) := rx_at tbX10_set ndX10_set (j := 16) rfl
theorem iX10_set_34 : rx_ins mX10_set 34 = some (4, 36, 1, 4, 0, []) := rx_at tbX10_set ndX10_set (j := 17) rfl
theorem iX10_set_36 : rx_ins mX10_set 36 = some (3, 37, 0, 0, 0, []) := rx_at tbX10_set ndX10_set (j := 18) rfl
theorem iX10_set_37 : rx_ins mX10_set 37 = some (18, 40, 0, 10, 0, [(12, 75)]) := rx_at tbX10_set ndX10_set (j := 19) rfl
theorem iX10_set_40 : rx_ins mX10_set 40 = some (18, 43, 0, 1, 10, [(156, 83)]) := rx_at tbX10_set ndX10_set (j := 20) rfl
theorem iX10_set_43 : rx_ins mX10_set 43 = some (2, 44, 0, 1, 0, []) := rx_at tbX10_set ndX10_set (j := 21) rfl
theorem iX10_set_44 : rx_ins mX10_set 44 = some (2, 45, 0, 3, 0, []) := rx_at tbX10_set ndX10_set (j := 22) rfl
theorem iX10_set_45 : rx_ins mX10_set 45 = some (21, 46, 0, 0, 0, []) := rx_at tbX10_set ndX10_set (j := 23) rfl
theorem iX10_set_46 : rx_ins mX10_set 46 = some (2, 48, 1, 4, 0, []) := rx_at tbX10_set ndX10_set (j := 24) rfl
theorem iX10_set_48 : rx_ins mX10_set 48 = some (29, 49, 0, 0, 0, []) := rx_at tbX10_set ndX10_set (j := 25) rfl
theorem iX10_set_11 : rx_ins mX10_set 11 = some (1, 13, (-1000000001), 3, 10, [(103, 0)]) := rx_at tbX10_set ndX10_set (j := 5) rfl
theorem iX10_set_13 : rx_ins mX10_set 13 = some (29, 14, 0, 0, 0, []) := rx_at tbX10_set ndX10_set (j := 6) rfl
theorem iX10_drop_0 : rx_ins mX10_drop 0 = some (3, 1, 0, 0, 0, []) := rx_at tbX10_drop ndX10_drop (j := 0) rfl
theorem iX10_drop_1 : rx_ins mX10_drop 1 = some (18, 4, 0, 10, 0, [(12, 75)]) := rx_at tbX10_drop ndX10_drop (j := 1) rfl
theorem iX10_drop_4 : rx_ins mX10_drop 4 = some (2, 5, 0, 1, 0, []) := rx_at tbX10_drop ndX10_drop (j := 2) rfl
theorem iX10_drop_5 : rx_ins mX10_drop 5 = some (28, 8, 3, 8, 2, [(144, 158)]) := rx_at tbX10_drop ndX10_drop (j := 3) rfl
theorem iX10_drop_8 : rx_ins mX10_drop 8 = some (13, 11, 6, 1, 14, []) := rx_at tbX10_drop ndX10_drop (j := 4) rfl
theorem iX10_drop_14 : rx_ins mX10_drop 14 = some (3, 15, 0, 0, 0, []) := rx_at tbX10_drop ndX10_drop (j := 7) rfl
theorem iX10_drop_15 : rx_ins mX10_drop 15 = some (18, 18, 0, 10, 0, [(12, 75)]) := rx_at tbX10_drop ndX10_drop (j := 8) rfl
theorem iX10_drop_18 : rx_ins mX10_drop 18 = some (2, 19, 0, 1, 0, []) := rx_at tbX10_drop ndX10_drop (j := 9) rfl
theorem iX10_drop_19 : rx_ins mX10_drop 19 = some (28, 22, 3, 19, 2, [(176, 163)]) := rx_at tbX10_drop ndX10_drop (j := 10) rfl
theorem iX10_drop_22 : rx_ins mX10_drop 22 = some (3, 23, 0, 0, 0, []) := rx_at tbX10_drop ndX10_drop (j := 11) rfl
theorem iX10_drop_23 : rx_ins mX10_drop 23 = some (18, 26, 0, 10, 0, [(12, 75)]) := rx_at tbX10_drop ndX10_drop (j := 12) rfl
theorem iX10_drop_26 : rx_ins mX10_drop 26 = some (17, 29, 0, 1, 6, [(180, 86)]) := rx_at tbX10_drop ndX10_drop (j := 13) rfl
theorem iX10_drop_29 : rx_ins mX10_drop 29 = some (29, 30, 0, 0, 0, []) := rx_at tbX10_drop ndX10_drop (j := 14) rfl
theorem iX10_drop_11 : rx_ins mX10_drop 11 = some (1, 13, (-1000000001), 3, 10, [(103, 0)]) := rx_at tbX10_drop ndX10_drop (j := 5) rfl
theorem iX10_drop_13 : rx_ins mX10_drop 13 = some (29, 14, 0, 0, 0, []) := rx_at tbX10_drop ndX10_drop (j := 6) rfl
theorem iX10_cross_0 : rx_ins mX10_cross 0 = some (3, 1, 0, 0, 0, []) := rx_at tbX10_cross ndX10_cross (j := 0) rfl
theorem iX10_cross_1 : rx_ins mX10_cross 1 = some (18, 4, 0, 10, 0, [(12, 75)]) := rx_at tbX10_cross ndX10_cross (j := 1) rfl
theorem iX10_cross_4 : rx_ins mX10_cross 4 = some (2, 5, 0, 1, 0, []) := rx_at tbX10_cross ndX10_cross (j := 2) rfl
theorem iX10_cross_5 : rx_ins mX10_cross 5 = some (28, 8, 3, 8, 2, [(144, 158)]) := rx_at tbX10_cross ndX10_cross (j := 3) rfl
theorem iX10_cross_8 : rx_ins mX10_cross 8 = some (13, 11, 19, 0, 27, []) := rx_at tbX10_cross ndX10_cross (j := 4) rfl
theorem iX10_cross_27 : rx_ins mX10_cross 27 = some (1, 29, (-1000000001), 3, 10, [(103, 0)]) := rx_at tbX10_cross ndX10_cross (j := 13) rfl
theorem iX10_cross_29 : rx_ins mX10_cross 29 = some (29, 30, 0, 0, 0, []) := rx_at tbX10_cross ndX10_cross (j := 14) rfl
theorem iX10_cross_11 : rx_ins mX10_cross 11 = some (3, 12, 0, 0, 0, []) := rx_at tbX10_cross ndX10_cross (j := 5) rfl
theorem iX10_cross_12 : rx_ins mX10_cross 12 = some (18, 15, 0, 10, 0, [(12, 75)]) := rx_at tbX10_cross ndX10_cross (j := 6) rfl
theorem iX10_cross_15 : rx_ins mX10_cross 15 = some (2, 16, 0, 2, 0, []) := rx_at tbX10_cross ndX10_cross (j := 7) rfl
theorem iX10_cross_16 : rx_ins mX10_cross 16 = some (28, 19, 3, 8, 2, [(144, 158)]) := rx_at tbX10_cross ndX10_cross (j := 8) rfl
theorem iX10_cross_19 : rx_ins mX10_cross 19 = some (13, 22, 8, 0, 27, []) := rx_at tbX10_cross ndX10_cross (j := 9) rfl
theorem iX10_cross_22 : rx_ins mX10_cross 22 = some (2, 23, 0, 1, 0, []) := rx_at tbX10_cross ndX10_cross (j := 10) rfl
theorem iX10_cross_23 : rx_ins mX10_cross 23 = some (2, 24, 0, 2, 0, []) := rx_at tbX10_cross ndX10_cross (j := 11) rfl
theorem iX10_cross_24 : rx_ins mX10_cross 24 = some (14, 27, 6, 1, 30, []) := rx_at tbX10_cross ndX10_cross (j := 12) rfl
theorem iX10_cross_30 : rx_ins mX10_cross 30 = some (3, 31, 0, 0, 0, []) := rx_at tbX10_cross ndX10_cross (j := 15) rfl
theorem iX10_cross_31 : rx_ins mX10_cross 31 = some (18, 34, 0, 10, 0, [(12, 75)]) := rx_at tbX10_cross ndX10_cross (j := 16) rfl
theorem iX10_cross_34 : rx_ins mX10_cross 34 = some (1, 35, 0, 0, 0, []) := rx_at tbX10_cross ndX10_cross (j := 17) rfl
theorem iX10_cross_35 : rx_ins mX10_cross 35 = some (2, 36, 0, 1, 0, []) := rx_at tbX10_cross ndX10_cross (j := 18) rfl
theorem iX10_cross_36 : rx_ins mX10_cross 36 = some (2, 37, 0, 2, 0, []) := rx_at tbX10_cross ndX10_cross (j := 19) rfl
theorem iX10_cross_37 : rx_ins mX10_cross 37 = some (28, 40, 3, 26, 4, [(183, 164)]) := rx_at tbX10_cross ndX10_cross (j := 20) rfl
theorem iX10_cross_40 : rx_ins mX10_cross 40 = some (13, 43, 7, 0, 47, []) := rx_at tbX10_cross ndX10_cross (j := 21) rfl
theorem iX10_cross_47 : rx_ins mX10_cross 47 = some (1, 48, 0, 0, 0, []) := rx_at tbX10_cross ndX10_cross (j := 24) rfl
theorem iX10_cross_48 : rx_ins mX10_cross 48 = some (29, 49, 0, 0, 0, []) := rx_at tbX10_cross ndX10_cross (j := 25) rfl
theorem iX10_cross_43 : rx_ins mX10_cross 43 = some (1, 44, 1, 0, 0, []) := rx_at tbX10_cross ndX10_cross (j := 22) rfl
theorem iX10_cross_44 : rx_ins mX10_cross 44 = some (15, 47, 4, 0, 48, []) := rx_at tbX10_cross ndX10_cross (j := 23) rfl
theorem iX10_straight_0 : rx_ins mX10_straight 0 = some (2, 1, 0, 1, 0, []) := rx_at tbX10_straight ndX10_straight (j := 0) rfl
theorem iX10_straight_1 : rx_ins mX10_straight 1 = some (1, 2, 2, 0, 0, []) := rx_at tbX10_straight ndX10_straight (j := 1) rfl
theorem iX10_straight_2 : rx_ins mX10_straight 2 = some (14, 5, 10, 1, 12, []) := rx_at tbX10_straight ndX10_straight (j := 2) rfl
theorem iX10_straight_12 : rx_ins mX10_straight 12 = some (3, 13, 0, 0, 0, []) := rx_at tbX10_straight ndX10_straight (j := 6) rfl
theorem iX10_straight_13 : rx_ins mX10_straight 13 = some (1, 14, 0, 0, 0, []) := rx_at tbX10_straight ndX10_straight (j := 7) rfl
theorem iX10_straight_14 : rx_ins mX10_straight 14 = some (2, 15, 0, 1, 0, []) := rx_at tbX10_straight ndX10_straight (j := 8) rfl
theorem iX10_straight_15 : rx_ins mX10_straight 15 = some (28, 18, 12, 119, 3, [(191, 166)]) := rx_at tbX10_straight ndX10_straight (j := 9) rfl
theorem iX10_straight_18 : rx_ins mX10_straight 18 = some (29, 19, 0, 0, 0, []) := rx_at tbX10_straight ndX10_straight (j := 10) rfl
theorem iX10_straight_5 : rx_ins mX10_straight 5 = some (3, 6, 0, 0, 0, []) := rx_at tbX10_straight ndX10_straight (j := 3) rfl
theorem iX10_straight_6 : rx_ins mX10_straight 6 = some (28, 9, 12, 120, 1, [(187, 165)]) := rx_at tbX10_straight ndX10_straight (j := 4) rfl
theorem iX10_straight_9 : rx_ins mX10_straight 9 = some (15, 12, 9, 0, 18, []) := rx_at tbX10_straight ndX10_straight (j := 5) rfl
theorem iX10_bound_0 : rx_ins mX10_bound 0 = some (3, 1, 0, 0, 0, []) := rx_at tbX10_bound ndX10_bound (j := 0) rfl
theorem iX10_bound_1 : rx_ins mX10_bound 1 = some (18, 4, 0, 10, 0, [(12, 75)]) := rx_at tbX10_bound ndX10_bound (j := 1) rfl
theorem iX10_bound_4 : rx_ins mX10_bound 4 = some (17, 7, 0, 1, 0, [(194, 87)]) := rx_at tbX10_bound ndX10_bound (j := 2) rfl
theorem iX10_bound_7 : rx_ins mX10_bound 7 = some (1, 8, 3, 0, 0, []) := rx_at tbX10_bound ndX10_bound (j := 3) rfl
theorem iX10_bound_8 : rx_ins mX10_bound 8 = some (14, 11, 5, 3, 13, []) := rx_at tbX10_bound ndX10_bound (j := 4) rfl
theorem iX10_bound_13 : rx_ins mX10_bound 13 = some (1, 14, 0, 0, 0, []) := rx_at tbX10_bound ndX10_bound (j := 7) rfl
theorem iX10_bound_14 : rx_ins mX10_bound 14 = some (3, 15, 0, 0, 0, []) := rx_at tbX10_bound ndX10_bound (j := 8) rfl
theorem iX10_bound_15 : rx_ins mX10_bound 15 = some (18, 18, 0, 10, 0, [(12, 75)]) := rx_at tbX10_bound ndX10_bound (j := 9) rfl
theorem iX10_bound_18 : rx_ins mX10_bound 18 = some (17, 21, 0, 1, 6, [(180, 86)]) := rx_at tbX10_bound ndX10_bound (j := 10) rfl
theorem iX10_bound_21 : rx_ins mX10_bound 21 = some (1, 22, 3, 0, 0, []) := rx_at tbX10_bound ndX10_bound (j := 11) rfl
theorem iX10_bound_22 : rx_ins mX10_bound 22 = some (3, 23, 0, 0, 0, []) := rx_at tbX10_bound ndX10_bound (j := 12) rfl
theorem iX10_bound_23 : rx_ins mX10_bound 23 = some (18, 26, 0, 10, 0, [(12, 75)]) := rx_at tbX10_bound ndX10_bound (j := 13) rfl
theorem iX10_bound_26 : rx_ins mX10_bound 26 = some (17, 29, 0, 1, 0, [(194, 87)]) := rx_at tbX10_bound ndX10_bound (j := 14) rfl
theorem iX10_bound_29 : rx_ins mX10_bound 29 = some (7, 30, 0, 2, 0, []) := rx_at tbX10_bound ndX10_bound (j := 15) rfl
theorem iX10_bound_30 : rx_ins mX10_bound 30 = some (7, 31, 0, 1, 0, []) := rx_at tbX10_bound ndX10_bound (j := 16) rfl
theorem iX10_bound_31 : rx_ins mX10_bound 31 = some (1, 33, 6, 1, 0, []) := rx_at tbX10_bound ndX10_bound (j := 17) rfl
theorem iX10_bound_33 : rx_ins mX10_bound 33 = some (7, 34, 0, 0, 0, []) := rx_at tbX10_bound ndX10_bound (j := 18) rfl
theorem iX10_bound_34 : rx_ins mX10_bound 34 = some (31, 37, 0, 0, 0, [(197, 6)]) := rx_at tbX10_bound ndX10_bound (j := 19) rfl
theorem iX10_bound_37 : rx_ins mX10_bound 37 = some (4, 38, 0, 1, 0, []) := rx_at tbX10_bound ndX10_bound (j := 20) rfl
theorem iX10_bound_38 : rx_ins mX10_bound 38 = some (3, 39, 0, 0, 0, []) := rx_at tbX10_bound ndX10_bound (j := 21) rfl
theorem iX10_bound_39 : rx_ins mX10_bound 39 = some (18, 42, 0, 10, 0, [(12, 75)]) := rx_at tbX10_bound ndX10_bound (j := 22) rfl
theorem iX10_bound_42 : rx_ins mX10_bound 42 = some (28, 45, 3, 23, 1, [(202, 167)]) := rx_at tbX10_bound ndX10_bound (j := 23) rfl
theorem iX10_bound_45 : rx_ins mX10_bound 45 = some (13, 48, 27, 0, 72, []) := rx_at tbX10_bound ndX10_bound (j := 24) rfl
theorem iX10_bound_72 : rx_ins mX10_bound 72 = some (2, 73, 0, 1, 0, []) := rx_at tbX10_bound ndX10_bound (j := 39) rfl
theorem iX10_bound_73 : rx_ins mX10_bound 73 = some (29, 74, 0, 0, 0, []) := rx_at tbX10_bound ndX10_bound (j := 40) rfl
theorem iX10_bound_48 : rx_ins mX10_bound 48 = some (2, 49, 0, 1, 0, []) := rx_at tbX10_bound ndX10_bound (j := 25) rfl
theorem iX10_bound_49 : rx_ins mX10_bound 49 = some (3, 50, 0, 0, 0, []) := rx_at tbX10_bound ndX10_bound (j := 26) rfl
theorem iX10_bound_50 : rx_ins mX10_bound 50 = some (18, 53, 0, 10, 0, [(12, 75)]) := rx_at tbX10_bound ndX10_bound (j := 27) rfl
theorem iX10_bound_53 : rx_ins mX10_bound 53 = some (17, 56, 0, 1, 6, [(180, 86)]) := rx_at tbX10_bound ndX10_bound (j := 28) rfl
theorem iX10_bound_56 : rx_ins mX10_bound 56 = some (1, 57, 2, 0, 0, []) := rx_at tbX10_bound ndX10_bound (j := 29) rfl
theorem iX10_bound_57 : rx_ins mX10_bound 57 = some (3, 58, 0, 0, 0, []) := rx_at tbX10_bound ndX10_bound (j := 30) rfl
theorem iX10_bound_58 : rx_ins mX10_bound 58 = some (18, 61, 0, 10, 0, [(12, 75)]) := rx_at tbX10_bound ndX10_bound (j := 31) rfl
theorem iX10_bound_61 : rx_ins mX10_bound 61 = some (17, 64, 0, 1, 0, [(194, 87)]) := rx_at tbX10_bound ndX10_bound (j := 32) rfl
theorem iX10_bound_64 : rx_ins mX10_bound 64 = some (7, 65, 0, 2, 0, []) := rx_at tbX10_bound ndX10_bound (j := 33) rfl
theorem iX10_bound_65 : rx_ins mX10_bound 65 = some (7, 66, 0, 1, 0, []) := rx_at tbX10_bound ndX10_bound (j := 34) rfl
theorem iX10_bound_66 : rx_ins mX10_bound 66 = some (1, 67, 4, 0, 0, []) := rx_at tbX10_bound ndX10_bound (j := 35) rfl
theorem iX10_bound_67 : rx_ins mX10_bound 67 = some (7, 68, 0, 0, 0, []) := rx_at tbX10_bound ndX10_bound (j := 36) rfl
theorem iX10_bound_68 : rx_ins mX10_bound 68 = some (31, 71, 0, 0, 0, [(197, 6)]) := rx_at tbX10_bound ndX10_bound (j := 37) rfl
theorem iX10_bound_71 : rx_ins mX10_bound 71 = some (4, 72, 0, 1, 0, []) := rx_at tbX10_bound ndX10_bound (j := 38) rfl
theorem iX10_bound_11 : rx_ins mX10_bound 11 = some (1, 12, 0, 0, 0, []) := rx_at tbX10_bound ndX10_bound (j := 5) rfl
theorem iX10_bound_12 : rx_ins mX10_bound 12 = some (29, 13, 0, 0, 0, []) := rx_at tbX10_bound ndX10_bound (j := 6) rfl
theorem iX10_would_0 : rx_ins mX10_would 0 = some (3, 1, 0, 0, 0, []) := rx_at tbX10_would ndX10_would (j := 0) rfl
theorem iX10_would_1 : rx_ins mX10_would 1 = some (18, 4, 0, 10, 0, [(12, 75)]) := rx_at tbX10_would ndX10_would (j := 1) rfl
theorem iX10_would_4 : rx_ins mX10_would 4 = some (2, 5, 0, 1, 0, []) := rx_at tbX10_would ndX10_would (j := 2) rfl
theorem iX10_would_5 : rx_ins mX10_would 5 = some (28, 8, 3, 7, 2, [(99, 149)]) := rx_at tbX10_would ndX10_would (j := 3) rfl
theorem iX10_would_8 : rx_ins mX10_would 8 = some (13, 11, 19, 0, 27, []) := rx_at tbX10_would ndX10_would (j := 4) rfl
theorem iX10_would_27 : rx_ins mX10_would 27 = some (1, 29, (-1000000001), 3, 10, [(103, 0)]) := rx_at tbX10_would ndX10_would (j := 13) rfl
theorem iX10_would_29 : rx_ins mX10_would 29 = some (29, 30, 0, 0, 0, []) := rx_at tbX10_would ndX10_would (j := 14) rfl
theorem iX10_would_11 : rx_ins mX10_would 11 = some (3, 12, 0, 0, 0, []) := rx_at tbX10_would ndX10_would (j := 5) rfl
theorem iX10_would_12 : rx_ins mX10_would 12 = some (18, 15, 0, 10, 0, [(12, 75)]) := rx_at tbX10_would ndX10_would (j := 6) rfl
theorem iX10_would_15 : rx_ins mX10_would 15 = some (2, 16, 0, 2, 0, []) := rx_at tbX10_would ndX10_would (j := 7) rfl
theorem iX10_would_16 : rx_ins mX10_would 16 = some (28, 19, 3, 7, 2, [(99, 149)]) := rx_at tbX10_would ndX10_would (j := 8) rfl
theorem iX10_would_19 : rx_ins mX10_would 19 = some (13, 22, 8, 0, 27, []) := rx_at tbX10_would ndX10_would (j := 9) rfl
theorem iX10_would_22 : rx_ins mX10_would 22 = some (2, 23, 0, 1, 0, []) := rx_at tbX10_would ndX10_would (j := 10) rfl
theorem iX10_would_23 : rx_ins mX10_would 23 = some (2, 24, 0, 2, 0, []) := rx_at tbX10_would ndX10_would (j := 11) rfl
theorem iX10_would_24 : rx_ins mX10_would 24 = some (14, 27, 6, 1, 30, []) := rx_at tbX10_would ndX10_would (j := 12) rfl
theorem iX10_would_30 : rx_ins mX10_would 30 = some (3, 31, 0, 0, 0, []) := rx_at tbX10_would ndX10_would (j := 15) rfl
theorem iX10_would_31 : rx_ins mX10_would 31 = some (18, 34, 0, 10, 5, [(38, 85)]) := rx_at tbX10_would ndX10_would (j := 16) rfl
theorem iX10_would_34 : rx_ins mX10_would 34 = some (3, 35, 0, 0, 0, []) := rx_at tbX10_would ndX10_would (j := 17) rfl
theorem iX10_would_35 : rx_ins mX10_would 35 = some (18, 38, 0, 10, 0, [(12, 75)]) := rx_at tbX10_would ndX10_would (j := 18) rfl
theorem iX10_would_38 : rx_ins mX10_would 38 = some (28, 41, 2, 2, 2, [(206, 168)]) := rx_at tbX10_would ndX10_would (j := 19) rfl
theorem iX10_would_41 : rx_ins mX10_would 41 = some (3, 42, 0, 0, 0, []) := rx_at tbX10_would ndX10_would (j := 20) rfl
theorem iX10_would_42 : rx_ins mX10_would 42 = some (18, 45, 0, 10, 2, [(21, 88)]) := rx_at tbX10_would ndX10_would (j := 21) rfl
theorem iX10_would_45 : rx_ins mX10_would 45 = some (3, 46, 0, 0, 0, []) := rx_at tbX10_would ndX10_would (j := 22) rfl
theorem iX10_would_46 : rx_ins mX10_would 46 = some (18, 49, 0, 10, 0, [(12, 75)]) := rx_at tbX10_would ndX10_would (j := 23) rfl
theorem iX10_would_49 : rx_ins mX10_would 49 = some (28, 52, 3, 5, 2, [(210, 169)]) := rx_at tbX10_would ndX10_would (j := 24) rfl
theorem iX10_would_52 : rx_ins mX10_would 52 = some (3, 53, 0, 0, 0, []) := rx_at tbX10_would ndX10_would (j := 25) rfl
theorem iX10_would_53 : rx_ins mX10_would 53 = some (18, 56, 0, 10, 2, [(21, 88)]) := rx_at tbX10_would ndX10_would (j := 26) rfl
theorem iX10_would_56 : rx_ins mX10_would 56 = some (2, 57, 0, 1, 0, []) := rx_at tbX10_would ndX10_would (j := 27) rfl
theorem iX10_would_57 : rx_ins mX10_would 57 = some (2, 58, 0, 2, 0, []) := rx_at tbX10_would ndX10_would (j := 28) rfl
theorem iX10_would_58 : rx_ins mX10_would 58 = some (28, 61, 3, 13, 3, [(213, 170)]) := rx_at tbX10_would ndX10_would (j := 29) rfl
theorem iX10_would_61 : rx_ins mX10_would 61 = some (3, 62, 0, 0, 0, []) := rx_at tbX10_would ndX10_would (j := 30) rfl
theorem iX10_would_62 : rx_ins mX10_would 62 = some (18, 65, 0, 10, 5, [(38, 85)]) := rx_at tbX10_would ndX10_would (j := 31) rfl
theorem iX10_would_65 : rx_ins mX10_would 65 = some (3, 66, 0, 0, 0, []) := rx_at tbX10_would ndX10_would (j := 32) rfl
theorem iX10_would_66 : rx_ins mX10_would 66 = some (18, 69, 0, 10, 2, [(21, 88)]) := rx_at tbX10_would ndX10_would (j := 33) rfl
theorem iX10_would_69 : rx_ins mX10_would 69 = some (1, 70, 0, 0, 0, []) := rx_at tbX10_would ndX10_would (j := 34) rfl
theorem iX10_would_70 : rx_ins mX10_would 70 = some (1, 72, 2147483647, 3, 13, [(217, 0)]) := rx_at tbX10_would ndX10_would (j := 35) rfl
theorem iX10_would_72 : rx_ins mX10_would 72 = some (28, 75, 2, 3, 4, [(218, 171)]) := rx_at tbX10_would ndX10_would (j := 36) rfl
theorem iX10_would_75 : rx_ins mX10_would 75 = some (3, 76, 0, 0, 0, []) := rx_at tbX10_would ndX10_would (j := 37) rfl
theorem iX10_would_76 : rx_ins mX10_would 76 = some (18, 79, 0, 10, 5, [(38, 85)]) := rx_at tbX10_would ndX10_would (j := 38) rfl
theorem iX10_would_79 : rx_ins mX10_would 79 = some (3, 80, 0, 0, 0, []) := rx_at tbX10_would ndX10_would (j := 39) rfl
theorem iX10_would_80 : rx_ins mX10_would 80 = some (18, 83, 0, 10, 0, [(12, 75)]) := rx_at tbX10_would ndX10_would (j := 40) rfl
theorem iX10_would_83 : rx_ins mX10_would 83 = some (1, 84, 0, 0, 0, []) := rx_at tbX10_would ndX10_would (j := 41) rfl
theorem iX10_would_84 : rx_ins mX10_would 84 = some (1, 86, 2147483647, 3, 13, [(217, 0)]) := rx_at tbX10_would ndX10_would (j := 42) rfl
theorem iX10_would_86 : rx_ins mX10_would 86 = some (28, 89, 2, 3, 4, [(218, 171)]) := rx_at tbX10_would ndX10_would (j := 43) rfl
theorem iX10_would_89 : rx_ins mX10_would 89 = some (7, 90, 0, 1, 0, []) := rx_at tbX10_would ndX10_would (j := 44) rfl
theorem iX10_would_90 : rx_ins mX10_would 90 = some (29, 91, 0, 0, 0, []) := rx_at tbX10_would ndX10_would (j := 45) rfl
theorem iX10_best_0 : rx_ins mX10_best 0 = some (2, 1, 0, 1, 0, []) := rx_at tbX10_best ndX10_best (j := 0) rfl
theorem iX10_best_1 : rx_ins mX10_best 1 = some (13, 4, 11, 0, 12, []) := rx_at tbX10_best ndX10_best (j := 1) rfl
theorem iX10_best_12 : rx_ins mX10_best 12 = some (3, 13, 0, 0, 0, []) := rx_at tbX10_best ndX10_best (j := 7) rfl
theorem iX10_best_13 : rx_ins mX10_best 13 = some (18, 16, 0, 10, 5, [(38, 85)]) := rx_at tbX10_best ndX10_best (j := 8) rfl
theorem iX10_best_16 : rx_ins mX10_best 16 = some (3, 17, 0, 0, 0, []) := rx_at tbX10_best ndX10_best (j := 9) rfl
theorem iX10_best_17 : rx_ins mX10_best 17 = some (18, 20, 0, 10, 0, [(12, 75)]) := rx_at tbX10_best ndX10_best (j := 10) rfl
theorem iX10_best_20 : rx_ins mX10_best 20 = some (28, 23, 2, 2, 2, [(206, 168)]) := rx_at tbX10_best ndX10_best (j := 11) rfl
theorem iX10_best_23 : rx_ins mX10_best 23 = some (3, 24, 0, 0, 0, []) := rx_at tbX10_best ndX10_best (j := 12) rfl
theorem iX10_best_24 : rx_ins mX10_best 24 = some (18, 27, 0, 10, 6, [(45, 89)]) := rx_at tbX10_best ndX10_best (j := 13) rfl
theorem iX10_best_27 : rx_ins mX10_best 27 = some (3, 28, 0, 0, 0, []) := rx_at tbX10_best ndX10_best (j := 14) rfl
theorem iX10_best_28 : rx_ins mX10_best 28 = some (18, 31, 0, 10, 0, [(12, 75)]) := rx_at tbX10_best ndX10_best (j := 15) rfl
theorem iX10_best_31 : rx_ins mX10_best 31 = some (3, 32, 0, 0, 0, []) := rx_at tbX10_best ndX10_best (j := 16) rfl
theorem iX10_best_32 : rx_ins mX10_best 32 = some (18, 35, 0, 10, 5, [(38, 85)]) := rx_at tbX10_best ndX10_best (j := 17) rfl
theorem iX10_best_35 : rx_ins mX10_best 35 = some (28, 38, 11, 74, 3, [(222, 172)]) := rx_at tbX10_best ndX10_best (j := 18) rfl
theorem iX10_best_38 : rx_ins mX10_best 38 = some (13, 41, 6, 1, 44, []) := rx_at tbX10_best ndX10_best (j := 19) rfl
theorem iX10_best_44 : rx_ins mX10_best 44 = some (2, 45, 0, 1, 0, []) := rx_at tbX10_best ndX10_best (j := 22) rfl
theorem iX10_best_45 : rx_ins mX10_best 45 = some (13, 48, 13, 1, 58, []) := rx_at tbX10_best ndX10_best (j := 23) rfl
theorem iX10_best_48 : rx_ins mX10_best 48 = some (3, 49, 0, 0, 0, []) := rx_at tbX10_best ndX10_best (j := 24) rfl
theorem iX10_best_49 : rx_ins mX10_best 49 = some (18, 52, 0, 10, 6, [(45, 89)]) := rx_at tbX10_best ndX10_best (j := 25) rfl
theorem iX10_best_52 : rx_ins mX10_best 52 = some (28, 55, 11, 75, 1, [(227, 173)]) := rx_at tbX10_best ndX10_best (j := 26) rfl
theorem iX10_best_55 : rx_ins mX10_best 55 = some (15, 58, 10, 0, 65, []) := rx_at tbX10_best ndX10_best (j := 27) rfl
theorem iX10_best_65 : rx_ins mX10_best 65 = some (29, 66, 0, 0, 0, []) := rx_at tbX10_best ndX10_best (j := 31) rfl
theorem iX10_best_41 : rx_ins mX10_best 41 = some (1, 43, (-1000000005), 3, 14, [(226, 0)]) := rx_at tbX10_best ndX10_best (j := 20) rfl
theorem iX10_best_43 : rx_ins mX10_best 43 = some (29, 44, 0, 0, 0, []) := rx_at tbX10_best ndX10_best (j := 21) rfl
theorem iX10_best_4 : rx_ins mX10_best 4 = some (2, 5, 0, 1, 0, []) := rx_at tbX10_best ndX10_best (j := 2) rfl
theorem iX10_best_5 : rx_ins mX10_best 5 = some (1, 6, 1, 0, 0, []) := rx_at tbX10_best ndX10_best (j := 3) rfl
theorem iX10_best_6 : rx_ins mX10_best 6 = some (14, 9, 6, 0, 12, []) := rx_at tbX10_best ndX10_best (j := 4) rfl
theorem iX10_best_58 : rx_ins mX10_best 58 = some (3, 59, 0, 0, 0, []) := rx_at tbX10_best ndX10_best (j := 28) rfl
theorem iX10_best_59 : rx_ins mX10_best 59 = some (18, 62, 0, 10, 6, [(45, 89)]) := rx_at tbX10_best ndX10_best (j := 29) rfl
theorem iX10_best_62 : rx_ins mX10_best 62 = some (17, 65, 0, 9, 2, [(230, 90)]) := rx_at tbX10_best ndX10_best (j := 30) rfl
theorem iX10_best_9 : rx_ins mX10_best 9 = some (1, 11, (-1000000001), 3, 10, [(103, 0)]) := rx_at tbX10_best ndX10_best (j := 5) rfl
theorem iX10_best_11 : rx_ins mX10_best 11 = some (29, 12, 0, 0, 0, []) := rx_at tbX10_best ndX10_best (j := 6) rfl
theorem iX10_swaps_0 : rx_ins mX10_swaps 0 = some (2, 1, 0, 1, 0, []) := rx_at tbX10_swaps ndX10_swaps (j := 0) rfl
theorem iX10_swaps_1 : rx_ins mX10_swaps 1 = some (1, 2, 1, 0, 0, []) := rx_at tbX10_swaps ndX10_swaps (j := 1) rfl
theorem iX10_swaps_2 : rx_ins mX10_swaps 2 = some (14, 5, 9, 2, 11, []) := rx_at tbX10_swaps ndX10_swaps (j := 2) rfl
theorem iX10_swaps_11 : rx_ins mX10_swaps 11 = some (1, 13, (-1000000001), 3, 10, [(103, 0)]) := rx_at tbX10_swaps ndX10_swaps (j := 6) rfl
theorem iX10_swaps_13 : rx_ins mX10_swaps 13 = some (29, 14, 0, 0, 0, []) := rx_at tbX10_swaps ndX10_swaps (j := 7) rfl
theorem iX10_swaps_5 : rx_ins mX10_swaps 5 = some (2, 6, 0, 1, 0, []) := rx_at tbX10_swaps ndX10_swaps (j := 3) rfl
theorem iX10_swaps_6 : rx_ins mX10_swaps 6 = some (1, 8, 30, 1, 0, []) := rx_at tbX10_swaps ndX10_swaps (j := 4) rfl
theorem iX10_swaps_8 : rx_ins mX10_swaps 8 = some (14, 11, 6, 5, 14, []) := rx_at tbX10_swaps ndX10_swaps (j := 5) rfl
theorem iX10_swaps_14 : rx_ins mX10_swaps 14 = some (3, 15, 0, 0, 0, []) := rx_at tbX10_swaps ndX10_swaps (j := 8) rfl
theorem iX10_swaps_15 : rx_ins mX10_swaps 15 = some (18, 18, 0, 10, 5, [(38, 85)]) := rx_at tbX10_swaps ndX10_swaps (j := 9) rfl
theorem iX10_swaps_18 : rx_ins mX10_swaps 18 = some (3, 19, 0, 0, 0, []) := rx_at tbX10_swaps ndX10_swaps (j := 10) rfl
theorem iX10_swaps_19 : rx_ins mX10_swaps 19 = some (18, 22, 0, 10, 0, [(12, 75)]) := rx_at tbX10_swaps ndX10_swaps (j := 11) rfl
theorem iX10_swaps_22 : rx_ins mX10_swaps 22 = some (28, 25, 2, 2, 2, [(206, 168)]) := rx_at tbX10_swaps ndX10_swaps (j := 12) rfl
theorem iX10_swaps_25 : rx_ins mX10_swaps 25 = some (1, 26, 0, 0, 0, []) := rx_at tbX10_swaps ndX10_swaps (j := 13) rfl
theorem iX10_swaps_26 : rx_ins mX10_swaps 26 = some (4, 27, 0, 2, 0, []) := rx_at tbX10_swaps ndX10_swaps (j := 14) rfl
theorem iX10_swaps_27 : rx_ins mX10_swaps 27 = some (2, 28, 0, 2, 0, []) := rx_at tbX10_swaps ndX10_swaps (j := 15) rfl
theorem iX10_swaps_28 : rx_ins mX10_swaps 28 = some (2, 29, 0, 1, 0, []) := rx_at tbX10_swaps ndX10_swaps (j := 16) rfl
theorem iX10_swaps_29 : rx_ins mX10_swaps 29 = some (14, 32, 51, 3, 80, []) := rx_at tbX10_swaps ndX10_swaps (j := 17) rfl
theorem iX10_swaps_80 : rx_ins mX10_swaps 80 = some (2, 81, 0, 2, 0, []) := rx_at tbX10_swaps ndX10_swaps (j := 38) rfl
theorem iX10_swaps_81 : rx_ins mX10_swaps 81 = some (29, 82, 0, 0, 0, []) := rx_at tbX10_swaps ndX10_swaps (j := 39) rfl
theorem iX10_swaps_32 : rx_ins mX10_swaps 32 = some (3, 33, 0, 0, 0, []) := rx_at tbX10_swaps ndX10_swaps (j := 18) rfl
theorem iX10_swaps_33 : rx_ins mX10_swaps 33 = some (18, 36, 0, 10, 6, [(45, 89)]) := rx_at tbX10_swaps ndX10_swaps (j := 19) rfl
theorem iX10_swaps_36 : rx_ins mX10_swaps 36 = some (3, 37, 0, 0, 0, []) := rx_at tbX10_swaps ndX10_swaps (j := 20) rfl
theorem iX10_swaps_37 : rx_ins mX10_swaps 37 = some (18, 40, 0, 10, 0, [(12, 75)]) := rx_at tbX10_swaps ndX10_swaps (j := 21) rfl
theorem iX10_swaps_40 : rx_ins mX10_swaps 40 = some (3, 41, 0, 0, 0, []) := rx_at tbX10_swaps ndX10_swaps (j := 22) rfl
theorem iX10_swaps_41 : rx_ins mX10_swaps 41 = some (18, 44, 0, 10, 5, [(38, 85)]) := rx_at tbX10_swaps ndX10_swaps (j := 23) rfl
theorem iX10_swaps_44 : rx_ins mX10_swaps 44 = some (28, 47, 11, 74, 3, [(222, 172)]) := rx_at tbX10_swaps ndX10_swaps (j := 24) rfl
theorem iX10_swaps_47 : rx_ins mX10_swaps 47 = some (13, 50, 6, 1, 53, []) := rx_at tbX10_swaps ndX10_swaps (j := 25) rfl
theorem iX10_swaps_53 : rx_ins mX10_swaps 53 = some (3, 54, 0, 0, 0, []) := rx_at tbX10_swaps ndX10_swaps (j := 27) rfl
theorem iX10_swaps_54 : rx_ins mX10_swaps 54 = some (18, 57, 0, 10, 0, [(12, 75)]) := rx_at tbX10_swaps ndX10_swaps (j := 28) rfl
theorem iX10_swaps_57 : rx_ins mX10_swaps 57 = some (3, 58, 0, 0, 0, []) := rx_at tbX10_swaps ndX10_swaps (j := 29) rfl
theorem iX10_swaps_58 : rx_ins mX10_swaps 58 = some (18, 61, 0, 10, 6, [(45, 89)]) := rx_at tbX10_swaps ndX10_swaps (j := 30) rfl
theorem iX10_swaps_61 : rx_ins mX10_swaps 61 = some (17, 64, 0, 9, 0, [(233, 91)]) := rx_at tbX10_swaps ndX10_swaps (j := 31) rfl
theorem iX10_swaps_64 : rx_ins mX10_swaps 64 = some (3, 65, 0, 0, 0, []) := rx_at tbX10_swaps ndX10_swaps (j := 32) rfl
theorem iX10_swaps_65 : rx_ins mX10_swaps 65 = some (18, 68, 0, 10, 6, [(45, 89)]) := rx_at tbX10_swaps ndX10_swaps (j := 33) rfl
theorem iX10_swaps_68 : rx_ins mX10_swaps 68 = some (17, 71, 0, 9, 1, [(236, 92)]) := rx_at tbX10_swaps ndX10_swaps (j := 34) rfl
theorem iX10_swaps_71 : rx_ins mX10_swaps 71 = some (28, 74, 3, 13, 3, [(213, 170)]) := rx_at tbX10_swaps ndX10_swaps (j := 35) rfl
theorem iX10_swaps_74 : rx_ins mX10_swaps 74 = some (6, 77, 1, 2, 0, []) := rx_at tbX10_swaps ndX10_swaps (j := 36) rfl
theorem iX10_swaps_77 : rx_ins mX10_swaps 77 = some (15, 80, (-50), 0, 27, []) := rx_at tbX10_swaps ndX10_swaps (j := 37) rfl
theorem iX10_swaps_50 : rx_ins mX10_swaps 50 = some (15, 53, 30, 0, 80, []) := rx_at tbX10_swaps ndX10_swaps (j := 26) rfl
theorem iX10_line_0 : rx_ins mX10_line 0 = some (2, 1, 0, 1, 0, []) := rx_at tbX10_line ndX10_line (j := 0) rfl
theorem iX10_line_1 : rx_ins mX10_line 1 = some (28, 4, 0, 127, 1, [(239, 174)]) := rx_at tbX10_line ndX10_line (j := 1) rfl
theorem iX10_line_4 : rx_ins mX10_line 4 = some (13, 7, 6, 1, 10, []) := rx_at tbX10_line ndX10_line (j := 2) rfl
theorem iX10_line_10 : rx_ins mX10_line 10 = some (3, 11, 0, 0, 0, []) := rx_at tbX10_line ndX10_line (j := 5) rfl
theorem iX10_line_11 : rx_ins mX10_line 11 = some (18, 14, 0, 10, 10, [(72, 93)]) := rx_at tbX10_line ndX10_line (j := 6) rfl
theorem iX10_line_14 : rx_ins mX10_line 14 = some (2, 15, 0, 1, 0, []) := rx_at tbX10_line ndX10_line (j := 7) rfl
theorem iX10_line_15 : rx_ins mX10_line 15 = some (22, 16, 0, 0, 0, []) := rx_at tbX10_line ndX10_line (j := 8) rfl
theorem iX10_line_16 : rx_ins mX10_line 16 = some (5, 17, 0, 2, 0, []) := rx_at tbX10_line ndX10_line (j := 9) rfl
theorem iX10_line_17 : rx_ins mX10_line 17 = some (3, 18, 0, 2, 0, []) := rx_at tbX10_line ndX10_line (j := 10) rfl
theorem iX10_line_18 : rx_ins mX10_line 18 = some (28, 21, 9, 68, 1, [(242, 175)]) := rx_at tbX10_line ndX10_line (j := 11) rfl
theorem iX10_line_21 : rx_ins mX10_line 21 = some (13, 24, 6, 0, 27, []) := rx_at tbX10_line ndX10_line (j := 12) rfl
theorem iX10_line_27 : rx_ins mX10_line 27 = some (3, 28, 0, 2, 0, []) := rx_at tbX10_line ndX10_line (j := 15) rfl
theorem iX10_line_28 : rx_ins mX10_line 28 = some (17, 31, 0, 7, 1, [(246, 94)]) := rx_at tbX10_line ndX10_line (j := 16) rfl
theorem iX10_line_31 : rx_ins mX10_line 31 = some (3, 32, 0, 0, 0, []) := rx_at tbX10_line ndX10_line (j := 17) rfl
theorem iX10_line_32 : rx_ins mX10_line 32 = some (18, 35, 0, 10, 0, [(12, 75)]) := rx_at tbX10_line ndX10_line (j := 18) rfl
theorem iX10_line_35 : rx_ins mX10_line 35 = some (17, 38, 0, 1, 0, [(194, 87)]) := rx_at tbX10_line ndX10_line (j := 19) rfl
theorem iX10_line_38 : rx_ins mX10_line 38 = some (14, 41, 6, 0, 44, []) := rx_at tbX10_line ndX10_line (j := 20) rfl
theorem iX10_line_44 : rx_ins mX10_line 44 = some (3, 45, 0, 2, 0, []) := rx_at tbX10_line ndX10_line (j := 23) rfl
theorem iX10_line_45 : rx_ins mX10_line 45 = some (28, 48, 9, 71, 1, [(250, 176)]) := rx_at tbX10_line ndX10_line (j := 24) rfl
theorem iX10_line_48 : rx_ins mX10_line 48 = some (13, 51, 6, 0, 54, []) := rx_at tbX10_line ndX10_line (j := 25) rfl
theorem iX10_line_54 : rx_ins mX10_line 54 = some (3, 55, 0, 2, 0, []) := rx_at tbX10_line ndX10_line (j := 28) rfl
theorem iX10_line_55 : rx_ins mX10_line 55 = some (3, 56, 0, 0, 0, []) := rx_at tbX10_line ndX10_line (j := 29) rfl
theorem iX10_line_56 : rx_ins mX10_line 56 = some (18, 59, 0, 10, 0, [(12, 75)]) := rx_at tbX10_line ndX10_line (j := 30) rfl
theorem iX10_line_59 : rx_ins mX10_line 59 = some (17, 62, 0, 1, 0, [(194, 87)]) := rx_at tbX10_line ndX10_line (j := 31) rfl
theorem iX10_line_62 : rx_ins mX10_line 62 = some (28, 65, 9, 72, 2, [(253, 177)]) := rx_at tbX10_line ndX10_line (j := 32) rfl
theorem iX10_line_65 : rx_ins mX10_line 65 = some (13, 68, 6, 1, 71, []) := rx_at tbX10_line ndX10_line (j := 33) rfl
theorem iX10_line_71 : rx_ins mX10_line 71 = some (1, 72, 0, 0, 0, []) := rx_at tbX10_line ndX10_line (j := 36) rfl
theorem iX10_line_72 : rx_ins mX10_line 72 = some (4, 73, 0, 3, 0, []) := rx_at tbX10_line ndX10_line (j := 37) rfl
theorem iX10_line_68 : rx_ins mX10_line 68 = some (1, 70, (-1000000001), 3, 10, [(103, 0)]) := rx_at tbX10_line ndX10_line (j := 34) rfl
theorem iX10_line_70 : rx_ins mX10_line 70 = some (29, 71, 0, 0, 0, []) := rx_at tbX10_line ndX10_line (j := 35) rfl
theorem iX10_line_51 : rx_ins mX10_line 51 = some (1, 53, (-1000000012), 3, 12, [(172, 0)]) := rx_at tbX10_line ndX10_line (j := 26) rfl
theorem iX10_line_53 : rx_ins mX10_line 53 = some (29, 54, 0, 0, 0, []) := rx_at tbX10_line ndX10_line (j := 27) rfl
theorem iX10_line_41 : rx_ins mX10_line 41 = some (1, 43, (-1000000014), 3, 16, [(249, 0)]) := rx_at tbX10_line ndX10_line (j := 21) rfl
theorem iX10_line_43 : rx_ins mX10_line 43 = some (29, 44, 0, 0, 0, []) := rx_at tbX10_line ndX10_line (j := 22) rfl
theorem iX10_line_24 : rx_ins mX10_line 24 = some (1, 26, (-1000000011), 3, 15, [(245, 0)]) := rx_at tbX10_line ndX10_line (j := 13) rfl
theorem iX10_line_26 : rx_ins mX10_line 26 = some (29, 27, 0, 0, 0, []) := rx_at tbX10_line ndX10_line (j := 14) rfl
theorem iX10_line_7 : rx_ins mX10_line 7 = some (1, 9, (-1000000001), 3, 10, [(103, 0)]) := rx_at tbX10_line ndX10_line (j := 3) rfl
theorem iX10_line_9 : rx_ins mX10_line 9 = some (29, 10, 0, 0, 0, []) := rx_at tbX10_line ndX10_line (j := 4) rfl
theorem iX10_line_73 : rx_ins mX10_line 73 = some (2, 74, 0, 3, 0, []) := rx_at tbX10_line ndX10_line (j := 38) rfl
theorem iX10_line_74 : rx_ins mX10_line 74 = some (3, 75, 0, 0, 0, []) := rx_at tbX10_line ndX10_line (j := 39) rfl
theorem iX10_line_75 : rx_ins mX10_line 75 = some (18, 78, 0, 10, 0, [(12, 75)]) := rx_at tbX10_line ndX10_line (j := 40) rfl
theorem iX10_line_78 : rx_ins mX10_line 78 = some (17, 81, 0, 1, 0, [(194, 87)]) := rx_at tbX10_line ndX10_line (j := 41) rfl
theorem iX10_line_81 : rx_ins mX10_line 81 = some (14, 84, 23, 3, 104, []) := rx_at tbX10_line ndX10_line (j := 42) rfl
theorem iX10_line_104 : rx_ins mX10_line 104 = some (3, 105, 0, 0, 0, []) := rx_at tbX10_line ndX10_line (j := 53) rfl
theorem iX10_line_105 : rx_ins mX10_line 105 = some (18, 108, 0, 10, 0, [(12, 75)]) := rx_at tbX10_line ndX10_line (j := 54) rfl
theorem iX10_line_108 : rx_ins mX10_line 108 = some (17, 111, 0, 1, 0, [(194, 87)]) := rx_at tbX10_line ndX10_line (j := 55) rfl
theorem iX10_line_111 : rx_ins mX10_line 111 = some (29, 112, 0, 0, 0, []) := rx_at tbX10_line ndX10_line (j := 56) rfl
theorem iX10_line_84 : rx_ins mX10_line 84 = some (3, 85, 0, 0, 0, []) := rx_at tbX10_line ndX10_line (j := 43) rfl
theorem iX10_line_85 : rx_ins mX10_line 85 = some (18, 88, 0, 10, 0, [(12, 75)]) := rx_at tbX10_line ndX10_line (j := 44) rfl
theorem iX10_line_88 : rx_ins mX10_line 88 = some (2, 89, 0, 3, 0, []) := rx_at tbX10_line ndX10_line (j := 45) rfl
theorem iX10_line_89 : rx_ins mX10_line 89 = some (3, 90, 0, 2, 0, []) := rx_at tbX10_line ndX10_line (j := 46) rfl
theorem iX10_line_90 : rx_ins mX10_line 90 = some (18, 93, 0, 7, 2, [(256, 95)]) := rx_at tbX10_line ndX10_line (j := 47) rfl
theorem iX10_line_93 : rx_ins mX10_line 93 = some (2, 94, 0, 3, 0, []) := rx_at tbX10_line ndX10_line (j := 48) rfl
theorem iX10_line_94 : rx_ins mX10_line 94 = some (20, 95, 0, 0, 0, []) := rx_at tbX10_line ndX10_line (j := 49) rfl
theorem iX10_line_95 : rx_ins mX10_line 95 = some (28, 98, 3, 12, 3, [(259, 178)]) := rx_at tbX10_line ndX10_line (j := 50) rfl
theorem iX10_line_98 : rx_ins mX10_line 98 = some (6, 101, 1, 3, 0, []) := rx_at tbX10_line ndX10_line (j := 51) rfl
theorem iX10_line_101 : rx_ins mX10_line 101 = some (15, 104, (-28), 0, 73, []) := rx_at tbX10_line ndX10_line (j := 52) rfl
theorem iX10_at_0 : rx_ins mX10_at 0 = some (3, 1, 0, 0, 0, []) := rx_at tbX10_at ndX10_at (j := 0) rfl
theorem iX10_at_1 : rx_ins mX10_at 1 = some (18, 4, 0, 10, 0, [(12, 75)]) := rx_at tbX10_at ndX10_at (j := 1) rfl
theorem iX10_at_4 : rx_ins mX10_at 4 = some (2, 5, 0, 1, 0, []) := rx_at tbX10_at ndX10_at (j := 2) rfl
theorem iX10_at_5 : rx_ins mX10_at 5 = some (28, 8, 3, 7, 2, [(99, 149)]) := rx_at tbX10_at ndX10_at (j := 3) rfl
theorem iX10_at_8 : rx_ins mX10_at 8 = some (13, 11, 15, 0, 23, []) := rx_at tbX10_at ndX10_at (j := 4) rfl
theorem iX10_at_23 : rx_ins mX10_at 23 = some (1, 25, (-1000000001), 3, 10, [(103, 0)]) := rx_at tbX10_at ndX10_at (j := 11) rfl
theorem iX10_at_25 : rx_ins mX10_at 25 = some (29, 26, 0, 0, 0, []) := rx_at tbX10_at ndX10_at (j := 12) rfl
theorem iX10_at_11 : rx_ins mX10_at 11 = some (3, 12, 0, 0, 0, []) := rx_at tbX10_at ndX10_at (j := 5) rfl
theorem iX10_at_12 : rx_ins mX10_at 12 = some (18, 15, 0, 10, 0, [(12, 75)]) := rx_at tbX10_at ndX10_at (j := 6) rfl
theorem iX10_at_15 : rx_ins mX10_at 15 = some (18, 18, 0, 1, 4, [(262, 96)]) := rx_at tbX10_at ndX10_at (j := 7) rfl
theorem iX10_at_18 : rx_ins mX10_at 18 = some (2, 19, 0, 1, 0, []) := rx_at tbX10_at ndX10_at (j := 8) rfl
theorem iX10_at_19 : rx_ins mX10_at 19 = some (20, 20, 0, 0, 0, []) := rx_at tbX10_at ndX10_at (j := 9) rfl
theorem iX10_at_20 : rx_ins mX10_at 20 = some (15, 23, 5, 0, 25, []) := rx_at tbX10_at ndX10_at (j := 10) rfl
theorem iX10_book_0 : rx_ins mX10_book 0 = some (3, 1, 0, 0, 0, []) := rx_at tbX10_book ndX10_book (j := 0) rfl
theorem iX10_book_1 : rx_ins mX10_book 1 = some (1, 2, 1, 0, 0, []) := rx_at tbX10_book ndX10_book (j := 1) rfl
theorem iX10_book_2 : rx_ins mX10_book 2 = some (2, 3, 0, 1, 0, []) := rx_at tbX10_book ndX10_book (j := 2) rfl
theorem iX10_book_3 : rx_ins mX10_book 3 = some (28, 6, 12, 119, 3, [(191, 166)]) := rx_at tbX10_book ndX10_book (j := 3) rfl
theorem iX10_book_6 : rx_ins mX10_book 6 = some (29, 7, 0, 0, 0, []) := rx_at tbX10_book ndX10_book (j := 4) rfl
theorem iX10_pages_0 : rx_ins mX10_pages 0 = some (2, 1, 0, 1, 0, []) := rx_at tbX10_pages ndX10_pages (j := 0) rfl
theorem iX10_pages_1 : rx_ins mX10_pages 1 = some (1, 2, (-1), 0, 0, []) := rx_at tbX10_pages ndX10_pages (j := 1) rfl
theorem iX10_pages_2 : rx_ins mX10_pages 2 = some (14, 5, 17, 0, 19, []) := rx_at tbX10_pages ndX10_pages (j := 2) rfl
theorem iX10_pages_19 : rx_ins mX10_pages 19 = some (3, 20, 0, 0, 0, []) := rx_at tbX10_pages ndX10_pages (j := 10) rfl
theorem iX10_pages_20 : rx_ins mX10_pages 20 = some (18, 23, 0, 10, 7, [(52, 97)]) := rx_at tbX10_pages ndX10_pages (j := 11) rfl
theorem iX10_pages_23 : rx_ins mX10_pages 23 = some (3, 24, 0, 0, 0, []) := rx_at tbX10_pages ndX10_pages (j := 12) rfl
theorem iX10_pages_24 : rx_ins mX10_pages 24 = some (18, 27, 0, 10, 0, [(12, 75)]) := rx_at tbX10_pages ndX10_pages (j := 13) rfl
theorem iX10_pages_27 : rx_ins mX10_pages 27 = some (28, 30, 6, 44, 2, [(265, 179)]) := rx_at tbX10_pages ndX10_pages (j := 14) rfl
theorem iX10_pages_30 : rx_ins mX10_pages 30 = some (4, 31, 0, 2, 0, []) := rx_at tbX10_pages ndX10_pages (j := 15) rfl
theorem iX10_pages_31 : rx_ins mX10_pages 31 = some (2, 32, 0, 1, 0, []) := rx_at tbX10_pages ndX10_pages (j := 16) rfl
theorem iX10_pages_32 : rx_ins mX10_pages 32 = some (1, 33, (-1), 0, 0, []) := rx_at tbX10_pages ndX10_pages (j := 17) rfl
theorem iX10_pages_33 : rx_ins mX10_pages 33 = some (14, 36, 7, 1, 40, []) := rx_at tbX10_pages ndX10_pages (j := 18) rfl
theorem iX10_pages_36 : rx_ins mX10_pages 36 = some (2, 37, 0, 2, 0, []) := rx_at tbX10_pages ndX10_pages (j := 19) rfl
theorem iX10_pages_37 : rx_ins mX10_pages 37 = some (15, 40, 12, 0, 49, []) := rx_at tbX10_pages ndX10_pages (j := 20) rfl
theorem iX10_pages_49 : rx_ins mX10_pages 49 = some (29, 50, 0, 0, 0, []) := rx_at tbX10_pages ndX10_pages (j := 26) rfl
theorem iX10_pages_5 : rx_ins mX10_pages 5 = some (3, 6, 0, 0, 0, []) := rx_at tbX10_pages ndX10_pages (j := 3) rfl
theorem iX10_pages_6 : rx_ins mX10_pages 6 = some (18, 9, 0, 10, 0, [(12, 75)]) := rx_at tbX10_pages ndX10_pages (j := 4) rfl
theorem iX10_pages_9 : rx_ins mX10_pages 9 = some (2, 10, 0, 1, 0, []) := rx_at tbX10_pages ndX10_pages (j := 5) rfl
theorem iX10_pages_10 : rx_ins mX10_pages 10 = some (28, 13, 3, 8, 2, [(144, 158)]) := rx_at tbX10_pages ndX10_pages (j := 6) rfl
theorem iX10_pages_13 : rx_ins mX10_pages 13 = some (13, 16, 6, 1, 19, []) := rx_at tbX10_pages ndX10_pages (j := 7) rfl
theorem iX10_pages_40 : rx_ins mX10_pages 40 = some (3, 41, 0, 0, 0, []) := rx_at tbX10_pages ndX10_pages (j := 21) rfl
theorem iX10_pages_41 : rx_ins mX10_pages 41 = some (18, 44, 0, 10, 7, [(52, 97)]) := rx_at tbX10_pages ndX10_pages (j := 22) rfl
theorem iX10_pages_44 : rx_ins mX10_pages 44 = some (18, 47, 0, 4, 0, [(268, 98)]) := rx_at tbX10_pages ndX10_pages (j := 23) rfl
theorem iX10_pages_47 : rx_ins mX10_pages 47 = some (2, 48, 0, 1, 0, []) := rx_at tbX10_pages ndX10_pages (j := 24) rfl
theorem iX10_pages_48 : rx_ins mX10_pages 48 = some (20, 49, 0, 0, 0, []) := rx_at tbX10_pages ndX10_pages (j := 25) rfl
theorem iX10_pages_16 : rx_ins mX10_pages 16 = some (1, 18, (-1000000001), 3, 10, [(103, 0)]) := rx_at tbX10_pages ndX10_pages (j := 8) rfl
theorem iX10_pages_18 : rx_ins mX10_pages 18 = some (29, 19, 0, 0, 0, []) := rx_at tbX10_pages ndX10_pages (j := 9) rfl
theorem iX10_bestLine_0 : rx_ins mX10_bestLine 0 = some (2, 1, 0, 1, 0, []) := rx_at tbX10_bestLine ndX10_bestLine (j := 0) rfl
theorem iX10_bestLine_1 : rx_ins mX10_bestLine 1 = some (1, 2, (-1), 0, 0, []) := rx_at tbX10_bestLine ndX10_bestLine (j := 1) rfl
theorem iX10_bestLine_2 : rx_ins mX10_bestLine 2 = some (14, 5, 6, 3, 8, []) := rx_at tbX10_bestLine ndX10_bestLine (j := 2) rfl
theorem iX10_bestLine_8 : rx_ins mX10_bestLine 8 = some (3, 9, 0, 0, 0, []) := rx_at tbX10_bestLine ndX10_bestLine (j := 5) rfl
theorem iX10_bestLine_9 : rx_ins mX10_bestLine 9 = some (18, 12, 0, 10, 0, [(12, 75)]) := rx_at tbX10_bestLine ndX10_bestLine (j := 6) rfl
theorem iX10_bestLine_12 : rx_ins mX10_bestLine 12 = some (17, 15, 0, 1, 0, [(194, 87)]) := rx_at tbX10_bestLine ndX10_bestLine (j := 7) rfl
theorem iX10_bestLine_15 : rx_ins mX10_bestLine 15 = some (13, 18, 6, 1, 21, []) := rx_at tbX10_bestLine ndX10_bestLine (j := 8) rfl
theorem iX10_bestLine_21 : rx_ins mX10_bestLine 21 = some (2, 22, 0, 1, 0, []) := rx_at tbX10_bestLine ndX10_bestLine (j := 11) rfl
theorem iX10_bestLine_22 : rx_ins mX10_bestLine 22 = some (3, 23, 0, 0, 0, []) := rx_at tbX10_bestLine ndX10_bestLine (j := 12) rfl
theorem iX10_bestLine_23 : rx_ins mX10_bestLine 23 = some (18, 26, 0, 10, 0, [(12, 75)]) := rx_at tbX10_bestLine ndX10_bestLine (j := 13) rfl
theorem iX10_bestLine_26 : rx_ins mX10_bestLine 26 = some (17, 29, 0, 1, 0, [(194, 87)]) := rx_at tbX10_bestLine ndX10_bestLine (j := 14) rfl
theorem iX10_bestLine_29 : rx_ins mX10_bestLine 29 = some (14, 32, 6, 2, 35, []) := rx_at tbX10_bestLine ndX10_bestLine (j := 15) rfl
theorem iX10_bestLine_35 : rx_ins mX10_bestLine 35 = some (3, 36, 0, 0, 0, []) := rx_at tbX10_bestLine ndX10_bestLine (j := 18) rfl
theorem iX10_bestLine_36 : rx_ins mX10_bestLine 36 = some (18, 39, 0, 10, 5, [(38, 85)]) := rx_at tbX10_bestLine ndX10_bestLine (j := 19) rfl
theorem iX10_bestLine_39 : rx_ins mX10_bestLine 39 = some (3, 40, 0, 0, 0, []) := rx_at tbX10_bestLine ndX10_bestLine (j := 20) rfl
theorem iX10_bestLine_40 : rx_ins mX10_bestLine 40 = some (18, 43, 0, 10, 0, [(12, 75)]) := rx_at tbX10_bestLine ndX10_bestLine (j := 21) rfl
theorem iX10_bestLine_43 : rx_ins mX10_bestLine 43 = some (28, 46, 2, 2, 2, [(206, 168)]) := rx_at tbX10_bestLine ndX10_bestLine (j := 22) rfl
theorem iX10_bestLine_46 : rx_ins mX10_bestLine 46 = some (3, 47, 0, 0, 0, []) := rx_at tbX10_bestLine ndX10_bestLine (j := 23) rfl
theorem iX10_bestLine_47 : rx_ins mX10_bestLine 47 = some (18, 50, 0, 10, 8, [(59, 99)]) := rx_at tbX10_bestLine ndX10_bestLine (j := 24) rfl
theorem iX10_bestLine_50 : rx_ins mX10_bestLine 50 = some (3, 51, 0, 0, 0, []) := rx_at tbX10_bestLine ndX10_bestLine (j := 25) rfl
theorem iX10_bestLine_51 : rx_ins mX10_bestLine 51 = some (18, 54, 0, 10, 0, [(12, 75)]) := rx_at tbX10_bestLine ndX10_bestLine (j := 26) rfl
theorem iX10_bestLine_54 : rx_ins mX10_bestLine 54 = some (3, 55, 0, 0, 0, []) := rx_at tbX10_bestLine ndX10_bestLine (j := 27) rfl
theorem iX10_bestLine_55 : rx_ins mX10_bestLine 55 = some (18, 58, 0, 10, 5, [(38, 85)]) := rx_at tbX10_bestLine ndX10_bestLine (j := 28) rfl
theorem iX10_bestLine_58 : rx_ins mX10_bestLine 58 = some (18, 61, 0, 0, 2, [(271, 100)]) := rx_at tbX10_bestLine ndX10_bestLine (j := 29) rfl
theorem iX10_bestLine_61 : rx_ins mX10_bestLine 61 = some (28, 64, 5, 40, 3, [(275, 180)]) := rx_at tbX10_bestLine ndX10_bestLine (j := 30) rfl
theorem iX10_bestLine_64 : rx_ins mX10_bestLine 64 = some (2, 65, 0, 1, 0, []) := rx_at tbX10_bestLine ndX10_bestLine (j := 31) rfl
theorem iX10_bestLine_65 : rx_ins mX10_bestLine 65 = some (1, 66, (-1), 0, 0, []) := rx_at tbX10_bestLine ndX10_bestLine (j := 32) rfl
theorem iX10_bestLine_66 : rx_ins mX10_bestLine 66 = some (14, 69, 13, 1, 79, []) := rx_at tbX10_bestLine ndX10_bestLine (j := 33) rfl
theorem iX10_bestLine_79 : rx_ins mX10_bestLine 79 = some (3, 80, 0, 0, 0, []) := rx_at tbX10_bestLine ndX10_bestLine (j := 38) rfl
theorem iX10_bestLine_80 : rx_ins mX10_bestLine 80 = some (18, 83, 0, 10, 8, [(59, 99)]) := rx_at tbX10_bestLine ndX10_bestLine (j := 39) rfl
theorem iX10_bestLine_83 : rx_ins mX10_bestLine 83 = some (18, 86, 0, 3, 0, [(279, 102)]) := rx_at tbX10_bestLine ndX10_bestLine (j := 40) rfl
theorem iX10_bestLine_86 : rx_ins mX10_bestLine 86 = some (2, 87, 0, 1, 0, []) := rx_at tbX10_bestLine ndX10_bestLine (j := 41) rfl
theorem iX10_bestLine_87 : rx_ins mX10_bestLine 87 = some (20, 88, 0, 0, 0, []) := rx_at tbX10_bestLine ndX10_bestLine (j := 42) rfl
theorem iX10_bestLine_88 : rx_ins mX10_bestLine 88 = some (29, 89, 0, 0, 0, []) := rx_at tbX10_bestLine ndX10_bestLine (j := 43) rfl
theorem iX10_bestLine_69 : rx_ins mX10_bestLine 69 = some (3, 70, 0, 0, 0, []) := rx_at tbX10_bestLine ndX10_bestLine (j := 34) rfl
theorem iX10_bestLine_70 : rx_ins mX10_bestLine 70 = some (18, 73, 0, 10, 8, [(59, 99)]) := rx_at tbX10_bestLine ndX10_bestLine (j := 35) rfl
theorem iX10_bestLine_73 : rx_ins mX10_bestLine 73 = some (17, 76, 0, 3, 1, [(278, 101)]) := rx_at tbX10_bestLine ndX10_bestLine (j := 36) rfl
theorem iX10_bestLine_76 : rx_ins mX10_bestLine 76 = some (15, 79, 12, 0, 88, []) := rx_at tbX10_bestLine ndX10_bestLine (j := 37) rfl
theorem iX10_bestLine_32 : rx_ins mX10_bestLine 32 = some (1, 34, (-1000000005), 3, 14, [(226, 0)]) := rx_at tbX10_bestLine ndX10_bestLine (j := 16) rfl
theorem iX10_bestLine_34 : rx_ins mX10_bestLine 34 = some (29, 35, 0, 0, 0, []) := rx_at tbX10_bestLine ndX10_bestLine (j := 17) rfl
theorem iX10_bestLine_18 : rx_ins mX10_bestLine 18 = some (1, 20, (-1000000002), 3, 11, [(127, 0)]) := rx_at tbX10_bestLine ndX10_bestLine (j := 9) rfl
theorem iX10_bestLine_20 : rx_ins mX10_bestLine 20 = some (29, 21, 0, 0, 0, []) := rx_at tbX10_bestLine ndX10_bestLine (j := 10) rfl
theorem iX10_bestLine_5 : rx_ins mX10_bestLine 5 = some (1, 7, (-1000000001), 3, 10, [(103, 0)]) := rx_at tbX10_bestLine ndX10_bestLine (j := 3) rfl
theorem iX10_bestLine_7 : rx_ins mX10_bestLine 7 = some (29, 8, 0, 0, 0, []) := rx_at tbX10_bestLine ndX10_bestLine (j := 4) rfl
theorem iX10_layers_0 : rx_ins mX10_layers 0 = some (3, 1, 0, 0, 0, []) := rx_at tbX10_layers ndX10_layers (j := 0) rfl
theorem iX10_layers_1 : rx_ins mX10_layers 1 = some (1, 2, 2, 0, 0, []) := rx_at tbX10_layers ndX10_layers (j := 1) rfl
theorem iX10_layers_2 : rx_ins mX10_layers 2 = some (2, 3, 0, 1, 0, []) := rx_at tbX10_layers ndX10_layers (j := 2) rfl
theorem iX10_layers_3 : rx_ins mX10_layers 3 = some (28, 6, 12, 119, 3, [(191, 166)]) := rx_at tbX10_layers ndX10_layers (j := 3) rfl
theorem iX10_layers_6 : rx_ins mX10_layers 6 = some (29, 7, 0, 0, 0, []) := rx_at tbX10_layers ndX10_layers (j := 4) rfl
theorem iX10_bestRow_0 : rx_ins mX10_bestRow 0 = some (2, 1, 0, 1, 0, []) := rx_at tbX10_bestRow ndX10_bestRow (j := 0) rfl
theorem iX10_bestRow_1 : rx_ins mX10_bestRow 1 = some (28, 4, 0, 123, 1, [(128, 153)]) := rx_at tbX10_bestRow ndX10_bestRow (j := 1) rfl
theorem iX10_bestRow_4 : rx_ins mX10_bestRow 4 = some (13, 7, 8, 0, 12, []) := rx_at tbX10_bestRow ndX10_bestRow (j := 2) rfl
theorem iX10_bestRow_12 : rx_ins mX10_bestRow 12 = some (1, 14, (-1000000001), 3, 10, [(103, 0)]) := rx_at tbX10_bestRow ndX10_bestRow (j := 6) rfl
theorem iX10_bestRow_14 : rx_ins mX10_bestRow 14 = some (29, 15, 0, 0, 0, []) := rx_at tbX10_bestRow ndX10_bestRow (j := 7) rfl
theorem iX10_bestRow_7 : rx_ins mX10_bestRow 7 = some (2, 8, 0, 2, 0, []) := rx_at tbX10_bestRow ndX10_bestRow (j := 3) rfl
theorem iX10_bestRow_8 : rx_ins mX10_bestRow 8 = some (1, 9, (-1), 0, 0, []) := rx_at tbX10_bestRow ndX10_bestRow (j := 4) rfl
theorem iX10_bestRow_9 : rx_ins mX10_bestRow 9 = some (14, 12, 6, 3, 15, []) := rx_at tbX10_bestRow ndX10_bestRow (j := 5) rfl
theorem iX10_bestRow_15 : rx_ins mX10_bestRow 15 = some (3, 16, 0, 0, 0, []) := rx_at tbX10_bestRow ndX10_bestRow (j := 8) rfl
theorem iX10_bestRow_16 : rx_ins mX10_bestRow 16 = some (18, 19, 0, 10, 0, [(12, 75)]) := rx_at tbX10_bestRow ndX10_bestRow (j := 9) rfl
theorem iX10_bestRow_19 : rx_ins mX10_bestRow 19 = some (2, 20, 0, 1, 0, []) := rx_at tbX10_bestRow ndX10_bestRow (j := 10) rfl
theorem iX10_bestRow_20 : rx_ins mX10_bestRow 20 = some (28, 23, 3, 14, 2, [(280, 181)]) := rx_at tbX10_bestRow ndX10_bestRow (j := 11) rfl
theorem iX10_bestRow_23 : rx_ins mX10_bestRow 23 = some (4, 24, 0, 3, 0, []) := rx_at tbX10_bestRow ndX10_bestRow (j := 12) rfl
theorem iX10_bestRow_24 : rx_ins mX10_bestRow 24 = some (2, 25, 0, 3, 0, []) := rx_at tbX10_bestRow ndX10_bestRow (j := 13) rfl
theorem iX10_bestRow_25 : rx_ins mX10_bestRow 25 = some (1, 26, 5, 0, 0, []) := rx_at tbX10_bestRow ndX10_bestRow (j := 14) rfl
theorem iX10_bestRow_26 : rx_ins mX10_bestRow 26 = some (14, 29, 6, 5, 32, []) := rx_at tbX10_bestRow ndX10_bestRow (j := 15) rfl
theorem iX10_bestRow_32 : rx_ins mX10_bestRow 32 = some (2, 33, 0, 2, 0, []) := rx_at tbX10_bestRow ndX10_bestRow (j := 18) rfl
theorem iX10_bestRow_33 : rx_ins mX10_bestRow 33 = some (2, 34, 0, 3, 0, []) := rx_at tbX10_bestRow ndX10_bestRow (j := 19) rfl
theorem iX10_bestRow_34 : rx_ins mX10_bestRow 34 = some (14, 37, 6, 2, 40, []) := rx_at tbX10_bestRow ndX10_bestRow (j := 20) rfl
theorem iX10_bestRow_40 : rx_ins mX10_bestRow 40 = some (3, 41, 0, 0, 0, []) := rx_at tbX10_bestRow ndX10_bestRow (j := 23) rfl
theorem iX10_bestRow_41 : rx_ins mX10_bestRow 41 = some (18, 44, 0, 10, 5, [(38, 85)]) := rx_at tbX10_bestRow ndX10_bestRow (j := 24) rfl
theorem iX10_bestRow_44 : rx_ins mX10_bestRow 44 = some (3, 45, 0, 0, 0, []) := rx_at tbX10_bestRow ndX10_bestRow (j := 25) rfl
theorem iX10_bestRow_45 : rx_ins mX10_bestRow 45 = some (18, 48, 0, 10, 0, [(12, 75)]) := rx_at tbX10_bestRow ndX10_bestRow (j := 26) rfl
theorem iX10_bestRow_48 : rx_ins mX10_bestRow 48 = some (28, 51, 2, 2, 2, [(206, 168)]) := rx_at tbX10_bestRow ndX10_bestRow (j := 27) rfl
theorem iX10_bestRow_51 : rx_ins mX10_bestRow 51 = some (3, 52, 0, 0, 0, []) := rx_at tbX10_bestRow ndX10_bestRow (j := 28) rfl
theorem iX10_bestRow_52 : rx_ins mX10_bestRow 52 = some (18, 55, 0, 10, 2, [(21, 88)]) := rx_at tbX10_bestRow ndX10_bestRow (j := 29) rfl
theorem iX10_bestRow_55 : rx_ins mX10_bestRow 55 = some (3, 56, 0, 0, 0, []) := rx_at tbX10_bestRow ndX10_bestRow (j := 30) rfl
theorem iX10_bestRow_56 : rx_ins mX10_bestRow 56 = some (18, 59, 0, 10, 0, [(12, 75)]) := rx_at tbX10_bestRow ndX10_bestRow (j := 31) rfl
theorem iX10_bestRow_59 : rx_ins mX10_bestRow 59 = some (28, 62, 3, 5, 2, [(210, 169)]) := rx_at tbX10_bestRow ndX10_bestRow (j := 32) rfl
theorem iX10_bestRow_62 : rx_ins mX10_bestRow 62 = some (3, 63, 0, 0, 0, []) := rx_at tbX10_bestRow ndX10_bestRow (j := 33) rfl
theorem iX10_bestRow_63 : rx_ins mX10_bestRow 63 = some (18, 66, 0, 10, 9, [(66, 103)]) := rx_at tbX10_bestRow ndX10_bestRow (j := 34) rfl
theorem iX10_bestRow_66 : rx_ins mX10_bestRow 66 = some (3, 67, 0, 0, 0, []) := rx_at tbX10_bestRow ndX10_bestRow (j := 35) rfl
theorem iX10_bestRow_67 : rx_ins mX10_bestRow 67 = some (18, 70, 0, 10, 2, [(21, 88)]) := rx_at tbX10_bestRow ndX10_bestRow (j := 36) rfl
theorem iX10_bestRow_70 : rx_ins mX10_bestRow 70 = some (2, 71, 0, 1, 0, []) := rx_at tbX10_bestRow ndX10_bestRow (j := 37) rfl
theorem iX10_bestRow_71 : rx_ins mX10_bestRow 71 = some (3, 72, 0, 0, 0, []) := rx_at tbX10_bestRow ndX10_bestRow (j := 38) rfl
theorem iX10_bestRow_72 : rx_ins mX10_bestRow 72 = some (18, 75, 0, 10, 5, [(38, 85)]) := rx_at tbX10_bestRow ndX10_bestRow (j := 39) rfl
theorem iX10_bestRow_75 : rx_ins mX10_bestRow 75 = some (28, 78, 8, 62, 4, [(283, 182)]) := rx_at tbX10_bestRow ndX10_bestRow (j := 40) rfl
theorem iX10_bestRow_78 : rx_ins mX10_bestRow 78 = some (2, 79, 0, 2, 0, []) := rx_at tbX10_bestRow ndX10_bestRow (j := 41) rfl
theorem iX10_bestRow_79 : rx_ins mX10_bestRow 79 = some (1, 80, (-1), 0, 0, []) := rx_at tbX10_bestRow ndX10_bestRow (j := 42) rfl
theorem iX10_bestRow_80 : rx_ins mX10_bestRow 80 = some (14, 83, 13, 1, 93, []) := rx_at tbX10_bestRow ndX10_bestRow (j := 43) rfl
theorem iX10_bestRow_93 : rx_ins mX10_bestRow 93 = some (3, 94, 0, 0, 0, []) := rx_at tbX10_bestRow ndX10_bestRow (j := 48) rfl
theorem iX10_bestRow_94 : rx_ins mX10_bestRow 94 = some (18, 97, 0, 10, 9, [(66, 103)]) := rx_at tbX10_bestRow ndX10_bestRow (j := 49) rfl
theorem iX10_bestRow_97 : rx_ins mX10_bestRow 97 = some (18, 100, 0, 6, 0, [(287, 105)]) := rx_at tbX10_bestRow ndX10_bestRow (j := 50) rfl
theorem iX10_bestRow_100 : rx_ins mX10_bestRow 100 = some (2, 101, 0, 2, 0, []) := rx_at tbX10_bestRow ndX10_bestRow (j := 51) rfl
theorem iX10_bestRow_101 : rx_ins mX10_bestRow 101 = some (20, 102, 0, 0, 0, []) := rx_at tbX10_bestRow ndX10_bestRow (j := 52) rfl
theorem iX10_bestRow_102 : rx_ins mX10_bestRow 102 = some (29, 103, 0, 0, 0, []) := rx_at tbX10_bestRow ndX10_bestRow (j := 53) rfl
theorem iX10_bestRow_83 : rx_ins mX10_bestRow 83 = some (3, 84, 0, 0, 0, []) := rx_at tbX10_bestRow ndX10_bestRow (j := 44) rfl
theorem iX10_bestRow_84 : rx_ins mX10_bestRow 84 = some (18, 87, 0, 10, 9, [(66, 103)]) := rx_at tbX10_bestRow ndX10_bestRow (j := 45) rfl
theorem iX10_bestRow_87 : rx_ins mX10_bestRow 87 = some (17, 90, 0, 6, 1, [(286, 104)]) := rx_at tbX10_bestRow ndX10_bestRow (j := 46) rfl
theorem iX10_bestRow_90 : rx_ins mX10_bestRow 90 = some (15, 93, 12, 0, 102, []) := rx_at tbX10_bestRow ndX10_bestRow (j := 47) rfl
theorem iX10_bestRow_37 : rx_ins mX10_bestRow 37 = some (1, 39, (-1000000005), 3, 14, [(226, 0)]) := rx_at tbX10_bestRow ndX10_bestRow (j := 21) rfl
theorem iX10_bestRow_39 : rx_ins mX10_bestRow 39 = some (29, 40, 0, 0, 0, []) := rx_at tbX10_bestRow ndX10_bestRow (j := 22) rfl
theorem iX10_bestRow_29 : rx_ins mX10_bestRow 29 = some (1, 31, (-1000000002), 3, 11, [(127, 0)]) := rx_at tbX10_bestRow ndX10_bestRow (j := 16) rfl
theorem iX10_bestRow_31 : rx_ins mX10_bestRow 31 = some (29, 32, 0, 0, 0, []) := rx_at tbX10_bestRow ndX10_bestRow (j := 17) rfl
theorem iX10_deal_0 : rx_ins mX10_deal 0 = some (2, 1, 0, 1, 0, []) := rx_at tbX10_deal ndX10_deal (j := 0) rfl
theorem iX10_deal_1 : rx_ins mX10_deal 1 = some (13, 4, 8, 0, 9, []) := rx_at tbX10_deal ndX10_deal (j := 1) rfl
theorem iX10_deal_9 : rx_ins mX10_deal 9 = some (2, 10, 0, 2, 0, []) := rx_at tbX10_deal ndX10_deal (j := 5) rfl
theorem iX10_deal_10 : rx_ins mX10_deal 10 = some (1, 11, 1, 0, 0, []) := rx_at tbX10_deal ndX10_deal (j := 6) rfl
theorem iX10_deal_11 : rx_ins mX10_deal 11 = some (14, 14, 9, 2, 20, []) := rx_at tbX10_deal ndX10_deal (j := 7) rfl
theorem iX10_deal_20 : rx_ins mX10_deal 20 = some (1, 22, (-1000000001), 3, 10, [(103, 0)]) := rx_at tbX10_deal ndX10_deal (j := 11) rfl
theorem iX10_deal_22 : rx_ins mX10_deal 22 = some (29, 23, 0, 0, 0, []) := rx_at tbX10_deal ndX10_deal (j := 12) rfl
theorem iX10_deal_14 : rx_ins mX10_deal 14 = some (2, 15, 0, 2, 0, []) := rx_at tbX10_deal ndX10_deal (j := 8) rfl
theorem iX10_deal_15 : rx_ins mX10_deal 15 = some (1, 17, 20, 1, 0, []) := rx_at tbX10_deal ndX10_deal (j := 9) rfl
theorem iX10_deal_17 : rx_ins mX10_deal 17 = some (14, 20, 6, 5, 23, []) := rx_at tbX10_deal ndX10_deal (j := 10) rfl
theorem iX10_deal_23 : rx_ins mX10_deal 23 = some (2, 24, 0, 1, 0, []) := rx_at tbX10_deal ndX10_deal (j := 13) rfl
theorem iX10_deal_24 : rx_ins mX10_deal 24 = some (1, 25, 1, 0, 0, []) := rx_at tbX10_deal ndX10_deal (j := 14) rfl
theorem iX10_deal_25 : rx_ins mX10_deal 25 = some (14, 28, 16, 1, 41, []) := rx_at tbX10_deal ndX10_deal (j := 15) rfl
theorem iX10_deal_41 : rx_ins mX10_deal 41 = some (1, 42, 0, 0, 0, []) := rx_at tbX10_deal ndX10_deal (j := 22) rfl
theorem iX10_deal_42 : rx_ins mX10_deal 42 = some (4, 43, 0, 3, 0, []) := rx_at tbX10_deal ndX10_deal (j := 23) rfl
theorem iX10_deal_43 : rx_ins mX10_deal 43 = some (1, 44, 0, 0, 0, []) := rx_at tbX10_deal ndX10_deal (j := 24) rfl
theorem iX10_deal_44 : rx_ins mX10_deal 44 = some (4, 46, 1, 4, 0, []) := rx_at tbX10_deal ndX10_deal (j := 25) rfl
theorem iX10_deal_28 : rx_ins mX10_deal 28 = some (3, 29, 0, 0, 0, []) := rx_at tbX10_deal ndX10_deal (j := 16) rfl
theorem iX10_deal_29 : rx_ins mX10_deal 29 = some (18, 32, 0, 10, 0, [(12, 75)]) := rx_at tbX10_deal ndX10_deal (j := 17) rfl
theorem iX10_deal_32 : rx_ins mX10_deal 32 = some (17, 35, 0, 1, 0, [(194, 87)]) := rx_at tbX10_deal ndX10_deal (j := 18) rfl
theorem iX10_deal_35 : rx_ins mX10_deal 35 = some (13, 38, 6, 1, 41, []) := rx_at tbX10_deal ndX10_deal (j := 19) rfl
theorem iX10_deal_38 : rx_ins mX10_deal 38 = some (1, 40, (-1000000002), 3, 11, [(127, 0)]) := rx_at tbX10_deal ndX10_deal (j := 20) rfl
theorem iX10_deal_40 : rx_ins mX10_deal 40 = some (29, 41, 0, 0, 0, []) := rx_at tbX10_deal ndX10_deal (j := 21) rfl
theorem iX10_deal_4 : rx_ins mX10_deal 4 = some (2, 5, 0, 1, 0, []) := rx_at tbX10_deal ndX10_deal (j := 2) rfl
theorem iX10_deal_5 : rx_ins mX10_deal 5 = some (1, 6, 1, 0, 0, []) := rx_at tbX10_deal ndX10_deal (j := 3) rfl
theorem iX10_deal_6 : rx_ins mX10_deal 6 = some (14, 9, 14, 1, 20, []) := rx_at tbX10_deal ndX10_deal (j := 4) rfl
theorem iX10_deal_46 : rx_ins mX10_deal 46 = some (2, 48, 1, 4, 0, []) := rx_at tbX10_deal ndX10_deal (j := 26) rfl
theorem iX10_deal_48 : rx_ins mX10_deal 48 = some (2, 49, 0, 2, 0, []) := rx_at tbX10_deal ndX10_deal (j := 27) rfl
theorem iX10_deal_49 : rx_ins mX10_deal 49 = some (14, 52, 39, 3, 88, []) := rx_at tbX10_deal ndX10_deal (j := 28) rfl
theorem iX10_deal_88 : rx_ins mX10_deal 88 = some (2, 89, 0, 3, 0, []) := rx_at tbX10_deal ndX10_deal (j := 43) rfl
theorem iX10_deal_89 : rx_ins mX10_deal 89 = some (29, 90, 0, 0, 0, []) := rx_at tbX10_deal ndX10_deal (j := 44) rfl
theorem iX10_deal_52 : rx_ins mX10_deal 52 = some (2, 53, 0, 1, 0, []) := rx_at tbX10_deal ndX10_deal (j := 29) rfl
theorem iX10_deal_53 : rx_ins mX10_deal 53 = some (13, 56, 16, 1, 69, []) := rx_at tbX10_deal ndX10_deal (j := 30) rfl
theorem iX10_deal_69 : rx_ins mX10_deal 69 = some (3, 70, 0, 0, 0, []) := rx_at tbX10_deal ndX10_deal (j := 36) rfl
theorem iX10_deal_70 : rx_ins mX10_deal 70 = some (18, 73, 0, 10, 0, [(12, 75)]) := rx_at tbX10_deal ndX10_deal (j := 37) rfl
theorem iX10_deal_73 : rx_ins mX10_deal 73 = some (28, 76, 3, 22, 1, [(291, 184)]) := rx_at tbX10_deal ndX10_deal (j := 38) rfl
theorem iX10_deal_76 : rx_ins mX10_deal 76 = some (13, 79, 6, 0, 82, []) := rx_at tbX10_deal ndX10_deal (j := 39) rfl
theorem iX10_deal_82 : rx_ins mX10_deal 82 = some (6, 85, 1, 4, 0, []) := rx_at tbX10_deal ndX10_deal (j := 41) rfl
theorem iX10_deal_85 : rx_ins mX10_deal 85 = some (15, 88, (-39), 0, 46, []) := rx_at tbX10_deal ndX10_deal (j := 42) rfl
theorem iX10_deal_79 : rx_ins mX10_deal 79 = some (6, 82, 1, 3, 0, []) := rx_at tbX10_deal ndX10_deal (j := 40) rfl
theorem iX10_deal_56 : rx_ins mX10_deal 56 = some (3, 57, 0, 0, 0, []) := rx_at tbX10_deal ndX10_deal (j := 31) rfl
theorem iX10_deal_57 : rx_ins mX10_deal 57 = some (18, 60, 0, 10, 0, [(12, 75)]) := rx_at tbX10_deal ndX10_deal (j := 32) rfl
theorem iX10_deal_60 : rx_ins mX10_deal 60 = some (28, 63, 3, 21, 1, [(288, 183)]) := rx_at tbX10_deal ndX10_deal (j := 33) rfl
theorem iX10_deal_63 : rx_ins mX10_deal 63 = some (13, 66, 19, 0, 82, []) := rx_at tbX10_deal ndX10_deal (j := 34) rfl
theorem iX10_deal_66 : rx_ins mX10_deal 66 = some (15, 69, 13, 0, 79, []) := rx_at tbX10_deal ndX10_deal (j := 35) rfl
theorem iX10_seed_0 : rx_ins mX10_seed 0 = some (3, 1, 0, 0, 0, []) := rx_at tbX10_seed ndX10_seed (j := 0) rfl
theorem iX10_seed_1 : rx_ins mX10_seed 1 = some (18, 4, 0, 10, 0, [(12, 75)]) := rx_at tbX10_seed ndX10_seed (j := 1) rfl
theorem iX10_seed_4 : rx_ins mX10_seed 4 = some (17, 7, 0, 1, 13, [(294, 106)]) := rx_at tbX10_seed ndX10_seed (j := 2) rfl
theorem iX10_seed_7 : rx_ins mX10_seed 7 = some (4, 8, 0, 2, 0, []) := rx_at tbX10_seed ndX10_seed (j := 3) rfl
theorem iX10_seed_8 : rx_ins mX10_seed 8 = some (3, 9, 0, 0, 0, []) := rx_at tbX10_seed ndX10_seed (j := 4) rfl
theorem iX10_seed_9 : rx_ins mX10_seed 9 = some (18, 12, 0, 10, 0, [(12, 75)]) := rx_at tbX10_seed ndX10_seed (j := 5) rfl
theorem iX10_seed_12 : rx_ins mX10_seed 12 = some (2, 13, 0, 1, 0, []) := rx_at tbX10_seed ndX10_seed (j := 6) rfl
theorem iX10_seed_13 : rx_ins mX10_seed 13 = some (19, 16, 0, 1, 13, [(294, 106)]) := rx_at tbX10_seed ndX10_seed (j := 7) rfl
theorem iX10_seed_16 : rx_ins mX10_seed 16 = some (2, 17, 0, 2, 0, []) := rx_at tbX10_seed ndX10_seed (j := 8) rfl
theorem iX10_seed_17 : rx_ins mX10_seed 17 = some (29, 18, 0, 0, 0, []) := rx_at tbX10_seed ndX10_seed (j := 9) rfl
theorem iX10_feed_0 : rx_ins mX10_feed 0 = some (3, 1, 0, 0, 0, []) := rx_at tbX10_feed ndX10_feed (j := 0) rfl
theorem iX10_feed_1 : rx_ins mX10_feed 1 = some (18, 4, 0, 10, 4, [(31, 107)]) := rx_at tbX10_feed ndX10_feed (j := 1) rfl
theorem iX10_feed_4 : rx_ins mX10_feed 4 = some (17, 7, 0, 5, 0, [(297, 108)]) := rx_at tbX10_feed ndX10_feed (j := 2) rfl
theorem iX10_feed_7 : rx_ins mX10_feed 7 = some (1, 9, 12, 1, 0, []) := rx_at tbX10_feed ndX10_feed (j := 3) rfl
theorem iX10_feed_9 : rx_ins mX10_feed 9 = some (7, 10, 0, 0, 0, []) := rx_at tbX10_feed ndX10_feed (j := 4) rfl
theorem iX10_feed_10 : rx_ins mX10_feed 10 = some (1, 12, 96, 1, 0, []) := rx_at tbX10_feed ndX10_feed (j := 5) rfl
theorem iX10_feed_12 : rx_ins mX10_feed 12 = some (14, 15, 7, 5, 19, []) := rx_at tbX10_feed ndX10_feed (j := 6) rfl
theorem iX10_feed_19 : rx_ins mX10_feed 19 = some (3, 20, 0, 0, 0, []) := rx_at tbX10_feed ndX10_feed (j := 9) rfl
theorem iX10_feed_20 : rx_ins mX10_feed 20 = some (18, 23, 0, 10, 4, [(31, 107)]) := rx_at tbX10_feed ndX10_feed (j := 10) rfl
theorem iX10_feed_23 : rx_ins mX10_feed 23 = some (2, 24, 0, 1, 0, []) := rx_at tbX10_feed ndX10_feed (j := 11) rfl
theorem iX10_feed_24 : rx_ins mX10_feed 24 = some (28, 27, 7, 47, 2, [(301, 185)]) := rx_at tbX10_feed ndX10_feed (j := 12) rfl
theorem iX10_feed_27 : rx_ins mX10_feed 27 = some (3, 28, 0, 0, 0, []) := rx_at tbX10_feed ndX10_feed (j := 13) rfl
theorem iX10_feed_28 : rx_ins mX10_feed 28 = some (18, 31, 0, 10, 4, [(31, 107)]) := rx_at tbX10_feed ndX10_feed (j := 14) rfl
theorem iX10_feed_31 : rx_ins mX10_feed 31 = some (2, 32, 0, 2, 0, []) := rx_at tbX10_feed ndX10_feed (j := 15) rfl
theorem iX10_feed_32 : rx_ins mX10_feed 32 = some (28, 35, 7, 47, 2, [(301, 185)]) := rx_at tbX10_feed ndX10_feed (j := 16) rfl
theorem iX10_feed_35 : rx_ins mX10_feed 35 = some (3, 36, 0, 0, 0, []) := rx_at tbX10_feed ndX10_feed (j := 17) rfl
theorem iX10_feed_36 : rx_ins mX10_feed 36 = some (18, 39, 0, 10, 4, [(31, 107)]) := rx_at tbX10_feed ndX10_feed (j := 18) rfl
theorem iX10_feed_39 : rx_ins mX10_feed 39 = some (2, 40, 0, 3, 0, []) := rx_at tbX10_feed ndX10_feed (j := 19) rfl
theorem iX10_feed_40 : rx_ins mX10_feed 40 = some (28, 43, 7, 47, 2, [(301, 185)]) := rx_at tbX10_feed ndX10_feed (j := 20) rfl
theorem iX10_feed_43 : rx_ins mX10_feed 43 = some (3, 44, 0, 0, 0, []) := rx_at tbX10_feed ndX10_feed (j := 21) rfl
theorem iX10_feed_44 : rx_ins mX10_feed 44 = some (18, 47, 0, 10, 4, [(31, 107)]) := rx_at tbX10_feed ndX10_feed (j := 22) rfl
theorem iX10_feed_47 : rx_ins mX10_feed 47 = some (17, 50, 0, 5, 0, [(297, 108)]) := rx_at tbX10_feed ndX10_feed (j := 23) rfl
theorem iX10_feed_50 : rx_ins mX10_feed 50 = some (29, 51, 0, 0, 0, []) := rx_at tbX10_feed ndX10_feed (j := 24) rfl
theorem iX10_feed_15 : rx_ins mX10_feed 15 = some (1, 18, (-1000000003), 4, 17, [(300, 0)]) := rx_at tbX10_feed ndX10_feed (j := 7) rfl
theorem iX10_feed_18 : rx_ins mX10_feed 18 = some (29, 19, 0, 0, 0, []) := rx_at tbX10_feed ndX10_feed (j := 8) rfl
theorem iX10_trim_0 : rx_ins mX10_trim 0 = some (2, 1, 0, 1, 0, []) := rx_at tbX10_trim ndX10_trim (j := 0) rfl
theorem iX10_trim_1 : rx_ins mX10_trim 1 = some (13, 4, 14, 2, 15, []) := rx_at tbX10_trim ndX10_trim (j := 1) rfl
theorem iX10_trim_15 : rx_ins mX10_trim 15 = some (1, 17, (-1000000001), 3, 10, [(103, 0)]) := rx_at tbX10_trim ndX10_trim (j := 7) rfl
theorem iX10_trim_17 : rx_ins mX10_trim 17 = some (29, 18, 0, 0, 0, []) := rx_at tbX10_trim ndX10_trim (j := 8) rfl
theorem iX10_trim_4 : rx_ins mX10_trim 4 = some (2, 5, 0, 1, 0, []) := rx_at tbX10_trim ndX10_trim (j := 2) rfl
theorem iX10_trim_5 : rx_ins mX10_trim 5 = some (3, 6, 0, 0, 0, []) := rx_at tbX10_trim ndX10_trim (j := 3) rfl
theorem iX10_trim_6 : rx_ins mX10_trim 6 = some (18, 9, 0, 10, 4, [(31, 107)]) := rx_at tbX10_trim ndX10_trim (j := 4) rfl
theorem iX10_trim_9 : rx_ins mX10_trim 9 = some (17, 12, 0, 5, 0, [(297, 108)]) := rx_at tbX10_trim ndX10_trim (j := 5) rfl
theorem iX10_trim_12 : rx_ins mX10_trim 12 = some (14, 15, 6, 5, 18, []) := rx_at tbX10_trim ndX10_trim (j := 6) rfl
theorem iX10_trim_18 : rx_ins mX10_trim 18 = some (3, 19, 0, 0, 0, []) := rx_at tbX10_trim ndX10_trim (j := 9) rfl
theorem iX10_trim_19 : rx_ins mX10_trim 19 = some (18, 22, 0, 10, 4, [(31, 107)]) := rx_at tbX10_trim ndX10_trim (j := 10) rfl
theorem iX10_trim_22 : rx_ins mX10_trim 22 = some (2, 23, 0, 1, 0, []) := rx_at tbX10_trim ndX10_trim (j := 11) rfl
theorem iX10_trim_23 : rx_ins mX10_trim 23 = some (19, 26, 0, 5, 0, [(297, 108)]) := rx_at tbX10_trim ndX10_trim (j := 12) rfl
theorem iX10_trim_26 : rx_ins mX10_trim 26 = some (2, 27, 0, 1, 0, []) := rx_at tbX10_trim ndX10_trim (j := 13) rfl
theorem iX10_trim_27 : rx_ins mX10_trim 27 = some (29, 28, 0, 0, 0, []) := rx_at tbX10_trim ndX10_trim (j := 14) rfl
theorem iX10_text_0 : rx_ins mX10_text 0 = some (3, 1, 0, 0, 0, []) := rx_at tbX10_text ndX10_text (j := 0) rfl
theorem iX10_text_1 : rx_ins mX10_text 1 = some (18, 4, 0, 10, 4, [(31, 107)]) := rx_at tbX10_text ndX10_text (j := 1) rfl
theorem iX10_text_4 : rx_ins mX10_text 4 = some (28, 7, 7, 48, 1, [(304, 186)]) := rx_at tbX10_text ndX10_text (j := 2) rfl
theorem iX10_text_7 : rx_ins mX10_text 7 = some (4, 8, 0, 1, 0, []) := rx_at tbX10_text ndX10_text (j := 3) rfl
theorem iX10_text_8 : rx_ins mX10_text 8 = some (3, 9, 0, 0, 0, []) := rx_at tbX10_text ndX10_text (j := 4) rfl
theorem iX10_text_9 : rx_ins mX10_text 9 = some (18, 12, 0, 10, 4, [(31, 107)]) := rx_at tbX10_text ndX10_text (j := 5) rfl
theorem iX10_text_12 : rx_ins mX10_text 12 = some (1, 13, 0, 0, 0, []) := rx_at tbX10_text ndX10_text (j := 6) rfl
theorem iX10_text_13 : rx_ins mX10_text 13 = some (19, 16, 0, 5, 0, [(297, 108)]) := rx_at tbX10_text ndX10_text (j := 7) rfl
theorem iX10_text_16 : rx_ins mX10_text 16 = some (2, 17, 0, 1, 0, []) := rx_at tbX10_text ndX10_text (j := 8) rfl
theorem iX10_text_17 : rx_ins mX10_text 17 = some (13, 20, 8, 2, 25, []) := rx_at tbX10_text ndX10_text (j := 9) rfl
theorem iX10_text_25 : rx_ins mX10_text 25 = some (3, 26, 0, 0, 0, []) := rx_at tbX10_text ndX10_text (j := 14) rfl
theorem iX10_text_26 : rx_ins mX10_text 26 = some (18, 29, 0, 10, 0, [(12, 75)]) := rx_at tbX10_text ndX10_text (j := 15) rfl
theorem iX10_text_29 : rx_ins mX10_text 29 = some (17, 32, 0, 1, 12, [(307, 109)]) := rx_at tbX10_text ndX10_text (j := 16) rfl
theorem iX10_text_32 : rx_ins mX10_text 32 = some (1, 34, 14, 1, 0, []) := rx_at tbX10_text ndX10_text (j := 17) rfl
theorem iX10_text_34 : rx_ins mX10_text 34 = some (14, 37, 7, 2, 41, []) := rx_at tbX10_text ndX10_text (j := 18) rfl
theorem iX10_text_41 : rx_ins mX10_text 41 = some (3, 42, 0, 0, 0, []) := rx_at tbX10_text ndX10_text (j := 21) rfl
theorem iX10_text_42 : rx_ins mX10_text 42 = some (18, 45, 0, 10, 5, [(38, 85)]) := rx_at tbX10_text ndX10_text (j := 22) rfl
theorem iX10_text_45 : rx_ins mX10_text 45 = some (18, 48, 0, 0, 0, [(310, 110)]) := rx_at tbX10_text ndX10_text (j := 23) rfl
theorem iX10_text_48 : rx_ins mX10_text 48 = some (3, 49, 0, 0, 0, []) := rx_at tbX10_text ndX10_text (j := 24) rfl
theorem iX10_text_49 : rx_ins mX10_text 49 = some (18, 52, 0, 10, 0, [(12, 75)]) := rx_at tbX10_text ndX10_text (j := 25) rfl
theorem iX10_text_52 : rx_ins mX10_text 52 = some (17, 55, 0, 1, 12, [(307, 109)]) := rx_at tbX10_text ndX10_text (j := 26) rfl
theorem iX10_text_55 : rx_ins mX10_text 55 = some (3, 56, 0, 0, 0, []) := rx_at tbX10_text ndX10_text (j := 27) rfl
theorem iX10_text_56 : rx_ins mX10_text 56 = some (18, 59, 0, 10, 4, [(31, 107)]) := rx_at tbX10_text ndX10_text (j := 28) rfl
theorem iX10_text_59 : rx_ins mX10_text 59 = some (28, 62, 4, 35, 3, [(314, 187)]) := rx_at tbX10_text ndX10_text (j := 29) rfl
theorem iX10_text_62 : rx_ins mX10_text 62 = some (3, 63, 0, 0, 0, []) := rx_at tbX10_text ndX10_text (j := 30) rfl
theorem iX10_text_63 : rx_ins mX10_text 63 = some (18, 66, 0, 10, 0, [(12, 75)]) := rx_at tbX10_text ndX10_text (j := 31) rfl
theorem iX10_text_66 : rx_ins mX10_text 66 = some (10, 67, 0, 0, 0, []) := rx_at tbX10_text ndX10_text (j := 32) rfl
theorem iX10_text_67 : rx_ins mX10_text 67 = some (17, 70, 0, 1, 12, [(307, 109)]) := rx_at tbX10_text ndX10_text (j := 33) rfl
theorem iX10_text_70 : rx_ins mX10_text 70 = some (1, 71, 1, 0, 0, []) := rx_at tbX10_text ndX10_text (j := 34) rfl
theorem iX10_text_71 : rx_ins mX10_text 71 = some (7, 72, 0, 0, 0, []) := rx_at tbX10_text ndX10_text (j := 35) rfl
theorem iX10_text_72 : rx_ins mX10_text 72 = some (19, 75, 0, 1, 12, [(307, 109)]) := rx_at tbX10_text ndX10_text (j := 36) rfl
theorem iX10_text_75 : rx_ins mX10_text 75 = some (3, 76, 0, 0, 0, []) := rx_at tbX10_text ndX10_text (j := 37) rfl
theorem iX10_text_76 : rx_ins mX10_text 76 = some (18, 79, 0, 10, 0, [(12, 75)]) := rx_at tbX10_text ndX10_text (j := 38) rfl
theorem iX10_text_79 : rx_ins mX10_text 79 = some (17, 82, 0, 1, 12, [(307, 109)]) := rx_at tbX10_text ndX10_text (j := 39) rfl
theorem iX10_text_82 : rx_ins mX10_text 82 = some (1, 83, 1, 0, 0, []) := rx_at tbX10_text ndX10_text (j := 40) rfl
theorem iX10_text_83 : rx_ins mX10_text 83 = some (7, 84, 0, 1, 0, []) := rx_at tbX10_text ndX10_text (j := 41) rfl
theorem iX10_text_84 : rx_ins mX10_text 84 = some (29, 85, 0, 0, 0, []) := rx_at tbX10_text ndX10_text (j := 42) rfl
theorem iX10_text_37 : rx_ins mX10_text 37 = some (1, 40, (-1000000003), 4, 17, [(300, 0)]) := rx_at tbX10_text ndX10_text (j := 19) rfl
theorem iX10_text_40 : rx_ins mX10_text 40 = some (29, 41, 0, 0, 0, []) := rx_at tbX10_text ndX10_text (j := 20) rfl
theorem iX10_text_20 : rx_ins mX10_text 20 = some (1, 22, (-100), 1, 0, []) := rx_at tbX10_text ndX10_text (j := 10) rfl
theorem iX10_text_22 : rx_ins mX10_text 22 = some (2, 23, 0, 1, 0, []) := rx_at tbX10_text ndX10_text (j := 11) rfl
theorem iX10_text_23 : rx_ins mX10_text 23 = some (7, 24, 0, 1, 0, []) := rx_at tbX10_text ndX10_text (j := 12) rfl
theorem iX10_text_24 : rx_ins mX10_text 24 = some (29, 25, 0, 0, 0, []) := rx_at tbX10_text ndX10_text (j := 13) rfl
theorem iX10_textTold_0 : rx_ins mX10_textTold 0 = some (2, 1, 0, 1, 0, []) := rx_at tbX10_textTold ndX10_textTold (j := 0) rfl
theorem iX10_textTold_1 : rx_ins mX10_textTold 1 = some (13, 4, 14, 2, 15, []) := rx_at tbX10_textTold ndX10_textTold (j := 1) rfl
theorem iX10_textTold_15 : rx_ins mX10_textTold 15 = some (1, 17, (-1000000001), 3, 10, [(103, 0)]) := rx_at tbX10_textTold ndX10_textTold (j := 7) rfl
theorem iX10_textTold_17 : rx_ins mX10_textTold 17 = some (29, 18, 0, 0, 0, []) := rx_at tbX10_textTold ndX10_textTold (j := 8) rfl
theorem iX10_textTold_4 : rx_ins mX10_textTold 4 = some (2, 5, 0, 1, 0, []) := rx_at tbX10_textTold ndX10_textTold (j := 2) rfl
theorem iX10_textTold_5 : rx_ins mX10_textTold 5 = some (3, 6, 0, 0, 0, []) := rx_at tbX10_textTold ndX10_textTold (j := 3) rfl
theorem iX10_textTold_6 : rx_ins mX10_textTold 6 = some (18, 9, 0, 10, 0, [(12, 75)]) := rx_at tbX10_textTold ndX10_textTold (j := 4) rfl
theorem iX10_textTold_9 : rx_ins mX10_textTold 9 = some (17, 12, 0, 1, 12, [(307, 109)]) := rx_at tbX10_textTold ndX10_textTold (j := 5) rfl
theorem iX10_textTold_12 : rx_ins mX10_textTold 12 = some (14, 15, 6, 2, 18, []) := rx_at tbX10_textTold ndX10_textTold (j := 6) rfl
theorem iX10_textTold_18 : rx_ins mX10_textTold 18 = some (2, 19, 0, 2, 0, []) := rx_at tbX10_textTold ndX10_textTold (j := 9) rfl
theorem iX10_textTold_19 : rx_ins mX10_textTold 19 = some (16, 44, 1, 0, 70, [(0, 44), (1, 57)]) := rx_at tbX10_textTold ndX10_textTold (j := 10) rfl
theorem iX10_textTold_44 : rx_ins mX10_textTold 44 = some (3, 45, 0, 0, 0, []) := rx_at tbX10_textTold ndX10_textTold (j := 11) rfl
theorem iX10_textTold_45 : rx_ins mX10_textTold 45 = some (18, 48, 0, 10, 5, [(38, 85)]) := rx_at tbX10_textTold ndX10_textTold (j := 12) rfl
theorem iX10_textTold_48 : rx_ins mX10_textTold 48 = some (18, 51, 0, 0, 0, [(310, 110)]) := rx_at tbX10_textTold ndX10_textTold (j := 13) rfl
theorem iX10_textTold_51 : rx_ins mX10_textTold 51 = some (18, 54, 0, 2, 0, [(320, 111)]) := rx_at tbX10_textTold ndX10_textTold (j := 14) rfl
theorem iX10_textTold_54 : rx_ins mX10_textTold 54 = some (2, 55, 0, 1, 0, []) := rx_at tbX10_textTold ndX10_textTold (j := 15) rfl
theorem iX10_textTold_55 : rx_ins mX10_textTold 55 = some (20, 56, 0, 0, 0, []) := rx_at tbX10_textTold ndX10_textTold (j := 16) rfl
theorem iX10_textTold_56 : rx_ins mX10_textTold 56 = some (29, 57, 0, 0, 0, []) := rx_at tbX10_textTold ndX10_textTold (j := 17) rfl
theorem iX10_textTold_57 : rx_ins mX10_textTold 57 = some (3, 58, 0, 0, 0, []) := rx_at tbX10_textTold ndX10_textTold (j := 18) rfl
theorem iX10_textTold_58 : rx_ins mX10_textTold 58 = some (18, 61, 0, 10, 5, [(38, 85)]) := rx_at tbX10_textTold ndX10_textTold (j := 19) rfl
theorem iX10_textTold_61 : rx_ins mX10_textTold 61 = some (18, 64, 0, 0, 0, [(310, 110)]) := rx_at tbX10_textTold ndX10_textTold (j := 20) rfl
theorem iX10_textTold_64 : rx_ins mX10_textTold 64 = some (18, 67, 0, 2, 1, [(323, 112)]) := rx_at tbX10_textTold ndX10_textTold (j := 21) rfl
theorem iX10_textTold_67 : rx_ins mX10_textTold 67 = some (2, 68, 0, 1, 0, []) := rx_at tbX10_textTold ndX10_textTold (j := 22) rfl
theorem iX10_textTold_68 : rx_ins mX10_textTold 68 = some (20, 69, 0, 0, 0, []) := rx_at tbX10_textTold ndX10_textTold (j := 23) rfl
theorem iX10_textTold_69 : rx_ins mX10_textTold 69 = some (29, 70, 0, 0, 0, []) := rx_at tbX10_textTold ndX10_textTold (j := 24) rfl
theorem iX10_textTold_70 : rx_ins mX10_textTold 70 = some (1, 72, (-1000000001), 3, 10, [(103, 0)]) := rx_at tbX10_textTold ndX10_textTold (j := 25) rfl
theorem iX10_textTold_72 : rx_ins mX10_textTold 72 = some (29, 73, 0, 0, 0, []) := rx_at tbX10_textTold ndX10_textTold (j := 26) rfl
theorem iX10_why_0 : rx_ins mX10_why 0 = some (2, 1, 0, 1, 0, []) := rx_at tbX10_why ndX10_why (j := 0) rfl
theorem iX10_why_1 : rx_ins mX10_why 1 = some (13, 4, 8, 2, 9, []) := rx_at tbX10_why ndX10_why (j := 1) rfl
theorem iX10_why_9 : rx_ins mX10_why 9 = some (1, 11, (-1000000001), 3, 10, [(103, 0)]) := rx_at tbX10_why ndX10_why (j := 5) rfl
theorem iX10_why_11 : rx_ins mX10_why 11 = some (29, 12, 0, 0, 0, []) := rx_at tbX10_why ndX10_why (j := 6) rfl
theorem iX10_why_4 : rx_ins mX10_why 4 = some (2, 5, 0, 1, 0, []) := rx_at tbX10_why ndX10_why (j := 2) rfl
theorem iX10_why_5 : rx_ins mX10_why 5 = some (1, 6, 3, 0, 0, []) := rx_at tbX10_why ndX10_why (j := 3) rfl
theorem iX10_why_6 : rx_ins mX10_why 6 = some (14, 9, 6, 2, 12, []) := rx_at tbX10_why ndX10_why (j := 4) rfl
theorem iX10_why_12 : rx_ins mX10_why 12 = some (3, 13, 0, 0, 0, []) := rx_at tbX10_why ndX10_why (j := 7) rfl
theorem iX10_why_13 : rx_ins mX10_why 13 = some (18, 16, 0, 10, 5, [(38, 85)]) := rx_at tbX10_why ndX10_why (j := 8) rfl
theorem iX10_why_16 : rx_ins mX10_why 16 = some (18, 19, 0, 0, 0, [(310, 110)]) := rx_at tbX10_why ndX10_why (j := 9) rfl
theorem iX10_why_19 : rx_ins mX10_why 19 = some (3, 20, 0, 0, 0, []) := rx_at tbX10_why ndX10_why (j := 10) rfl
theorem iX10_why_20 : rx_ins mX10_why 20 = some (18, 23, 0, 10, 0, [(12, 75)]) := rx_at tbX10_why ndX10_why (j := 11) rfl
theorem iX10_why_23 : rx_ins mX10_why 23 = some (17, 26, 0, 1, 12, [(307, 109)]) := rx_at tbX10_why ndX10_why (j := 12) rfl
theorem iX10_why_26 : rx_ins mX10_why 26 = some (2, 27, 0, 1, 0, []) := rx_at tbX10_why ndX10_why (j := 13) rfl
theorem iX10_why_27 : rx_ins mX10_why 27 = some (28, 30, 4, 36, 3, [(326, 188)]) := rx_at tbX10_why ndX10_why (j := 14) rfl
theorem iX10_why_30 : rx_ins mX10_why 30 = some (4, 31, 0, 2, 0, []) := rx_at tbX10_why ndX10_why (j := 15) rfl
theorem iX10_why_31 : rx_ins mX10_why 31 = some (2, 32, 0, 2, 0, []) := rx_at tbX10_why ndX10_why (j := 16) rfl
theorem iX10_why_32 : rx_ins mX10_why 32 = some (13, 35, 8, 3, 40, []) := rx_at tbX10_why ndX10_why (j := 17) rfl
theorem iX10_why_40 : rx_ins mX10_why 40 = some (2, 41, 0, 2, 0, []) := rx_at tbX10_why ndX10_why (j := 20) rfl
theorem iX10_why_41 : rx_ins mX10_why 41 = some (29, 42, 0, 0, 0, []) := rx_at tbX10_why ndX10_why (j := 21) rfl
theorem iX10_why_35 : rx_ins mX10_why 35 = some (1, 37, (-1000000005), 3, 14, [(226, 0)]) := rx_at tbX10_why ndX10_why (j := 18) rfl
theorem iX10_why_37 : rx_ins mX10_why 37 = some (15, 40, 4, 0, 41, []) := rx_at tbX10_why ndX10_why (j := 19) rfl
theorem iX10_sheet_0 : rx_ins mX10_sheet 0 = some (2, 1, 0, 1, 0, []) := rx_at tbX10_sheet ndX10_sheet (j := 0) rfl
theorem iX10_sheet_1 : rx_ins mX10_sheet 1 = some (28, 4, 0, 127, 1, [(239, 174)]) := rx_at tbX10_sheet ndX10_sheet (j := 1) rfl
theorem iX10_sheet_4 : rx_ins mX10_sheet 4 = some (13, 7, 13, 0, 17, []) := rx_at tbX10_sheet ndX10_sheet (j := 2) rfl
theorem iX10_sheet_17 : rx_ins mX10_sheet 17 = some (1, 19, (-1000000001), 3, 10, [(103, 0)]) := rx_at tbX10_sheet ndX10_sheet (j := 9) rfl
theorem iX10_sheet_19 : rx_ins mX10_sheet 19 = some (29, 20, 0, 0, 0, []) := rx_at tbX10_sheet ndX10_sheet (j := 10) rfl
theorem iX10_sheet_7 : rx_ins mX10_sheet 7 = some (2, 8, 0, 2, 0, []) := rx_at tbX10_sheet ndX10_sheet (j := 3) rfl
theorem iX10_sheet_8 : rx_ins mX10_sheet 8 = some (1, 9, (-1), 0, 0, []) := rx_at tbX10_sheet ndX10_sheet (j := 4) rfl
theorem iX10_sheet_9 : rx_ins mX10_sheet 9 = some (14, 12, 8, 2, 17, []) := rx_at tbX10_sheet ndX10_sheet (j := 5) rfl
theorem iX10_sheet_12 : rx_ins mX10_sheet 12 = some (2, 13, 0, 2, 0, []) := rx_at tbX10_sheet ndX10_sheet (j := 6) rfl
theorem iX10_sheet_13 : rx_ins mX10_sheet 13 = some (1, 14, 1, 0, 0, []) := rx_at tbX10_sheet ndX10_sheet (j := 7) rfl
theorem iX10_sheet_14 : rx_ins mX10_sheet 14 = some (14, 17, 6, 5, 20, []) := rx_at tbX10_sheet ndX10_sheet (j := 8) rfl
theorem iX10_sheet_20 : rx_ins mX10_sheet 20 = some (2, 21, 0, 2, 0, []) := rx_at tbX10_sheet ndX10_sheet (j := 11) rfl
theorem iX10_sheet_21 : rx_ins mX10_sheet 21 = some (1, 22, (-1), 0, 0, []) := rx_at tbX10_sheet ndX10_sheet (j := 12) rfl
theorem iX10_sheet_22 : rx_ins mX10_sheet 22 = some (14, 25, 16, 1, 38, []) := rx_at tbX10_sheet ndX10_sheet (j := 13) rfl
theorem iX10_sheet_38 : rx_ins mX10_sheet 38 = some (2, 39, 0, 3, 0, []) := rx_at tbX10_sheet ndX10_sheet (j := 23) rfl
theorem iX10_sheet_39 : rx_ins mX10_sheet 39 = some (1, 41, 24, 1, 0, []) := rx_at tbX10_sheet ndX10_sheet (j := 24) rfl
theorem iX10_sheet_41 : rx_ins mX10_sheet 41 = some (14, 44, 6, 5, 47, []) := rx_at tbX10_sheet ndX10_sheet (j := 25) rfl
theorem iX10_sheet_47 : rx_ins mX10_sheet 47 = some (2, 48, 0, 3, 0, []) := rx_at tbX10_sheet ndX10_sheet (j := 28) rfl
theorem iX10_sheet_48 : rx_ins mX10_sheet 48 = some (13, 51, 6, 3, 54, []) := rx_at tbX10_sheet ndX10_sheet (j := 29) rfl
theorem iX10_sheet_54 : rx_ins mX10_sheet 54 = some (3, 55, 0, 0, 0, []) := rx_at tbX10_sheet ndX10_sheet (j := 32) rfl
theorem iX10_sheet_55 : rx_ins mX10_sheet 55 = some (18, 58, 0, 10, 10, [(72, 93)]) := rx_at tbX10_sheet ndX10_sheet (j := 33) rfl
theorem iX10_sheet_58 : rx_ins mX10_sheet 58 = some (2, 59, 0, 1, 0, []) := rx_at tbX10_sheet ndX10_sheet (j := 34) rfl
theorem iX10_sheet_59 : rx_ins mX10_sheet 59 = some (22, 60, 0, 0, 0, []) := rx_at tbX10_sheet ndX10_sheet (j := 35) rfl
theorem iX10_sheet_60 : rx_ins mX10_sheet 60 = some (2, 61, 0, 2, 0, []) := rx_at tbX10_sheet ndX10_sheet (j := 36) rfl
theorem iX10_sheet_61 : rx_ins mX10_sheet 61 = some (2, 62, 0, 3, 0, []) := rx_at tbX10_sheet ndX10_sheet (j := 37) rfl
theorem iX10_sheet_62 : rx_ins mX10_sheet 62 = some (28, 65, 9, 66, 3, [(329, 189)]) := rx_at tbX10_sheet ndX10_sheet (j := 38) rfl
theorem iX10_sheet_65 : rx_ins mX10_sheet 65 = some (2, 66, 0, 3, 0, []) := rx_at tbX10_sheet ndX10_sheet (j := 39) rfl
theorem iX10_sheet_66 : rx_ins mX10_sheet 66 = some (29, 67, 0, 0, 0, []) := rx_at tbX10_sheet ndX10_sheet (j := 40) rfl
theorem iX10_sheet_51 : rx_ins mX10_sheet 51 = some (1, 53, (-1000000014), 3, 16, [(249, 0)]) := rx_at tbX10_sheet ndX10_sheet (j := 30) rfl
theorem iX10_sheet_53 : rx_ins mX10_sheet 53 = some (29, 54, 0, 0, 0, []) := rx_at tbX10_sheet ndX10_sheet (j := 31) rfl
theorem iX10_sheet_44 : rx_ins mX10_sheet 44 = some (1, 46, (-1000000001), 3, 10, [(103, 0)]) := rx_at tbX10_sheet ndX10_sheet (j := 26) rfl
theorem iX10_sheet_46 : rx_ins mX10_sheet 46 = some (29, 47, 0, 0, 0, []) := rx_at tbX10_sheet ndX10_sheet (j := 27) rfl
theorem iX10_sheet_25 : rx_ins mX10_sheet 25 = some (3, 26, 0, 0, 0, []) := rx_at tbX10_sheet ndX10_sheet (j := 14) rfl
theorem iX10_sheet_26 : rx_ins mX10_sheet 26 = some (18, 29, 0, 10, 10, [(72, 93)]) := rx_at tbX10_sheet ndX10_sheet (j := 15) rfl
theorem iX10_sheet_29 : rx_ins mX10_sheet 29 = some (2, 30, 0, 1, 0, []) := rx_at tbX10_sheet ndX10_sheet (j := 16) rfl
theorem iX10_sheet_30 : rx_ins mX10_sheet 30 = some (22, 31, 0, 0, 0, []) := rx_at tbX10_sheet ndX10_sheet (j := 17) rfl
theorem iX10_sheet_31 : rx_ins mX10_sheet 31 = some (1, 32, (-1), 0, 0, []) := rx_at tbX10_sheet ndX10_sheet (j := 18) rfl
theorem iX10_sheet_32 : rx_ins mX10_sheet 32 = some (1, 33, 0, 0, 0, []) := rx_at tbX10_sheet ndX10_sheet (j := 19) rfl
theorem iX10_sheet_33 : rx_ins mX10_sheet 33 = some (28, 36, 9, 66, 3, [(329, 189)]) := rx_at tbX10_sheet ndX10_sheet (j := 20) rfl
theorem iX10_sheet_36 : rx_ins mX10_sheet 36 = some (1, 37, 0, 0, 0, []) := rx_at tbX10_sheet ndX10_sheet (j := 21) rfl
theorem iX10_sheet_37 : rx_ins mX10_sheet 37 = some (29, 38, 0, 0, 0, []) := rx_at tbX10_sheet ndX10_sheet (j := 22) rfl
theorem iX10_mark_0 : rx_ins mX10_mark 0 = some (2, 1, 0, 1, 0, []) := rx_at tbX10_mark ndX10_mark (j := 0) rfl
theorem iX10_mark_1 : rx_ins mX10_mark 1 = some (28, 4, 0, 127, 1, [(239, 174)]) := rx_at tbX10_mark ndX10_mark (j := 1) rfl
theorem iX10_mark_4 : rx_ins mX10_mark 4 = some (13, 7, 6, 1, 10, []) := rx_at tbX10_mark ndX10_mark (j := 2) rfl
theorem iX10_mark_10 : rx_ins mX10_mark 10 = some (3, 11, 0, 0, 0, []) := rx_at tbX10_mark ndX10_mark (j := 5) rfl
theorem iX10_mark_11 : rx_ins mX10_mark 11 = some (18, 14, 0, 10, 10, [(72, 93)]) := rx_at tbX10_mark ndX10_mark (j := 6) rfl
theorem iX10_mark_14 : rx_ins mX10_mark 14 = some (2, 15, 0, 1, 0, []) := rx_at tbX10_mark ndX10_mark (j := 7) rfl
theorem iX10_mark_15 : rx_ins mX10_mark 15 = some (22, 16, 0, 0, 0, []) := rx_at tbX10_mark ndX10_mark (j := 8) rfl
theorem iX10_mark_16 : rx_ins mX10_mark 16 = some (5, 18, 1, 4, 0, []) := rx_at tbX10_mark ndX10_mark (j := 9) rfl
theorem iX10_mark_18 : rx_ins mX10_mark 18 = some (3, 20, 1, 4, 0, []) := rx_at tbX10_mark ndX10_mark (j := 10) rfl
theorem iX10_mark_20 : rx_ins mX10_mark 20 = some (28, 23, 9, 68, 1, [(242, 175)]) := rx_at tbX10_mark ndX10_mark (j := 11) rfl
theorem iX10_mark_23 : rx_ins mX10_mark 23 = some (13, 26, 6, 0, 29, []) := rx_at tbX10_mark ndX10_mark (j := 12) rfl
theorem iX10_mark_29 : rx_ins mX10_mark 29 = some (3, 31, 1, 4, 0, []) := rx_at tbX10_mark ndX10_mark (j := 15) rfl
theorem iX10_mark_31 : rx_ins mX10_mark 31 = some (2, 32, 0, 2, 0, []) := rx_at tbX10_mark ndX10_mark (j := 16) rfl
theorem iX10_mark_32 : rx_ins mX10_mark 32 = some (28, 35, 9, 69, 2, [(332, 190)]) := rx_at tbX10_mark ndX10_mark (j := 17) rfl
theorem iX10_mark_35 : rx_ins mX10_mark 35 = some (13, 38, 7, 1, 42, []) := rx_at tbX10_mark ndX10_mark (j := 18) rfl
theorem iX10_mark_42 : rx_ins mX10_mark 42 = some (3, 44, 1, 4, 0, []) := rx_at tbX10_mark ndX10_mark (j := 21) rfl
theorem iX10_mark_44 : rx_ins mX10_mark 44 = some (17, 47, 0, 7, 0, [(336, 113)]) := rx_at tbX10_mark ndX10_mark (j := 22) rfl
theorem iX10_mark_47 : rx_ins mX10_mark 47 = some (13, 50, 23, 1, 70, []) := rx_at tbX10_mark ndX10_mark (j := 23) rfl
theorem iX10_mark_70 : rx_ins mX10_mark 70 = some (2, 71, 0, 3, 0, []) := rx_at tbX10_mark ndX10_mark (j := 37) rfl
theorem iX10_mark_71 : rx_ins mX10_mark 71 = some (1, 73, (-1000000005), 3, 14, [(226, 0)]) := rx_at tbX10_mark ndX10_mark (j := 38) rfl
theorem iX10_mark_73 : rx_ins mX10_mark 73 = some (14, 76, 20, 0, 93, []) := rx_at tbX10_mark ndX10_mark (j := 39) rfl
theorem iX10_mark_93 : rx_ins mX10_mark 93 = some (3, 95, 1, 4, 0, []) := rx_at tbX10_mark ndX10_mark (j := 48) rfl
theorem iX10_mark_95 : rx_ins mX10_mark 95 = some (18, 98, 0, 7, 2, [(256, 95)]) := rx_at tbX10_mark ndX10_mark (j := 49) rfl
theorem iX10_mark_98 : rx_ins mX10_mark 98 = some (2, 99, 0, 2, 0, []) := rx_at tbX10_mark ndX10_mark (j := 50) rfl
theorem iX10_mark_99 : rx_ins mX10_mark 99 = some (2, 100, 0, 3, 0, []) := rx_at tbX10_mark ndX10_mark (j := 51) rfl
theorem iX10_mark_100 : rx_ins mX10_mark 100 = some (21, 101, 0, 0, 0, []) := rx_at tbX10_mark ndX10_mark (j := 52) rfl
theorem iX10_mark_101 : rx_ins mX10_mark 101 = some (1, 102, 1, 0, 0, []) := rx_at tbX10_mark ndX10_mark (j := 53) rfl
theorem iX10_mark_102 : rx_ins mX10_mark 102 = some (29, 103, 0, 0, 0, []) := rx_at tbX10_mark ndX10_mark (j := 54) rfl
theorem iX10_mark_76 : rx_ins mX10_mark 76 = some (2, 77, 0, 3, 0, []) := rx_at tbX10_mark ndX10_mark (j := 40) rfl
theorem iX10_mark_77 : rx_ins mX10_mark 77 = some (1, 80, (-99999), 4, 19, [(339, 0)]) := rx_at tbX10_mark ndX10_mark (j := 41) rfl
theorem iX10_mark_80 : rx_ins mX10_mark 80 = some (14, 83, 10, 2, 90, []) := rx_at tbX10_mark ndX10_mark (j := 42) rfl
theorem iX10_mark_90 : rx_ins mX10_mark 90 = some (1, 92, (-1000000001), 3, 10, [(103, 0)]) := rx_at tbX10_mark ndX10_mark (j := 46) rfl
theorem iX10_mark_92 : rx_ins mX10_mark 92 = some (29, 93, 0, 0, 0, []) := rx_at tbX10_mark ndX10_mark (j := 47) rfl
theorem iX10_mark_83 : rx_ins mX10_mark 83 = some (2, 84, 0, 3, 0, []) := rx_at tbX10_mark ndX10_mark (j := 43) rfl
theorem iX10_mark_84 : rx_ins mX10_mark 84 = some (1, 87, 99999, 4, 20, [(340, 0)]) := rx_at tbX10_mark ndX10_mark (j := 44) rfl
theorem iX10_mark_87 : rx_ins mX10_mark 87 = some (14, 90, 6, 5, 93, []) := rx_at tbX10_mark ndX10_mark (j := 45) rfl
theorem iX10_mark_50 : rx_ins mX10_mark 50 = some (2, 51, 0, 3, 0, []) := rx_at tbX10_mark ndX10_mark (j := 24) rfl
theorem iX10_mark_51 : rx_ins mX10_mark 51 = some (1, 53, (-1000000005), 3, 14, [(226, 0)]) := rx_at tbX10_mark ndX10_mark (j := 25) rfl
theorem iX10_mark_53 : rx_ins mX10_mark 53 = some (14, 56, 6, 1, 59, []) := rx_at tbX10_mark ndX10_mark (j := 26) rfl
theorem iX10_mark_59 : rx_ins mX10_mark 59 = some (3, 61, 1, 4, 0, []) := rx_at tbX10_mark ndX10_mark (j := 29) rfl
theorem iX10_mark_61 : rx_ins mX10_mark 61 = some (18, 64, 0, 7, 2, [(256, 95)]) := rx_at tbX10_mark ndX10_mark (j := 30) rfl
theorem iX10_mark_64 : rx_ins mX10_mark 64 = some (2, 65, 0, 2, 0, []) := rx_at tbX10_mark ndX10_mark (j := 31) rfl
theorem iX10_mark_65 : rx_ins mX10_mark 65 = some (2, 66, 0, 3, 0, []) := rx_at tbX10_mark ndX10_mark (j := 32) rfl
theorem iX10_mark_66 : rx_ins mX10_mark 66 = some (9, 67, 0, 1, 0, []) := rx_at tbX10_mark ndX10_mark (j := 33) rfl
theorem iX10_mark_67 : rx_ins mX10_mark 67 = some (21, 68, 0, 0, 0, []) := rx_at tbX10_mark ndX10_mark (j := 34) rfl
theorem iX10_mark_68 : rx_ins mX10_mark 68 = some (1, 69, 1, 0, 0, []) := rx_at tbX10_mark ndX10_mark (j := 35) rfl
theorem iX10_mark_69 : rx_ins mX10_mark 69 = some (29, 70, 0, 0, 0, []) := rx_at tbX10_mark ndX10_mark (j := 36) rfl
theorem iX10_mark_56 : rx_ins mX10_mark 56 = some (1, 58, (-1000000012), 3, 12, [(172, 0)]) := rx_at tbX10_mark ndX10_mark (j := 27) rfl
theorem iX10_mark_58 : rx_ins mX10_mark 58 = some (29, 59, 0, 0, 0, []) := rx_at tbX10_mark ndX10_mark (j := 28) rfl
theorem iX10_mark_38 : rx_ins mX10_mark 38 = some (1, 41, (-1000000013), 4, 18, [(335, 0)]) := rx_at tbX10_mark ndX10_mark (j := 19) rfl
theorem iX10_mark_41 : rx_ins mX10_mark 41 = some (29, 42, 0, 0, 0, []) := rx_at tbX10_mark ndX10_mark (j := 20) rfl
theorem iX10_mark_26 : rx_ins mX10_mark 26 = some (1, 28, (-1000000011), 3, 15, [(245, 0)]) := rx_at tbX10_mark ndX10_mark (j := 13) rfl
theorem iX10_mark_28 : rx_ins mX10_mark 28 = some (29, 29, 0, 0, 0, []) := rx_at tbX10_mark ndX10_mark (j := 14) rfl
theorem iX10_mark_7 : rx_ins mX10_mark 7 = some (1, 9, (-1000000001), 3, 10, [(103, 0)]) := rx_at tbX10_mark ndX10_mark (j := 3) rfl
theorem iX10_mark_9 : rx_ins mX10_mark 9 = some (29, 10, 0, 0, 0, []) := rx_at tbX10_mark ndX10_mark (j := 4) rfl
theorem iX10_pour_0 : rx_ins mX10_pour 0 = some (2, 1, 0, 1, 0, []) := rx_at tbX10_pour ndX10_pour (j := 0) rfl
theorem iX10_pour_1 : rx_ins mX10_pour 1 = some (28, 4, 0, 127, 1, [(239, 174)]) := rx_at tbX10_pour ndX10_pour (j := 1) rfl
theorem iX10_pour_4 : rx_ins mX10_pour 4 = some (13, 7, 6, 1, 10, []) := rx_at tbX10_pour ndX10_pour (j := 2) rfl
theorem iX10_pour_10 : rx_ins mX10_pour 10 = some (3, 11, 0, 0, 0, []) := rx_at tbX10_pour ndX10_pour (j := 5) rfl
theorem iX10_pour_11 : rx_ins mX10_pour 11 = some (18, 14, 0, 10, 10, [(72, 93)]) := rx_at tbX10_pour ndX10_pour (j := 6) rfl
theorem iX10_pour_14 : rx_ins mX10_pour 14 = some (2, 15, 0, 1, 0, []) := rx_at tbX10_pour ndX10_pour (j := 7) rfl
theorem iX10_pour_15 : rx_ins mX10_pour 15 = some (22, 16, 0, 0, 0, []) := rx_at tbX10_pour ndX10_pour (j := 8) rfl
theorem iX10_pour_16 : rx_ins mX10_pour 16 = some (5, 17, 0, 2, 0, []) := rx_at tbX10_pour ndX10_pour (j := 9) rfl
theorem iX10_pour_17 : rx_ins mX10_pour 17 = some (3, 18, 0, 2, 0, []) := rx_at tbX10_pour ndX10_pour (j := 10) rfl
theorem iX10_pour_18 : rx_ins mX10_pour 18 = some (28, 21, 9, 68, 1, [(242, 175)]) := rx_at tbX10_pour ndX10_pour (j := 11) rfl
theorem iX10_pour_21 : rx_ins mX10_pour 21 = some (13, 24, 6, 0, 27, []) := rx_at tbX10_pour ndX10_pour (j := 12) rfl
theorem iX10_pour_27 : rx_ins mX10_pour 27 = some (1, 28, 0, 0, 0, []) := rx_at tbX10_pour ndX10_pour (j := 15) rfl
theorem iX10_pour_28 : rx_ins mX10_pour 28 = some (4, 29, 0, 3, 0, []) := rx_at tbX10_pour ndX10_pour (j := 16) rfl
theorem iX10_pour_24 : rx_ins mX10_pour 24 = some (1, 26, (-1000000011), 3, 15, [(245, 0)]) := rx_at tbX10_pour ndX10_pour (j := 13) rfl
theorem iX10_pour_26 : rx_ins mX10_pour 26 = some (29, 27, 0, 0, 0, []) := rx_at tbX10_pour ndX10_pour (j := 14) rfl
theorem iX10_pour_7 : rx_ins mX10_pour 7 = some (1, 9, (-1000000001), 3, 10, [(103, 0)]) := rx_at tbX10_pour ndX10_pour (j := 3) rfl
theorem iX10_pour_9 : rx_ins mX10_pour 9 = some (29, 10, 0, 0, 0, []) := rx_at tbX10_pour ndX10_pour (j := 4) rfl
theorem iX10_pour_29 : rx_ins mX10_pour 29 = some (2, 30, 0, 3, 0, []) := rx_at tbX10_pour ndX10_pour (j := 17) rfl
theorem iX10_pour_30 : rx_ins mX10_pour 30 = some (3, 31, 0, 2, 0, []) := rx_at tbX10_pour ndX10_pour (j := 18) rfl
theorem iX10_pour_31 : rx_ins mX10_pour 31 = some (17, 34, 0, 7, 1, [(246, 94)]) := rx_at tbX10_pour ndX10_pour (j := 19) rfl
theorem iX10_pour_34 : rx_ins mX10_pour 34 = some (14, 37, 63, 3, 97, []) := rx_at tbX10_pour ndX10_pour (j := 20) rfl
theorem iX10_pour_97 : rx_ins mX10_pour 97 = some (2, 98, 0, 3, 0, []) := rx_at tbX10_pour ndX10_pour (j := 51) rfl
theorem iX10_pour_98 : rx_ins mX10_pour 98 = some (29, 99, 0, 0, 0, []) := rx_at tbX10_pour ndX10_pour (j := 52) rfl
theorem iX10_pour_37 : rx_ins mX10_pour 37 = some (3, 38, 0, 2, 0, []) := rx_at tbX10_pour ndX10_pour (j := 21) rfl
theorem iX10_pour_38 : rx_ins mX10_pour 38 = some (18, 41, 0, 7, 2, [(256, 95)]) := rx_at tbX10_pour ndX10_pour (j := 22) rfl
theorem iX10_pour_41 : rx_ins mX10_pour 41 = some (2, 42, 0, 3, 0, []) := rx_at tbX10_pour ndX10_pour (j := 23) rfl
theorem iX10_pour_42 : rx_ins mX10_pour 42 = some (20, 43, 0, 0, 0, []) := rx_at tbX10_pour ndX10_pour (j := 24) rfl
theorem iX10_pour_43 : rx_ins mX10_pour 43 = some (4, 45, 1, 4, 0, []) := rx_at tbX10_pour ndX10_pour (j := 25) rfl
theorem iX10_pour_45 : rx_ins mX10_pour 45 = some (2, 47, 1, 4, 0, []) := rx_at tbX10_pour ndX10_pour (j := 26) rfl
theorem iX10_pour_47 : rx_ins mX10_pour 47 = some (13, 50, 50, 2, 97, []) := rx_at tbX10_pour ndX10_pour (j := 27) rfl
theorem iX10_pour_50 : rx_ins mX10_pour 50 = some (3, 51, 0, 0, 0, []) := rx_at tbX10_pour ndX10_pour (j := 28) rfl
theorem iX10_pour_51 : rx_ins mX10_pour 51 = some (18, 54, 0, 10, 0, [(12, 75)]) := rx_at tbX10_pour ndX10_pour (j := 29) rfl
theorem iX10_pour_54 : rx_ins mX10_pour 54 = some (2, 56, 1, 4, 0, []) := rx_at tbX10_pour ndX10_pour (j := 30) rfl
theorem iX10_pour_56 : rx_ins mX10_pour 56 = some (1, 58, 100, 1, 0, []) := rx_at tbX10_pour ndX10_pour (j := 31) rfl
theorem iX10_pour_58 : rx_ins mX10_pour 58 = some (8, 59, 0, 0, 0, []) := rx_at tbX10_pour ndX10_pour (j := 32) rfl
theorem iX10_pour_59 : rx_ins mX10_pour 59 = some (2, 61, 1, 4, 0, []) := rx_at tbX10_pour ndX10_pour (j := 33) rfl
theorem iX10_pour_61 : rx_ins mX10_pour 61 = some (1, 63, 100, 1, 0, []) := rx_at tbX10_pour ndX10_pour (j := 34) rfl
theorem iX10_pour_63 : rx_ins mX10_pour 63 = some (8, 64, 0, 1, 0, []) := rx_at tbX10_pour ndX10_pour (j := 35) rfl
theorem iX10_pour_64 : rx_ins mX10_pour 64 = some (28, 67, 3, 10, 3, [(92, 147)]) := rx_at tbX10_pour ndX10_pour (j := 36) rfl
theorem iX10_pour_67 : rx_ins mX10_pour 67 = some (13, 70, 6, 0, 73, []) := rx_at tbX10_pour ndX10_pour (j := 37) rfl
theorem iX10_pour_73 : rx_ins mX10_pour 73 = some (3, 74, 0, 0, 0, []) := rx_at tbX10_pour ndX10_pour (j := 39) rfl
theorem iX10_pour_74 : rx_ins mX10_pour 74 = some (18, 77, 0, 10, 0, [(12, 75)]) := rx_at tbX10_pour ndX10_pour (j := 40) rfl
theorem iX10_pour_77 : rx_ins mX10_pour 77 = some (2, 79, 1, 4, 0, []) := rx_at tbX10_pour ndX10_pour (j := 41) rfl
theorem iX10_pour_79 : rx_ins mX10_pour 79 = some (1, 81, 100, 1, 0, []) := rx_at tbX10_pour ndX10_pour (j := 42) rfl
theorem iX10_pour_81 : rx_ins mX10_pour 81 = some (8, 82, 0, 0, 0, []) := rx_at tbX10_pour ndX10_pour (j := 43) rfl
theorem iX10_pour_82 : rx_ins mX10_pour 82 = some (2, 84, 1, 4, 0, []) := rx_at tbX10_pour ndX10_pour (j := 44) rfl
theorem iX10_pour_84 : rx_ins mX10_pour 84 = some (1, 86, 100, 1, 0, []) := rx_at tbX10_pour ndX10_pour (j := 45) rfl
theorem iX10_pour_86 : rx_ins mX10_pour 86 = some (8, 87, 0, 1, 0, []) := rx_at tbX10_pour ndX10_pour (j := 46) rfl
theorem iX10_pour_87 : rx_ins mX10_pour 87 = some (28, 90, 3, 11, 3, [(96, 148)]) := rx_at tbX10_pour ndX10_pour (j := 47) rfl
theorem iX10_pour_90 : rx_ins mX10_pour 90 = some (12, 91, 0, 0, 0, []) := rx_at tbX10_pour ndX10_pour (j := 48) rfl
theorem iX10_pour_91 : rx_ins mX10_pour 91 = some (6, 94, 1, 3, 0, []) := rx_at tbX10_pour ndX10_pour (j := 49) rfl
theorem iX10_pour_94 : rx_ins mX10_pour 94 = some (15, 97, (-65), 0, 29, []) := rx_at tbX10_pour ndX10_pour (j := 50) rfl
theorem iX10_pour_70 : rx_ins mX10_pour 70 = some (15, 73, 27, 0, 97, []) := rx_at tbX10_pour ndX10_pour (j := 38) rfl
theorem iX10_copy_0 : rx_ins mX10_copy 0 = some (2, 1, 0, 1, 0, []) := rx_at tbX10_copy ndX10_copy (j := 0) rfl
theorem iX10_copy_1 : rx_ins mX10_copy 1 = some (28, 4, 0, 127, 1, [(239, 174)]) := rx_at tbX10_copy ndX10_copy (j := 1) rfl
theorem iX10_copy_4 : rx_ins mX10_copy 4 = some (13, 7, 10, 0, 14, []) := rx_at tbX10_copy ndX10_copy (j := 2) rfl
theorem iX10_copy_14 : rx_ins mX10_copy 14 = some (1, 16, (-1000000001), 3, 10, [(103, 0)]) := rx_at tbX10_copy ndX10_copy (j := 6) rfl
theorem iX10_copy_16 : rx_ins mX10_copy 16 = some (29, 17, 0, 0, 0, []) := rx_at tbX10_copy ndX10_copy (j := 7) rfl
theorem iX10_copy_7 : rx_ins mX10_copy 7 = some (2, 8, 0, 3, 0, []) := rx_at tbX10_copy ndX10_copy (j := 3) rfl
theorem iX10_copy_8 : rx_ins mX10_copy 8 = some (28, 11, 0, 127, 1, [(239, 174)]) := rx_at tbX10_copy ndX10_copy (j := 4) rfl
theorem iX10_copy_11 : rx_ins mX10_copy 11 = some (13, 14, 6, 1, 17, []) := rx_at tbX10_copy ndX10_copy (j := 5) rfl
theorem iX10_copy_17 : rx_ins mX10_copy 17 = some (3, 18, 0, 0, 0, []) := rx_at tbX10_copy ndX10_copy (j := 8) rfl
theorem iX10_copy_18 : rx_ins mX10_copy 18 = some (18, 21, 0, 10, 10, [(72, 93)]) := rx_at tbX10_copy ndX10_copy (j := 9) rfl
theorem iX10_copy_21 : rx_ins mX10_copy 21 = some (2, 22, 0, 1, 0, []) := rx_at tbX10_copy ndX10_copy (j := 10) rfl
theorem iX10_copy_22 : rx_ins mX10_copy 22 = some (22, 23, 0, 0, 0, []) := rx_at tbX10_copy ndX10_copy (j := 11) rfl
theorem iX10_copy_23 : rx_ins mX10_copy 23 = some (5, 25, 1, 6, 0, []) := rx_at tbX10_copy ndX10_copy (j := 12) rfl
theorem iX10_copy_25 : rx_ins mX10_copy 25 = some (3, 26, 0, 0, 0, []) := rx_at tbX10_copy ndX10_copy (j := 13) rfl
theorem iX10_copy_26 : rx_ins mX10_copy 26 = some (18, 29, 0, 10, 10, [(72, 93)]) := rx_at tbX10_copy ndX10_copy (j := 14) rfl
theorem iX10_copy_29 : rx_ins mX10_copy 29 = some (2, 30, 0, 3, 0, []) := rx_at tbX10_copy ndX10_copy (j := 15) rfl
theorem iX10_copy_30 : rx_ins mX10_copy 30 = some (22, 31, 0, 0, 0, []) := rx_at tbX10_copy ndX10_copy (j := 16) rfl
theorem iX10_copy_31 : rx_ins mX10_copy 31 = some (5, 33, 1, 7, 0, []) := rx_at tbX10_copy ndX10_copy (j := 17) rfl
theorem iX10_copy_33 : rx_ins mX10_copy 33 = some (3, 35, 1, 6, 0, []) := rx_at tbX10_copy ndX10_copy (j := 18) rfl
theorem iX10_copy_35 : rx_ins mX10_copy 35 = some (28, 38, 9, 68, 1, [(242, 175)]) := rx_at tbX10_copy ndX10_copy (j := 19) rfl
theorem iX10_copy_38 : rx_ins mX10_copy 38 = some (13, 41, 11, 1, 49, []) := rx_at tbX10_copy ndX10_copy (j := 20) rfl
theorem iX10_copy_49 : rx_ins mX10_copy 49 = some (1, 51, (-1000000011), 3, 15, [(245, 0)]) := rx_at tbX10_copy ndX10_copy (j := 24) rfl
theorem iX10_copy_51 : rx_ins mX10_copy 51 = some (29, 52, 0, 0, 0, []) := rx_at tbX10_copy ndX10_copy (j := 25) rfl
theorem iX10_copy_41 : rx_ins mX10_copy 41 = some (3, 43, 1, 7, 0, []) := rx_at tbX10_copy ndX10_copy (j := 21) rfl
theorem iX10_copy_43 : rx_ins mX10_copy 43 = some (28, 46, 9, 68, 1, [(242, 175)]) := rx_at tbX10_copy ndX10_copy (j := 22) rfl
theorem iX10_copy_46 : rx_ins mX10_copy 46 = some (13, 49, 6, 0, 52, []) := rx_at tbX10_copy ndX10_copy (j := 23) rfl
theorem iX10_copy_52 : rx_ins mX10_copy 52 = some (3, 54, 1, 6, 0, []) := rx_at tbX10_copy ndX10_copy (j := 26) rfl
theorem iX10_copy_54 : rx_ins mX10_copy 54 = some (17, 57, 0, 7, 0, [(336, 113)]) := rx_at tbX10_copy ndX10_copy (j := 27) rfl
theorem iX10_copy_57 : rx_ins mX10_copy 57 = some (3, 59, 1, 7, 0, []) := rx_at tbX10_copy ndX10_copy (j := 28) rfl
theorem iX10_copy_59 : rx_ins mX10_copy 59 = some (17, 62, 0, 7, 0, [(336, 113)]) := rx_at tbX10_copy ndX10_copy (j := 29) rfl
theorem iX10_copy_62 : rx_ins mX10_copy 62 = some (14, 65, 6, 0, 68, []) := rx_at tbX10_copy ndX10_copy (j := 30) rfl
theorem iX10_copy_68 : rx_ins mX10_copy 68 = some (3, 70, 1, 6, 0, []) := rx_at tbX10_copy ndX10_copy (j := 33) rfl
theorem iX10_copy_70 : rx_ins mX10_copy 70 = some (2, 71, 0, 2, 0, []) := rx_at tbX10_copy ndX10_copy (j := 34) rfl
theorem iX10_copy_71 : rx_ins mX10_copy 71 = some (2, 73, 1, 5, 0, []) := rx_at tbX10_copy ndX10_copy (j := 35) rfl
theorem iX10_copy_73 : rx_ins mX10_copy 73 = some (28, 76, 9, 70, 3, [(341, 191)]) := rx_at tbX10_copy ndX10_copy (j := 36) rfl
theorem iX10_copy_76 : rx_ins mX10_copy 76 = some (13, 79, 15, 0, 91, []) := rx_at tbX10_copy ndX10_copy (j := 37) rfl
theorem iX10_copy_91 : rx_ins mX10_copy 91 = some (1, 94, (-1000000013), 4, 18, [(335, 0)]) := rx_at tbX10_copy ndX10_copy (j := 43) rfl
theorem iX10_copy_94 : rx_ins mX10_copy 94 = some (29, 95, 0, 0, 0, []) := rx_at tbX10_copy ndX10_copy (j := 44) rfl
theorem iX10_copy_79 : rx_ins mX10_copy 79 = some (3, 81, 1, 7, 0, []) := rx_at tbX10_copy ndX10_copy (j := 38) rfl
theorem iX10_copy_81 : rx_ins mX10_copy 81 = some (2, 83, 1, 4, 0, []) := rx_at tbX10_copy ndX10_copy (j := 39) rfl
theorem iX10_copy_83 : rx_ins mX10_copy 83 = some (2, 85, 1, 5, 0, []) := rx_at tbX10_copy ndX10_copy (j := 40) rfl
theorem iX10_copy_85 : rx_ins mX10_copy 85 = some (28, 88, 9, 70, 3, [(341, 191)]) := rx_at tbX10_copy ndX10_copy (j := 41) rfl
theorem iX10_copy_88 : rx_ins mX10_copy 88 = some (13, 91, 7, 1, 95, []) := rx_at tbX10_copy ndX10_copy (j := 42) rfl
theorem iX10_copy_95 : rx_ins mX10_copy 95 = some (3, 97, 1, 6, 0, []) := rx_at tbX10_copy ndX10_copy (j := 45) rfl
theorem iX10_copy_97 : rx_ins mX10_copy 97 = some (18, 100, 0, 7, 2, [(256, 95)]) := rx_at tbX10_copy ndX10_copy (j := 46) rfl
theorem iX10_copy_100 : rx_ins mX10_copy 100 = some (2, 101, 0, 2, 0, []) := rx_at tbX10_copy ndX10_copy (j := 47) rfl
theorem iX10_copy_101 : rx_ins mX10_copy 101 = some (3, 103, 1, 7, 0, []) := rx_at tbX10_copy ndX10_copy (j := 48) rfl
theorem iX10_copy_103 : rx_ins mX10_copy 103 = some (18, 106, 0, 7, 2, [(256, 95)]) := rx_at tbX10_copy ndX10_copy (j := 49) rfl
theorem iX10_copy_106 : rx_ins mX10_copy 106 = some (2, 108, 1, 4, 0, []) := rx_at tbX10_copy ndX10_copy (j := 50) rfl
theorem iX10_copy_108 : rx_ins mX10_copy 108 = some (2, 110, 1, 5, 0, []) := rx_at tbX10_copy ndX10_copy (j := 51) rfl
theorem iX10_copy_110 : rx_ins mX10_copy 110 = some (25, 113, 0, 0, 0, [(344, 5)]) := rx_at tbX10_copy ndX10_copy (j := 52) rfl
theorem iX10_copy_113 : rx_ins mX10_copy 113 = some (2, 115, 1, 5, 0, []) := rx_at tbX10_copy ndX10_copy (j := 53) rfl
theorem iX10_copy_115 : rx_ins mX10_copy 115 = some (29, 116, 0, 0, 0, []) := rx_at tbX10_copy ndX10_copy (j := 54) rfl
theorem iX10_copy_65 : rx_ins mX10_copy 65 = some (1, 67, (-1000000012), 3, 12, [(172, 0)]) := rx_at tbX10_copy ndX10_copy (j := 31) rfl
theorem iX10_copy_67 : rx_ins mX10_copy 67 = some (29, 68, 0, 0, 0, []) := rx_at tbX10_copy ndX10_copy (j := 32) rfl
theorem iX10_lay_0 : rx_ins mX10_lay 0 = some (2, 1, 0, 1, 0, []) := rx_at tbX10_lay ndX10_lay (j := 0) rfl
theorem iX10_lay_1 : rx_ins mX10_lay 1 = some (28, 4, 0, 128, 1, [(350, 192)]) := rx_at tbX10_lay ndX10_lay (j := 1) rfl
theorem iX10_lay_4 : rx_ins mX10_lay 4 = some (13, 7, 12, 0, 16, []) := rx_at tbX10_lay ndX10_lay (j := 2) rfl
theorem iX10_lay_16 : rx_ins mX10_lay 16 = some (1, 18, (-1000000001), 3, 10, [(103, 0)]) := rx_at tbX10_lay ndX10_lay (j := 8) rfl
theorem iX10_lay_18 : rx_ins mX10_lay 18 = some (29, 19, 0, 0, 0, []) := rx_at tbX10_lay ndX10_lay (j := 9) rfl
theorem iX10_lay_7 : rx_ins mX10_lay 7 = some (2, 8, 0, 2, 0, []) := rx_at tbX10_lay ndX10_lay (j := 3) rfl
theorem iX10_lay_8 : rx_ins mX10_lay 8 = some (13, 11, 8, 2, 16, []) := rx_at tbX10_lay ndX10_lay (j := 4) rfl
theorem iX10_lay_11 : rx_ins mX10_lay 11 = some (2, 12, 0, 2, 0, []) := rx_at tbX10_lay ndX10_lay (j := 5) rfl
theorem iX10_lay_12 : rx_ins mX10_lay 12 = some (1, 13, 3, 0, 0, []) := rx_at tbX10_lay ndX10_lay (j := 6) rfl
theorem iX10_lay_13 : rx_ins mX10_lay 13 = some (14, 16, 6, 5, 19, []) := rx_at tbX10_lay ndX10_lay (j := 7) rfl
theorem iX10_lay_19 : rx_ins mX10_lay 19 = some (2, 20, 0, 2, 0, []) := rx_at tbX10_lay ndX10_lay (j := 10) rfl
theorem iX10_lay_20 : rx_ins mX10_lay 20 = some (1, 21, 1, 0, 0, []) := rx_at tbX10_lay ndX10_lay (j := 11) rfl
theorem iX10_lay_21 : rx_ins mX10_lay 21 = some (14, 24, 14, 1, 35, []) := rx_at tbX10_lay ndX10_lay (j := 12) rfl
theorem iX10_lay_24 : rx_ins mX10_lay 24 = some (3, 25, 0, 0, 0, []) := rx_at tbX10_lay ndX10_lay (j := 13) rfl
theorem iX10_lay_25 : rx_ins mX10_lay 25 = some (18, 28, 0, 10, 0, [(12, 75)]) := rx_at tbX10_lay ndX10_lay (j := 14) rfl
theorem iX10_lay_28 : rx_ins mX10_lay 28 = some (2, 29, 0, 3, 0, []) := rx_at tbX10_lay ndX10_lay (j := 15) rfl
theorem iX10_lay_29 : rx_ins mX10_lay 29 = some (28, 32, 3, 8, 2, [(144, 158)]) := rx_at tbX10_lay ndX10_lay (j := 16) rfl
theorem iX10_lay_32 : rx_ins mX10_lay 32 = some (13, 35, 15, 0, 47, []) := rx_at tbX10_lay ndX10_lay (j := 17) rfl
theorem iX10_lay_47 : rx_ins mX10_lay 47 = some (1, 49, (-1000000001), 3, 10, [(103, 0)]) := rx_at tbX10_lay ndX10_lay (j := 24) rfl
theorem iX10_lay_49 : rx_ins mX10_lay 49 = some (29, 50, 0, 0, 0, []) := rx_at tbX10_lay ndX10_lay (j := 25) rfl
theorem iX10_lay_35 : rx_ins mX10_lay 35 = some (2, 36, 0, 2, 0, []) := rx_at tbX10_lay ndX10_lay (j := 18) rfl
theorem iX10_lay_36 : rx_ins mX10_lay 36 = some (1, 37, 2, 0, 0, []) := rx_at tbX10_lay ndX10_lay (j := 19) rfl
theorem iX10_lay_37 : rx_ins mX10_lay 37 = some (14, 40, 13, 1, 50, []) := rx_at tbX10_lay ndX10_lay (j := 20) rfl
theorem iX10_lay_40 : rx_ins mX10_lay 40 = some (2, 41, 0, 3, 0, []) := rx_at tbX10_lay ndX10_lay (j := 21) rfl
theorem iX10_lay_41 : rx_ins mX10_lay 41 = some (28, 44, 0, 127, 1, [(239, 174)]) := rx_at tbX10_lay ndX10_lay (j := 22) rfl
theorem iX10_lay_44 : rx_ins mX10_lay 44 = some (13, 47, 6, 1, 50, []) := rx_at tbX10_lay ndX10_lay (j := 23) rfl
theorem iX10_lay_50 : rx_ins mX10_lay 50 = some (2, 51, 0, 2, 0, []) := rx_at tbX10_lay ndX10_lay (j := 26) rfl
theorem iX10_lay_51 : rx_ins mX10_lay 51 = some (1, 52, 2, 0, 0, []) := rx_at tbX10_lay ndX10_lay (j := 27) rfl
theorem iX10_lay_52 : rx_ins mX10_lay 52 = some (14, 55, 18, 1, 70, []) := rx_at tbX10_lay ndX10_lay (j := 28) rfl
theorem iX10_lay_55 : rx_ins mX10_lay 55 = some (3, 56, 0, 0, 0, []) := rx_at tbX10_lay ndX10_lay (j := 29) rfl
theorem iX10_lay_56 : rx_ins mX10_lay 56 = some (18, 59, 0, 10, 10, [(72, 93)]) := rx_at tbX10_lay ndX10_lay (j := 30) rfl
theorem iX10_lay_59 : rx_ins mX10_lay 59 = some (2, 60, 0, 3, 0, []) := rx_at tbX10_lay ndX10_lay (j := 31) rfl
theorem iX10_lay_60 : rx_ins mX10_lay 60 = some (22, 61, 0, 0, 0, []) := rx_at tbX10_lay ndX10_lay (j := 32) rfl
theorem iX10_lay_61 : rx_ins mX10_lay 61 = some (28, 64, 9, 68, 1, [(242, 175)]) := rx_at tbX10_lay ndX10_lay (j := 33) rfl
theorem iX10_lay_64 : rx_ins mX10_lay 64 = some (13, 67, 6, 0, 70, []) := rx_at tbX10_lay ndX10_lay (j := 34) rfl
theorem iX10_lay_67 : rx_ins mX10_lay 67 = some (1, 69, (-1000000011), 3, 15, [(245, 0)]) := rx_at tbX10_lay ndX10_lay (j := 35) rfl
theorem iX10_lay_69 : rx_ins mX10_lay 69 = some (29, 70, 0, 0, 0, []) := rx_at tbX10_lay ndX10_lay (j := 36) rfl
theorem iX10_lay_70 : rx_ins mX10_lay 70 = some (3, 71, 0, 0, 0, []) := rx_at tbX10_lay ndX10_lay (j := 37) rfl
theorem iX10_lay_71 : rx_ins mX10_lay 71 = some (18, 74, 0, 10, 11, [(78, 114)]) := rx_at tbX10_lay ndX10_lay (j := 38) rfl
theorem iX10_lay_74 : rx_ins mX10_lay 74 = some (2, 75, 0, 1, 0, []) := rx_at tbX10_lay ndX10_lay (j := 39) rfl
theorem iX10_lay_75 : rx_ins mX10_lay 75 = some (22, 76, 0, 0, 0, []) := rx_at tbX10_lay ndX10_lay (j := 40) rfl
theorem iX10_lay_76 : rx_ins mX10_lay 76 = some (5, 78, 1, 4, 0, []) := rx_at tbX10_lay ndX10_lay (j := 41) rfl
theorem iX10_lay_78 : rx_ins mX10_lay 78 = some (3, 80, 1, 4, 0, []) := rx_at tbX10_lay ndX10_lay (j := 42) rfl
theorem iX10_lay_80 : rx_ins mX10_lay 80 = some (17, 83, 0, 8, 0, [(353, 115)]) := rx_at tbX10_lay ndX10_lay (j := 43) rfl
theorem iX10_lay_83 : rx_ins mX10_lay 83 = some (4, 85, 1, 5, 0, []) := rx_at tbX10_lay ndX10_lay (j := 44) rfl
theorem iX10_lay_85 : rx_ins mX10_lay 85 = some (3, 87, 1, 4, 0, []) := rx_at tbX10_lay ndX10_lay (j := 45) rfl
theorem iX10_lay_87 : rx_ins mX10_lay 87 = some (2, 88, 0, 2, 0, []) := rx_at tbX10_lay ndX10_lay (j := 46) rfl
theorem iX10_lay_88 : rx_ins mX10_lay 88 = some (19, 91, 0, 8, 0, [(353, 115)]) := rx_at tbX10_lay ndX10_lay (j := 47) rfl
theorem iX10_lay_91 : rx_ins mX10_lay 91 = some (2, 92, 0, 2, 0, []) := rx_at tbX10_lay ndX10_lay (j := 48) rfl
theorem iX10_lay_92 : rx_ins mX10_lay 92 = some (1, 93, 1, 0, 0, []) := rx_at tbX10_lay ndX10_lay (j := 49) rfl
theorem iX10_lay_93 : rx_ins mX10_lay 93 = some (14, 96, 34, 1, 127, []) := rx_at tbX10_lay ndX10_lay (j := 50) rfl
theorem iX10_lay_127 : rx_ins mX10_lay 127 = some (2, 128, 0, 2, 0, []) := rx_at tbX10_lay ndX10_lay (j := 66) rfl
theorem iX10_lay_128 : rx_ins mX10_lay 128 = some (1, 129, 2, 0, 0, []) := rx_at tbX10_lay ndX10_lay (j := 67) rfl
theorem iX10_lay_129 : rx_ins mX10_lay 129 = some (14, 132, 20, 1, 149, []) := rx_at tbX10_lay ndX10_lay (j := 68) rfl
theorem iX10_lay_149 : rx_ins mX10_lay 149 = some (3, 151, 1, 4, 0, []) := rx_at tbX10_lay ndX10_lay (j := 77) rfl
theorem iX10_lay_151 : rx_ins mX10_lay 151 = some (2, 152, 0, 3, 0, []) := rx_at tbX10_lay ndX10_lay (j := 78) rfl
theorem iX10_lay_152 : rx_ins mX10_lay 152 = some (19, 155, 0, 8, 4, [(367, 119)]) := rx_at tbX10_lay ndX10_lay (j := 79) rfl
theorem iX10_lay_132 : rx_ins mX10_lay 132 = some (3, 134, 1, 4, 0, []) := rx_at tbX10_lay ndX10_lay (j := 69) rfl
theorem iX10_lay_134 : rx_ins mX10_lay 134 = some (18, 137, 0, 8, 3, [(360, 118)]) := rx_at tbX10_lay ndX10_lay (j := 70) rfl
theorem iX10_lay_137 : rx_ins mX10_lay 137 = some (3, 138, 0, 0, 0, []) := rx_at tbX10_lay ndX10_lay (j := 71) rfl
theorem iX10_lay_138 : rx_ins mX10_lay 138 = some (18, 141, 0, 10, 10, [(72, 93)]) := rx_at tbX10_lay ndX10_lay (j := 72) rfl
theorem iX10_lay_141 : rx_ins mX10_lay 141 = some (2, 142, 0, 3, 0, []) := rx_at tbX10_lay ndX10_lay (j := 73) rfl
theorem iX10_lay_142 : rx_ins mX10_lay 142 = some (22, 143, 0, 0, 0, []) := rx_at tbX10_lay ndX10_lay (j := 74) rfl
theorem iX10_lay_143 : rx_ins mX10_lay 143 = some (28, 146, 9, 67, 2, [(364, 193)]) := rx_at tbX10_lay ndX10_lay (j := 75) rfl
theorem iX10_lay_146 : rx_ins mX10_lay 146 = some (15, 149, 9, 0, 155, []) := rx_at tbX10_lay ndX10_lay (j := 76) rfl
theorem iX10_lay_96 : rx_ins mX10_lay 96 = some (3, 98, 1, 4, 0, []) := rx_at tbX10_lay ndX10_lay (j := 51) rfl
theorem iX10_lay_98 : rx_ins mX10_lay 98 = some (3, 99, 0, 0, 0, []) := rx_at tbX10_lay ndX10_lay (j := 52) rfl
theorem iX10_lay_99 : rx_ins mX10_lay 99 = some (18, 102, 0, 10, 0, [(12, 75)]) := rx_at tbX10_lay ndX10_lay (j := 53) rfl
theorem iX10_lay_102 : rx_ins mX10_lay 102 = some (18, 105, 0, 1, 7, [(147, 80)]) := rx_at tbX10_lay ndX10_lay (j := 54) rfl
theorem iX10_lay_105 : rx_ins mX10_lay 105 = some (2, 106, 0, 3, 0, []) := rx_at tbX10_lay ndX10_lay (j := 55) rfl
theorem iX10_lay_106 : rx_ins mX10_lay 106 = some (20, 107, 0, 0, 0, []) := rx_at tbX10_lay ndX10_lay (j := 56) rfl
theorem iX10_lay_107 : rx_ins mX10_lay 107 = some (19, 110, 0, 8, 1, [(356, 116)]) := rx_at tbX10_lay ndX10_lay (j := 57) rfl
theorem iX10_lay_110 : rx_ins mX10_lay 110 = some (3, 112, 1, 4, 0, []) := rx_at tbX10_lay ndX10_lay (j := 58) rfl
theorem iX10_lay_112 : rx_ins mX10_lay 112 = some (3, 113, 0, 0, 0, []) := rx_at tbX10_lay ndX10_lay (j := 59) rfl
theorem iX10_lay_113 : rx_ins mX10_lay 113 = some (18, 116, 0, 10, 0, [(12, 75)]) := rx_at tbX10_lay ndX10_lay (j := 60) rfl
theorem iX10_lay_116 : rx_ins mX10_lay 116 = some (18, 119, 0, 1, 10, [(156, 83)]) := rx_at tbX10_lay ndX10_lay (j := 61) rfl
theorem iX10_lay_119 : rx_ins mX10_lay 119 = some (2, 120, 0, 3, 0, []) := rx_at tbX10_lay ndX10_lay (j := 62) rfl
theorem iX10_lay_120 : rx_ins mX10_lay 120 = some (20, 121, 0, 0, 0, []) := rx_at tbX10_lay ndX10_lay (j := 63) rfl
theorem iX10_lay_121 : rx_ins mX10_lay 121 = some (19, 124, 0, 8, 2, [(358, 117)]) := rx_at tbX10_lay ndX10_lay (j := 64) rfl
theorem iX10_lay_124 : rx_ins mX10_lay 124 = some (15, 127, 31, 0, 155, []) := rx_at tbX10_lay ndX10_lay (j := 65) rfl
theorem iX10_lay_155 : rx_ins mX10_lay 155 = some (2, 157, 1, 5, 0, []) := rx_at tbX10_lay ndX10_lay (j := 80) rfl
theorem iX10_lay_157 : rx_ins mX10_lay 157 = some (29, 158, 0, 0, 0, []) := rx_at tbX10_lay ndX10_lay (j := 81) rfl
theorem iX10_ask_0 : rx_ins mX10_ask 0 = some (2, 1, 0, 1, 0, []) := rx_at tbX10_ask ndX10_ask (j := 0) rfl
theorem iX10_ask_1 : rx_ins mX10_ask 1 = some (28, 4, 0, 128, 1, [(350, 192)]) := rx_at tbX10_ask ndX10_ask (j := 1) rfl
theorem iX10_ask_4 : rx_ins mX10_ask 4 = some (13, 7, 10, 0, 14, []) := rx_at tbX10_ask ndX10_ask (j := 2) rfl
theorem iX10_ask_14 : rx_ins mX10_ask 14 = some (1, 16, (-1000000001), 3, 10, [(103, 0)]) := rx_at tbX10_ask ndX10_ask (j := 6) rfl
theorem iX10_ask_16 : rx_ins mX10_ask 16 = some (29, 17, 0, 0, 0, []) := rx_at tbX10_ask ndX10_ask (j := 7) rfl
theorem iX10_ask_7 : rx_ins mX10_ask 7 = some (2, 8, 0, 2, 0, []) := rx_at tbX10_ask ndX10_ask (j := 3) rfl
theorem iX10_ask_8 : rx_ins mX10_ask 8 = some (28, 11, 0, 125, 1, [(131, 154)]) := rx_at tbX10_ask ndX10_ask (j := 4) rfl
theorem iX10_ask_11 : rx_ins mX10_ask 11 = some (13, 14, 6, 1, 17, []) := rx_at tbX10_ask ndX10_ask (j := 5) rfl
theorem iX10_ask_17 : rx_ins mX10_ask 17 = some (3, 18, 0, 0, 0, []) := rx_at tbX10_ask ndX10_ask (j := 8) rfl
theorem iX10_ask_18 : rx_ins mX10_ask 18 = some (18, 21, 0, 10, 11, [(78, 114)]) := rx_at tbX10_ask ndX10_ask (j := 9) rfl
theorem iX10_ask_21 : rx_ins mX10_ask 21 = some (2, 22, 0, 1, 0, []) := rx_at tbX10_ask ndX10_ask (j := 10) rfl
theorem iX10_ask_22 : rx_ins mX10_ask 22 = some (22, 23, 0, 0, 0, []) := rx_at tbX10_ask ndX10_ask (j := 11) rfl
theorem iX10_ask_23 : rx_ins mX10_ask 23 = some (5, 24, 0, 3, 0, []) := rx_at tbX10_ask ndX10_ask (j := 12) rfl
theorem iX10_ask_24 : rx_ins mX10_ask 24 = some (3, 25, 0, 3, 0, []) := rx_at tbX10_ask ndX10_ask (j := 13) rfl
theorem iX10_ask_25 : rx_ins mX10_ask 25 = some (1, 26, 1, 0, 0, []) := rx_at tbX10_ask ndX10_ask (j := 14) rfl
theorem iX10_ask_26 : rx_ins mX10_ask 26 = some (28, 29, 10, 73, 2, [(370, 194)]) := rx_at tbX10_ask ndX10_ask (j := 15) rfl
theorem iX10_ask_29 : rx_ins mX10_ask 29 = some (4, 31, 1, 4, 0, []) := rx_at tbX10_ask ndX10_ask (j := 16) rfl
theorem iX10_ask_31 : rx_ins mX10_ask 31 = some (2, 33, 1, 4, 0, []) := rx_at tbX10_ask ndX10_ask (j := 17) rfl
theorem iX10_ask_33 : rx_ins mX10_ask 33 = some (13, 36, 6, 0, 39, []) := rx_at tbX10_ask ndX10_ask (j := 18) rfl
theorem iX10_ask_39 : rx_ins mX10_ask 39 = some (3, 40, 0, 3, 0, []) := rx_at tbX10_ask ndX10_ask (j := 21) rfl
theorem iX10_ask_40 : rx_ins mX10_ask 40 = some (17, 43, 0, 8, 1, [(356, 116)]) := rx_at tbX10_ask ndX10_ask (j := 22) rfl
theorem iX10_ask_43 : rx_ins mX10_ask 43 = some (2, 44, 0, 2, 0, []) := rx_at tbX10_ask ndX10_ask (j := 23) rfl
theorem iX10_ask_44 : rx_ins mX10_ask 44 = some (28, 47, 0, 130, 2, [(169, 161)]) := rx_at tbX10_ask ndX10_ask (j := 24) rfl
theorem iX10_ask_47 : rx_ins mX10_ask 47 = some (13, 50, 17, 0, 64, []) := rx_at tbX10_ask ndX10_ask (j := 25) rfl
theorem iX10_ask_64 : rx_ins mX10_ask 64 = some (1, 66, (-1000000012), 3, 12, [(172, 0)]) := rx_at tbX10_ask ndX10_ask (j := 32) rfl
theorem iX10_ask_66 : rx_ins mX10_ask 66 = some (29, 67, 0, 0, 0, []) := rx_at tbX10_ask ndX10_ask (j := 33) rfl
theorem iX10_ask_50 : rx_ins mX10_ask 50 = some (3, 51, 0, 3, 0, []) := rx_at tbX10_ask ndX10_ask (j := 26) rfl
theorem iX10_ask_51 : rx_ins mX10_ask 51 = some (17, 54, 0, 8, 1, [(356, 116)]) := rx_at tbX10_ask ndX10_ask (j := 27) rfl
theorem iX10_ask_54 : rx_ins mX10_ask 54 = some (3, 55, 0, 3, 0, []) := rx_at tbX10_ask ndX10_ask (j := 28) rfl
theorem iX10_ask_55 : rx_ins mX10_ask 55 = some (17, 58, 0, 8, 2, [(358, 117)]) := rx_at tbX10_ask ndX10_ask (j := 29) rfl
theorem iX10_ask_58 : rx_ins mX10_ask 58 = some (28, 61, 0, 132, 2, [(166, 160)]) := rx_at tbX10_ask ndX10_ask (j := 30) rfl
theorem iX10_ask_61 : rx_ins mX10_ask 61 = some (15, 64, 5, 0, 66, []) := rx_at tbX10_ask ndX10_ask (j := 31) rfl
theorem iX10_ask_36 : rx_ins mX10_ask 36 = some (2, 38, 1, 4, 0, []) := rx_at tbX10_ask ndX10_ask (j := 19) rfl
theorem iX10_ask_38 : rx_ins mX10_ask 38 = some (29, 39, 0, 0, 0, []) := rx_at tbX10_ask ndX10_ask (j := 20) rfl
theorem iX10_item_0 : rx_ins mX10_item 0 = some (2, 1, 0, 1, 0, []) := rx_at tbX10_item ndX10_item (j := 0) rfl
theorem iX10_item_1 : rx_ins mX10_item 1 = some (28, 4, 0, 128, 1, [(350, 192)]) := rx_at tbX10_item ndX10_item (j := 1) rfl
theorem iX10_item_4 : rx_ins mX10_item 4 = some (13, 7, 6, 1, 10, []) := rx_at tbX10_item ndX10_item (j := 2) rfl
theorem iX10_item_10 : rx_ins mX10_item 10 = some (3, 11, 0, 0, 0, []) := rx_at tbX10_item ndX10_item (j := 5) rfl
theorem iX10_item_11 : rx_ins mX10_item 11 = some (18, 14, 0, 10, 11, [(78, 114)]) := rx_at tbX10_item ndX10_item (j := 6) rfl
theorem iX10_item_14 : rx_ins mX10_item 14 = some (2, 15, 0, 1, 0, []) := rx_at tbX10_item ndX10_item (j := 7) rfl
theorem iX10_item_15 : rx_ins mX10_item 15 = some (22, 16, 0, 0, 0, []) := rx_at tbX10_item ndX10_item (j := 8) rfl
theorem iX10_item_16 : rx_ins mX10_item 16 = some (5, 17, 0, 3, 0, []) := rx_at tbX10_item ndX10_item (j := 9) rfl
theorem iX10_item_17 : rx_ins mX10_item 17 = some (3, 18, 0, 3, 0, []) := rx_at tbX10_item ndX10_item (j := 10) rfl
theorem iX10_item_18 : rx_ins mX10_item 18 = some (1, 19, 2, 0, 0, []) := rx_at tbX10_item ndX10_item (j := 11) rfl
theorem iX10_item_19 : rx_ins mX10_item 19 = some (28, 22, 10, 73, 2, [(370, 194)]) := rx_at tbX10_item ndX10_item (j := 12) rfl
theorem iX10_item_22 : rx_ins mX10_item 22 = some (4, 24, 1, 4, 0, []) := rx_at tbX10_item ndX10_item (j := 13) rfl
theorem iX10_item_24 : rx_ins mX10_item 24 = some (2, 26, 1, 4, 0, []) := rx_at tbX10_item ndX10_item (j := 14) rfl
theorem iX10_item_26 : rx_ins mX10_item 26 = some (13, 29, 6, 0, 32, []) := rx_at tbX10_item ndX10_item (j := 15) rfl
theorem iX10_item_32 : rx_ins mX10_item 32 = some (3, 33, 0, 3, 0, []) := rx_at tbX10_item ndX10_item (j := 18) rfl
theorem iX10_item_33 : rx_ins mX10_item 33 = some (18, 36, 0, 8, 3, [(360, 118)]) := rx_at tbX10_item ndX10_item (j := 19) rfl
theorem iX10_item_36 : rx_ins mX10_item 36 = some (2, 37, 0, 2, 0, []) := rx_at tbX10_item ndX10_item (j := 20) rfl
theorem iX10_item_37 : rx_ins mX10_item 37 = some (28, 40, 9, 69, 2, [(332, 190)]) := rx_at tbX10_item ndX10_item (j := 21) rfl
theorem iX10_item_40 : rx_ins mX10_item 40 = some (13, 43, 7, 1, 47, []) := rx_at tbX10_item ndX10_item (j := 22) rfl
theorem iX10_item_47 : rx_ins mX10_item 47 = some (3, 48, 0, 3, 0, []) := rx_at tbX10_item ndX10_item (j := 25) rfl
theorem iX10_item_48 : rx_ins mX10_item 48 = some (18, 51, 0, 8, 3, [(360, 118)]) := rx_at tbX10_item ndX10_item (j := 26) rfl
theorem iX10_item_51 : rx_ins mX10_item 51 = some (18, 54, 0, 7, 2, [(256, 95)]) := rx_at tbX10_item ndX10_item (j := 27) rfl
theorem iX10_item_54 : rx_ins mX10_item 54 = some (2, 55, 0, 2, 0, []) := rx_at tbX10_item ndX10_item (j := 28) rfl
theorem iX10_item_55 : rx_ins mX10_item 55 = some (20, 56, 0, 0, 0, []) := rx_at tbX10_item ndX10_item (j := 29) rfl
theorem iX10_item_56 : rx_ins mX10_item 56 = some (4, 58, 1, 5, 0, []) := rx_at tbX10_item ndX10_item (j := 30) rfl
theorem iX10_item_58 : rx_ins mX10_item 58 = some (2, 60, 1, 5, 0, []) := rx_at tbX10_item ndX10_item (j := 31) rfl
theorem iX10_item_60 : rx_ins mX10_item 60 = some (1, 62, (-1000000005), 3, 14, [(226, 0)]) := rx_at tbX10_item ndX10_item (j := 32) rfl
theorem iX10_item_62 : rx_ins mX10_item 62 = some (14, 65, 8, 1, 70, []) := rx_at tbX10_item ndX10_item (j := 33) rfl
theorem iX10_item_70 : rx_ins mX10_item 70 = some (2, 72, 1, 5, 0, []) := rx_at tbX10_item ndX10_item (j := 36) rfl
theorem iX10_item_72 : rx_ins mX10_item 72 = some (29, 73, 0, 0, 0, []) := rx_at tbX10_item ndX10_item (j := 37) rfl
theorem iX10_item_65 : rx_ins mX10_item 65 = some (1, 67, (-1000000012), 3, 12, [(172, 0)]) := rx_at tbX10_item ndX10_item (j := 34) rfl
theorem iX10_item_67 : rx_ins mX10_item 67 = some (15, 70, 5, 0, 72, []) := rx_at tbX10_item ndX10_item (j := 35) rfl
theorem iX10_item_43 : rx_ins mX10_item 43 = some (1, 46, (-1000000013), 4, 18, [(335, 0)]) := rx_at tbX10_item ndX10_item (j := 23) rfl
theorem iX10_item_46 : rx_ins mX10_item 46 = some (29, 47, 0, 0, 0, []) := rx_at tbX10_item ndX10_item (j := 24) rfl
theorem iX10_item_29 : rx_ins mX10_item 29 = some (2, 31, 1, 4, 0, []) := rx_at tbX10_item ndX10_item (j := 16) rfl
theorem iX10_item_31 : rx_ins mX10_item 31 = some (29, 32, 0, 0, 0, []) := rx_at tbX10_item ndX10_item (j := 17) rfl
theorem iX10_item_7 : rx_ins mX10_item 7 = some (1, 9, (-1000000001), 3, 10, [(103, 0)]) := rx_at tbX10_item ndX10_item (j := 3) rfl
theorem iX10_item_9 : rx_ins mX10_item 9 = some (29, 10, 0, 0, 0, []) := rx_at tbX10_item ndX10_item (j := 4) rfl
theorem iX10_rest_0 : rx_ins mX10_rest 0 = some (2, 1, 0, 1, 0, []) := rx_at tbX10_rest ndX10_rest (j := 0) rfl
theorem iX10_rest_1 : rx_ins mX10_rest 1 = some (28, 4, 0, 128, 1, [(350, 192)]) := rx_at tbX10_rest ndX10_rest (j := 1) rfl
theorem iX10_rest_4 : rx_ins mX10_rest 4 = some (13, 7, 6, 1, 10, []) := rx_at tbX10_rest ndX10_rest (j := 2) rfl
theorem iX10_rest_10 : rx_ins mX10_rest 10 = some (3, 11, 0, 0, 0, []) := rx_at tbX10_rest ndX10_rest (j := 5) rfl
theorem iX10_rest_11 : rx_ins mX10_rest 11 = some (18, 14, 0, 10, 11, [(78, 114)]) := rx_at tbX10_rest ndX10_rest (j := 6) rfl
theorem iX10_rest_14 : rx_ins mX10_rest 14 = some (2, 15, 0, 1, 0, []) := rx_at tbX10_rest ndX10_rest (j := 7) rfl
theorem iX10_rest_15 : rx_ins mX10_rest 15 = some (22, 16, 0, 0, 0, []) := rx_at tbX10_rest ndX10_rest (j := 8) rfl
theorem iX10_rest_16 : rx_ins mX10_rest 16 = some (5, 17, 0, 3, 0, []) := rx_at tbX10_rest ndX10_rest (j := 9) rfl
theorem iX10_rest_17 : rx_ins mX10_rest 17 = some (3, 18, 0, 3, 0, []) := rx_at tbX10_rest ndX10_rest (j := 10) rfl
theorem iX10_rest_18 : rx_ins mX10_rest 18 = some (1, 19, 3, 0, 0, []) := rx_at tbX10_rest ndX10_rest (j := 11) rfl
theorem iX10_rest_19 : rx_ins mX10_rest 19 = some (28, 22, 10, 73, 2, [(370, 194)]) := rx_at tbX10_rest ndX10_rest (j := 12) rfl
theorem iX10_rest_22 : rx_ins mX10_rest 22 = some (4, 24, 1, 4, 0, []) := rx_at tbX10_rest ndX10_rest (j := 13) rfl
theorem iX10_rest_24 : rx_ins mX10_rest 24 = some (2, 26, 1, 4, 0, []) := rx_at tbX10_rest ndX10_rest (j := 14) rfl
theorem iX10_rest_26 : rx_ins mX10_rest 26 = some (13, 29, 6, 0, 32, []) := rx_at tbX10_rest ndX10_rest (j := 15) rfl
theorem iX10_rest_32 : rx_ins mX10_rest 32 = some (2, 33, 0, 2, 0, []) := rx_at tbX10_rest ndX10_rest (j := 18) rfl
theorem iX10_rest_33 : rx_ins mX10_rest 33 = some (13, 36, 8, 1, 41, []) := rx_at tbX10_rest ndX10_rest (j := 19) rfl
theorem iX10_rest_41 : rx_ins mX10_rest 41 = some (3, 42, 0, 3, 0, []) := rx_at tbX10_rest ndX10_rest (j := 22) rfl
theorem iX10_rest_42 : rx_ins mX10_rest 42 = some (17, 45, 0, 8, 4, [(367, 119)]) := rx_at tbX10_rest ndX10_rest (j := 23) rfl
theorem iX10_rest_45 : rx_ins mX10_rest 45 = some (2, 46, 0, 2, 0, []) := rx_at tbX10_rest ndX10_rest (j := 24) rfl
theorem iX10_rest_46 : rx_ins mX10_rest 46 = some (8, 47, 0, 1, 0, []) := rx_at tbX10_rest ndX10_rest (j := 25) rfl
theorem iX10_rest_47 : rx_ins mX10_rest 47 = some (29, 48, 0, 0, 0, []) := rx_at tbX10_rest ndX10_rest (j := 26) rfl
theorem iX10_rest_36 : rx_ins mX10_rest 36 = some (1, 38, (-1000000002), 3, 11, [(127, 0)]) := rx_at tbX10_rest ndX10_rest (j := 20) rfl
theorem iX10_rest_38 : rx_ins mX10_rest 38 = some (15, 41, 9, 0, 47, []) := rx_at tbX10_rest ndX10_rest (j := 21) rfl
theorem iX10_rest_29 : rx_ins mX10_rest 29 = some (2, 31, 1, 4, 0, []) := rx_at tbX10_rest ndX10_rest (j := 16) rfl
theorem iX10_rest_31 : rx_ins mX10_rest 31 = some (29, 32, 0, 0, 0, []) := rx_at tbX10_rest ndX10_rest (j := 17) rfl
theorem iX10_rest_7 : rx_ins mX10_rest 7 = some (1, 9, (-1000000001), 3, 10, [(103, 0)]) := rx_at tbX10_rest ndX10_rest (j := 3) rfl
theorem iX10_rest_9 : rx_ins mX10_rest 9 = some (29, 10, 0, 0, 0, []) := rx_at tbX10_rest ndX10_rest (j := 4) rfl
theorem iX10_tell_0 : rx_ins mX10_tell 0 = some (3, 1, 0, 0, 0, []) := rx_at tbX10_tell ndX10_tell (j := 0) rfl
theorem iX10_tell_1 : rx_ins mX10_tell 1 = some (17, 4, 0, 10, 13, [(86, 120)]) := rx_at tbX10_tell ndX10_tell (j := 1) rfl
theorem iX10_tell_4 : rx_ins mX10_tell 4 = some (1, 6, 60, 1, 0, []) := rx_at tbX10_tell ndX10_tell (j := 2) rfl
theorem iX10_tell_6 : rx_ins mX10_tell 6 = some (14, 9, 7, 2, 13, []) := rx_at tbX10_tell ndX10_tell (j := 3) rfl
theorem iX10_tell_13 : rx_ins mX10_tell 13 = some (3, 14, 0, 0, 0, []) := rx_at tbX10_tell ndX10_tell (j := 6) rfl
theorem iX10_tell_14 : rx_ins mX10_tell 14 = some (18, 17, 0, 10, 12, [(82, 121)]) := rx_at tbX10_tell ndX10_tell (j := 7) rfl
theorem iX10_tell_17 : rx_ins mX10_tell 17 = some (3, 18, 0, 0, 0, []) := rx_at tbX10_tell ndX10_tell (j := 8) rfl
theorem iX10_tell_18 : rx_ins mX10_tell 18 = some (17, 21, 0, 10, 13, [(86, 120)]) := rx_at tbX10_tell ndX10_tell (j := 9) rfl
theorem iX10_tell_21 : rx_ins mX10_tell 21 = some (2, 22, 0, 1, 0, []) := rx_at tbX10_tell ndX10_tell (j := 10) rfl
theorem iX10_tell_22 : rx_ins mX10_tell 22 = some (21, 23, 0, 0, 0, []) := rx_at tbX10_tell ndX10_tell (j := 11) rfl
theorem iX10_tell_23 : rx_ins mX10_tell 23 = some (3, 24, 0, 0, 0, []) := rx_at tbX10_tell ndX10_tell (j := 12) rfl
theorem iX10_tell_24 : rx_ins mX10_tell 24 = some (10, 25, 0, 0, 0, []) := rx_at tbX10_tell ndX10_tell (j := 13) rfl
theorem iX10_tell_25 : rx_ins mX10_tell 25 = some (17, 28, 0, 10, 13, [(86, 120)]) := rx_at tbX10_tell ndX10_tell (j := 14) rfl
theorem iX10_tell_28 : rx_ins mX10_tell 28 = some (1, 29, 1, 0, 0, []) := rx_at tbX10_tell ndX10_tell (j := 15) rfl
theorem iX10_tell_29 : rx_ins mX10_tell 29 = some (7, 30, 0, 0, 0, []) := rx_at tbX10_tell ndX10_tell (j := 16) rfl
theorem iX10_tell_30 : rx_ins mX10_tell 30 = some (19, 33, 0, 10, 13, [(86, 120)]) := rx_at tbX10_tell ndX10_tell (j := 17) rfl
theorem iX10_tell_33 : rx_ins mX10_tell 33 = some (3, 34, 0, 0, 0, []) := rx_at tbX10_tell ndX10_tell (j := 18) rfl
theorem iX10_tell_34 : rx_ins mX10_tell 34 = some (17, 37, 0, 10, 13, [(86, 120)]) := rx_at tbX10_tell ndX10_tell (j := 19) rfl
theorem iX10_tell_37 : rx_ins mX10_tell 37 = some (29, 38, 0, 0, 0, []) := rx_at tbX10_tell ndX10_tell (j := 20) rfl
theorem iX10_tell_9 : rx_ins mX10_tell 9 = some (1, 12, (-1000000003), 4, 17, [(300, 0)]) := rx_at tbX10_tell ndX10_tell (j := 4) rfl
theorem iX10_tell_12 : rx_ins mX10_tell 12 = some (29, 13, 0, 0, 0, []) := rx_at tbX10_tell ndX10_tell (j := 5) rfl
theorem iX10_check_0 : rx_ins mX10_check 0 = some (3, 1, 0, 0, 0, []) := rx_at tbX10_check ndX10_check (j := 0) rfl
theorem iX10_check_1 : rx_ins mX10_check 1 = some (17, 4, 0, 10, 13, [(86, 120)]) := rx_at tbX10_check ndX10_check (j := 1) rfl
theorem iX10_check_4 : rx_ins mX10_check 4 = some (4, 5, 0, 2, 0, []) := rx_at tbX10_check ndX10_check (j := 2) rfl
theorem iX10_check_5 : rx_ins mX10_check 5 = some (3, 6, 0, 0, 0, []) := rx_at tbX10_check ndX10_check (j := 3) rfl
theorem iX10_check_6 : rx_ins mX10_check 6 = some (1, 7, 0, 0, 0, []) := rx_at tbX10_check ndX10_check (j := 4) rfl
theorem iX10_check_7 : rx_ins mX10_check 7 = some (19, 10, 0, 10, 13, [(86, 120)]) := rx_at tbX10_check ndX10_check (j := 5) rfl
theorem iX10_check_10 : rx_ins mX10_check 10 = some (2, 11, 0, 1, 0, []) := rx_at tbX10_check ndX10_check (j := 6) rfl
theorem iX10_check_11 : rx_ins mX10_check 11 = some (1, 12, 1, 0, 0, []) := rx_at tbX10_check ndX10_check (j := 7) rfl
theorem iX10_check_12 : rx_ins mX10_check 12 = some (14, 15, 9, 2, 21, []) := rx_at tbX10_check ndX10_check (j := 8) rfl
theorem iX10_check_21 : rx_ins mX10_check 21 = some (1, 23, (-1000000001), 3, 10, [(103, 0)]) := rx_at tbX10_check ndX10_check (j := 12) rfl
theorem iX10_check_23 : rx_ins mX10_check 23 = some (29, 24, 0, 0, 0, []) := rx_at tbX10_check ndX10_check (j := 13) rfl
theorem iX10_check_15 : rx_ins mX10_check 15 = some (2, 16, 0, 1, 0, []) := rx_at tbX10_check ndX10_check (j := 9) rfl
theorem iX10_check_16 : rx_ins mX10_check 16 = some (1, 18, 30, 1, 0, []) := rx_at tbX10_check ndX10_check (j := 10) rfl
theorem iX10_check_18 : rx_ins mX10_check 18 = some (14, 21, 6, 5, 24, []) := rx_at tbX10_check ndX10_check (j := 11) rfl
theorem iX10_check_24 : rx_ins mX10_check 24 = some (3, 25, 0, 0, 0, []) := rx_at tbX10_check ndX10_check (j := 14) rfl
theorem iX10_check_25 : rx_ins mX10_check 25 = some (17, 28, 0, 10, 3, [(24, 122)]) := rx_at tbX10_check ndX10_check (j := 15) rfl
theorem iX10_check_28 : rx_ins mX10_check 28 = some (13, 31, 6, 1, 34, []) := rx_at tbX10_check ndX10_check (j := 16) rfl
theorem iX10_check_34 : rx_ins mX10_check 34 = some (3, 35, 0, 0, 0, []) := rx_at tbX10_check ndX10_check (j := 19) rfl
theorem iX10_check_35 : rx_ins mX10_check 35 = some (2, 36, 0, 1, 0, []) := rx_at tbX10_check ndX10_check (j := 20) rfl
theorem iX10_check_36 : rx_ins mX10_check 36 = some (2, 37, 0, 2, 0, []) := rx_at tbX10_check ndX10_check (j := 21) rfl
theorem iX10_check_37 : rx_ins mX10_check 37 = some (28, 40, 12, 121, 3, [(373, 195)]) := rx_at tbX10_check ndX10_check (j := 22) rfl
theorem iX10_check_40 : rx_ins mX10_check 40 = some (29, 41, 0, 0, 0, []) := rx_at tbX10_check ndX10_check (j := 23) rfl
theorem iX10_check_31 : rx_ins mX10_check 31 = some (1, 33, (-1000000002), 3, 11, [(127, 0)]) := rx_at tbX10_check ndX10_check (j := 17) rfl
theorem iX10_check_33 : rx_ins mX10_check 33 = some (29, 34, 0, 0, 0, []) := rx_at tbX10_check ndX10_check (j := 18) rfl
theorem iX10_keep_0 : rx_ins mX10_keep 0 = some (3, 1, 0, 0, 0, []) := rx_at tbX10_keep ndX10_keep (j := 0) rfl
theorem iX10_keep_1 : rx_ins mX10_keep 1 = some (18, 4, 0, 10, 1, [(18, 123)]) := rx_at tbX10_keep ndX10_keep (j := 1) rfl
theorem iX10_keep_4 : rx_ins mX10_keep 4 = some (3, 5, 0, 0, 0, []) := rx_at tbX10_keep ndX10_keep (j := 2) rfl
theorem iX10_keep_5 : rx_ins mX10_keep 5 = some (18, 8, 0, 10, 0, [(12, 75)]) := rx_at tbX10_keep ndX10_keep (j := 3) rfl
theorem iX10_keep_8 : rx_ins mX10_keep 8 = some (28, 11, 3, 5, 2, [(210, 169)]) := rx_at tbX10_keep ndX10_keep (j := 4) rfl
theorem iX10_keep_11 : rx_ins mX10_keep 11 = some (3, 12, 0, 0, 0, []) := rx_at tbX10_keep ndX10_keep (j := 5) rfl
theorem iX10_keep_12 : rx_ins mX10_keep 12 = some (1, 13, 1, 0, 0, []) := rx_at tbX10_keep ndX10_keep (j := 6) rfl
theorem iX10_keep_13 : rx_ins mX10_keep 13 = some (19, 16, 1, 10, 3, [(24, 122)]) := rx_at tbX10_keep ndX10_keep (j := 7) rfl
theorem iX10_keep_16 : rx_ins mX10_keep 16 = some (3, 17, 0, 0, 0, []) := rx_at tbX10_keep ndX10_keep (j := 8) rfl
theorem iX10_keep_17 : rx_ins mX10_keep 17 = some (18, 20, 0, 10, 1, [(18, 123)]) := rx_at tbX10_keep ndX10_keep (j := 9) rfl
theorem iX10_keep_20 : rx_ins mX10_keep 20 = some (17, 23, 0, 1, 6, [(180, 86)]) := rx_at tbX10_keep ndX10_keep (j := 10) rfl
theorem iX10_keep_23 : rx_ins mX10_keep 23 = some (29, 24, 0, 0, 0, []) := rx_at tbX10_keep ndX10_keep (j := 11) rfl
theorem iX10_back_0 : rx_ins mX10_back 0 = some (3, 1, 0, 0, 0, []) := rx_at tbX10_back ndX10_back (j := 0) rfl
theorem iX10_back_1 : rx_ins mX10_back 1 = some (17, 4, 0, 10, 3, [(24, 122)]) := rx_at tbX10_back ndX10_back (j := 1) rfl
theorem iX10_back_4 : rx_ins mX10_back 4 = some (13, 7, 6, 1, 10, []) := rx_at tbX10_back ndX10_back (j := 2) rfl
theorem iX10_back_10 : rx_ins mX10_back 10 = some (3, 11, 0, 0, 0, []) := rx_at tbX10_back ndX10_back (j := 5) rfl
theorem iX10_back_11 : rx_ins mX10_back 11 = some (18, 14, 0, 10, 0, [(12, 75)]) := rx_at tbX10_back ndX10_back (j := 6) rfl
theorem iX10_back_14 : rx_ins mX10_back 14 = some (3, 15, 0, 0, 0, []) := rx_at tbX10_back ndX10_back (j := 7) rfl
theorem iX10_back_15 : rx_ins mX10_back 15 = some (18, 18, 0, 10, 1, [(18, 123)]) := rx_at tbX10_back ndX10_back (j := 8) rfl
theorem iX10_back_18 : rx_ins mX10_back 18 = some (28, 21, 3, 5, 2, [(210, 169)]) := rx_at tbX10_back ndX10_back (j := 9) rfl
theorem iX10_back_21 : rx_ins mX10_back 21 = some (3, 22, 0, 0, 0, []) := rx_at tbX10_back ndX10_back (j := 10) rfl
theorem iX10_back_22 : rx_ins mX10_back 22 = some (18, 25, 0, 10, 0, [(12, 75)]) := rx_at tbX10_back ndX10_back (j := 11) rfl
theorem iX10_back_25 : rx_ins mX10_back 25 = some (17, 28, 0, 1, 6, [(180, 86)]) := rx_at tbX10_back ndX10_back (j := 12) rfl
theorem iX10_back_28 : rx_ins mX10_back 28 = some (29, 29, 0, 0, 0, []) := rx_at tbX10_back ndX10_back (j := 13) rfl
theorem iX10_back_7 : rx_ins mX10_back 7 = some (1, 9, (-1000000002), 3, 11, [(127, 0)]) := rx_at tbX10_back ndX10_back (j := 3) rfl
theorem iX10_back_9 : rx_ins mX10_back 9 = some (29, 10, 0, 0, 0, []) := rx_at tbX10_back ndX10_back (j := 4) rfl
theorem iX10_count_0 : rx_ins mX10_count 0 = some (2, 1, 0, 1, 0, []) := rx_at tbX10_count ndX10_count (j := 0) rfl
theorem iX10_count_1 : rx_ins mX10_count 1 = some (16, 40, 0, 0, 85, [(0, 40), (1, 48), (2, 56), (3, 64), (4, 69), (5, 77)]) := rx_at tbX10_count ndX10_count (j := 1) rfl
theorem iX10_count_40 : rx_ins mX10_count 40 = some (3, 41, 0, 0, 0, []) := rx_at tbX10_count ndX10_count (j := 2) rfl
theorem iX10_count_41 : rx_ins mX10_count 41 = some (18, 44, 0, 10, 0, [(12, 75)]) := rx_at tbX10_count ndX10_count (j := 3) rfl
theorem iX10_count_44 : rx_ins mX10_count 44 = some (17, 47, 0, 1, 0, [(194, 87)]) := rx_at tbX10_count ndX10_count (j := 4) rfl
theorem iX10_count_47 : rx_ins mX10_count 47 = some (29, 48, 0, 0, 0, []) := rx_at tbX10_count ndX10_count (j := 5) rfl
theorem iX10_count_48 : rx_ins mX10_count 48 = some (3, 49, 0, 0, 0, []) := rx_at tbX10_count ndX10_count (j := 6) rfl
theorem iX10_count_49 : rx_ins mX10_count 49 = some (18, 52, 0, 10, 0, [(12, 75)]) := rx_at tbX10_count ndX10_count (j := 7) rfl
theorem iX10_count_52 : rx_ins mX10_count 52 = some (17, 55, 0, 1, 6, [(180, 86)]) := rx_at tbX10_count ndX10_count (j := 8) rfl
theorem iX10_count_55 : rx_ins mX10_count 55 = some (29, 56, 0, 0, 0, []) := rx_at tbX10_count ndX10_count (j := 9) rfl
theorem iX10_count_56 : rx_ins mX10_count 56 = some (3, 57, 0, 0, 0, []) := rx_at tbX10_count ndX10_count (j := 10) rfl
theorem iX10_count_57 : rx_ins mX10_count 57 = some (18, 60, 0, 10, 0, [(12, 75)]) := rx_at tbX10_count ndX10_count (j := 11) rfl
theorem iX10_count_60 : rx_ins mX10_count 60 = some (17, 63, 0, 1, 12, [(307, 109)]) := rx_at tbX10_count ndX10_count (j := 12) rfl
theorem iX10_count_63 : rx_ins mX10_count 63 = some (29, 64, 0, 0, 0, []) := rx_at tbX10_count ndX10_count (j := 13) rfl
theorem iX10_count_64 : rx_ins mX10_count 64 = some (3, 65, 0, 0, 0, []) := rx_at tbX10_count ndX10_count (j := 14) rfl
theorem iX10_count_65 : rx_ins mX10_count 65 = some (17, 68, 0, 10, 13, [(86, 120)]) := rx_at tbX10_count ndX10_count (j := 15) rfl
theorem iX10_count_68 : rx_ins mX10_count 68 = some (29, 69, 0, 0, 0, []) := rx_at tbX10_count ndX10_count (j := 16) rfl
theorem iX10_count_69 : rx_ins mX10_count 69 = some (3, 70, 0, 0, 0, []) := rx_at tbX10_count ndX10_count (j := 17) rfl
theorem iX10_count_70 : rx_ins mX10_count 70 = some (18, 73, 0, 10, 4, [(31, 107)]) := rx_at tbX10_count ndX10_count (j := 18) rfl
theorem iX10_count_73 : rx_ins mX10_count 73 = some (17, 76, 0, 5, 0, [(297, 108)]) := rx_at tbX10_count ndX10_count (j := 19) rfl
theorem iX10_count_76 : rx_ins mX10_count 76 = some (29, 77, 0, 0, 0, []) := rx_at tbX10_count ndX10_count (j := 20) rfl
theorem iX10_count_77 : rx_ins mX10_count 77 = some (3, 78, 0, 0, 0, []) := rx_at tbX10_count ndX10_count (j := 21) rfl
theorem iX10_count_78 : rx_ins mX10_count 78 = some (18, 81, 0, 10, 0, [(12, 75)]) := rx_at tbX10_count ndX10_count (j := 22) rfl
theorem iX10_count_81 : rx_ins mX10_count 81 = some (17, 84, 0, 1, 13, [(294, 106)]) := rx_at tbX10_count ndX10_count (j := 23) rfl
theorem iX10_count_84 : rx_ins mX10_count 84 = some (29, 85, 0, 0, 0, []) := rx_at tbX10_count ndX10_count (j := 24) rfl
theorem iX10_count_85 : rx_ins mX10_count 85 = some (1, 87, (-1000000001), 3, 10, [(103, 0)]) := rx_at tbX10_count ndX10_count (j := 25) rfl
theorem iX10_count_87 : rx_ins mX10_count 87 = some (29, 88, 0, 0, 0, []) := rx_at tbX10_count ndX10_count (j := 26) rfl
theorem iX10_crossingsTold_0 : rx_ins mX10_crossingsTold 0 = some (2, 1, 0, 2, 0, []) := rx_at tbX10_crossingsTold ndX10_crossingsTold (j := 0) rfl
theorem iX10_crossingsTold_1 : rx_ins mX10_crossingsTold 1 = some (13, 4, 12, 1, 13, []) := rx_at tbX10_crossingsTold ndX10_crossingsTold (j := 1) rfl
theorem iX10_crossingsTold_13 : rx_ins mX10_crossingsTold 13 = some (2, 14, 0, 2, 0, []) := rx_at tbX10_crossingsTold ndX10_crossingsTold (j := 7) rfl
theorem iX10_crossingsTold_14 : rx_ins mX10_crossingsTold 14 = some (1, 15, 1, 0, 0, []) := rx_at tbX10_crossingsTold ndX10_crossingsTold (j := 8) rfl
theorem iX10_crossingsTold_15 : rx_ins mX10_crossingsTold 15 = some (14, 18, 6, 0, 21, []) := rx_at tbX10_crossingsTold ndX10_crossingsTold (j := 9) rfl
theorem iX10_crossingsTold_21 : rx_ins mX10_crossingsTold 21 = some (3, 22, 0, 0, 0, []) := rx_at tbX10_crossingsTold ndX10_crossingsTold (j := 12) rfl
theorem iX10_crossingsTold_22 : rx_ins mX10_crossingsTold 22 = some (18, 25, 0, 10, 5, [(38, 85)]) := rx_at tbX10_crossingsTold ndX10_crossingsTold (j := 13) rfl
theorem iX10_crossingsTold_25 : rx_ins mX10_crossingsTold 25 = some (3, 26, 0, 0, 0, []) := rx_at tbX10_crossingsTold ndX10_crossingsTold (j := 14) rfl
theorem iX10_crossingsTold_26 : rx_ins mX10_crossingsTold 26 = some (18, 29, 0, 10, 0, [(12, 75)]) := rx_at tbX10_crossingsTold ndX10_crossingsTold (j := 15) rfl
theorem iX10_crossingsTold_29 : rx_ins mX10_crossingsTold 29 = some (28, 32, 2, 2, 2, [(206, 168)]) := rx_at tbX10_crossingsTold ndX10_crossingsTold (j := 16) rfl
theorem iX10_crossingsTold_32 : rx_ins mX10_crossingsTold 32 = some (3, 33, 0, 0, 0, []) := rx_at tbX10_crossingsTold ndX10_crossingsTold (j := 17) rfl
theorem iX10_crossingsTold_33 : rx_ins mX10_crossingsTold 33 = some (18, 36, 0, 10, 5, [(38, 85)]) := rx_at tbX10_crossingsTold ndX10_crossingsTold (j := 18) rfl
theorem iX10_crossingsTold_36 : rx_ins mX10_crossingsTold 36 = some (3, 37, 0, 0, 0, []) := rx_at tbX10_crossingsTold ndX10_crossingsTold (j := 19) rfl
theorem iX10_crossingsTold_37 : rx_ins mX10_crossingsTold 37 = some (18, 40, 0, 10, 0, [(12, 75)]) := rx_at tbX10_crossingsTold ndX10_crossingsTold (j := 20) rfl
theorem iX10_crossingsTold_40 : rx_ins mX10_crossingsTold 40 = some (2, 41, 0, 1, 0, []) := rx_at tbX10_crossingsTold ndX10_crossingsTold (j := 21) rfl
theorem iX10_crossingsTold_41 : rx_ins mX10_crossingsTold 41 = some (1, 43, 2147483647, 3, 13, [(217, 0)]) := rx_at tbX10_crossingsTold ndX10_crossingsTold (j := 22) rfl
theorem iX10_crossingsTold_43 : rx_ins mX10_crossingsTold 43 = some (28, 46, 2, 3, 4, [(218, 171)]) := rx_at tbX10_crossingsTold ndX10_crossingsTold (j := 23) rfl
theorem iX10_crossingsTold_46 : rx_ins mX10_crossingsTold 46 = some (29, 47, 0, 0, 0, []) := rx_at tbX10_crossingsTold ndX10_crossingsTold (j := 24) rfl
theorem iX10_crossingsTold_18 : rx_ins mX10_crossingsTold 18 = some (1, 20, (-1000000001), 3, 10, [(103, 0)]) := rx_at tbX10_crossingsTold ndX10_crossingsTold (j := 10) rfl
theorem iX10_crossingsTold_20 : rx_ins mX10_crossingsTold 20 = some (29, 21, 0, 0, 0, []) := rx_at tbX10_crossingsTold ndX10_crossingsTold (j := 11) rfl
theorem iX10_crossingsTold_4 : rx_ins mX10_crossingsTold 4 = some (3, 5, 0, 0, 0, []) := rx_at tbX10_crossingsTold ndX10_crossingsTold (j := 2) rfl
theorem iX10_crossingsTold_5 : rx_ins mX10_crossingsTold 5 = some (18, 8, 0, 10, 0, [(12, 75)]) := rx_at tbX10_crossingsTold ndX10_crossingsTold (j := 3) rfl
theorem iX10_crossingsTold_8 : rx_ins mX10_crossingsTold 8 = some (2, 9, 0, 1, 0, []) := rx_at tbX10_crossingsTold ndX10_crossingsTold (j := 4) rfl
theorem iX10_crossingsTold_9 : rx_ins mX10_crossingsTold 9 = some (28, 12, 3, 25, 2, [(376, 196)]) := rx_at tbX10_crossingsTold ndX10_crossingsTold (j := 5) rfl
theorem iX10_crossingsTold_12 : rx_ins mX10_crossingsTold 12 = some (29, 13, 0, 0, 0, []) := rx_at tbX10_crossingsTold ndX10_crossingsTold (j := 6) rfl
theorem iX10_dearestRoad_0 : rx_ins mX10_dearestRoad 0 = some (3, 1, 0, 0, 0, []) := rx_at tbX10_dearestRoad ndX10_dearestRoad (j := 0) rfl
theorem iX10_dearestRoad_1 : rx_ins mX10_dearestRoad 1 = some (18, 4, 0, 10, 0, [(12, 75)]) := rx_at tbX10_dearestRoad ndX10_dearestRoad (j := 1) rfl
theorem iX10_dearestRoad_4 : rx_ins mX10_dearestRoad 4 = some (1, 5, 0, 0, 0, []) := rx_at tbX10_dearestRoad ndX10_dearestRoad (j := 2) rfl
theorem iX10_dearestRoad_5 : rx_ins mX10_dearestRoad 5 = some (28, 8, 3, 25, 2, [(376, 196)]) := rx_at tbX10_dearestRoad ndX10_dearestRoad (j := 3) rfl
theorem iX10_dearestRoad_8 : rx_ins mX10_dearestRoad 8 = some (13, 11, 6, 1, 14, []) := rx_at tbX10_dearestRoad ndX10_dearestRoad (j := 4) rfl
theorem iX10_dearestRoad_14 : rx_ins mX10_dearestRoad 14 = some (3, 15, 0, 0, 0, []) := rx_at tbX10_dearestRoad ndX10_dearestRoad (j := 7) rfl
theorem iX10_dearestRoad_15 : rx_ins mX10_dearestRoad 15 = some (18, 18, 0, 10, 5, [(38, 85)]) := rx_at tbX10_dearestRoad ndX10_dearestRoad (j := 8) rfl
theorem iX10_dearestRoad_18 : rx_ins mX10_dearestRoad 18 = some (3, 19, 0, 0, 0, []) := rx_at tbX10_dearestRoad ndX10_dearestRoad (j := 9) rfl
theorem iX10_dearestRoad_19 : rx_ins mX10_dearestRoad 19 = some (18, 22, 0, 10, 0, [(12, 75)]) := rx_at tbX10_dearestRoad ndX10_dearestRoad (j := 10) rfl
theorem iX10_dearestRoad_22 : rx_ins mX10_dearestRoad 22 = some (28, 25, 2, 2, 2, [(206, 168)]) := rx_at tbX10_dearestRoad ndX10_dearestRoad (j := 11) rfl
theorem iX10_dearestRoad_25 : rx_ins mX10_dearestRoad 25 = some (1, 26, 0, 0, 0, []) := rx_at tbX10_dearestRoad ndX10_dearestRoad (j := 12) rfl
theorem iX10_dearestRoad_26 : rx_ins mX10_dearestRoad 26 = some (4, 27, 0, 1, 0, []) := rx_at tbX10_dearestRoad ndX10_dearestRoad (j := 13) rfl
theorem iX10_dearestRoad_27 : rx_ins mX10_dearestRoad 27 = some (1, 28, (-1), 0, 0, []) := rx_at tbX10_dearestRoad ndX10_dearestRoad (j := 14) rfl
theorem iX10_dearestRoad_28 : rx_ins mX10_dearestRoad 28 = some (4, 29, 0, 2, 0, []) := rx_at tbX10_dearestRoad ndX10_dearestRoad (j := 15) rfl
theorem iX10_dearestRoad_29 : rx_ins mX10_dearestRoad 29 = some (1, 30, 0, 0, 0, []) := rx_at tbX10_dearestRoad ndX10_dearestRoad (j := 16) rfl
theorem iX10_dearestRoad_30 : rx_ins mX10_dearestRoad 30 = some (4, 31, 0, 3, 0, []) := rx_at tbX10_dearestRoad ndX10_dearestRoad (j := 17) rfl
theorem iX10_dearestRoad_11 : rx_ins mX10_dearestRoad 11 = some (1, 13, (-1000000005), 3, 14, [(226, 0)]) := rx_at tbX10_dearestRoad ndX10_dearestRoad (j := 5) rfl
theorem iX10_dearestRoad_13 : rx_ins mX10_dearestRoad 13 = some (29, 14, 0, 0, 0, []) := rx_at tbX10_dearestRoad ndX10_dearestRoad (j := 6) rfl
theorem iX10_dearestRoad_31 : rx_ins mX10_dearestRoad 31 = some (2, 32, 0, 3, 0, []) := rx_at tbX10_dearestRoad ndX10_dearestRoad (j := 18) rfl
theorem iX10_dearestRoad_32 : rx_ins mX10_dearestRoad 32 = some (3, 33, 0, 0, 0, []) := rx_at tbX10_dearestRoad ndX10_dearestRoad (j := 19) rfl
theorem iX10_dearestRoad_33 : rx_ins mX10_dearestRoad 33 = some (18, 36, 0, 10, 0, [(12, 75)]) := rx_at tbX10_dearestRoad ndX10_dearestRoad (j := 20) rfl
theorem iX10_dearestRoad_36 : rx_ins mX10_dearestRoad 36 = some (17, 39, 0, 1, 6, [(180, 86)]) := rx_at tbX10_dearestRoad ndX10_dearestRoad (j := 21) rfl
theorem iX10_dearestRoad_39 : rx_ins mX10_dearestRoad 39 = some (14, 42, 34, 3, 73, []) := rx_at tbX10_dearestRoad ndX10_dearestRoad (j := 22) rfl
theorem iX10_dearestRoad_73 : rx_ins mX10_dearestRoad 73 = some (2, 74, 0, 1, 0, []) := rx_at tbX10_dearestRoad ndX10_dearestRoad (j := 39) rfl
theorem iX10_dearestRoad_74 : rx_ins mX10_dearestRoad 74 = some (29, 75, 0, 0, 0, []) := rx_at tbX10_dearestRoad ndX10_dearestRoad (j := 40) rfl
theorem iX10_dearestRoad_42 : rx_ins mX10_dearestRoad 42 = some (3, 43, 0, 0, 0, []) := rx_at tbX10_dearestRoad ndX10_dearestRoad (j := 23) rfl
theorem iX10_dearestRoad_43 : rx_ins mX10_dearestRoad 43 = some (18, 46, 0, 10, 5, [(38, 85)]) := rx_at tbX10_dearestRoad ndX10_dearestRoad (j := 24) rfl
theorem iX10_dearestRoad_46 : rx_ins mX10_dearestRoad 46 = some (3, 47, 0, 0, 0, []) := rx_at tbX10_dearestRoad ndX10_dearestRoad (j := 25) rfl
theorem iX10_dearestRoad_47 : rx_ins mX10_dearestRoad 47 = some (18, 50, 0, 10, 0, [(12, 75)]) := rx_at tbX10_dearestRoad ndX10_dearestRoad (j := 26) rfl
theorem iX10_dearestRoad_50 : rx_ins mX10_dearestRoad 50 = some (2, 51, 0, 3, 0, []) := rx_at tbX10_dearestRoad ndX10_dearestRoad (j := 27) rfl
theorem iX10_dearestRoad_51 : rx_ins mX10_dearestRoad 51 = some (28, 54, 2, 4, 3, [(379, 197)]) := rx_at tbX10_dearestRoad ndX10_dearestRoad (j := 28) rfl
theorem iX10_dearestRoad_54 : rx_ins mX10_dearestRoad 54 = some (4, 56, 1, 4, 0, []) := rx_at tbX10_dearestRoad ndX10_dearestRoad (j := 29) rfl
theorem iX10_dearestRoad_56 : rx_ins mX10_dearestRoad 56 = some (2, 58, 1, 4, 0, []) := rx_at tbX10_dearestRoad ndX10_dearestRoad (j := 30) rfl
theorem iX10_dearestRoad_58 : rx_ins mX10_dearestRoad 58 = some (2, 59, 0, 2, 0, []) := rx_at tbX10_dearestRoad ndX10_dearestRoad (j := 31) rfl
theorem iX10_dearestRoad_59 : rx_ins mX10_dearestRoad 59 = some (14, 62, 8, 5, 67, []) := rx_at tbX10_dearestRoad ndX10_dearestRoad (j := 32) rfl
theorem iX10_dearestRoad_67 : rx_ins mX10_dearestRoad 67 = some (6, 70, 1, 3, 0, []) := rx_at tbX10_dearestRoad ndX10_dearestRoad (j := 37) rfl
theorem iX10_dearestRoad_70 : rx_ins mX10_dearestRoad 70 = some (15, 73, (-39), 0, 31, []) := rx_at tbX10_dearestRoad ndX10_dearestRoad (j := 38) rfl
theorem iX10_dearestRoad_62 : rx_ins mX10_dearestRoad 62 = some (2, 63, 0, 3, 0, []) := rx_at tbX10_dearestRoad ndX10_dearestRoad (j := 33) rfl
theorem iX10_dearestRoad_63 : rx_ins mX10_dearestRoad 63 = some (4, 64, 0, 1, 0, []) := rx_at tbX10_dearestRoad ndX10_dearestRoad (j := 34) rfl
theorem iX10_dearestRoad_64 : rx_ins mX10_dearestRoad 64 = some (2, 66, 1, 4, 0, []) := rx_at tbX10_dearestRoad ndX10_dearestRoad (j := 35) rfl
theorem iX10_dearestRoad_66 : rx_ins mX10_dearestRoad 66 = some (4, 67, 0, 2, 0, []) := rx_at tbX10_dearestRoad ndX10_dearestRoad (j := 36) rfl
theorem iX10_checkSwapsTold_0 : rx_ins mX10_checkSwapsTold 0 = some (3, 1, 0, 0, 0, []) := rx_at tbX10_checkSwapsTold ndX10_checkSwapsTold (j := 0) rfl
theorem iX10_checkSwapsTold_1 : rx_ins mX10_checkSwapsTold 1 = some (18, 4, 0, 10, 2, [(21, 88)]) := rx_at tbX10_checkSwapsTold ndX10_checkSwapsTold (j := 1) rfl
theorem iX10_checkSwapsTold_4 : rx_ins mX10_checkSwapsTold 4 = some (3, 5, 0, 0, 0, []) := rx_at tbX10_checkSwapsTold ndX10_checkSwapsTold (j := 2) rfl
theorem iX10_checkSwapsTold_5 : rx_ins mX10_checkSwapsTold 5 = some (18, 8, 0, 10, 1, [(18, 123)]) := rx_at tbX10_checkSwapsTold ndX10_checkSwapsTold (j := 3) rfl
theorem iX10_checkSwapsTold_8 : rx_ins mX10_checkSwapsTold 8 = some (28, 11, 3, 5, 2, [(210, 169)]) := rx_at tbX10_checkSwapsTold ndX10_checkSwapsTold (j := 4) rfl
theorem iX10_checkSwapsTold_11 : rx_ins mX10_checkSwapsTold 11 = some (3, 12, 0, 0, 0, []) := rx_at tbX10_checkSwapsTold ndX10_checkSwapsTold (j := 5) rfl
theorem iX10_checkSwapsTold_12 : rx_ins mX10_checkSwapsTold 12 = some (18, 15, 0, 10, 5, [(38, 85)]) := rx_at tbX10_checkSwapsTold ndX10_checkSwapsTold (j := 6) rfl
theorem iX10_checkSwapsTold_15 : rx_ins mX10_checkSwapsTold 15 = some (3, 16, 0, 0, 0, []) := rx_at tbX10_checkSwapsTold ndX10_checkSwapsTold (j := 7) rfl
theorem iX10_checkSwapsTold_16 : rx_ins mX10_checkSwapsTold 16 = some (18, 19, 0, 10, 2, [(21, 88)]) := rx_at tbX10_checkSwapsTold ndX10_checkSwapsTold (j := 8) rfl
theorem iX10_checkSwapsTold_19 : rx_ins mX10_checkSwapsTold 19 = some (28, 22, 2, 2, 2, [(206, 168)]) := rx_at tbX10_checkSwapsTold ndX10_checkSwapsTold (j := 9) rfl
theorem iX10_checkSwapsTold_22 : rx_ins mX10_checkSwapsTold 22 = some (1, 23, 0, 0, 0, []) := rx_at tbX10_checkSwapsTold ndX10_checkSwapsTold (j := 10) rfl
theorem iX10_checkSwapsTold_23 : rx_ins mX10_checkSwapsTold 23 = some (4, 24, 0, 3, 0, []) := rx_at tbX10_checkSwapsTold ndX10_checkSwapsTold (j := 11) rfl
theorem iX10_checkSwapsTold_24 : rx_ins mX10_checkSwapsTold 24 = some (2, 25, 0, 3, 0, []) := rx_at tbX10_checkSwapsTold ndX10_checkSwapsTold (j := 12) rfl
theorem iX10_checkSwapsTold_25 : rx_ins mX10_checkSwapsTold 25 = some (2, 26, 0, 1, 0, []) := rx_at tbX10_checkSwapsTold ndX10_checkSwapsTold (j := 13) rfl
theorem iX10_checkSwapsTold_26 : rx_ins mX10_checkSwapsTold 26 = some (14, 29, 120, 3, 146, []) := rx_at tbX10_checkSwapsTold ndX10_checkSwapsTold (j := 14) rfl
theorem iX10_checkSwapsTold_146 : rx_ins mX10_checkSwapsTold 146 = some (2, 147, 0, 2, 0, []) := rx_at tbX10_checkSwapsTold ndX10_checkSwapsTold (j := 76) rfl
theorem iX10_checkSwapsTold_147 : rx_ins mX10_checkSwapsTold 147 = some (1, 148, 2, 0, 0, []) := rx_at tbX10_checkSwapsTold ndX10_checkSwapsTold (j := 77) rfl
theorem iX10_checkSwapsTold_148 : rx_ins mX10_checkSwapsTold 148 = some (2, 149, 0, 1, 0, []) := rx_at tbX10_checkSwapsTold ndX10_checkSwapsTold (j := 78) rfl
theorem iX10_checkSwapsTold_149 : rx_ins mX10_checkSwapsTold 149 = some (7, 150, 0, 2, 0, []) := rx_at tbX10_checkSwapsTold ndX10_checkSwapsTold (j := 79) rfl
theorem iX10_checkSwapsTold_150 : rx_ins mX10_checkSwapsTold 150 = some (14, 153, 11, 5, 161, []) := rx_at tbX10_checkSwapsTold ndX10_checkSwapsTold (j := 80) rfl
theorem iX10_checkSwapsTold_161 : rx_ins mX10_checkSwapsTold 161 = some (1, 162, 0, 0, 0, []) := rx_at tbX10_checkSwapsTold ndX10_checkSwapsTold (j := 87) rfl
theorem iX10_checkSwapsTold_162 : rx_ins mX10_checkSwapsTold 162 = some (29, 163, 0, 0, 0, []) := rx_at tbX10_checkSwapsTold ndX10_checkSwapsTold (j := 88) rfl
theorem iX10_checkSwapsTold_153 : rx_ins mX10_checkSwapsTold 153 = some (1, 154, 1, 0, 0, []) := rx_at tbX10_checkSwapsTold ndX10_checkSwapsTold (j := 81) rfl
theorem iX10_checkSwapsTold_154 : rx_ins mX10_checkSwapsTold 154 = some (1, 155, 2, 0, 0, []) := rx_at tbX10_checkSwapsTold ndX10_checkSwapsTold (j := 82) rfl
theorem iX10_checkSwapsTold_155 : rx_ins mX10_checkSwapsTold 155 = some (2, 156, 0, 1, 0, []) := rx_at tbX10_checkSwapsTold ndX10_checkSwapsTold (j := 83) rfl
theorem iX10_checkSwapsTold_156 : rx_ins mX10_checkSwapsTold 156 = some (7, 157, 0, 2, 0, []) := rx_at tbX10_checkSwapsTold ndX10_checkSwapsTold (j := 84) rfl
theorem iX10_checkSwapsTold_157 : rx_ins mX10_checkSwapsTold 157 = some (7, 158, 0, 0, 0, []) := rx_at tbX10_checkSwapsTold ndX10_checkSwapsTold (j := 85) rfl
theorem iX10_checkSwapsTold_158 : rx_ins mX10_checkSwapsTold 158 = some (15, 161, 4, 0, 162, []) := rx_at tbX10_checkSwapsTold ndX10_checkSwapsTold (j := 86) rfl
theorem iX10_checkSwapsTold_29 : rx_ins mX10_checkSwapsTold 29 = some (1, 30, (-1), 0, 0, []) := rx_at tbX10_checkSwapsTold ndX10_checkSwapsTold (j := 15) rfl
theorem iX10_checkSwapsTold_30 : rx_ins mX10_checkSwapsTold 30 = some (4, 32, 1, 4, 0, []) := rx_at tbX10_checkSwapsTold ndX10_checkSwapsTold (j := 16) rfl
theorem iX10_checkSwapsTold_32 : rx_ins mX10_checkSwapsTold 32 = some (3, 33, 0, 0, 0, []) := rx_at tbX10_checkSwapsTold ndX10_checkSwapsTold (j := 17) rfl
theorem iX10_checkSwapsTold_33 : rx_ins mX10_checkSwapsTold 33 = some (18, 36, 0, 10, 6, [(45, 89)]) := rx_at tbX10_checkSwapsTold ndX10_checkSwapsTold (j := 18) rfl
theorem iX10_checkSwapsTold_36 : rx_ins mX10_checkSwapsTold 36 = some (3, 37, 0, 0, 0, []) := rx_at tbX10_checkSwapsTold ndX10_checkSwapsTold (j := 19) rfl
theorem iX10_checkSwapsTold_37 : rx_ins mX10_checkSwapsTold 37 = some (18, 40, 0, 10, 2, [(21, 88)]) := rx_at tbX10_checkSwapsTold ndX10_checkSwapsTold (j := 20) rfl
theorem iX10_checkSwapsTold_40 : rx_ins mX10_checkSwapsTold 40 = some (3, 41, 0, 0, 0, []) := rx_at tbX10_checkSwapsTold ndX10_checkSwapsTold (j := 21) rfl
theorem iX10_checkSwapsTold_41 : rx_ins mX10_checkSwapsTold 41 = some (18, 44, 0, 10, 5, [(38, 85)]) := rx_at tbX10_checkSwapsTold ndX10_checkSwapsTold (j := 22) rfl
theorem iX10_checkSwapsTold_44 : rx_ins mX10_checkSwapsTold 44 = some (28, 47, 11, 74, 3, [(222, 172)]) := rx_at tbX10_checkSwapsTold ndX10_checkSwapsTold (j := 23) rfl
theorem iX10_checkSwapsTold_47 : rx_ins mX10_checkSwapsTold 47 = some (13, 50, 33, 0, 80, []) := rx_at tbX10_checkSwapsTold ndX10_checkSwapsTold (j := 24) rfl
theorem iX10_checkSwapsTold_50 : rx_ins mX10_checkSwapsTold 50 = some (3, 51, 0, 0, 0, []) := rx_at tbX10_checkSwapsTold ndX10_checkSwapsTold (j := 25) rfl
theorem iX10_checkSwapsTold_51 : rx_ins mX10_checkSwapsTold 51 = some (18, 54, 0, 10, 6, [(45, 89)]) := rx_at tbX10_checkSwapsTold ndX10_checkSwapsTold (j := 26) rfl
theorem iX10_checkSwapsTold_54 : rx_ins mX10_checkSwapsTold 54 = some (28, 57, 11, 75, 1, [(227, 173)]) := rx_at tbX10_checkSwapsTold ndX10_checkSwapsTold (j := 27) rfl
theorem iX10_checkSwapsTold_57 : rx_ins mX10_checkSwapsTold 57 = some (4, 59, 1, 4, 0, []) := rx_at tbX10_checkSwapsTold ndX10_checkSwapsTold (j := 28) rfl
theorem iX10_checkSwapsTold_59 : rx_ins mX10_checkSwapsTold 59 = some (3, 60, 0, 0, 0, []) := rx_at tbX10_checkSwapsTold ndX10_checkSwapsTold (j := 29) rfl
theorem iX10_checkSwapsTold_60 : rx_ins mX10_checkSwapsTold 60 = some (18, 63, 0, 10, 2, [(21, 88)]) := rx_at tbX10_checkSwapsTold ndX10_checkSwapsTold (j := 30) rfl
theorem iX10_checkSwapsTold_63 : rx_ins mX10_checkSwapsTold 63 = some (3, 64, 0, 0, 0, []) := rx_at tbX10_checkSwapsTold ndX10_checkSwapsTold (j := 31) rfl
theorem iX10_checkSwapsTold_64 : rx_ins mX10_checkSwapsTold 64 = some (18, 67, 0, 10, 6, [(45, 89)]) := rx_at tbX10_checkSwapsTold ndX10_checkSwapsTold (j := 32) rfl
theorem iX10_checkSwapsTold_67 : rx_ins mX10_checkSwapsTold 67 = some (17, 70, 0, 9, 0, [(233, 91)]) := rx_at tbX10_checkSwapsTold ndX10_checkSwapsTold (j := 33) rfl
theorem iX10_checkSwapsTold_70 : rx_ins mX10_checkSwapsTold 70 = some (3, 71, 0, 0, 0, []) := rx_at tbX10_checkSwapsTold ndX10_checkSwapsTold (j := 34) rfl
theorem iX10_checkSwapsTold_71 : rx_ins mX10_checkSwapsTold 71 = some (18, 74, 0, 10, 6, [(45, 89)]) := rx_at tbX10_checkSwapsTold ndX10_checkSwapsTold (j := 35) rfl
theorem iX10_checkSwapsTold_74 : rx_ins mX10_checkSwapsTold 74 = some (17, 77, 0, 9, 1, [(236, 92)]) := rx_at tbX10_checkSwapsTold ndX10_checkSwapsTold (j := 36) rfl
theorem iX10_checkSwapsTold_77 : rx_ins mX10_checkSwapsTold 77 = some (28, 80, 3, 13, 3, [(213, 170)]) := rx_at tbX10_checkSwapsTold ndX10_checkSwapsTold (j := 37) rfl
theorem iX10_checkSwapsTold_80 : rx_ins mX10_checkSwapsTold 80 = some (1, 81, 2, 0, 0, []) := rx_at tbX10_checkSwapsTold ndX10_checkSwapsTold (j := 38) rfl
theorem iX10_checkSwapsTold_81 : rx_ins mX10_checkSwapsTold 81 = some (2, 82, 0, 3, 0, []) := rx_at tbX10_checkSwapsTold ndX10_checkSwapsTold (j := 39) rfl
theorem iX10_checkSwapsTold_82 : rx_ins mX10_checkSwapsTold 82 = some (7, 83, 0, 2, 0, []) := rx_at tbX10_checkSwapsTold ndX10_checkSwapsTold (j := 40) rfl
theorem iX10_checkSwapsTold_83 : rx_ins mX10_checkSwapsTold 83 = some (4, 85, 1, 5, 0, []) := rx_at tbX10_checkSwapsTold ndX10_checkSwapsTold (j := 41) rfl
theorem iX10_checkSwapsTold_85 : rx_ins mX10_checkSwapsTold 85 = some (2, 87, 1, 5, 0, []) := rx_at tbX10_checkSwapsTold ndX10_checkSwapsTold (j := 42) rfl
theorem iX10_checkSwapsTold_87 : rx_ins mX10_checkSwapsTold 87 = some (2, 88, 0, 2, 0, []) := rx_at tbX10_checkSwapsTold ndX10_checkSwapsTold (j := 43) rfl
theorem iX10_checkSwapsTold_88 : rx_ins mX10_checkSwapsTold 88 = some (14, 91, 15, 3, 103, []) := rx_at tbX10_checkSwapsTold ndX10_checkSwapsTold (j := 44) rfl
theorem iX10_checkSwapsTold_91 : rx_ins mX10_checkSwapsTold 91 = some (3, 92, 0, 0, 0, []) := rx_at tbX10_checkSwapsTold ndX10_checkSwapsTold (j := 45) rfl
theorem iX10_checkSwapsTold_92 : rx_ins mX10_checkSwapsTold 92 = some (18, 95, 0, 10, 12, [(82, 121)]) := rx_at tbX10_checkSwapsTold ndX10_checkSwapsTold (j := 46) rfl
theorem iX10_checkSwapsTold_95 : rx_ins mX10_checkSwapsTold 95 = some (2, 97, 1, 5, 0, []) := rx_at tbX10_checkSwapsTold ndX10_checkSwapsTold (j := 47) rfl
theorem iX10_checkSwapsTold_97 : rx_ins mX10_checkSwapsTold 97 = some (20, 98, 0, 0, 0, []) := rx_at tbX10_checkSwapsTold ndX10_checkSwapsTold (j := 48) rfl
theorem iX10_checkSwapsTold_98 : rx_ins mX10_checkSwapsTold 98 = some (2, 100, 1, 4, 0, []) := rx_at tbX10_checkSwapsTold ndX10_checkSwapsTold (j := 49) rfl
theorem iX10_checkSwapsTold_100 : rx_ins mX10_checkSwapsTold 100 = some (14, 103, 8, 0, 108, []) := rx_at tbX10_checkSwapsTold ndX10_checkSwapsTold (j := 50) rfl
theorem iX10_checkSwapsTold_108 : rx_ins mX10_checkSwapsTold 108 = some (2, 110, 1, 5, 0, []) := rx_at tbX10_checkSwapsTold ndX10_checkSwapsTold (j := 55) rfl
theorem iX10_checkSwapsTold_110 : rx_ins mX10_checkSwapsTold 110 = some (1, 111, 1, 0, 0, []) := rx_at tbX10_checkSwapsTold ndX10_checkSwapsTold (j := 56) rfl
theorem iX10_checkSwapsTold_111 : rx_ins mX10_checkSwapsTold 111 = some (7, 112, 0, 0, 0, []) := rx_at tbX10_checkSwapsTold ndX10_checkSwapsTold (j := 57) rfl
theorem iX10_checkSwapsTold_112 : rx_ins mX10_checkSwapsTold 112 = some (2, 113, 0, 2, 0, []) := rx_at tbX10_checkSwapsTold ndX10_checkSwapsTold (j := 58) rfl
theorem iX10_checkSwapsTold_113 : rx_ins mX10_checkSwapsTold 113 = some (14, 116, 22, 3, 135, []) := rx_at tbX10_checkSwapsTold ndX10_checkSwapsTold (j := 59) rfl
theorem iX10_checkSwapsTold_116 : rx_ins mX10_checkSwapsTold 116 = some (3, 117, 0, 0, 0, []) := rx_at tbX10_checkSwapsTold ndX10_checkSwapsTold (j := 60) rfl
theorem iX10_checkSwapsTold_117 : rx_ins mX10_checkSwapsTold 117 = some (18, 120, 0, 10, 12, [(82, 121)]) := rx_at tbX10_checkSwapsTold ndX10_checkSwapsTold (j := 61) rfl
theorem iX10_checkSwapsTold_120 : rx_ins mX10_checkSwapsTold 120 = some (2, 122, 1, 5, 0, []) := rx_at tbX10_checkSwapsTold ndX10_checkSwapsTold (j := 62) rfl
theorem iX10_checkSwapsTold_122 : rx_ins mX10_checkSwapsTold 122 = some (1, 123, 1, 0, 0, []) := rx_at tbX10_checkSwapsTold ndX10_checkSwapsTold (j := 63) rfl
theorem iX10_checkSwapsTold_123 : rx_ins mX10_checkSwapsTold 123 = some (7, 124, 0, 0, 0, []) := rx_at tbX10_checkSwapsTold ndX10_checkSwapsTold (j := 64) rfl
theorem iX10_checkSwapsTold_124 : rx_ins mX10_checkSwapsTold 124 = some (20, 125, 0, 0, 0, []) := rx_at tbX10_checkSwapsTold ndX10_checkSwapsTold (j := 65) rfl
theorem iX10_checkSwapsTold_125 : rx_ins mX10_checkSwapsTold 125 = some (3, 126, 0, 0, 0, []) := rx_at tbX10_checkSwapsTold ndX10_checkSwapsTold (j := 66) rfl
theorem iX10_checkSwapsTold_126 : rx_ins mX10_checkSwapsTold 126 = some (18, 129, 0, 10, 6, [(45, 89)]) := rx_at tbX10_checkSwapsTold ndX10_checkSwapsTold (j := 67) rfl
theorem iX10_checkSwapsTold_129 : rx_ins mX10_checkSwapsTold 129 = some (17, 132, 0, 9, 2, [(230, 90)]) := rx_at tbX10_checkSwapsTold ndX10_checkSwapsTold (j := 68) rfl
theorem iX10_checkSwapsTold_132 : rx_ins mX10_checkSwapsTold 132 = some (14, 135, 8, 0, 140, []) := rx_at tbX10_checkSwapsTold ndX10_checkSwapsTold (j := 69) rfl
theorem iX10_checkSwapsTold_140 : rx_ins mX10_checkSwapsTold 140 = some (6, 143, 1, 3, 0, []) := rx_at tbX10_checkSwapsTold ndX10_checkSwapsTold (j := 74) rfl
theorem iX10_checkSwapsTold_143 : rx_ins mX10_checkSwapsTold 143 = some (15, 146, (-119), 0, 24, []) := rx_at tbX10_checkSwapsTold ndX10_checkSwapsTold (j := 75) rfl
theorem iX10_checkSwapsTold_103 : rx_ins mX10_checkSwapsTold 103 = some (1, 104, 1, 0, 0, []) := rx_at tbX10_checkSwapsTold ndX10_checkSwapsTold (j := 51) rfl
theorem iX10_checkSwapsTold_104 : rx_ins mX10_checkSwapsTold 104 = some (2, 106, 1, 5, 0, []) := rx_at tbX10_checkSwapsTold ndX10_checkSwapsTold (j := 52) rfl
theorem iX10_checkSwapsTold_106 : rx_ins mX10_checkSwapsTold 106 = some (7, 107, 0, 0, 0, []) := rx_at tbX10_checkSwapsTold ndX10_checkSwapsTold (j := 53) rfl
theorem iX10_checkSwapsTold_107 : rx_ins mX10_checkSwapsTold 107 = some (29, 108, 0, 0, 0, []) := rx_at tbX10_checkSwapsTold ndX10_checkSwapsTold (j := 54) rfl
theorem iX10_checkSwapsTold_135 : rx_ins mX10_checkSwapsTold 135 = some (1, 136, 2, 0, 0, []) := rx_at tbX10_checkSwapsTold ndX10_checkSwapsTold (j := 70) rfl
theorem iX10_checkSwapsTold_136 : rx_ins mX10_checkSwapsTold 136 = some (2, 138, 1, 5, 0, []) := rx_at tbX10_checkSwapsTold ndX10_checkSwapsTold (j := 71) rfl
theorem iX10_checkSwapsTold_138 : rx_ins mX10_checkSwapsTold 138 = some (7, 139, 0, 0, 0, []) := rx_at tbX10_checkSwapsTold ndX10_checkSwapsTold (j := 72) rfl
theorem iX10_checkSwapsTold_139 : rx_ins mX10_checkSwapsTold 139 = some (29, 140, 0, 0, 0, []) := rx_at tbX10_checkSwapsTold ndX10_checkSwapsTold (j := 73) rfl
theorem iX10_isPlace_0 : rx_ins mX10_isPlace 0 = some (2, 1, 0, 0, 0, []) := rx_at tbX10_isPlace ndX10_isPlace (j := 0) rfl
theorem iX10_isPlace_1 : rx_ins mX10_isPlace 1 = some (13, 4, 23, 2, 24, []) := rx_at tbX10_isPlace ndX10_isPlace (j := 1) rfl
theorem iX10_isPlace_24 : rx_ins mX10_isPlace 24 = some (1, 25, 0, 0, 0, []) := rx_at tbX10_isPlace ndX10_isPlace (j := 12) rfl
theorem iX10_isPlace_25 : rx_ins mX10_isPlace 25 = some (29, 26, 1, 0, 0, []) := rx_at tbX10_isPlace ndX10_isPlace (j := 13) rfl
theorem iX10_isPlace_4 : rx_ins mX10_isPlace 4 = some (2, 5, 0, 0, 0, []) := rx_at tbX10_isPlace ndX10_isPlace (j := 2) rfl
theorem iX10_isPlace_5 : rx_ins mX10_isPlace 5 = some (1, 7, 100, 1, 0, []) := rx_at tbX10_isPlace ndX10_isPlace (j := 3) rfl
theorem iX10_isPlace_7 : rx_ins mX10_isPlace 7 = some (14, 10, 17, 3, 24, []) := rx_at tbX10_isPlace ndX10_isPlace (j := 4) rfl
theorem iX10_isPlace_10 : rx_ins mX10_isPlace 10 = some (2, 11, 0, 1, 0, []) := rx_at tbX10_isPlace ndX10_isPlace (j := 5) rfl
theorem iX10_isPlace_11 : rx_ins mX10_isPlace 11 = some (13, 14, 13, 2, 24, []) := rx_at tbX10_isPlace ndX10_isPlace (j := 6) rfl
theorem iX10_isPlace_14 : rx_ins mX10_isPlace 14 = some (2, 15, 0, 1, 0, []) := rx_at tbX10_isPlace ndX10_isPlace (j := 7) rfl
theorem iX10_isPlace_15 : rx_ins mX10_isPlace 15 = some (1, 17, 100, 1, 0, []) := rx_at tbX10_isPlace ndX10_isPlace (j := 8) rfl
theorem iX10_isPlace_17 : rx_ins mX10_isPlace 17 = some (14, 20, 7, 3, 24, []) := rx_at tbX10_isPlace ndX10_isPlace (j := 9) rfl
theorem iX10_isPlace_20 : rx_ins mX10_isPlace 20 = some (1, 21, 1, 0, 0, []) := rx_at tbX10_isPlace ndX10_isPlace (j := 10) rfl
theorem iX10_isPlace_21 : rx_ins mX10_isPlace 21 = some (15, 24, 4, 0, 25, []) := rx_at tbX10_isPlace ndX10_isPlace (j := 11) rfl
theorem iX10_isLayer_0 : rx_ins mX10_isLayer 0 = some (2, 1, 0, 0, 0, []) := rx_at tbX10_isLayer ndX10_isLayer (j := 0) rfl
theorem iX10_isLayer_1 : rx_ins mX10_isLayer 1 = some (13, 4, 12, 2, 13, []) := rx_at tbX10_isLayer ndX10_isLayer (j := 1) rfl
theorem iX10_isLayer_13 : rx_ins mX10_isLayer 13 = some (1, 14, 0, 0, 0, []) := rx_at tbX10_isLayer ndX10_isLayer (j := 7) rfl
theorem iX10_isLayer_14 : rx_ins mX10_isLayer 14 = some (29, 15, 1, 0, 0, []) := rx_at tbX10_isLayer ndX10_isLayer (j := 8) rfl
theorem iX10_isLayer_4 : rx_ins mX10_isLayer 4 = some (2, 5, 0, 0, 0, []) := rx_at tbX10_isLayer ndX10_isLayer (j := 2) rfl
theorem iX10_isLayer_5 : rx_ins mX10_isLayer 5 = some (1, 6, 4, 0, 0, []) := rx_at tbX10_isLayer ndX10_isLayer (j := 3) rfl
theorem iX10_isLayer_6 : rx_ins mX10_isLayer 6 = some (14, 9, 7, 3, 13, []) := rx_at tbX10_isLayer ndX10_isLayer (j := 4) rfl
theorem iX10_isLayer_9 : rx_ins mX10_isLayer 9 = some (1, 10, 1, 0, 0, []) := rx_at tbX10_isLayer ndX10_isLayer (j := 5) rfl
theorem iX10_isLayer_10 : rx_ins mX10_isLayer 10 = some (15, 13, 4, 0, 14, []) := rx_at tbX10_isLayer ndX10_isLayer (j := 6) rfl
theorem iX10_isPage_0 : rx_ins mX10_isPage 0 = some (2, 1, 0, 0, 0, []) := rx_at tbX10_isPage ndX10_isPage (j := 0) rfl
theorem iX10_isPage_1 : rx_ins mX10_isPage 1 = some (13, 4, 12, 2, 13, []) := rx_at tbX10_isPage ndX10_isPage (j := 1) rfl
theorem iX10_isPage_13 : rx_ins mX10_isPage 13 = some (1, 14, 0, 0, 0, []) := rx_at tbX10_isPage ndX10_isPage (j := 7) rfl
theorem iX10_isPage_14 : rx_ins mX10_isPage 14 = some (29, 15, 1, 0, 0, []) := rx_at tbX10_isPage ndX10_isPage (j := 8) rfl
theorem iX10_isPage_4 : rx_ins mX10_isPage 4 = some (2, 5, 0, 0, 0, []) := rx_at tbX10_isPage ndX10_isPage (j := 2) rfl
theorem iX10_isPage_5 : rx_ins mX10_isPage 5 = some (1, 6, 4, 0, 0, []) := rx_at tbX10_isPage ndX10_isPage (j := 3) rfl
theorem iX10_isPage_6 : rx_ins mX10_isPage 6 = some (14, 9, 7, 3, 13, []) := rx_at tbX10_isPage ndX10_isPage (j := 4) rfl
theorem iX10_isPage_9 : rx_ins mX10_isPage 9 = some (1, 10, 1, 0, 0, []) := rx_at tbX10_isPage ndX10_isPage (j := 5) rfl
theorem iX10_isPage_10 : rx_ins mX10_isPage 10 = some (15, 13, 4, 0, 14, []) := rx_at tbX10_isPage ndX10_isPage (j := 6) rfl
theorem iX10_isKind_0 : rx_ins mX10_isKind 0 = some (2, 1, 0, 0, 0, []) := rx_at tbX10_isKind ndX10_isKind (j := 0) rfl
theorem iX10_isKind_1 : rx_ins mX10_isKind 1 = some (13, 4, 13, 2, 14, []) := rx_at tbX10_isKind ndX10_isKind (j := 1) rfl
theorem iX10_isKind_14 : rx_ins mX10_isKind 14 = some (1, 15, 0, 0, 0, []) := rx_at tbX10_isKind ndX10_isKind (j := 7) rfl
theorem iX10_isKind_15 : rx_ins mX10_isKind 15 = some (29, 16, 1, 0, 0, []) := rx_at tbX10_isKind ndX10_isKind (j := 8) rfl
theorem iX10_isKind_4 : rx_ins mX10_isKind 4 = some (2, 5, 0, 0, 0, []) := rx_at tbX10_isKind ndX10_isKind (j := 2) rfl
theorem iX10_isKind_5 : rx_ins mX10_isKind 5 = some (1, 7, 6, 1, 0, []) := rx_at tbX10_isKind ndX10_isKind (j := 3) rfl
theorem iX10_isKind_7 : rx_ins mX10_isKind 7 = some (14, 10, 7, 3, 14, []) := rx_at tbX10_isKind ndX10_isKind (j := 4) rfl
theorem iX10_isKind_10 : rx_ins mX10_isKind 10 = some (1, 11, 1, 0, 0, []) := rx_at tbX10_isKind ndX10_isKind (j := 5) rfl
theorem iX10_isKind_11 : rx_ins mX10_isKind 11 = some (15, 14, 4, 0, 15, []) := rx_at tbX10_isKind ndX10_isKind (j := 6) rfl
theorem iX10_isWeight_0 : rx_ins mX10_isWeight 0 = some (2, 1, 0, 0, 0, []) := rx_at tbX10_isWeight ndX10_isWeight (j := 0) rfl
theorem iX10_isWeight_1 : rx_ins mX10_isWeight 1 = some (1, 2, 1, 0, 0, []) := rx_at tbX10_isWeight ndX10_isWeight (j := 1) rfl
theorem iX10_isWeight_2 : rx_ins mX10_isWeight 2 = some (14, 5, 13, 2, 15, []) := rx_at tbX10_isWeight ndX10_isWeight (j := 2) rfl
theorem iX10_isWeight_15 : rx_ins mX10_isWeight 15 = some (1, 16, 0, 0, 0, []) := rx_at tbX10_isWeight ndX10_isWeight (j := 8) rfl
theorem iX10_isWeight_16 : rx_ins mX10_isWeight 16 = some (29, 17, 1, 0, 0, []) := rx_at tbX10_isWeight ndX10_isWeight (j := 9) rfl
theorem iX10_isWeight_5 : rx_ins mX10_isWeight 5 = some (2, 6, 0, 0, 0, []) := rx_at tbX10_isWeight ndX10_isWeight (j := 3) rfl
theorem iX10_isWeight_6 : rx_ins mX10_isWeight 6 = some (1, 8, 9, 1, 0, []) := rx_at tbX10_isWeight ndX10_isWeight (j := 4) rfl
theorem iX10_isWeight_8 : rx_ins mX10_isWeight 8 = some (14, 11, 7, 4, 15, []) := rx_at tbX10_isWeight ndX10_isWeight (j := 5) rfl
theorem iX10_isWeight_11 : rx_ins mX10_isWeight 11 = some (1, 12, 1, 0, 0, []) := rx_at tbX10_isWeight ndX10_isWeight (j := 6) rfl
theorem iX10_isWeight_12 : rx_ins mX10_isWeight 12 = some (15, 15, 4, 0, 16, []) := rx_at tbX10_isWeight ndX10_isWeight (j := 7) rfl
theorem iX10_isSheet_0 : rx_ins mX10_isSheet 0 = some (2, 1, 0, 0, 0, []) := rx_at tbX10_isSheet ndX10_isSheet (j := 0) rfl
theorem iX10_isSheet_1 : rx_ins mX10_isSheet 1 = some (13, 4, 12, 2, 13, []) := rx_at tbX10_isSheet ndX10_isSheet (j := 1) rfl
theorem iX10_isSheet_13 : rx_ins mX10_isSheet 13 = some (1, 14, 0, 0, 0, []) := rx_at tbX10_isSheet ndX10_isSheet (j := 7) rfl
theorem iX10_isSheet_14 : rx_ins mX10_isSheet 14 = some (29, 15, 1, 0, 0, []) := rx_at tbX10_isSheet ndX10_isSheet (j := 8) rfl
theorem iX10_isSheet_4 : rx_ins mX10_isSheet 4 = some (2, 5, 0, 0, 0, []) := rx_at tbX10_isSheet ndX10_isSheet (j := 2) rfl
theorem iX10_isSheet_5 : rx_ins mX10_isSheet 5 = some (1, 6, 4, 0, 0, []) := rx_at tbX10_isSheet ndX10_isSheet (j := 3) rfl
theorem iX10_isSheet_6 : rx_ins mX10_isSheet 6 = some (14, 9, 7, 3, 13, []) := rx_at tbX10_isSheet ndX10_isSheet (j := 4) rfl
theorem iX10_isSheet_9 : rx_ins mX10_isSheet 9 = some (1, 10, 1, 0, 0, []) := rx_at tbX10_isSheet ndX10_isSheet (j := 5) rfl
theorem iX10_isSheet_10 : rx_ins mX10_isSheet 10 = some (15, 13, 4, 0, 14, []) := rx_at tbX10_isSheet ndX10_isSheet (j := 6) rfl
theorem iX10_isSlot_0 : rx_ins mX10_isSlot 0 = some (2, 1, 0, 0, 0, []) := rx_at tbX10_isSlot ndX10_isSlot (j := 0) rfl
theorem iX10_isSlot_1 : rx_ins mX10_isSlot 1 = some (13, 4, 12, 2, 13, []) := rx_at tbX10_isSlot ndX10_isSlot (j := 1) rfl
theorem iX10_isSlot_13 : rx_ins mX10_isSlot 13 = some (1, 14, 0, 0, 0, []) := rx_at tbX10_isSlot ndX10_isSlot (j := 7) rfl
theorem iX10_isSlot_14 : rx_ins mX10_isSlot 14 = some (29, 15, 1, 0, 0, []) := rx_at tbX10_isSlot ndX10_isSlot (j := 8) rfl
theorem iX10_isSlot_4 : rx_ins mX10_isSlot 4 = some (2, 5, 0, 0, 0, []) := rx_at tbX10_isSlot ndX10_isSlot (j := 2) rfl
theorem iX10_isSlot_5 : rx_ins mX10_isSlot 5 = some (1, 6, 5, 0, 0, []) := rx_at tbX10_isSlot ndX10_isSlot (j := 3) rfl
theorem iX10_isSlot_6 : rx_ins mX10_isSlot 6 = some (14, 9, 7, 3, 13, []) := rx_at tbX10_isSlot ndX10_isSlot (j := 4) rfl
theorem iX10_isSlot_9 : rx_ins mX10_isSlot 9 = some (1, 10, 1, 0, 0, []) := rx_at tbX10_isSlot ndX10_isSlot (j := 5) rfl
theorem iX10_isSlot_10 : rx_ins mX10_isSlot 10 = some (15, 13, 4, 0, 14, []) := rx_at tbX10_isSlot ndX10_isSlot (j := 6) rfl
theorem iX10_within_0 : rx_ins mX10_within 0 = some (1, 1, 0, 0, 0, []) := rx_at tbX10_within ndX10_within (j := 0) rfl
theorem iX10_within_1 : rx_ins mX10_within 1 = some (2, 2, 0, 1, 0, []) := rx_at tbX10_within ndX10_within (j := 1) rfl
theorem iX10_within_2 : rx_ins mX10_within 2 = some (2, 3, 0, 0, 0, []) := rx_at tbX10_within ndX10_within (j := 2) rfl
theorem iX10_within_3 : rx_ins mX10_within 3 = some (31, 6, 0, 1, 0, [(382, 7)]) := rx_at tbX10_within ndX10_within (j := 3) rfl
theorem iX10_within_6 : rx_ins mX10_within 6 = some (31, 9, 0, 0, 0, [(197, 6)]) := rx_at tbX10_within ndX10_within (j := 4) rfl
theorem iX10_within_9 : rx_ins mX10_within 9 = some (29, 10, 0, 0, 0, []) := rx_at tbX10_within ndX10_within (j := 5) rfl
theorem iX10_isUnder_0 : rx_ins mX10_isUnder 0 = some (2, 1, 0, 0, 0, []) := rx_at tbX10_isUnder ndX10_isUnder (j := 0) rfl
theorem iX10_isUnder_1 : rx_ins mX10_isUnder 1 = some (4, 2, 0, 2, 0, []) := rx_at tbX10_isUnder ndX10_isUnder (j := 1) rfl
theorem iX10_isUnder_2 : rx_ins mX10_isUnder 2 = some (1, 3, 0, 0, 0, []) := rx_at tbX10_isUnder ndX10_isUnder (j := 2) rfl
theorem iX10_isUnder_3 : rx_ins mX10_isUnder 3 = some (4, 4, 0, 3, 0, []) := rx_at tbX10_isUnder ndX10_isUnder (j := 3) rfl
theorem iX10_isUnder_4 : rx_ins mX10_isUnder 4 = some (2, 5, 0, 3, 0, []) := rx_at tbX10_isUnder ndX10_isUnder (j := 4) rfl
theorem iX10_isUnder_5 : rx_ins mX10_isUnder 5 = some (1, 7, 6, 1, 0, []) := rx_at tbX10_isUnder ndX10_isUnder (j := 5) rfl
theorem iX10_isUnder_7 : rx_ins mX10_isUnder 7 = some (14, 10, 31, 3, 38, []) := rx_at tbX10_isUnder ndX10_isUnder (j := 6) rfl
theorem iX10_isUnder_38 : rx_ins mX10_isUnder 38 = some (1, 39, 0, 0, 0, []) := rx_at tbX10_isUnder ndX10_isUnder (j := 23) rfl
theorem iX10_isUnder_39 : rx_ins mX10_isUnder 39 = some (29, 40, 1, 0, 0, []) := rx_at tbX10_isUnder ndX10_isUnder (j := 24) rfl
theorem iX10_isUnder_10 : rx_ins mX10_isUnder 10 = some (2, 11, 0, 2, 0, []) := rx_at tbX10_isUnder ndX10_isUnder (j := 7) rfl
theorem iX10_isUnder_11 : rx_ins mX10_isUnder 11 = some (2, 12, 0, 1, 0, []) := rx_at tbX10_isUnder ndX10_isUnder (j := 8) rfl
theorem iX10_isUnder_12 : rx_ins mX10_isUnder 12 = some (14, 15, 5, 1, 17, []) := rx_at tbX10_isUnder ndX10_isUnder (j := 9) rfl
theorem iX10_isUnder_17 : rx_ins mX10_isUnder 17 = some (2, 18, 0, 2, 0, []) := rx_at tbX10_isUnder ndX10_isUnder (j := 12) rfl
theorem iX10_isUnder_18 : rx_ins mX10_isUnder 18 = some (28, 21, 0, 125, 1, [(131, 154)]) := rx_at tbX10_isUnder ndX10_isUnder (j := 13) rfl
theorem iX10_isUnder_21 : rx_ins mX10_isUnder 21 = some (13, 24, 5, 1, 26, []) := rx_at tbX10_isUnder ndX10_isUnder (j := 14) rfl
theorem iX10_isUnder_26 : rx_ins mX10_isUnder 26 = some (24, 29, 0, 160, 0, [(385, 0)]) := rx_at tbX10_isUnder ndX10_isUnder (j := 17) rfl
theorem iX10_isUnder_29 : rx_ins mX10_isUnder 29 = some (2, 30, 0, 2, 0, []) := rx_at tbX10_isUnder ndX10_isUnder (j := 18) rfl
theorem iX10_isUnder_30 : rx_ins mX10_isUnder 30 = some (20, 31, 0, 0, 0, []) := rx_at tbX10_isUnder ndX10_isUnder (j := 19) rfl
theorem iX10_isUnder_31 : rx_ins mX10_isUnder 31 = some (4, 32, 0, 2, 0, []) := rx_at tbX10_isUnder ndX10_isUnder (j := 20) rfl
theorem iX10_isUnder_32 : rx_ins mX10_isUnder 32 = some (6, 35, 1, 3, 0, []) := rx_at tbX10_isUnder ndX10_isUnder (j := 21) rfl
theorem iX10_isUnder_35 : rx_ins mX10_isUnder 35 = some (15, 38, (-31), 0, 4, []) := rx_at tbX10_isUnder ndX10_isUnder (j := 22) rfl
theorem iX10_isUnder_24 : rx_ins mX10_isUnder 24 = some (1, 25, 0, 0, 0, []) := rx_at tbX10_isUnder ndX10_isUnder (j := 15) rfl
theorem iX10_isUnder_25 : rx_ins mX10_isUnder 25 = some (29, 26, 1, 0, 0, []) := rx_at tbX10_isUnder ndX10_isUnder (j := 16) rfl
theorem iX10_isUnder_15 : rx_ins mX10_isUnder 15 = some (1, 16, 1, 0, 0, []) := rx_at tbX10_isUnder ndX10_isUnder (j := 10) rfl
theorem iX10_isUnder_16 : rx_ins mX10_isUnder 16 = some (29, 17, 1, 0, 0, []) := rx_at tbX10_isUnder ndX10_isUnder (j := 11) rfl
theorem iX10_harmAs_0 : rx_ins mX10_harmAs 0 = some (2, 1, 0, 0, 0, []) := rx_at tbX10_harmAs ndX10_harmAs (j := 0) rfl
theorem iX10_harmAs_1 : rx_ins mX10_harmAs 1 = some (16, 36, 0, 0, 62, [(1, 36), (2, 46), (3, 40), (4, 52), (5, 60)]) := rx_at tbX10_harmAs ndX10_harmAs (j := 1) rfl
theorem iX10_harmAs_36 : rx_ins mX10_harmAs 36 = some (2, 37, 0, 1, 0, []) := rx_at tbX10_harmAs ndX10_harmAs (j := 2) rfl
theorem iX10_harmAs_37 : rx_ins mX10_harmAs 37 = some (1, 38, 2, 0, 0, []) := rx_at tbX10_harmAs ndX10_harmAs (j := 3) rfl
theorem iX10_harmAs_38 : rx_ins mX10_harmAs 38 = some (7, 39, 0, 0, 0, []) := rx_at tbX10_harmAs ndX10_harmAs (j := 4) rfl
theorem iX10_harmAs_39 : rx_ins mX10_harmAs 39 = some (29, 40, 0, 0, 0, []) := rx_at tbX10_harmAs ndX10_harmAs (j := 5) rfl
theorem iX10_harmAs_46 : rx_ins mX10_harmAs 46 = some (2, 47, 0, 1, 0, []) := rx_at tbX10_harmAs ndX10_harmAs (j := 12) rfl
theorem iX10_harmAs_47 : rx_ins mX10_harmAs 47 = some (1, 48, 1, 0, 0, []) := rx_at tbX10_harmAs ndX10_harmAs (j := 13) rfl
theorem iX10_harmAs_48 : rx_ins mX10_harmAs 48 = some (7, 49, 0, 0, 0, []) := rx_at tbX10_harmAs ndX10_harmAs (j := 14) rfl
theorem iX10_harmAs_49 : rx_ins mX10_harmAs 49 = some (1, 50, 2, 0, 0, []) := rx_at tbX10_harmAs ndX10_harmAs (j := 15) rfl
theorem iX10_harmAs_50 : rx_ins mX10_harmAs 50 = some (8, 51, 0, 0, 0, []) := rx_at tbX10_harmAs ndX10_harmAs (j := 16) rfl
theorem iX10_harmAs_51 : rx_ins mX10_harmAs 51 = some (29, 52, 0, 0, 0, []) := rx_at tbX10_harmAs ndX10_harmAs (j := 17) rfl
theorem iX10_harmAs_40 : rx_ins mX10_harmAs 40 = some (1, 41, 2, 0, 0, []) := rx_at tbX10_harmAs ndX10_harmAs (j := 6) rfl
theorem iX10_harmAs_41 : rx_ins mX10_harmAs 41 = some (2, 42, 0, 1, 0, []) := rx_at tbX10_harmAs ndX10_harmAs (j := 7) rfl
theorem iX10_harmAs_42 : rx_ins mX10_harmAs 42 = some (1, 43, 2, 0, 0, []) := rx_at tbX10_harmAs ndX10_harmAs (j := 8) rfl
theorem iX10_harmAs_43 : rx_ins mX10_harmAs 43 = some (7, 44, 0, 0, 0, []) := rx_at tbX10_harmAs ndX10_harmAs (j := 9) rfl
theorem iX10_harmAs_44 : rx_ins mX10_harmAs 44 = some (7, 45, 0, 2, 0, []) := rx_at tbX10_harmAs ndX10_harmAs (j := 10) rfl
theorem iX10_harmAs_45 : rx_ins mX10_harmAs 45 = some (29, 46, 0, 0, 0, []) := rx_at tbX10_harmAs ndX10_harmAs (j := 11) rfl
theorem iX10_harmAs_52 : rx_ins mX10_harmAs 52 = some (2, 53, 0, 1, 0, []) := rx_at tbX10_harmAs ndX10_harmAs (j := 18) rfl
theorem iX10_harmAs_53 : rx_ins mX10_harmAs 53 = some (1, 54, 1, 0, 0, []) := rx_at tbX10_harmAs ndX10_harmAs (j := 19) rfl
theorem iX10_harmAs_54 : rx_ins mX10_harmAs 54 = some (7, 55, 0, 0, 0, []) := rx_at tbX10_harmAs ndX10_harmAs (j := 20) rfl
theorem iX10_harmAs_55 : rx_ins mX10_harmAs 55 = some (1, 56, 2, 0, 0, []) := rx_at tbX10_harmAs ndX10_harmAs (j := 21) rfl
theorem iX10_harmAs_56 : rx_ins mX10_harmAs 56 = some (8, 57, 0, 0, 0, []) := rx_at tbX10_harmAs ndX10_harmAs (j := 22) rfl
theorem iX10_harmAs_57 : rx_ins mX10_harmAs 57 = some (2, 58, 0, 2, 0, []) := rx_at tbX10_harmAs ndX10_harmAs (j := 23) rfl
theorem iX10_harmAs_58 : rx_ins mX10_harmAs 58 = some (7, 59, 0, 0, 0, []) := rx_at tbX10_harmAs ndX10_harmAs (j := 24) rfl
theorem iX10_harmAs_59 : rx_ins mX10_harmAs 59 = some (29, 60, 0, 0, 0, []) := rx_at tbX10_harmAs ndX10_harmAs (j := 25) rfl
theorem iX10_harmAs_60 : rx_ins mX10_harmAs 60 = some (1, 61, 0, 0, 0, []) := rx_at tbX10_harmAs ndX10_harmAs (j := 26) rfl
theorem iX10_harmAs_61 : rx_ins mX10_harmAs 61 = some (29, 62, 0, 0, 0, []) := rx_at tbX10_harmAs ndX10_harmAs (j := 27) rfl
theorem iX10_harmAs_62 : rx_ins mX10_harmAs 62 = some (2, 63, 0, 1, 0, []) := rx_at tbX10_harmAs ndX10_harmAs (j := 28) rfl
theorem iX10_harmAs_63 : rx_ins mX10_harmAs 63 = some (29, 64, 0, 0, 0, []) := rx_at tbX10_harmAs ndX10_harmAs (j := 29) rfl
theorem iX10_worthOf_0 : rx_ins mX10_worthOf 0 = some (1, 2, 10, 1, 0, []) := rx_at tbX10_worthOf ndX10_worthOf (j := 0) rfl
theorem iX10_worthOf_2 : rx_ins mX10_worthOf 2 = some (2, 3, 0, 1, 0, []) := rx_at tbX10_worthOf ndX10_worthOf (j := 1) rfl
theorem iX10_worthOf_3 : rx_ins mX10_worthOf 3 = some (7, 4, 0, 1, 0, []) := rx_at tbX10_worthOf ndX10_worthOf (j := 2) rfl
theorem iX10_worthOf_4 : rx_ins mX10_worthOf 4 = some (4, 5, 0, 2, 0, []) := rx_at tbX10_worthOf ndX10_worthOf (j := 3) rfl
theorem iX10_worthOf_5 : rx_ins mX10_worthOf 5 = some (2, 6, 0, 0, 0, []) := rx_at tbX10_worthOf ndX10_worthOf (j := 4) rfl
theorem iX10_worthOf_6 : rx_ins mX10_worthOf 6 = some (16, 40, 0, 0, 57, [(1, 40), (2, 50), (3, 44), (4, 50), (5, 54)]) := rx_at tbX10_worthOf ndX10_worthOf (j := 5) rfl
theorem iX10_worthOf_40 : rx_ins mX10_worthOf 40 = some (2, 41, 0, 2, 0, []) := rx_at tbX10_worthOf ndX10_worthOf (j := 6) rfl
theorem iX10_worthOf_41 : rx_ins mX10_worthOf 41 = some (1, 42, 5, 0, 0, []) := rx_at tbX10_worthOf ndX10_worthOf (j := 7) rfl
theorem iX10_worthOf_42 : rx_ins mX10_worthOf 42 = some (7, 43, 0, 0, 0, []) := rx_at tbX10_worthOf ndX10_worthOf (j := 8) rfl
theorem iX10_worthOf_43 : rx_ins mX10_worthOf 43 = some (29, 44, 0, 0, 0, []) := rx_at tbX10_worthOf ndX10_worthOf (j := 9) rfl
theorem iX10_worthOf_50 : rx_ins mX10_worthOf 50 = some (2, 51, 0, 2, 0, []) := rx_at tbX10_worthOf ndX10_worthOf (j := 16) rfl
theorem iX10_worthOf_51 : rx_ins mX10_worthOf 51 = some (1, 52, 2, 0, 0, []) := rx_at tbX10_worthOf ndX10_worthOf (j := 17) rfl
theorem iX10_worthOf_52 : rx_ins mX10_worthOf 52 = some (8, 53, 0, 0, 0, []) := rx_at tbX10_worthOf ndX10_worthOf (j := 18) rfl
theorem iX10_worthOf_53 : rx_ins mX10_worthOf 53 = some (29, 54, 0, 0, 0, []) := rx_at tbX10_worthOf ndX10_worthOf (j := 19) rfl
theorem iX10_worthOf_44 : rx_ins mX10_worthOf 44 = some (2, 45, 0, 2, 0, []) := rx_at tbX10_worthOf ndX10_worthOf (j := 10) rfl
theorem iX10_worthOf_45 : rx_ins mX10_worthOf 45 = some (1, 46, 5, 0, 0, []) := rx_at tbX10_worthOf ndX10_worthOf (j := 11) rfl
theorem iX10_worthOf_46 : rx_ins mX10_worthOf 46 = some (7, 47, 0, 0, 0, []) := rx_at tbX10_worthOf ndX10_worthOf (j := 12) rfl
theorem iX10_worthOf_47 : rx_ins mX10_worthOf 47 = some (2, 48, 0, 1, 0, []) := rx_at tbX10_worthOf ndX10_worthOf (j := 13) rfl
theorem iX10_worthOf_48 : rx_ins mX10_worthOf 48 = some (7, 49, 0, 1, 0, []) := rx_at tbX10_worthOf ndX10_worthOf (j := 14) rfl
theorem iX10_worthOf_49 : rx_ins mX10_worthOf 49 = some (29, 50, 0, 0, 0, []) := rx_at tbX10_worthOf ndX10_worthOf (j := 15) rfl
theorem iX10_worthOf_54 : rx_ins mX10_worthOf 54 = some (1, 56, 20, 1, 0, []) := rx_at tbX10_worthOf ndX10_worthOf (j := 20) rfl
theorem iX10_worthOf_56 : rx_ins mX10_worthOf 56 = some (29, 57, 0, 0, 0, []) := rx_at tbX10_worthOf ndX10_worthOf (j := 21) rfl
theorem iX10_worthOf_57 : rx_ins mX10_worthOf 57 = some (2, 58, 0, 2, 0, []) := rx_at tbX10_worthOf ndX10_worthOf (j := 22) rfl
theorem iX10_worthOf_58 : rx_ins mX10_worthOf 58 = some (29, 59, 0, 0, 0, []) := rx_at tbX10_worthOf ndX10_worthOf (j := 23) rfl
set_option maxRecDepth 20000 in
set_option maxHeartbeats 4000000 in
theorem bX10_post (L d : Nat) (x1 : Int) (x2 : Int) (σ : rx_St) (K : Int → rx_St → Prop)
    (H : rx_CI L d mX1_postRefusal [.inr 1, .inl x1, .inl x2] σ (fun v2 σ1 => if v2 = 0 then (rx_CI L d mX1_addPost [.inr 1, .inl x1, .inl x2] σ1 (fun v5 σ4 => K v5 σ4)) else (K v2 σ1))) :
    rx_CI L (d + 1) mX10_post [.inr 0, .inl x1, .inl x2] σ K := by
  refine rx_CI.of (la := [some (.inr 0), some (.inl x1), some (.inl x2), none]) rfl ?_
  refine g_al iX10_post_0 rfl ?_
  refine g_gr iX10_post_1 fr_10_0_0 ?_
  refine g_il iX10_post_4 rfl ?_
  refine g_il iX10_post_5 rfl ?_
  refine g_ci (as := [.inr 1, .inl x1, .inl x2]) (rest := []) iX10_post_6 rfl rfl (Nat.le_of_ble_eq_true rfl) (Or.inr ⟨_, _, rfl, oo_1_1⟩) (rx_CI.imp H (fun v2 σ1 H => ?_))
  refine g_is iX10_post_9 (Nat.le_of_ble_eq_true rfl) ?_
  refine rx_Go.ls (la := [some (.inr 0), some (.inl x1), some (.inl x2), some (.inl v2)]) rfl ?_
  refine g_il iX10_post_10 rfl ?_
  by_cases c3 : v2 = 0
  · rw [if_pos c3] at H
    refine g_if0t iX10_post_11 c3 ?_
    refine g_al iX10_post_18 rfl ?_
    refine g_gr iX10_post_19 fr_10_0_0 ?_
    refine g_il iX10_post_22 rfl ?_
    refine g_il iX10_post_23 rfl ?_
    refine g_ci (as := [.inr 1, .inl x1, .inl x2]) (rest := []) iX10_post_24 rfl rfl (Nat.le_of_ble_eq_true rfl) (Or.inr ⟨_, _, rfl, oo_1_1⟩) (rx_CI.imp H (fun v5 σ4 H => ?_))
    exact g_ri iX10_post_27 (Or.inl rfl) H
  · rw [if_neg c3] at H
    refine g_if0f iX10_post_11 c3 ?_
    refine g_il iX10_post_14 rfl ?_
    refine g_goto iX10_post_15 ?_
    exact g_ri iX10_post_27 (Or.inl rfl) H
set_option maxRecDepth 20000 in
set_option maxHeartbeats 4000000 in
theorem bX10_postTold (L d : Nat) (x1 : Int) (x2 : Int) (σ : rx_St) (K : Int → rx_St → Prop)
    (H : rx_CI L d mX1_isPost [.inr 1, .inl x1] σ (fun v2 σ1 => if v2 ≠ 0 then (if x2 = 0 then ((0 ≤ x1 ∧ x1 < 8) ∧ (K (σ1 2 x1) σ1)) else (if x2 = 1 then ((0 ≤ x1 ∧ x1 < 8) ∧ (K (σ1 3 x1) σ1)) else (if x2 = 2 then ((0 ≤ x1 ∧ x1 < 8) ∧ (K (σ1 4 x1) σ1)) else (if x2 = 3 then ((0 ≤ x1 ∧ x1 < 8) ∧ (K (σ1 6 x1) σ1)) else (if x2 = 4 then (rx_CI L d mX1_roadsFrom [.inr 1, .inl x1] σ1 (fun v14 σ13 => K v14 σ13)) else (K (-1000000001) σ1)))))) else (K (-1000000001) σ1))) :
    rx_CI L (d + 1) mX10_postTold [.inr 0, .inl x1, .inl x2] σ K := by
  refine rx_CI.of (la := [some (.inr 0), some (.inl x1), some (.inl x2)]) rfl ?_
  refine g_al iX10_postTold_0 rfl ?_
  refine g_gr iX10_postTold_1 fr_10_0_0 ?_
  refine g_il iX10_postTold_4 rfl ?_
  refine g_ci (as := [.inr 1, .inl x1]) (rest := []) iX10_postTold_5 rfl rfl (Nat.le_of_ble_eq_true rfl) (Or.inr ⟨_, _, rfl, oo_1_1⟩) (rx_CI.imp H (fun v2 σ1 H => ?_))
  by_cases c3 : v2 ≠ 0
  · rw [if_pos c3] at H
    refine g_if1t iX10_postTold_8 c3 ?_
    refine g_il iX10_postTold_14 rfl ?_
    by_cases c4 : x2 = 0
    · rw [if_pos c4] at H
      refine g_sw iX10_postTold_15 (by simp only [rx_sw]; rw [if_pos c4]) ?_
      refine g_al iX10_postTold_48 rfl ?_
      refine g_gr iX10_postTold_49 fr_10_0_0 ?_
      refine g_gr iX10_postTold_52 fr_1_1_1 ?_
      refine g_il iX10_postTold_55 rfl ?_
      obtain ⟨o5, H⟩ := H
      refine g_ld iX10_postTold_56 (ln_2 L) o5 ?_
      exact g_ri iX10_postTold_57 (Or.inl rfl) H
    · rw [if_neg c4] at H
      by_cases c6 : x2 = 1
      · rw [if_pos c6] at H
        refine g_sw iX10_postTold_15 (by simp only [rx_sw]; rw [if_neg c4, if_pos c6]) ?_
        refine g_al iX10_postTold_58 rfl ?_
        refine g_gr iX10_postTold_59 fr_10_0_0 ?_
        refine g_gr iX10_postTold_62 fr_1_2_1 ?_
        refine g_il iX10_postTold_65 rfl ?_
        obtain ⟨o7, H⟩ := H
        refine g_ld iX10_postTold_66 (ln_3 L) o7 ?_
        exact g_ri iX10_postTold_67 (Or.inl rfl) H
      · rw [if_neg c6] at H
        by_cases c8 : x2 = 2
        · rw [if_pos c8] at H
          refine g_sw iX10_postTold_15 (by simp only [rx_sw]; rw [if_neg c4, if_neg c6, if_pos c8]) ?_
          refine g_al iX10_postTold_68 rfl ?_
          refine g_gr iX10_postTold_69 fr_10_0_0 ?_
          refine g_gr iX10_postTold_72 fr_1_3_1 ?_
          refine g_il iX10_postTold_75 rfl ?_
          obtain ⟨o9, H⟩ := H
          refine g_ld iX10_postTold_76 (ln_4 L) o9 ?_
          exact g_ri iX10_postTold_77 (Or.inl rfl) H
        · rw [if_neg c8] at H
          by_cases c10 : x2 = 3
          · rw [if_pos c10] at H
            refine g_sw iX10_postTold_15 (by simp only [rx_sw]; rw [if_neg c4, if_neg c6, if_neg c8, if_pos c10]) ?_
            refine g_al iX10_postTold_78 rfl ?_
            refine g_gr iX10_postTold_79 fr_10_0_0 ?_
            refine g_gr iX10_postTold_82 fr_1_5_1 ?_
            refine g_il iX10_postTold_85 rfl ?_
            obtain ⟨o11, H⟩ := H
            refine g_ld iX10_postTold_86 (ln_6 L) o11 ?_
            exact g_ri iX10_postTold_87 (Or.inl rfl) H
          · rw [if_neg c10] at H
            by_cases c12 : x2 = 4
            · rw [if_pos c12] at H
              refine g_sw iX10_postTold_15 (by simp only [rx_sw]; rw [if_neg c4, if_neg c6, if_neg c8, if_neg c10, if_pos c12]) ?_
              refine g_al iX10_postTold_88 rfl ?_
              refine g_gr iX10_postTold_89 fr_10_0_0 ?_
              refine g_il iX10_postTold_92 rfl ?_
              refine g_ci (as := [.inr 1, .inl x1]) (rest := []) iX10_postTold_93 rfl rfl (Nat.le_of_ble_eq_true rfl) (Or.inr ⟨_, _, rfl, oo_1_1⟩) (rx_CI.imp H (fun v14 σ13 H => ?_))
              exact g_ri iX10_postTold_96 (Or.inl rfl) H
            · rw [if_neg c12] at H
              refine g_sw (t := 97) iX10_postTold_15 (by simp only [rx_sw, c4, c6, c8, c10, c12, if_false]) ?_
              refine g_c iX10_postTold_97 ?_
              exact g_ri iX10_postTold_99 (Or.inl rfl) H
  · rw [if_neg c3] at H
    refine g_if1f iX10_postTold_8 c3 ?_
    refine g_c iX10_postTold_11 ?_
    exact g_ri iX10_postTold_13 (Or.inl rfl) H
set_option maxRecDepth 20000 in
set_option maxHeartbeats 4000000 in
theorem bX10_move (L d : Nat) (x1 : Int) (x2 : Int) (x3 : Int) (σ : rx_St) (K : Int → rx_St → Prop)
    (H : rx_CI L d mX1_isPost [.inr 1, .inl x1] σ (fun v2 σ1 => if v2 = 0 then (K (-1000000001) σ1) else (rx_CI L d mX10_isPlace [.inl x2, .inl x3] σ1 (fun v5 σ4 => if v5 ≠ 0 then (rx_CI L d mX1_postAt [.inr 1, .inl x2, .inl x3] σ4 (fun v8 σ7 => if v8 ≠ x1 then (if v8 < 0 then ((0 ≤ x1 ∧ x1 < 8) ∧ (K 1 (rx_up (rx_up σ7 2 x1 x2) 3 x1 x3))) else (K (-1000000002) σ7)) else (K 0 σ7))) else (K (-1000000001) σ4))))) :
    rx_CI L (d + 1) mX10_move [.inr 0, .inl x1, .inl x2, .inl x3] σ K := by
  refine rx_CI.of (la := [some (.inr 0), some (.inl x1), some (.inl x2), some (.inl x3), none]) rfl ?_
  refine g_al iX10_move_0 rfl ?_
  refine g_gr iX10_move_1 fr_10_0_0 ?_
  refine g_il iX10_move_4 rfl ?_
  refine g_ci (as := [.inr 1, .inl x1]) (rest := []) iX10_move_5 rfl rfl (Nat.le_of_ble_eq_true rfl) (Or.inr ⟨_, _, rfl, oo_1_1⟩) (rx_CI.imp H (fun v2 σ1 H => ?_))
  by_cases c3 : v2 = 0
  · rw [if_pos c3] at H
    refine g_if0t iX10_move_8 c3 ?_
    refine g_c iX10_move_19 ?_
    exact g_ri iX10_move_21 (Or.inl rfl) H
  · rw [if_neg c3] at H
    refine g_if0f iX10_move_8 c3 ?_
    refine g_il iX10_move_11 rfl ?_
    refine g_il iX10_move_12 rfl ?_
    refine g_ci (as := [.inl x2, .inl x3]) (rest := []) iX10_move_13 rfl rfl (Nat.le_of_ble_eq_true rfl) (Or.inl (by decide)) (rx_CI.imp H (fun v5 σ4 H => ?_))
    by_cases c6 : v5 ≠ 0
    · rw [if_pos c6] at H
      refine g_if1t iX10_move_16 c6 ?_
      refine g_al iX10_move_22 rfl ?_
      refine g_gr iX10_move_23 fr_10_0_0 ?_
      refine g_il iX10_move_26 rfl ?_
      refine g_il iX10_move_27 rfl ?_
      refine g_ci (as := [.inr 1, .inl x2, .inl x3]) (rest := []) iX10_move_28 rfl rfl (Nat.le_of_ble_eq_true rfl) (Or.inr ⟨_, _, rfl, oo_1_1⟩) (rx_CI.imp H (fun v8 σ7 H => ?_))
      refine g_is iX10_move_31 (Nat.le_of_ble_eq_true rfl) ?_
      refine rx_Go.ls (la := [some (.inr 0), some (.inl x1), some (.inl x2), some (.inl x3), some (.inl v8)]) rfl ?_
      refine g_il iX10_move_33 rfl ?_
      refine g_il iX10_move_35 rfl ?_
      by_cases c9 : v8 ≠ x1
      · rw [if_pos c9] at H
        refine g_ic1t iX10_move_36 c9 ?_
        refine g_il iX10_move_41 rfl ?_
        by_cases c10 : v8 < 0
        · rw [if_pos c10] at H
          refine g_if2t iX10_move_43 c10 ?_
          refine g_al iX10_move_49 rfl ?_
          refine g_gr iX10_move_50 fr_10_0_0 ?_
          refine g_gr iX10_move_53 fr_1_1_1 ?_
          refine g_il iX10_move_56 rfl ?_
          refine g_il iX10_move_57 rfl ?_
          obtain ⟨o11, H⟩ := H
          refine g_st iX10_move_58 (ln_2 L) (by decide) o11 rfl ?_
          refine g_al iX10_move_59 rfl ?_
          refine g_gr iX10_move_60 fr_10_0_0 ?_
          refine g_gr iX10_move_63 fr_1_2_1 ?_
          refine g_il iX10_move_66 rfl ?_
          refine g_il iX10_move_67 rfl ?_
          refine g_st iX10_move_68 (ln_3 L) (by decide) o11 rfl ?_
          refine g_c iX10_move_69 ?_
          exact g_ri iX10_move_70 (Or.inl rfl) H
        · rw [if_neg c10] at H
          refine g_if2f iX10_move_43 c10 ?_
          refine g_c iX10_move_46 ?_
          exact g_ri iX10_move_48 (Or.inl rfl) H
      · rw [if_neg c9] at H
        refine g_ic1f iX10_move_36 c9 ?_
        refine g_c iX10_move_39 ?_
        exact g_ri iX10_move_40 (Or.inl rfl) H
    · rw [if_neg c6] at H
      refine g_if1f iX10_move_16 c6 ?_
      refine g_c iX10_move_19 ?_
      exact g_ri iX10_move_21 (Or.inl rfl) H
set_option maxRecDepth 20000 in
set_option maxHeartbeats 4000000 in
theorem bX10_layer (L d : Nat) (x1 : Int) (x2 : Int) (σ : rx_St) (K : Int → rx_St → Prop)
    (H : rx_CI L d mX1_isPost [.inr 1, .inl x1] σ (fun v2 σ1 => if v2 = 0 then (K (-1000000001) σ1) else (rx_CI L d mX10_isLayer [.inl x2] σ1 (fun v5 σ4 => if v5 ≠ 0 then ((0 ≤ x1 ∧ x1 < 8) ∧ (K (σ4 4 x1) (rx_up σ4 4 x1 x2))) else (K (-1000000001) σ4))))) :
    rx_CI L (d + 1) mX10_layer [.inr 0, .inl x1, .inl x2] σ K := by
  refine rx_CI.of (la := [some (.inr 0), some (.inl x1), some (.inl x2), none]) rfl ?_
  refine g_al iX10_layer_0 rfl ?_
  refine g_gr iX10_layer_1 fr_10_0_0 ?_
  refine g_il iX10_layer_4 rfl ?_
  refine g_ci (as := [.inr 1, .inl x1]) (rest := []) iX10_layer_5 rfl rfl (Nat.le_of_ble_eq_true rfl) (Or.inr ⟨_, _, rfl, oo_1_1⟩) (rx_CI.imp H (fun v2 σ1 H => ?_))
  by_cases c3 : v2 = 0
  · rw [if_pos c3] at H
    refine g_if0t iX10_layer_8 c3 ?_
    refine g_c iX10_layer_18 ?_
    exact g_ri iX10_layer_20 (Or.inl rfl) H
  · rw [if_neg c3] at H
    refine g_if0f iX10_layer_8 c3 ?_
    refine g_il iX10_layer_11 rfl ?_
    refine g_ci (as := [.inl x2]) (rest := []) iX10_layer_12 rfl rfl (Nat.le_of_ble_eq_true rfl) (Or.inl (by decide)) (rx_CI.imp H (fun v5 σ4 H => ?_))
    by_cases c6 : v5 ≠ 0
    · rw [if_pos c6] at H
      refine g_if1t iX10_layer_15 c6 ?_
      refine g_al iX10_layer_21 rfl ?_
      refine g_gr iX10_layer_22 fr_10_0_0 ?_
      refine g_gr iX10_layer_25 fr_1_3_1 ?_
      refine g_il iX10_layer_28 rfl ?_
      obtain ⟨o7, H⟩ := H
      refine g_ld iX10_layer_29 (ln_4 L) o7 ?_
      refine g_is iX10_layer_30 (Nat.le_of_ble_eq_true rfl) ?_
      refine rx_Go.ls (la := [some (.inr 0), some (.inl x1), some (.inl x2), some (.inl (σ4 4 x1))]) rfl ?_
      refine g_al iX10_layer_31 rfl ?_
      refine g_gr iX10_layer_32 fr_10_0_0 ?_
      refine g_gr iX10_layer_35 fr_1_3_1 ?_
      refine g_il iX10_layer_38 rfl ?_
      refine g_il iX10_layer_39 rfl ?_
      refine g_st iX10_layer_40 (ln_4 L) (by decide) o7 rfl ?_
      refine g_il iX10_layer_41 rfl ?_
      exact g_ri iX10_layer_42 (Or.inl rfl) H
    · rw [if_neg c6] at H
      refine g_if1f iX10_layer_15 c6 ?_
      refine g_c iX10_layer_18 ?_
      exact g_ri iX10_layer_20 (Or.inl rfl) H
set_option maxRecDepth 20000 in
set_option maxHeartbeats 4000000 in
theorem bX10_road (L d : Nat) (x1 : Int) (x2 : Int) (x3 : Int) (σ : rx_St) (K : Int → rx_St → Prop)
    (H : rx_CI L d mX10_isKind [.inl x1] σ (fun v2 σ1 => if v2 = 0 then (K (-1000000001) σ1) else (rx_CI L d mX10_isWeight [.inl x3] σ1 (fun v5 σ4 => if v5 ≠ 0 then (rx_CI L d mX1_roadRefusal [.inr 1, .inl (rx_w (Int.tdiv x2 10)), .inl (Int.tmod x2 10)] σ4 (fun v8 σ7 => if v8 = 0 then (rx_CI L d mX1_addRoad [.inr 1, .inl x1, .inl (rx_w (Int.tdiv x2 10)), .inl (Int.tmod x2 10), .inl x3] σ7 (fun v11 σ10 => K v11 σ10)) else (K v8 σ7))) else (K (-1000000001) σ4))))) :
    rx_CI L (d + 1) mX10_road [.inr 0, .inl x1, .inl x2, .inl x3] σ K := by
  refine rx_CI.of (la := [some (.inr 0), some (.inl x1), some (.inl x2), some (.inl x3), none, none, none]) rfl ?_
  refine g_il iX10_road_0 rfl ?_
  refine g_c iX10_road_1 ?_
  refine g_div iX10_road_3 (by decide) ?_
  refine g_is iX10_road_4 (Nat.le_of_ble_eq_true rfl) ?_
  refine rx_Go.ls (la := [some (.inr 0), some (.inl x1), some (.inl x2), some (.inl x3), some (.inl (rx_w (Int.tdiv x2 10))), none, none]) rfl ?_
  refine g_il iX10_road_6 rfl ?_
  refine g_c iX10_road_7 ?_
  refine g_rem iX10_road_9 (by decide) ?_
  refine g_is iX10_road_10 (Nat.le_of_ble_eq_true rfl) ?_
  refine rx_Go.ls (la := [some (.inr 0), some (.inl x1), some (.inl x2), some (.inl x3), some (.inl (rx_w (Int.tdiv x2 10))), some (.inl (Int.tmod x2 10)), none]) rfl ?_
  refine g_il iX10_road_12 rfl ?_
  refine g_ci (as := [.inl x1]) (rest := []) iX10_road_13 rfl rfl (Nat.le_of_ble_eq_true rfl) (Or.inl (by decide)) (rx_CI.imp H (fun v2 σ1 H => ?_))
  by_cases c3 : v2 = 0
  · rw [if_pos c3] at H
    refine g_if0t iX10_road_16 c3 ?_
    refine g_c iX10_road_26 ?_
    exact g_ri iX10_road_28 (Or.inl rfl) H
  · rw [if_neg c3] at H
    refine g_if0f iX10_road_16 c3 ?_
    refine g_il iX10_road_19 rfl ?_
    refine g_ci (as := [.inl x3]) (rest := []) iX10_road_20 rfl rfl (Nat.le_of_ble_eq_true rfl) (Or.inl (by decide)) (rx_CI.imp H (fun v5 σ4 H => ?_))
    by_cases c6 : v5 ≠ 0
    · rw [if_pos c6] at H
      refine g_if1t iX10_road_23 c6 ?_
      refine g_al iX10_road_29 rfl ?_
      refine g_gr iX10_road_30 fr_10_0_0 ?_
      refine g_il iX10_road_33 rfl ?_
      refine g_il iX10_road_35 rfl ?_
      refine g_ci (as := [.inr 1, .inl (rx_w (Int.tdiv x2 10)), .inl (Int.tmod x2 10)]) (rest := []) iX10_road_37 rfl rfl (Nat.le_of_ble_eq_true rfl) (Or.inr ⟨_, _, rfl, oo_1_1⟩) (rx_CI.imp H (fun v8 σ7 H => ?_))
      refine g_is iX10_road_40 (Nat.le_of_ble_eq_true rfl) ?_
      refine rx_Go.ls (la := [some (.inr 0), some (.inl x1), some (.inl x2), some (.inl x3), some (.inl (rx_w (Int.tdiv x2 10))), some (.inl (Int.tmod x2 10)), some (.inl v8)]) rfl ?_
      refine g_il iX10_road_42 rfl ?_
      by_cases c9 : v8 = 0
      · rw [if_pos c9] at H
        refine g_if0t iX10_road_44 c9 ?_
        refine g_al iX10_road_52 rfl ?_
        refine g_gr iX10_road_53 fr_10_0_0 ?_
        refine g_il iX10_road_56 rfl ?_
        refine g_il iX10_road_57 rfl ?_
        refine g_il iX10_road_59 rfl ?_
        refine g_il iX10_road_61 rfl ?_
        refine g_ci (as := [.inr 1, .inl x1, .inl (rx_w (Int.tdiv x2 10)), .inl (Int.tmod x2 10), .inl x3]) (rest := []) iX10_road_62 rfl rfl (Nat.le_of_ble_eq_true rfl) (Or.inr ⟨_, _, rfl, oo_1_1⟩) (rx_CI.imp H (fun v11 σ10 H => ?_))
        exact g_ri iX10_road_65 (Or.inl rfl) H
      · rw [if_neg c9] at H
        refine g_if0f iX10_road_44 c9 ?_
        refine g_il iX10_road_47 rfl ?_
        refine g_goto iX10_road_49 ?_
        exact g_ri iX10_road_65 (Or.inl rfl) H
    · rw [if_neg c6] at H
      refine g_if1f iX10_road_23 c6 ?_
      refine g_c iX10_road_26 ?_
      exact g_ri iX10_road_28 (Or.inl rfl) H
set_option maxRecDepth 20000 in
set_option maxHeartbeats 4000000 in
theorem bX10_told (L d : Nat) (x1 : Int) (x2 : Int) (σ : rx_St) (K : Int → rx_St → Prop)
    (H : rx_CI L d mX1_isRoad [.inr 1, .inl x1] σ (fun v2 σ1 => if v2 ≠ 0 then (if x2 = 0 then ((0 ≤ x1 ∧ x1 < 18) ∧ (K (σ1 7 x1) σ1)) else (if x2 = 1 then ((0 ≤ x1 ∧ x1 < 18) ∧ (K (σ1 8 x1) σ1)) else (if x2 = 2 then ((0 ≤ x1 ∧ x1 < 18) ∧ (K (σ1 9 x1) σ1)) else (if x2 = 3 then ((0 ≤ x1 ∧ x1 < 18) ∧ (K (σ1 10 x1) σ1)) else (if x2 = 4 then ((0 ≤ x1 ∧ x1 < 18) ∧ (K (σ1 11 x1) σ1)) else (if x2 = 5 then (rx_CI L d mX0_harmOf [.inr 37, .inr 1, .inl x1] σ1 (fun v16 σ15 => K v16 σ15)) else (if x2 = 6 then ((0 ≤ x1 ∧ x1 < 18) ∧ (rx_CI L d mX10_worthOf [.inl (σ1 7 x1), .inl (σ1 10 x1)] σ1 (fun v20 σ19 => K v20 σ19))) else (K (-1000000001) σ1)))))))) else (K (-1000000001) σ1))) :
    rx_CI L (d + 1) mX10_told [.inr 0, .inl x1, .inl x2] σ K := by
  refine rx_CI.of (la := [some (.inr 0), some (.inl x1), some (.inl x2)]) rfl ?_
  refine g_al iX10_told_0 rfl ?_
  refine g_gr iX10_told_1 fr_10_0_0 ?_
  refine g_il iX10_told_4 rfl ?_
  refine g_ci (as := [.inr 1, .inl x1]) (rest := []) iX10_told_5 rfl rfl (Nat.le_of_ble_eq_true rfl) (Or.inr ⟨_, _, rfl, oo_1_1⟩) (rx_CI.imp H (fun v2 σ1 H => ?_))
  by_cases c3 : v2 ≠ 0
  · rw [if_pos c3] at H
    refine g_if1t iX10_told_8 c3 ?_
    refine g_il iX10_told_14 rfl ?_
    by_cases c4 : x2 = 0
    · rw [if_pos c4] at H
      refine g_sw iX10_told_15 (by simp only [rx_sw]; rw [if_pos c4]) ?_
      refine g_al iX10_told_56 rfl ?_
      refine g_gr iX10_told_57 fr_10_0_0 ?_
      refine g_gr iX10_told_60 fr_1_7_1 ?_
      refine g_il iX10_told_63 rfl ?_
      obtain ⟨o5, H⟩ := H
      refine g_ld iX10_told_64 (ln_7 L) o5 ?_
      exact g_ri iX10_told_65 (Or.inl rfl) H
    · rw [if_neg c4] at H
      by_cases c6 : x2 = 1
      · rw [if_pos c6] at H
        refine g_sw iX10_told_15 (by simp only [rx_sw]; rw [if_neg c4, if_pos c6]) ?_
        refine g_al iX10_told_66 rfl ?_
        refine g_gr iX10_told_67 fr_10_0_0 ?_
        refine g_gr iX10_told_70 fr_1_8_1 ?_
        refine g_il iX10_told_73 rfl ?_
        obtain ⟨o7, H⟩ := H
        refine g_ld iX10_told_74 (ln_8 L) o7 ?_
        exact g_ri iX10_told_75 (Or.inl rfl) H
      · rw [if_neg c6] at H
        by_cases c8 : x2 = 2
        · rw [if_pos c8] at H
          refine g_sw iX10_told_15 (by simp only [rx_sw]; rw [if_neg c4, if_neg c6, if_pos c8]) ?_
          refine g_al iX10_told_76 rfl ?_
          refine g_gr iX10_told_77 fr_10_0_0 ?_
          refine g_gr iX10_told_80 fr_1_9_1 ?_
          refine g_il iX10_told_83 rfl ?_
          obtain ⟨o9, H⟩ := H
          refine g_ld iX10_told_84 (ln_9 L) o9 ?_
          exact g_ri iX10_told_85 (Or.inl rfl) H
        · rw [if_neg c8] at H
          by_cases c10 : x2 = 3
          · rw [if_pos c10] at H
            refine g_sw iX10_told_15 (by simp only [rx_sw]; rw [if_neg c4, if_neg c6, if_neg c8, if_pos c10]) ?_
            refine g_al iX10_told_86 rfl ?_
            refine g_gr iX10_told_87 fr_10_0_0 ?_
            refine g_gr iX10_told_90 fr_1_10_1 ?_
            refine g_il iX10_told_93 rfl ?_
            obtain ⟨o11, H⟩ := H
            refine g_ld iX10_told_94 (ln_10 L) o11 ?_
            exact g_ri iX10_told_95 (Or.inl rfl) H
          · rw [if_neg c10] at H
            by_cases c12 : x2 = 4
            · rw [if_pos c12] at H
              refine g_sw iX10_told_15 (by simp only [rx_sw]; rw [if_neg c4, if_neg c6, if_neg c8, if_neg c10, if_pos c12]) ?_
              refine g_al iX10_told_96 rfl ?_
              refine g_gr iX10_told_97 fr_10_0_0 ?_
              refine g_gr iX10_told_100 fr_1_11_1 ?_
              refine g_il iX10_told_103 rfl ?_
              obtain ⟨o13, H⟩ := H
              refine g_ld iX10_told_104 (ln_11 L) o13 ?_
              exact g_ri iX10_told_105 (Or.inl rfl) H
            · rw [if_neg c12] at H
              by_cases c14 : x2 = 5
              · rw [if_pos c14] at H
                refine g_sw iX10_told_15 (by simp only [rx_sw]; rw [if_neg c4, if_neg c6, if_neg c8, if_neg c10, if_neg c12, if_pos c14]) ?_
                refine g_al iX10_told_106 rfl ?_
                refine g_gr iX10_told_107 fr_10_5_0 ?_
                refine g_al iX10_told_110 rfl ?_
                refine g_gr iX10_told_111 fr_10_0_0 ?_
                refine g_il iX10_told_114 rfl ?_
                refine g_ci (as := [.inr 37, .inr 1, .inl x1]) (rest := []) iX10_told_115 rfl rfl (Nat.le_of_ble_eq_true rfl) (Or.inr ⟨_, _, rfl, oo_0_37⟩) (rx_CI.imp H (fun v16 σ15 H => ?_))
                exact g_ri iX10_told_118 (Or.inl rfl) H
              · rw [if_neg c14] at H
                by_cases c17 : x2 = 6
                · rw [if_pos c17] at H
                  refine g_sw iX10_told_15 (by simp only [rx_sw]; rw [if_neg c4, if_neg c6, if_neg c8, if_neg c10, if_neg c12, if_neg c14, if_pos c17]) ?_
                  refine g_al iX10_told_119 rfl ?_
                  refine g_gr iX10_told_120 fr_10_0_0 ?_
                  refine g_gr iX10_told_123 fr_1_7_1 ?_
                  refine g_il iX10_told_126 rfl ?_
                  obtain ⟨o18, H⟩ := H
                  refine g_ld iX10_told_127 (ln_7 L) o18 ?_
                  refine g_al iX10_told_128 rfl ?_
                  refine g_gr iX10_told_129 fr_10_0_0 ?_
                  refine g_gr iX10_told_132 fr_1_10_1 ?_
                  refine g_il iX10_told_135 rfl ?_
                  refine g_ld iX10_told_136 (ln_10 L) o18 ?_
                  refine g_ci (as := [.inl (σ1 7 x1), .inl (σ1 10 x1)]) (rest := []) iX10_told_137 rfl rfl (Nat.le_of_ble_eq_true rfl) (Or.inl (by decide)) (rx_CI.imp H (fun v20 σ19 H => ?_))
                  exact g_ri iX10_told_140 (Or.inl rfl) H
                · rw [if_neg c17] at H
                  refine g_sw (t := 141) iX10_told_15 (by simp only [rx_sw, c4, c6, c8, c10, c12, c14, c17, if_false]) ?_
                  refine g_c iX10_told_141 ?_
                  exact g_ri iX10_told_143 (Or.inl rfl) H
  · rw [if_neg c3] at H
    refine g_if1f iX10_told_8 c3 ?_
    refine g_c iX10_told_11 ?_
    exact g_ri iX10_told_13 (Or.inl rfl) H
set_option maxRecDepth 20000 in
set_option maxHeartbeats 4000000 in
theorem bX10_as (L d : Nat) (x1 : Int) (x2 : Int) (σ : rx_St) (K : Int → rx_St → Prop)
    (H : rx_CI L d mX1_isRoad [.inr 1, .inl x1] σ (fun v2 σ1 => if v2 = 0 then (K (-1000000001) σ1) else (rx_CI L d mX10_isKind [.inl x2] σ1 (fun v5 σ4 => if v5 ≠ 0 then ((0 ≤ x1 ∧ x1 < 18) ∧ (rx_CI L d mX10_isUnder [.inl (σ4 7 x1), .inl x2] σ4 (fun v9 σ8 => if v9 = 0 then (K (-1000000012) σ8) else (K (σ8 10 x1) σ8)))) else (K (-1000000001) σ4))))) :
    rx_CI L (d + 1) mX10_as [.inr 0, .inl x1, .inl x2] σ K := by
  refine rx_CI.of (la := [some (.inr 0), some (.inl x1), some (.inl x2)]) rfl ?_
  refine g_al iX10_as_0 rfl ?_
  refine g_gr iX10_as_1 fr_10_0_0 ?_
  refine g_il iX10_as_4 rfl ?_
  refine g_ci (as := [.inr 1, .inl x1]) (rest := []) iX10_as_5 rfl rfl (Nat.le_of_ble_eq_true rfl) (Or.inr ⟨_, _, rfl, oo_1_1⟩) (rx_CI.imp H (fun v2 σ1 H => ?_))
  by_cases c3 : v2 = 0
  · rw [if_pos c3] at H
    refine g_if0t iX10_as_8 c3 ?_
    refine g_c iX10_as_18 ?_
    exact g_ri iX10_as_20 (Or.inl rfl) H
  · rw [if_neg c3] at H
    refine g_if0f iX10_as_8 c3 ?_
    refine g_il iX10_as_11 rfl ?_
    refine g_ci (as := [.inl x2]) (rest := []) iX10_as_12 rfl rfl (Nat.le_of_ble_eq_true rfl) (Or.inl (by decide)) (rx_CI.imp H (fun v5 σ4 H => ?_))
    by_cases c6 : v5 ≠ 0
    · rw [if_pos c6] at H
      refine g_if1t iX10_as_15 c6 ?_
      refine g_al iX10_as_21 rfl ?_
      refine g_gr iX10_as_22 fr_10_0_0 ?_
      refine g_gr iX10_as_25 fr_1_7_1 ?_
      refine g_il iX10_as_28 rfl ?_
      obtain ⟨o7, H⟩ := H
      refine g_ld iX10_as_29 (ln_7 L) o7 ?_
      refine g_il iX10_as_30 rfl ?_
      refine g_ci (as := [.inl (σ4 7 x1), .inl x2]) (rest := []) iX10_as_31 rfl rfl (Nat.le_of_ble_eq_true rfl) (Or.inl (by decide)) (rx_CI.imp H (fun v9 σ8 H => ?_))
      by_cases c10 : v9 = 0
      · rw [if_pos c10] at H
        refine g_if0t iX10_as_34 c10 ?_
        refine g_c iX10_as_49 ?_
        exact g_ri iX10_as_51 (Or.inl rfl) H
      · rw [if_neg c10] at H
        refine g_if0f iX10_as_34 c10 ?_
        refine g_al iX10_as_37 rfl ?_
        refine g_gr iX10_as_38 fr_10_0_0 ?_
        refine g_gr iX10_as_41 fr_1_10_1 ?_
        refine g_il iX10_as_44 rfl ?_
        refine g_ld iX10_as_45 (ln_10 L) o7 ?_
        refine g_goto iX10_as_46 ?_
        exact g_ri iX10_as_51 (Or.inl rfl) H
    · rw [if_neg c6] at H
      refine g_if1f iX10_as_15 c6 ?_
      refine g_c iX10_as_18 ?_
      exact g_ri iX10_as_20 (Or.inl rfl) H
set_option maxRecDepth 20000 in
set_option maxHeartbeats 4000000 in
theorem bX10_turns (L d : Nat) (x1 : Int) (x2 : Int) (σ : rx_St) (K : Int → rx_St → Prop)
    (H : rx_CI L d mX1_isRoad [.inr 1, .inl x1] σ (fun v2 σ1 => if v2 = 0 then (K (-1000000001) σ1) else (rx_CI L d mX10_isKind [.inl x2] σ1 (fun v5 σ4 => if v5 ≠ 0 then ((0 ≤ x1 ∧ x1 < 18) ∧ (K (σ4 7 x1) (rx_up σ4 7 x1 x2))) else (K (-1000000001) σ4))))) :
    rx_CI L (d + 1) mX10_turns [.inr 0, .inl x1, .inl x2] σ K := by
  refine rx_CI.of (la := [some (.inr 0), some (.inl x1), some (.inl x2), none]) rfl ?_
  refine g_al iX10_turns_0 rfl ?_
  refine g_gr iX10_turns_1 fr_10_0_0 ?_
  refine g_il iX10_turns_4 rfl ?_
  refine g_ci (as := [.inr 1, .inl x1]) (rest := []) iX10_turns_5 rfl rfl (Nat.le_of_ble_eq_true rfl) (Or.inr ⟨_, _, rfl, oo_1_1⟩) (rx_CI.imp H (fun v2 σ1 H => ?_))
  by_cases c3 : v2 = 0
  · rw [if_pos c3] at H
    refine g_if0t iX10_turns_8 c3 ?_
    refine g_c iX10_turns_18 ?_
    exact g_ri iX10_turns_20 (Or.inl rfl) H
  · rw [if_neg c3] at H
    refine g_if0f iX10_turns_8 c3 ?_
    refine g_il iX10_turns_11 rfl ?_
    refine g_ci (as := [.inl x2]) (rest := []) iX10_turns_12 rfl rfl (Nat.le_of_ble_eq_true rfl) (Or.inl (by decide)) (rx_CI.imp H (fun v5 σ4 H => ?_))
    by_cases c6 : v5 ≠ 0
    · rw [if_pos c6] at H
      refine g_if1t iX10_turns_15 c6 ?_
      refine g_al iX10_turns_21 rfl ?_
      refine g_gr iX10_turns_22 fr_10_0_0 ?_
      refine g_gr iX10_turns_25 fr_1_7_1 ?_
      refine g_il iX10_turns_28 rfl ?_
      obtain ⟨o7, H⟩ := H
      refine g_ld iX10_turns_29 (ln_7 L) o7 ?_
      refine g_is iX10_turns_30 (Nat.le_of_ble_eq_true rfl) ?_
      refine rx_Go.ls (la := [some (.inr 0), some (.inl x1), some (.inl x2), some (.inl (σ4 7 x1))]) rfl ?_
      refine g_al iX10_turns_31 rfl ?_
      refine g_gr iX10_turns_32 fr_10_0_0 ?_
      refine g_gr iX10_turns_35 fr_1_7_1 ?_
      refine g_il iX10_turns_38 rfl ?_
      refine g_il iX10_turns_39 rfl ?_
      refine g_st iX10_turns_40 (ln_7 L) (by decide) o7 rfl ?_
      refine g_il iX10_turns_41 rfl ?_
      exact g_ri iX10_turns_42 (Or.inl rfl) H
    · rw [if_neg c6] at H
      refine g_if1f iX10_turns_15 c6 ?_
      refine g_c iX10_turns_18 ?_
      exact g_ri iX10_turns_20 (Or.inl rfl) H
set_option maxRecDepth 20000 in
set_option maxHeartbeats 4000000 in
theorem bX10_set (L d : Nat) (x1 : Int) (x2 : Int) (x3 : Int) (σ : rx_St) (K : Int → rx_St → Prop)
    (H : rx_CI L d mX1_isRoad [.inr 1, .inl x1] σ (fun v2 σ1 => if v2 ≠ 0 then (if x2 ≠ 0 then (if x2 ≠ 1 then (K (-1000000001) σ1) else (rx_CI L d mX10_isPage [.inl x3] σ1 (fun v7 σ6 => if v7 = 0 then (K (-1000000001) σ6) else ((0 ≤ x1 ∧ x1 < 18) ∧ (K (σ6 11 x1) (rx_up σ6 11 x1 x3)))))) else (rx_CI L d mX10_isWeight [.inl x3] σ1 (fun v11 σ10 => if v11 = 0 then (if x2 ≠ 1 then (K (-1000000001) σ10) else (rx_CI L d mX10_isPage [.inl x3] σ10 (fun v15 σ14 => if v15 = 0 then (K (-1000000001) σ14) else ((0 ≤ x1 ∧ x1 < 18) ∧ (K (σ14 11 x1) (rx_up σ14 11 x1 x3)))))) else ((0 ≤ x1 ∧ x1 < 18) ∧ (K (σ10 10 x1) (rx_up σ10 10 x1 x3)))))) else (K (-1000000001) σ1))) :
    rx_CI L (d + 1) mX10_set [.inr 0, .inl x1, .inl x2, .inl x3] σ K := by
  refine rx_CI.of (la := [some (.inr 0), some (.inl x1), some (.inl x2), some (.inl x3), none]) rfl ?_
  refine g_al iX10_set_0 rfl ?_
  refine g_gr iX10_set_1 fr_10_0_0 ?_
  refine g_il iX10_set_4 rfl ?_
  refine g_ci (as := [.inr 1, .inl x1]) (rest := []) iX10_set_5 rfl rfl (Nat.le_of_ble_eq_true rfl) (Or.inr ⟨_, _, rfl, oo_1_1⟩) (rx_CI.imp H (fun v2 σ1 H => ?_))
  by_cases c3 : v2 ≠ 0
  · rw [if_pos c3] at H
    refine g_if1t iX10_set_8 c3 ?_
    refine g_il iX10_set_14 rfl ?_
    by_cases c4 : x2 ≠ 0
    · rw [if_pos c4] at H
      refine g_if1t iX10_set_15 c4 ?_
      refine g_il iX10_set_49 rfl ?_
      refine g_c iX10_set_50 ?_
      by_cases c5 : x2 ≠ 1
      · rw [if_pos c5] at H
        refine g_ic1t iX10_set_51 c5 ?_
        refine g_c iX10_set_85 ?_
        exact g_ri iX10_set_87 (Or.inl rfl) H
      · rw [if_neg c5] at H
        refine g_ic1f iX10_set_51 c5 ?_
        refine g_il iX10_set_54 rfl ?_
        refine g_ci (as := [.inl x3]) (rest := []) iX10_set_55 rfl rfl (Nat.le_of_ble_eq_true rfl) (Or.inl (by decide)) (rx_CI.imp H (fun v7 σ6 H => ?_))
        by_cases c8 : v7 = 0
        · rw [if_pos c8] at H
          refine g_if0t iX10_set_58 c8 ?_
          refine g_c iX10_set_85 ?_
          exact g_ri iX10_set_87 (Or.inl rfl) H
        · rw [if_neg c8] at H
          refine g_if0f iX10_set_58 c8 ?_
          refine g_al iX10_set_61 rfl ?_
          refine g_gr iX10_set_62 fr_10_0_0 ?_
          refine g_gr iX10_set_65 fr_1_11_1 ?_
          refine g_il iX10_set_68 rfl ?_
          obtain ⟨o9, H⟩ := H
          refine g_ld iX10_set_69 (ln_11 L) o9 ?_
          refine g_is iX10_set_70 (Nat.le_of_ble_eq_true rfl) ?_
          refine rx_Go.ls (la := [some (.inr 0), some (.inl x1), some (.inl x2), some (.inl x3), some (.inl (σ6 11 x1))]) rfl ?_
          refine g_al iX10_set_72 rfl ?_
          refine g_gr iX10_set_73 fr_10_0_0 ?_
          refine g_gr iX10_set_76 fr_1_11_1 ?_
          refine g_il iX10_set_79 rfl ?_
          refine g_il iX10_set_80 rfl ?_
          refine g_st iX10_set_81 (ln_11 L) (by decide) o9 rfl ?_
          refine g_il iX10_set_82 rfl ?_
          exact g_ri iX10_set_84 (Or.inl rfl) H
    · rw [if_neg c4] at H
      refine g_if1f iX10_set_15 c4 ?_
      refine g_il iX10_set_18 rfl ?_
      refine g_ci (as := [.inl x3]) (rest := []) iX10_set_19 rfl rfl (Nat.le_of_ble_eq_true rfl) (Or.inl (by decide)) (rx_CI.imp H (fun v11 σ10 H => ?_))
      by_cases c12 : v11 = 0
      · rw [if_pos c12] at H
        refine g_if0t iX10_set_22 c12 ?_
        refine g_il iX10_set_49 rfl ?_
        refine g_c iX10_set_50 ?_
        by_cases c13 : x2 ≠ 1
        · rw [if_pos c13] at H
          refine g_ic1t iX10_set_51 c13 ?_
          refine g_c iX10_set_85 ?_
          exact g_ri iX10_set_87 (Or.inl rfl) H
        · rw [if_neg c13] at H
          refine g_ic1f iX10_set_51 c13 ?_
          refine g_il iX10_set_54 rfl ?_
          refine g_ci (as := [.inl x3]) (rest := []) iX10_set_55 rfl rfl (Nat.le_of_ble_eq_true rfl) (Or.inl (by decide)) (rx_CI.imp H (fun v15 σ14 H => ?_))
          by_cases c16 : v15 = 0
          · rw [if_pos c16] at H
            refine g_if0t iX10_set_58 c16 ?_
            refine g_c iX10_set_85 ?_
            exact g_ri iX10_set_87 (Or.inl rfl) H
          · rw [if_neg c16] at H
            refine g_if0f iX10_set_58 c16 ?_
            refine g_al iX10_set_61 rfl ?_
            refine g_gr iX10_set_62 fr_10_0_0 ?_
            refine g_gr iX10_set_65 fr_1_11_1 ?_
            refine g_il iX10_set_68 rfl ?_
            obtain ⟨o17, H⟩ := H
            refine g_ld iX10_set_69 (ln_11 L) o17 ?_
            refine g_is iX10_set_70 (Nat.le_of_ble_eq_true rfl) ?_
            refine rx_Go.ls (la := [some (.inr 0), some (.inl x1), some (.inl x2), some (.inl x3), some (.inl (σ14 11 x1))]) rfl ?_
            refine g_al iX10_set_72 rfl ?_
            refine g_gr iX10_set_73 fr_10_0_0 ?_
            refine g_gr iX10_set_76 fr_1_11_1 ?_
            refine g_il iX10_set_79 rfl ?_
            refine g_il iX10_set_80 rfl ?_
            refine g_st iX10_set_81 (ln_11 L) (by decide) o17 rfl ?_
            refine g_il iX10_set_82 rfl ?_
            exact g_ri iX10_set_84 (Or.inl rfl) H
      · rw [if_neg c12] at H
        refine g_if0f iX10_set_22 c12 ?_
        refine g_al iX10_set_25 rfl ?_
        refine g_gr iX10_set_26 fr_10_0_0 ?_
        refine g_gr iX10_set_29 fr_1_10_1 ?_
        refine g_il iX10_set_32 rfl ?_
        obtain ⟨o18, H⟩ := H
        refine g_ld iX10_set_33 (ln_10 L) o18 ?_
        refine g_is iX10_set_34 (Nat.le_of_ble_eq_true rfl) ?_
        refine rx_Go.ls (la := [some (.inr 0), some (.inl x1), some (.inl x2), some (.inl x3), some (.inl (σ10 10 x1))]) rfl ?_
        refine g_al iX10_set_36 rfl ?_
        refine g_gr iX10_set_37 fr_10_0_0 ?_
        refine g_gr iX10_set_40 fr_1_10_1 ?_
        refine g_il iX10_set_43 rfl ?_
        refine g_il iX10_set_44 rfl ?_
        refine g_st iX10_set_45 (ln_10 L) (by decide) o18 rfl ?_
        refine g_il iX10_set_46 rfl ?_
        exact g_ri iX10_set_48 (Or.inl rfl) H
  · rw [if_neg c3] at H
    refine g_if1f iX10_set_8 c3 ?_
    refine g_c iX10_set_11 ?_
    exact g_ri iX10_set_13 (Or.inl rfl) H
set_option maxRecDepth 20000 in
set_option maxHeartbeats 4000000 in
theorem bX10_drop (L d : Nat) (x1 : Int) (σ : rx_St) (K : Int → rx_St → Prop)
    (H : rx_CI L d mX1_isRoad [.inr 1, .inl x1] σ (fun v2 σ1 => if v2 ≠ 0 then (rx_CV L d mX1_dropRoad [.inr 1, .inl x1] σ1 (fun σ4 => K (σ4 1 6) σ4)) else (K (-1000000001) σ1))) :
    rx_CI L (d + 1) mX10_drop [.inr 0, .inl x1] σ K := by
  refine rx_CI.of (la := [some (.inr 0), some (.inl x1)]) rfl ?_
  refine g_al iX10_drop_0 rfl ?_
  refine g_gr iX10_drop_1 fr_10_0_0 ?_
  refine g_il iX10_drop_4 rfl ?_
  refine g_ci (as := [.inr 1, .inl x1]) (rest := []) iX10_drop_5 rfl rfl (Nat.le_of_ble_eq_true rfl) (Or.inr ⟨_, _, rfl, oo_1_1⟩) (rx_CI.imp H (fun v2 σ1 H => ?_))
  by_cases c3 : v2 ≠ 0
  · rw [if_pos c3] at H
    refine g_if1t iX10_drop_8 c3 ?_
    refine g_al iX10_drop_14 rfl ?_
    refine g_gr iX10_drop_15 fr_10_0_0 ?_
    refine g_il iX10_drop_18 rfl ?_
    refine g_cv (as := [.inr 1, .inl x1]) (rest := []) iX10_drop_19 rfl rfl (Nat.le_of_ble_eq_true rfl) (Or.inr ⟨_, _, rfl, oo_1_1⟩) (rx_CV.imp H (fun σ4 H => ?_))
    refine g_al iX10_drop_22 rfl ?_
    refine g_gr iX10_drop_23 fr_10_0_0 ?_
    refine g_gf (kI := 6) rfl iX10_drop_26 fi_1_6_1 ?_
    exact g_ri iX10_drop_29 (Or.inl rfl) H
  · rw [if_neg c3] at H
    refine g_if1f iX10_drop_8 c3 ?_
    refine g_c iX10_drop_11 ?_
    exact g_ri iX10_drop_13 (Or.inl rfl) H
set_option maxRecDepth 20000 in
set_option maxHeartbeats 4000000 in
theorem bX10_cross (L d : Nat) (x1 : Int) (x2 : Int) (σ : rx_St) (K : Int → rx_St → Prop)
    (H : rx_CI L d mX1_isRoad [.inr 1, .inl x1] σ (fun v2 σ1 => if v2 = 0 then (K (-1000000001) σ1) else (rx_CI L d mX1_isRoad [.inr 1, .inl x2] σ1 (fun v5 σ4 => if v5 = 0 then (K (-1000000001) σ4) else (if x1 ≠ x2 then (rx_CI L d mX1_meet [.inr 1, .inl 0, .inl x1, .inl x2] σ4 (fun v9 σ8 => if v9 = 0 then (K 0 σ8) else (K 1 σ8))) else (K (-1000000001) σ4)))))) :
    rx_CI L (d + 1) mX10_cross [.inr 0, .inl x1, .inl x2] σ K := by
  refine rx_CI.of (la := [some (.inr 0), some (.inl x1), some (.inl x2)]) rfl ?_
  refine g_al iX10_cross_0 rfl ?_
  refine g_gr iX10_cross_1 fr_10_0_0 ?_
  refine g_il iX10_cross_4 rfl ?_
  refine g_ci (as := [.inr 1, .inl x1]) (rest := []) iX10_cross_5 rfl rfl (Nat.le_of_ble_eq_true rfl) (Or.inr ⟨_, _, rfl, oo_1_1⟩) (rx_CI.imp H (fun v2 σ1 H => ?_))
  by_cases c3 : v2 = 0
  · rw [if_pos c3] at H
    refine g_if0t iX10_cross_8 c3 ?_
    refine g_c iX10_cross_27 ?_
    exact g_ri iX10_cross_29 (Or.inl rfl) H
  · rw [if_neg c3] at H
    refine g_if0f iX10_cross_8 c3 ?_
    refine g_al iX10_cross_11 rfl ?_
    refine g_gr iX10_cross_12 fr_10_0_0 ?_
    refine g_il iX10_cross_15 rfl ?_
    refine g_ci (as := [.inr 1, .inl x2]) (rest := []) iX10_cross_16 rfl rfl (Nat.le_of_ble_eq_true rfl) (Or.inr ⟨_, _, rfl, oo_1_1⟩) (rx_CI.imp H (fun v5 σ4 H => ?_))
    by_cases c6 : v5 = 0
    · rw [if_pos c6] at H
      refine g_if0t iX10_cross_19 c6 ?_
      refine g_c iX10_cross_27 ?_
      exact g_ri iX10_cross_29 (Or.inl rfl) H
    · rw [if_neg c6] at H
      refine g_if0f iX10_cross_19 c6 ?_
      refine g_il iX10_cross_22 rfl ?_
      refine g_il iX10_cross_23 rfl ?_
      by_cases c7 : x1 ≠ x2
      · rw [if_pos c7] at H
        refine g_ic1t iX10_cross_24 c7 ?_
        refine g_al iX10_cross_30 rfl ?_
        refine g_gr iX10_cross_31 fr_10_0_0 ?_
        refine g_c iX10_cross_34 ?_
        refine g_il iX10_cross_35 rfl ?_
        refine g_il iX10_cross_36 rfl ?_
        refine g_ci (as := [.inr 1, .inl 0, .inl x1, .inl x2]) (rest := []) iX10_cross_37 rfl rfl (Nat.le_of_ble_eq_true rfl) (Or.inr ⟨_, _, rfl, oo_1_1⟩) (rx_CI.imp H (fun v9 σ8 H => ?_))
        by_cases c10 : v9 = 0
        · rw [if_pos c10] at H
          refine g_if0t iX10_cross_40 c10 ?_
          refine g_c iX10_cross_47 ?_
          exact g_ri iX10_cross_48 (Or.inl rfl) H
        · rw [if_neg c10] at H
          refine g_if0f iX10_cross_40 c10 ?_
          refine g_c iX10_cross_43 ?_
          refine g_goto iX10_cross_44 ?_
          exact g_ri iX10_cross_48 (Or.inl rfl) H
      · rw [if_neg c7] at H
        refine g_ic1f iX10_cross_24 c7 ?_
        refine g_c iX10_cross_27 ?_
        exact g_ri iX10_cross_29 (Or.inl rfl) H
set_option maxRecDepth 20000 in
set_option maxHeartbeats 4000000 in
theorem bX10_straight (L d : Nat) (x1 : Int) (σ : rx_St) (K : Int → rx_St → Prop)
    (H : if x1 ≠ 2 then (rx_CI L d mX10_crossingsTold [.inr 0, .inl 0, .inl x1] σ (fun v3 σ2 => K v3 σ2)) else (rx_CI L d mX10_dearestRoad [.inr 0] σ (fun v5 σ4 => K v5 σ4))) :
    rx_CI L (d + 1) mX10_straight [.inr 0, .inl x1] σ K := by
  refine rx_CI.of (la := [some (.inr 0), some (.inl x1)]) rfl ?_
  refine g_il iX10_straight_0 rfl ?_
  refine g_c iX10_straight_1 ?_
  by_cases c1 : x1 ≠ 2
  · rw [if_pos c1] at H
    refine g_ic1t iX10_straight_2 c1 ?_
    refine g_al iX10_straight_12 rfl ?_
    refine g_c iX10_straight_13 ?_
    refine g_il iX10_straight_14 rfl ?_
    refine g_ci (as := [.inr 0, .inl 0, .inl x1]) (rest := []) iX10_straight_15 rfl rfl (Nat.le_of_ble_eq_true rfl) (Or.inr ⟨_, _, rfl, oo_10_0⟩) (rx_CI.imp H (fun v3 σ2 H => ?_))
    exact g_ri iX10_straight_18 (Or.inl rfl) H
  · rw [if_neg c1] at H
    refine g_ic1f iX10_straight_2 c1 ?_
    refine g_al iX10_straight_5 rfl ?_
    refine g_ci (as := [.inr 0]) (rest := []) iX10_straight_6 rfl rfl (Nat.le_of_ble_eq_true rfl) (Or.inr ⟨_, _, rfl, oo_10_0⟩) (rx_CI.imp H (fun v5 σ4 H => ?_))
    refine g_goto iX10_straight_9 ?_
    exact g_ri iX10_straight_18 (Or.inl rfl) H
set_option maxRecDepth 20000 in
set_option maxHeartbeats 4000000 in
theorem bX10_bound (L d : Nat)  (σ : rx_St) (K : Int → rx_St → Prop)
    (H : if 3 ≤ (σ 1 0) then (rx_CI L d mX1_isTwoSided [.inr 1] σ (fun v3 σ2 => if v3 = 0 then (K (rx_mx 0 (rx_w ((rx_w ((σ 1 6) - (rx_w (3 * (σ 1 0))))) + 6))) σ2) else (K (rx_mx (rx_mx 0 (rx_w ((rx_w ((σ 1 6) - (rx_w (3 * (σ 1 0))))) + 6))) (rx_w ((rx_w ((σ2 1 6) - (rx_w (2 * (σ2 1 0))))) + 4))) σ2))) else (K 0 σ)) :
    rx_CI L (d + 1) mX10_bound [.inr 0] σ K := by
  refine rx_CI.of (la := [some (.inr 0), none]) rfl ?_
  refine g_al iX10_bound_0 rfl ?_
  refine g_gr iX10_bound_1 fr_10_0_0 ?_
  refine g_gf (kI := 0) rfl iX10_bound_4 fi_1_0_1 ?_
  refine g_c iX10_bound_7 ?_
  by_cases c1 : 3 ≤ (σ 1 0)
  · rw [if_pos c1] at H
    refine g_ic3t iX10_bound_8 c1 ?_
    refine g_c iX10_bound_13 ?_
    refine g_al iX10_bound_14 rfl ?_
    refine g_gr iX10_bound_15 fr_10_0_0 ?_
    refine g_gf (kI := 6) rfl iX10_bound_18 fi_1_6_1 ?_
    refine g_c iX10_bound_21 ?_
    refine g_al iX10_bound_22 rfl ?_
    refine g_gr iX10_bound_23 fr_10_0_0 ?_
    refine g_gf (kI := 0) rfl iX10_bound_26 fi_1_0_1 ?_
    refine g_mul iX10_bound_29 ?_
    refine g_sub iX10_bound_30 ?_
    refine g_c iX10_bound_31 ?_
    refine g_add iX10_bound_33 ?_
    refine g_mx iX10_bound_34 (Nat.le_of_ble_eq_true rfl) ?_
    refine g_is iX10_bound_37 (Nat.le_of_ble_eq_true rfl) ?_
    refine rx_Go.ls (la := [some (.inr 0), some (.inl (rx_mx 0 (rx_w ((rx_w ((σ 1 6) - (rx_w (3 * (σ 1 0))))) + 6))))]) rfl ?_
    refine g_al iX10_bound_38 rfl ?_
    refine g_gr iX10_bound_39 fr_10_0_0 ?_
    refine g_ci (as := [.inr 1]) (rest := []) iX10_bound_42 rfl rfl (Nat.le_of_ble_eq_true rfl) (Or.inr ⟨_, _, rfl, oo_1_1⟩) (rx_CI.imp H (fun v3 σ2 H => ?_))
    by_cases c4 : v3 = 0
    · rw [if_pos c4] at H
      refine g_if0t iX10_bound_45 c4 ?_
      refine g_il iX10_bound_72 rfl ?_
      exact g_ri iX10_bound_73 (Or.inl rfl) H
    · rw [if_neg c4] at H
      refine g_if0f iX10_bound_45 c4 ?_
      refine g_il iX10_bound_48 rfl ?_
      refine g_al iX10_bound_49 rfl ?_
      refine g_gr iX10_bound_50 fr_10_0_0 ?_
      refine g_gf (kI := 6) rfl iX10_bound_53 fi_1_6_1 ?_
      refine g_c iX10_bound_56 ?_
      refine g_al iX10_bound_57 rfl ?_
      refine g_gr iX10_bound_58 fr_10_0_0 ?_
      refine g_gf (kI := 0) rfl iX10_bound_61 fi_1_0_1 ?_
      refine g_mul iX10_bound_64 ?_
      refine g_sub iX10_bound_65 ?_
      refine g_c iX10_bound_66 ?_
      refine g_add iX10_bound_67 ?_
      refine g_mx iX10_bound_68 (Nat.le_of_ble_eq_true rfl) ?_
      refine g_is iX10_bound_71 (Nat.le_of_ble_eq_true rfl) ?_
      refine rx_Go.ls (la := [some (.inr 0), some (.inl (rx_mx (rx_mx 0 (rx_w ((rx_w ((σ 1 6) - (rx_w (3 * (σ 1 0))))) + 6))) (rx_w ((rx_w ((σ2 1 6) - (rx_w (2 * (σ2 1 0))))) + 4))))]) rfl ?_
      refine g_il iX10_bound_72 rfl ?_
      exact g_ri iX10_bound_73 (Or.inl rfl) H
  · rw [if_neg c1] at H
    refine g_ic3f iX10_bound_8 c1 ?_
    refine g_c iX10_bound_11 ?_
    exact g_ri iX10_bound_12 (Or.inl rfl) H
set_option maxRecDepth 20000 in
set_option maxHeartbeats 4000000 in
theorem bX10_would (L d : Nat) (x1 : Int) (x2 : Int) (σ : rx_St) (K : Int → rx_St → Prop)
    (H : rx_CI L d mX1_isPost [.inr 1, .inl x1] σ (fun v2 σ1 => if v2 = 0 then (K (-1000000001) σ1) else (rx_CI L d mX1_isPost [.inr 1, .inl x2] σ1 (fun v5 σ4 => if v5 = 0 then (K (-1000000001) σ4) else (if x1 ≠ x2 then (rx_CV L d mX0_reckon [.inr 37, .inr 1] σ4 (fun σ8 => rx_CV L d mX1_takeFrom [.inr 23, .inr 1] σ8 (fun σ9 => rx_CV L d mX1_swapPosts [.inr 23, .inl x1, .inl x2] σ9 (fun σ10 => rx_CI L d mX0_sum [.inr 37, .inr 23, .inl 0, .inl 2147483647] σ10 (fun v12 σ11 => rx_CI L d mX0_sum [.inr 37, .inr 1, .inl 0, .inl 2147483647] σ11 (fun v14 σ13 => K (rx_w (v12 - v14)) σ13)))))) else (K (-1000000001) σ4)))))) :
    rx_CI L (d + 1) mX10_would [.inr 0, .inl x1, .inl x2] σ K := by
  refine rx_CI.of (la := [some (.inr 0), some (.inl x1), some (.inl x2)]) rfl ?_
  refine g_al iX10_would_0 rfl ?_
  refine g_gr iX10_would_1 fr_10_0_0 ?_
  refine g_il iX10_would_4 rfl ?_
  refine g_ci (as := [.inr 1, .inl x1]) (rest := []) iX10_would_5 rfl rfl (Nat.le_of_ble_eq_true rfl) (Or.inr ⟨_, _, rfl, oo_1_1⟩) (rx_CI.imp H (fun v2 σ1 H => ?_))
  by_cases c3 : v2 = 0
  · rw [if_pos c3] at H
    refine g_if0t iX10_would_8 c3 ?_
    refine g_c iX10_would_27 ?_
    exact g_ri iX10_would_29 (Or.inl rfl) H
  · rw [if_neg c3] at H
    refine g_if0f iX10_would_8 c3 ?_
    refine g_al iX10_would_11 rfl ?_
    refine g_gr iX10_would_12 fr_10_0_0 ?_
    refine g_il iX10_would_15 rfl ?_
    refine g_ci (as := [.inr 1, .inl x2]) (rest := []) iX10_would_16 rfl rfl (Nat.le_of_ble_eq_true rfl) (Or.inr ⟨_, _, rfl, oo_1_1⟩) (rx_CI.imp H (fun v5 σ4 H => ?_))
    by_cases c6 : v5 = 0
    · rw [if_pos c6] at H
      refine g_if0t iX10_would_19 c6 ?_
      refine g_c iX10_would_27 ?_
      exact g_ri iX10_would_29 (Or.inl rfl) H
    · rw [if_neg c6] at H
      refine g_if0f iX10_would_19 c6 ?_
      refine g_il iX10_would_22 rfl ?_
      refine g_il iX10_would_23 rfl ?_
      by_cases c7 : x1 ≠ x2
      · rw [if_pos c7] at H
        refine g_ic1t iX10_would_24 c7 ?_
        refine g_al iX10_would_30 rfl ?_
        refine g_gr iX10_would_31 fr_10_5_0 ?_
        refine g_al iX10_would_34 rfl ?_
        refine g_gr iX10_would_35 fr_10_0_0 ?_
        refine g_cv (as := [.inr 37, .inr 1]) (rest := []) iX10_would_38 rfl rfl (Nat.le_of_ble_eq_true rfl) (Or.inr ⟨_, _, rfl, oo_0_37⟩) (rx_CV.imp H (fun σ8 H => ?_))
        refine g_al iX10_would_41 rfl ?_
        refine g_gr iX10_would_42 fr_10_2_0 ?_
        refine g_al iX10_would_45 rfl ?_
        refine g_gr iX10_would_46 fr_10_0_0 ?_
        refine g_cv (as := [.inr 23, .inr 1]) (rest := []) iX10_would_49 rfl rfl (Nat.le_of_ble_eq_true rfl) (Or.inr ⟨_, _, rfl, oo_1_23⟩) (rx_CV.imp H (fun σ9 H => ?_))
        refine g_al iX10_would_52 rfl ?_
        refine g_gr iX10_would_53 fr_10_2_0 ?_
        refine g_il iX10_would_56 rfl ?_
        refine g_il iX10_would_57 rfl ?_
        refine g_cv (as := [.inr 23, .inl x1, .inl x2]) (rest := []) iX10_would_58 rfl rfl (Nat.le_of_ble_eq_true rfl) (Or.inr ⟨_, _, rfl, oo_1_23⟩) (rx_CV.imp H (fun σ10 H => ?_))
        refine g_al iX10_would_61 rfl ?_
        refine g_gr iX10_would_62 fr_10_5_0 ?_
        refine g_al iX10_would_65 rfl ?_
        refine g_gr iX10_would_66 fr_10_2_0 ?_
        refine g_c iX10_would_69 ?_
        refine g_c iX10_would_70 ?_
        refine g_ci (as := [.inr 37, .inr 23, .inl 0, .inl 2147483647]) (rest := []) iX10_would_72 rfl rfl (Nat.le_of_ble_eq_true rfl) (Or.inr ⟨_, _, rfl, oo_0_37⟩) (rx_CI.imp H (fun v12 σ11 H => ?_))
        refine g_al iX10_would_75 rfl ?_
        refine g_gr iX10_would_76 fr_10_5_0 ?_
        refine g_al iX10_would_79 rfl ?_
        refine g_gr iX10_would_80 fr_10_0_0 ?_
        refine g_c iX10_would_83 ?_
        refine g_c iX10_would_84 ?_
        refine g_ci (as := [.inr 37, .inr 1, .inl 0, .inl 2147483647]) (rest := [.inl v12]) iX10_would_86 rfl rfl (Nat.le_of_ble_eq_true rfl) (Or.inr ⟨_, _, rfl, oo_0_37⟩) (rx_CI.imp H (fun v14 σ13 H => ?_))
        refine g_sub iX10_would_89 ?_
        exact g_ri iX10_would_90 (Or.inl rfl) H
      · rw [if_neg c7] at H
        refine g_ic1f iX10_would_24 c7 ?_
        refine g_c iX10_would_27 ?_
        exact g_ri iX10_would_29 (Or.inl rfl) H
set_option maxRecDepth 20000 in
set_option maxHeartbeats 4000000 in
theorem bX10_best (L d : Nat) (x1 : Int) (σ : rx_St) (K : Int → rx_St → Prop)
    (H : if x1 = 0 then (rx_CV L d mX0_reckon [.inr 37, .inr 1] σ (fun σ2 => rx_CI L d mX9_search [.inr 78, .inr 1, .inr 37] σ2 (fun v4 σ3 => if v4 ≠ 0 then (rx_CI L d mX9_pair [.inr 78] σ3 (fun v7 σ6 => K v7 σ6)) else (K (-1000000005) σ3)))) else (if x1 = 1 then (rx_CV L d mX0_reckon [.inr 37, .inr 1] σ (fun σ9 => rx_CI L d mX9_search [.inr 78, .inr 1, .inr 37] σ9 (fun v11 σ10 => if v11 ≠ 0 then (K (σ10 78 2) σ10) else (K (-1000000005) σ10)))) else (K (-1000000001) σ))) :
    rx_CI L (d + 1) mX10_best [.inr 0, .inl x1] σ K := by
  refine rx_CI.of (la := [some (.inr 0), some (.inl x1)]) rfl ?_
  refine g_il iX10_best_0 rfl ?_
  by_cases c1 : x1 = 0
  · rw [if_pos c1] at H
    refine g_if0t iX10_best_1 c1 ?_
    refine g_al iX10_best_12 rfl ?_
    refine g_gr iX10_best_13 fr_10_5_0 ?_
    refine g_al iX10_best_16 rfl ?_
    refine g_gr iX10_best_17 fr_10_0_0 ?_
    refine g_cv (as := [.inr 37, .inr 1]) (rest := []) iX10_best_20 rfl rfl (Nat.le_of_ble_eq_true rfl) (Or.inr ⟨_, _, rfl, oo_0_37⟩) (rx_CV.imp H (fun σ2 H => ?_))
    refine g_al iX10_best_23 rfl ?_
    refine g_gr iX10_best_24 fr_10_6_0 ?_
    refine g_al iX10_best_27 rfl ?_
    refine g_gr iX10_best_28 fr_10_0_0 ?_
    refine g_al iX10_best_31 rfl ?_
    refine g_gr iX10_best_32 fr_10_5_0 ?_
    refine g_ci (as := [.inr 78, .inr 1, .inr 37]) (rest := []) iX10_best_35 rfl rfl (Nat.le_of_ble_eq_true rfl) (Or.inr ⟨_, _, rfl, oo_9_78⟩) (rx_CI.imp H (fun v4 σ3 H => ?_))
    by_cases c5 : v4 ≠ 0
    · rw [if_pos c5] at H
      refine g_if1t iX10_best_38 c5 ?_
      refine g_il iX10_best_44 rfl ?_
      refine g_if1f iX10_best_45 (fun h9 => h9 c1) ?_
      refine g_al iX10_best_48 rfl ?_
      refine g_gr iX10_best_49 fr_10_6_0 ?_
      refine g_ci (as := [.inr 78]) (rest := []) iX10_best_52 rfl rfl (Nat.le_of_ble_eq_true rfl) (Or.inr ⟨_, _, rfl, oo_9_78⟩) (rx_CI.imp H (fun v7 σ6 H => ?_))
      refine g_goto iX10_best_55 ?_
      exact g_ri iX10_best_65 (Or.inl rfl) H
    · rw [if_neg c5] at H
      refine g_if1f iX10_best_38 c5 ?_
      refine g_c iX10_best_41 ?_
      exact g_ri iX10_best_43 (Or.inl rfl) H
  · rw [if_neg c1] at H
    refine g_if0f iX10_best_1 c1 ?_
    refine g_il iX10_best_4 rfl ?_
    refine g_c iX10_best_5 ?_
    by_cases c8 : x1 = 1
    · rw [if_pos c8] at H
      refine g_ic0t iX10_best_6 c8 ?_
      refine g_al iX10_best_12 rfl ?_
      refine g_gr iX10_best_13 fr_10_5_0 ?_
      refine g_al iX10_best_16 rfl ?_
      refine g_gr iX10_best_17 fr_10_0_0 ?_
      refine g_cv (as := [.inr 37, .inr 1]) (rest := []) iX10_best_20 rfl rfl (Nat.le_of_ble_eq_true rfl) (Or.inr ⟨_, _, rfl, oo_0_37⟩) (rx_CV.imp H (fun σ9 H => ?_))
      refine g_al iX10_best_23 rfl ?_
      refine g_gr iX10_best_24 fr_10_6_0 ?_
      refine g_al iX10_best_27 rfl ?_
      refine g_gr iX10_best_28 fr_10_0_0 ?_
      refine g_al iX10_best_31 rfl ?_
      refine g_gr iX10_best_32 fr_10_5_0 ?_
      refine g_ci (as := [.inr 78, .inr 1, .inr 37]) (rest := []) iX10_best_35 rfl rfl (Nat.le_of_ble_eq_true rfl) (Or.inr ⟨_, _, rfl, oo_9_78⟩) (rx_CI.imp H (fun v11 σ10 H => ?_))
      by_cases c12 : v11 ≠ 0
      · rw [if_pos c12] at H
        refine g_if1t iX10_best_38 c12 ?_
        refine g_il iX10_best_44 rfl ?_
        refine g_if1t iX10_best_45 c1 ?_
        refine g_al iX10_best_58 rfl ?_
        refine g_gr iX10_best_59 fr_10_6_0 ?_
        refine g_gf (kI := 2) rfl iX10_best_62 fi_9_2_78 ?_
        exact g_ri iX10_best_65 (Or.inl rfl) H
      · rw [if_neg c12] at H
        refine g_if1f iX10_best_38 c12 ?_
        refine g_c iX10_best_41 ?_
        exact g_ri iX10_best_43 (Or.inl rfl) H
    · rw [if_neg c8] at H
      refine g_ic0f iX10_best_6 c8 ?_
      refine g_c iX10_best_9 ?_
      exact g_ri iX10_best_11 (Or.inl rfl) H
set_option maxRecDepth 20000 in
set_option maxHeartbeats 4000000 in
theorem bX10_swaps (L d : Nat) (x1 : Int) (σ : rx_St) (K : Int → rx_St → Prop)
    (H : if x1 < 1 then (K (-1000000001) σ) else (if x1 ≤ 30 then (rx_CV L d mX0_reckon [.inr 37, .inr 1] σ (fun σ3 => rx_Go L (d + 1) mX10_swaps 27 [some (.inr 0), some (.inl x1), some (.inl 0)] [] σ3 (rx_PI K))) else (K (-1000000001) σ))) :
    rx_CI L (d + 1) mX10_swaps [.inr 0, .inl x1] σ K := by
  refine rx_CI.of (la := [some (.inr 0), some (.inl x1), none]) rfl ?_
  refine g_il iX10_swaps_0 rfl ?_
  refine g_c iX10_swaps_1 ?_
  by_cases c1 : x1 < 1
  · rw [if_pos c1] at H
    refine g_ic2t iX10_swaps_2 c1 ?_
    refine g_c iX10_swaps_11 ?_
    exact g_ri iX10_swaps_13 (Or.inl rfl) H
  · rw [if_neg c1] at H
    refine g_ic2f iX10_swaps_2 c1 ?_
    refine g_il iX10_swaps_5 rfl ?_
    refine g_c iX10_swaps_6 ?_
    by_cases c2 : x1 ≤ 30
    · rw [if_pos c2] at H
      refine g_ic5t iX10_swaps_8 c2 ?_
      refine g_al iX10_swaps_14 rfl ?_
      refine g_gr iX10_swaps_15 fr_10_5_0 ?_
      refine g_al iX10_swaps_18 rfl ?_
      refine g_gr iX10_swaps_19 fr_10_0_0 ?_
      refine g_cv (as := [.inr 37, .inr 1]) (rest := []) iX10_swaps_22 rfl rfl (Nat.le_of_ble_eq_true rfl) (Or.inr ⟨_, _, rfl, oo_0_37⟩) (rx_CV.imp H (fun σ3 H => ?_))
      refine g_c iX10_swaps_25 ?_
      refine g_is iX10_swaps_26 (Nat.le_of_ble_eq_true rfl) ?_
      refine rx_Go.ls (la := [some (.inr 0), some (.inl x1), some (.inl 0)]) rfl ?_
      exact H
    · rw [if_neg c2] at H
      refine g_ic5f iX10_swaps_8 c2 ?_
      refine g_c iX10_swaps_11 ?_
      exact g_ri iX10_swaps_13 (Or.inl rfl) H
set_option maxRecDepth 20000 in
set_option maxHeartbeats 4000000 in
theorem bX10_swaps_27 (L d : Nat) (x1 : Int) (x2 : Int) (σ : rx_St) (K : Int → rx_St → Prop)
    (H : if x1 ≤ x2 then (K x2 σ) else (rx_CI L d mX9_search [.inr 78, .inr 1, .inr 37] σ (fun v6 σ5 => if v6 ≠ 0 then (rx_CV L d mX1_swapPosts [.inr 1, .inl (σ5 78 0), .inl (σ5 78 1)] σ5 (fun σ8 => rx_Go L (d + 1) mX10_swaps 27 [some (.inr 0), some (.inl x1), some (.inl (rx_w (x2 + 1)))] [] σ8 (rx_PI K))) else (K x2 σ5)))) :
    rx_Go L (d + 1) mX10_swaps 27 [some (.inr 0), some (.inl x1), some (.inl x2)] [] σ (rx_PI K) := by
  refine g_il iX10_swaps_27 rfl ?_
  refine g_il iX10_swaps_28 rfl ?_
  by_cases c4 : x1 ≤ x2
  · rw [if_pos c4] at H
    refine g_ic3t iX10_swaps_29 c4 ?_
    refine g_il iX10_swaps_80 rfl ?_
    exact g_ri iX10_swaps_81 (Or.inl rfl) H
  · rw [if_neg c4] at H
    refine g_ic3f iX10_swaps_29 c4 ?_
    refine g_al iX10_swaps_32 rfl ?_
    refine g_gr iX10_swaps_33 fr_10_6_0 ?_
    refine g_al iX10_swaps_36 rfl ?_
    refine g_gr iX10_swaps_37 fr_10_0_0 ?_
    refine g_al iX10_swaps_40 rfl ?_
    refine g_gr iX10_swaps_41 fr_10_5_0 ?_
    refine g_ci (as := [.inr 78, .inr 1, .inr 37]) (rest := []) iX10_swaps_44 rfl rfl (Nat.le_of_ble_eq_true rfl) (Or.inr ⟨_, _, rfl, oo_9_78⟩) (rx_CI.imp H (fun v6 σ5 H => ?_))
    by_cases c7 : v6 ≠ 0
    · rw [if_pos c7] at H
      refine g_if1t iX10_swaps_47 c7 ?_
      refine g_al iX10_swaps_53 rfl ?_
      refine g_gr iX10_swaps_54 fr_10_0_0 ?_
      refine g_al iX10_swaps_57 rfl ?_
      refine g_gr iX10_swaps_58 fr_10_6_0 ?_
      refine g_gf (kI := 0) rfl iX10_swaps_61 fi_9_0_78 ?_
      refine g_al iX10_swaps_64 rfl ?_
      refine g_gr iX10_swaps_65 fr_10_6_0 ?_
      refine g_gf (kI := 1) rfl iX10_swaps_68 fi_9_1_78 ?_
      refine g_cv (as := [.inr 1, .inl (σ5 78 0), .inl (σ5 78 1)]) (rest := []) iX10_swaps_71 rfl rfl (Nat.le_of_ble_eq_true rfl) (Or.inr ⟨_, _, rfl, oo_1_1⟩) (rx_CV.imp H (fun σ8 H => ?_))
      refine g_ii iX10_swaps_74 rfl ?_
      refine rx_Go.ls (la := [some (.inr 0), some (.inl x1), some (.inl (rx_w (x2 + 1)))]) rfl ?_
      refine g_goto iX10_swaps_77 ?_
      exact H
    · rw [if_neg c7] at H
      refine g_if1f iX10_swaps_47 c7 ?_
      refine g_goto iX10_swaps_50 ?_
      refine g_il iX10_swaps_80 rfl ?_
      exact g_ri iX10_swaps_81 (Or.inl rfl) H
set_option maxRecDepth 20000 in
set_option maxHeartbeats 4000000 in
theorem bX10_line (L d : Nat) (x1 : Int) (σ : rx_St) (K : Int → rx_St → Prop)
    (H : rx_CI L d mX10_isSheet [.inl x1] σ (fun v2 σ1 => if v2 ≠ 0 then ((0 ≤ x1 ∧ x1 < 4) ∧ ∀ A4 : Nat, A4 = 102 + 2 * x1.toNat → rx_isO 7 A4 = true → (rx_CI L d mX7_isMissing [.inr A4] σ1 (fun v7 σ6 => if v7 = 0 then (if (σ6 A4 1) = (σ6 1 0) then (rx_CI L d mX7_hasNoNumber [.inr A4] σ6 (fun v11 σ10 => if v11 = 0 then (rx_CI L d mX7_isOrderOf [.inr A4, .inl (σ10 1 0)] σ10 (fun v14 σ13 => if v14 ≠ 0 then (rx_Go L (d + 1) mX10_line 73 [some (.inr 0), some (.inl x1), some (.inr A4), some (.inl 0)] [] σ13 (rx_PI K)) else (K (-1000000001) σ13))) else (K (-1000000012) σ10))) else (K (-1000000014) σ6)) else (K (-1000000011) σ6)))) else (K (-1000000001) σ1))) :
    rx_CI L (d + 1) mX10_line [.inr 0, .inl x1] σ K := by
  refine rx_CI.of (la := [some (.inr 0), some (.inl x1), none, none]) rfl ?_
  refine g_il iX10_line_0 rfl ?_
  refine g_ci (as := [.inl x1]) (rest := []) iX10_line_1 rfl rfl (Nat.le_of_ble_eq_true rfl) (Or.inl (by decide)) (rx_CI.imp H (fun v2 σ1 H => ?_))
  by_cases c3 : v2 ≠ 0
  · rw [if_pos c3] at H
    refine g_if1t iX10_line_4 c3 ?_
    refine g_al iX10_line_10 rfl ?_
    refine g_gr iX10_line_11 fr_10_10_0 ?_
    refine g_il iX10_line_14 rfl ?_
    obtain ⟨o5, H⟩ := H
    refine g_aa iX10_line_15 (ae_99 o5).1 ?_
    obtain ⟨A4, eA4⟩ : ∃ z, z = 102 + 2 * x1.toNat := ⟨_, rfl⟩
    have hA4 : rx_isO 7 A4 = true := by rw [eA4]; exact (ae_99 o5).2
    rw [← eA4]
    replace H := H A4 eA4 hA4
    refine g_as iX10_line_16 (Nat.le_of_ble_eq_true rfl) ?_
    refine rx_Go.ls (la := [some (.inr 0), some (.inl x1), some (.inr A4), none]) rfl ?_
    refine g_al iX10_line_17 rfl ?_
    refine g_ci (as := [.inr A4]) (rest := []) iX10_line_18 rfl rfl (Nat.le_of_ble_eq_true rfl) (Or.inr ⟨_, _, rfl, hA4⟩) (rx_CI.imp H (fun v7 σ6 H => ?_))
    by_cases c8 : v7 = 0
    · rw [if_pos c8] at H
      refine g_if0t iX10_line_21 c8 ?_
      refine g_al iX10_line_27 rfl ?_
      refine g_gf (kI := 1) rfl iX10_line_28 (fi_7_1 hA4) ?_
      refine g_al iX10_line_31 rfl ?_
      refine g_gr iX10_line_32 fr_10_0_0 ?_
      refine g_gf (kI := 0) rfl iX10_line_35 fi_1_0_1 ?_
      by_cases c9 : (σ6 A4 1) = (σ6 1 0)
      · rw [if_pos c9] at H
        refine g_ic0t iX10_line_38 c9 ?_
        refine g_al iX10_line_44 rfl ?_
        refine g_ci (as := [.inr A4]) (rest := []) iX10_line_45 rfl rfl (Nat.le_of_ble_eq_true rfl) (Or.inr ⟨_, _, rfl, hA4⟩) (rx_CI.imp H (fun v11 σ10 H => ?_))
        by_cases c12 : v11 = 0
        · rw [if_pos c12] at H
          refine g_if0t iX10_line_48 c12 ?_
          refine g_al iX10_line_54 rfl ?_
          refine g_al iX10_line_55 rfl ?_
          refine g_gr iX10_line_56 fr_10_0_0 ?_
          refine g_gf (kI := 0) rfl iX10_line_59 fi_1_0_1 ?_
          refine g_ci (as := [.inr A4, .inl (σ10 1 0)]) (rest := []) iX10_line_62 rfl rfl (Nat.le_of_ble_eq_true rfl) (Or.inr ⟨_, _, rfl, hA4⟩) (rx_CI.imp H (fun v14 σ13 H => ?_))
          by_cases c15 : v14 ≠ 0
          · rw [if_pos c15] at H
            refine g_if1t iX10_line_65 c15 ?_
            refine g_c iX10_line_71 ?_
            refine g_is iX10_line_72 (Nat.le_of_ble_eq_true rfl) ?_
            refine rx_Go.ls (la := [some (.inr 0), some (.inl x1), some (.inr A4), some (.inl 0)]) rfl ?_
            exact H
          · rw [if_neg c15] at H
            refine g_if1f iX10_line_65 c15 ?_
            refine g_c iX10_line_68 ?_
            exact g_ri iX10_line_70 (Or.inl rfl) H
        · rw [if_neg c12] at H
          refine g_if0f iX10_line_48 c12 ?_
          refine g_c iX10_line_51 ?_
          exact g_ri iX10_line_53 (Or.inl rfl) H
      · rw [if_neg c9] at H
        refine g_ic0f iX10_line_38 c9 ?_
        refine g_c iX10_line_41 ?_
        exact g_ri iX10_line_43 (Or.inl rfl) H
    · rw [if_neg c8] at H
      refine g_if0f iX10_line_21 c8 ?_
      refine g_c iX10_line_24 ?_
      exact g_ri iX10_line_26 (Or.inl rfl) H
  · rw [if_neg c3] at H
    refine g_if1f iX10_line_4 c3 ?_
    refine g_c iX10_line_7 ?_
    exact g_ri iX10_line_9 (Or.inl rfl) H
set_option maxRecDepth 20000 in
set_option maxHeartbeats 4000000 in
theorem bX10_line_73 (L d : Nat) (q1 : Option rx_V) (A4 : Nat) (hA4 : rx_isO 7 A4 = true) (x3 : Int) (σ : rx_St) (K : Int → rx_St → Prop)
    (H : if (σ 1 0) ≤ x3 then (K (σ 1 0) σ) else ((0 ≤ x3 ∧ x3 < 24) ∧ (rx_CV L d mX1_putInLine [.inr 1, .inl x3, .inl (σ (A4 + 1) x3)] σ (fun σ18 => rx_Go L (d + 1) mX10_line 73 [some (.inr 0), q1, some (.inr A4), some (.inl (rx_w (x3 + 1)))] [] σ18 (rx_PI K))))) :
    rx_Go L (d + 1) mX10_line 73 [some (.inr 0), q1, some (.inr A4), some (.inl x3)] [] σ (rx_PI K) := by
  refine g_il iX10_line_73 rfl ?_
  refine g_al iX10_line_74 rfl ?_
  refine g_gr iX10_line_75 fr_10_0_0 ?_
  refine g_gf (kI := 0) rfl iX10_line_78 fi_1_0_1 ?_
  by_cases c16 : (σ 1 0) ≤ x3
  · rw [if_pos c16] at H
    refine g_ic3t iX10_line_81 c16 ?_
    refine g_al iX10_line_104 rfl ?_
    refine g_gr iX10_line_105 fr_10_0_0 ?_
    refine g_gf (kI := 0) rfl iX10_line_108 fi_1_0_1 ?_
    exact g_ri iX10_line_111 (Or.inl rfl) H
  · rw [if_neg c16] at H
    refine g_ic3f iX10_line_81 c16 ?_
    refine g_al iX10_line_84 rfl ?_
    refine g_gr iX10_line_85 fr_10_0_0 ?_
    refine g_il iX10_line_88 rfl ?_
    refine g_al iX10_line_89 rfl ?_
    refine g_gr iX10_line_90 (fr_7_2 hA4) ?_
    refine g_il iX10_line_93 rfl ?_
    obtain ⟨o17, H⟩ := H
    refine g_ld iX10_line_94 (ln_7_o1 L hA4).1 o17 ?_
    refine g_cv (as := [.inr 1, .inl x3, .inl (σ (A4 + 1) x3)]) (rest := []) iX10_line_95 rfl rfl (Nat.le_of_ble_eq_true rfl) (Or.inr ⟨_, _, rfl, oo_1_1⟩) (rx_CV.imp H (fun σ18 H => ?_))
    refine g_ii iX10_line_98 rfl ?_
    refine rx_Go.ls (la := [some (.inr 0), q1, some (.inr A4), some (.inl (rx_w (x3 + 1)))]) rfl ?_
    refine g_goto iX10_line_101 ?_
    exact H
set_option maxRecDepth 20000 in
set_option maxHeartbeats 4000000 in
theorem bX10_at (L d : Nat) (x1 : Int) (σ : rx_St) (K : Int → rx_St → Prop)
    (H : rx_CI L d mX1_isPost [.inr 1, .inl x1] σ (fun v2 σ1 => if v2 = 0 then (K (-1000000001) σ1) else ((0 ≤ x1 ∧ x1 < 8) ∧ (K (σ1 5 x1) σ1)))) :
    rx_CI L (d + 1) mX10_at [.inr 0, .inl x1] σ K := by
  refine rx_CI.of (la := [some (.inr 0), some (.inl x1)]) rfl ?_
  refine g_al iX10_at_0 rfl ?_
  refine g_gr iX10_at_1 fr_10_0_0 ?_
  refine g_il iX10_at_4 rfl ?_
  refine g_ci (as := [.inr 1, .inl x1]) (rest := []) iX10_at_5 rfl rfl (Nat.le_of_ble_eq_true rfl) (Or.inr ⟨_, _, rfl, oo_1_1⟩) (rx_CI.imp H (fun v2 σ1 H => ?_))
  by_cases c3 : v2 = 0
  · rw [if_pos c3] at H
    refine g_if0t iX10_at_8 c3 ?_
    refine g_c iX10_at_23 ?_
    exact g_ri iX10_at_25 (Or.inl rfl) H
  · rw [if_neg c3] at H
    refine g_if0f iX10_at_8 c3 ?_
    refine g_al iX10_at_11 rfl ?_
    refine g_gr iX10_at_12 fr_10_0_0 ?_
    refine g_gr iX10_at_15 fr_1_4_1 ?_
    refine g_il iX10_at_18 rfl ?_
    obtain ⟨o4, H⟩ := H
    refine g_ld iX10_at_19 (ln_5 L) o4 ?_
    refine g_goto iX10_at_20 ?_
    exact g_ri iX10_at_25 (Or.inl rfl) H
set_option maxRecDepth 20000 in
set_option maxHeartbeats 4000000 in
theorem bX10_book (L d : Nat) (x1 : Int) (σ : rx_St) (K : Int → rx_St → Prop)
    (H : rx_CI L d mX10_crossingsTold [.inr 0, .inl 1, .inl x1] σ (fun v2 σ1 => K v2 σ1)) :
    rx_CI L (d + 1) mX10_book [.inr 0, .inl x1] σ K := by
  refine rx_CI.of (la := [some (.inr 0), some (.inl x1)]) rfl ?_
  refine g_al iX10_book_0 rfl ?_
  refine g_c iX10_book_1 ?_
  refine g_il iX10_book_2 rfl ?_
  refine g_ci (as := [.inr 0, .inl 1, .inl x1]) (rest := []) iX10_book_3 rfl rfl (Nat.le_of_ble_eq_true rfl) (Or.inr ⟨_, _, rfl, oo_10_0⟩) (rx_CI.imp H (fun v2 σ1 H => ?_))
  exact g_ri iX10_book_6 (Or.inl rfl) H
set_option maxRecDepth 20000 in
set_option maxHeartbeats 4000000 in
theorem bX10_pages (L d : Nat) (x1 : Int) (σ : rx_St) (K : Int → rx_St → Prop)
    (H : if x1 = (-1) then (rx_CI L d mX4_search [.inr 79, .inr 1] σ (fun v3 σ2 => K v3 σ2)) else (rx_CI L d mX1_isRoad [.inr 1, .inl x1] σ (fun v5 σ4 => if v5 ≠ 0 then (rx_CI L d mX4_search [.inr 79, .inr 1] σ4 (fun v8 σ7 => (0 ≤ x1 ∧ x1 < 18) ∧ (K (σ7 80 x1) σ7))) else (K (-1000000001) σ4)))) :
    rx_CI L (d + 1) mX10_pages [.inr 0, .inl x1] σ K := by
  refine rx_CI.of (la := [some (.inr 0), some (.inl x1), none]) rfl ?_
  refine g_il iX10_pages_0 rfl ?_
  refine g_c iX10_pages_1 ?_
  by_cases c1 : x1 = (-1)
  · rw [if_pos c1] at H
    refine g_ic0t iX10_pages_2 c1 ?_
    refine g_al iX10_pages_19 rfl ?_
    refine g_gr iX10_pages_20 fr_10_7_0 ?_
    refine g_al iX10_pages_23 rfl ?_
    refine g_gr iX10_pages_24 fr_10_0_0 ?_
    refine g_ci (as := [.inr 79, .inr 1]) (rest := []) iX10_pages_27 rfl rfl (Nat.le_of_ble_eq_true rfl) (Or.inr ⟨_, _, rfl, oo_4_79⟩) (rx_CI.imp H (fun v3 σ2 H => ?_))
    refine g_is iX10_pages_30 (Nat.le_of_ble_eq_true rfl) ?_
    refine rx_Go.ls (la := [some (.inr 0), some (.inl x1), some (.inl v3)]) rfl ?_
    refine g_il iX10_pages_31 rfl ?_
    refine g_c iX10_pages_32 ?_
    refine g_ic1f iX10_pages_33 (fun h9 => h9 c1) ?_
    refine g_il iX10_pages_36 rfl ?_
    refine g_goto iX10_pages_37 ?_
    exact g_ri iX10_pages_49 (Or.inl rfl) H
  · rw [if_neg c1] at H
    refine g_ic0f iX10_pages_2 c1 ?_
    refine g_al iX10_pages_5 rfl ?_
    refine g_gr iX10_pages_6 fr_10_0_0 ?_
    refine g_il iX10_pages_9 rfl ?_
    refine g_ci (as := [.inr 1, .inl x1]) (rest := []) iX10_pages_10 rfl rfl (Nat.le_of_ble_eq_true rfl) (Or.inr ⟨_, _, rfl, oo_1_1⟩) (rx_CI.imp H (fun v5 σ4 H => ?_))
    by_cases c6 : v5 ≠ 0
    · rw [if_pos c6] at H
      refine g_if1t iX10_pages_13 c6 ?_
      refine g_al iX10_pages_19 rfl ?_
      refine g_gr iX10_pages_20 fr_10_7_0 ?_
      refine g_al iX10_pages_23 rfl ?_
      refine g_gr iX10_pages_24 fr_10_0_0 ?_
      refine g_ci (as := [.inr 79, .inr 1]) (rest := []) iX10_pages_27 rfl rfl (Nat.le_of_ble_eq_true rfl) (Or.inr ⟨_, _, rfl, oo_4_79⟩) (rx_CI.imp H (fun v8 σ7 H => ?_))
      refine g_is iX10_pages_30 (Nat.le_of_ble_eq_true rfl) ?_
      refine rx_Go.ls (la := [some (.inr 0), some (.inl x1), some (.inl v8)]) rfl ?_
      refine g_il iX10_pages_31 rfl ?_
      refine g_c iX10_pages_32 ?_
      refine g_ic1t iX10_pages_33 c1 ?_
      refine g_al iX10_pages_40 rfl ?_
      refine g_gr iX10_pages_41 fr_10_7_0 ?_
      refine g_gr iX10_pages_44 fr_4_0_79 ?_
      refine g_il iX10_pages_47 rfl ?_
      obtain ⟨o9, H⟩ := H
      refine g_ld iX10_pages_48 (ln_80 L) o9 ?_
      exact g_ri iX10_pages_49 (Or.inl rfl) H
    · rw [if_neg c6] at H
      refine g_if1f iX10_pages_13 c6 ?_
      refine g_c iX10_pages_16 ?_
      exact g_ri iX10_pages_18 (Or.inl rfl) H
set_option maxRecDepth 20000 in
set_option maxHeartbeats 4000000 in
theorem bX10_bestLine (L d : Nat) (x1 : Int) (σ : rx_St) (K : Int → rx_St → Prop)
    (H : if (-1) ≤ x1 then (if (σ 1 0) ≠ 0 then (if x1 < (σ 1 0) then (rx_CV L d mX0_reckon [.inr 37, .inr 1] σ (fun σ4 => rx_CV L d mX3_search [.inr 83, .inr 1, .inr 59] σ4 (fun σ5 => if x1 ≠ (-1) then ((0 ≤ x1 ∧ x1 < 8) ∧ (K (σ5 84 x1) σ5)) else (K (σ5 83 1) σ5)))) else (K (-1000000005) σ)) else (K (-1000000002) σ)) else (K (-1000000001) σ)) :
    rx_CI L (d + 1) mX10_bestLine [.inr 0, .inl x1] σ K := by
  refine rx_CI.of (la := [some (.inr 0), some (.inl x1)]) rfl ?_
  refine g_il iX10_bestLine_0 rfl ?_
  refine g_c iX10_bestLine_1 ?_
  by_cases c1 : (-1) ≤ x1
  · rw [if_pos c1] at H
    refine g_ic3t iX10_bestLine_2 c1 ?_
    refine g_al iX10_bestLine_8 rfl ?_
    refine g_gr iX10_bestLine_9 fr_10_0_0 ?_
    refine g_gf (kI := 0) rfl iX10_bestLine_12 fi_1_0_1 ?_
    by_cases c2 : (σ 1 0) ≠ 0
    · rw [if_pos c2] at H
      refine g_if1t iX10_bestLine_15 c2 ?_
      refine g_il iX10_bestLine_21 rfl ?_
      refine g_al iX10_bestLine_22 rfl ?_
      refine g_gr iX10_bestLine_23 fr_10_0_0 ?_
      refine g_gf (kI := 0) rfl iX10_bestLine_26 fi_1_0_1 ?_
      by_cases c3 : x1 < (σ 1 0)
      · rw [if_pos c3] at H
        refine g_ic2t iX10_bestLine_29 c3 ?_
        refine g_al iX10_bestLine_35 rfl ?_
        refine g_gr iX10_bestLine_36 fr_10_5_0 ?_
        refine g_al iX10_bestLine_39 rfl ?_
        refine g_gr iX10_bestLine_40 fr_10_0_0 ?_
        refine g_cv (as := [.inr 37, .inr 1]) (rest := []) iX10_bestLine_43 rfl rfl (Nat.le_of_ble_eq_true rfl) (Or.inr ⟨_, _, rfl, oo_0_37⟩) (rx_CV.imp H (fun σ4 H => ?_))
        refine g_al iX10_bestLine_46 rfl ?_
        refine g_gr iX10_bestLine_47 fr_10_8_0 ?_
        refine g_al iX10_bestLine_50 rfl ?_
        refine g_gr iX10_bestLine_51 fr_10_0_0 ?_
        refine g_al iX10_bestLine_54 rfl ?_
        refine g_gr iX10_bestLine_55 fr_10_5_0 ?_
        refine g_gr iX10_bestLine_58 fr_0_2_37 ?_
        refine g_cv (as := [.inr 83, .inr 1, .inr 59]) (rest := []) iX10_bestLine_61 rfl rfl (Nat.le_of_ble_eq_true rfl) (Or.inr ⟨_, _, rfl, oo_3_83⟩) (rx_CV.imp H (fun σ5 H => ?_))
        refine g_il iX10_bestLine_64 rfl ?_
        refine g_c iX10_bestLine_65 ?_
        by_cases c6 : x1 ≠ (-1)
        · rw [if_pos c6] at H
          refine g_ic1t iX10_bestLine_66 c6 ?_
          refine g_al iX10_bestLine_79 rfl ?_
          refine g_gr iX10_bestLine_80 fr_10_8_0 ?_
          refine g_gr iX10_bestLine_83 fr_3_0_83 ?_
          refine g_il iX10_bestLine_86 rfl ?_
          obtain ⟨o7, H⟩ := H
          refine g_ld iX10_bestLine_87 (ln_84 L) o7 ?_
          exact g_ri iX10_bestLine_88 (Or.inl rfl) H
        · rw [if_neg c6] at H
          refine g_ic1f iX10_bestLine_66 c6 ?_
          refine g_al iX10_bestLine_69 rfl ?_
          refine g_gr iX10_bestLine_70 fr_10_8_0 ?_
          refine g_gf (kI := 1) rfl iX10_bestLine_73 fi_3_1_83 ?_
          refine g_goto iX10_bestLine_76 ?_
          exact g_ri iX10_bestLine_88 (Or.inl rfl) H
      · rw [if_neg c3] at H
        refine g_ic2f iX10_bestLine_29 c3 ?_
        refine g_c iX10_bestLine_32 ?_
        exact g_ri iX10_bestLine_34 (Or.inl rfl) H
    · rw [if_neg c2] at H
      refine g_if1f iX10_bestLine_15 c2 ?_
      refine g_c iX10_bestLine_18 ?_
      exact g_ri iX10_bestLine_20 (Or.inl rfl) H
  · rw [if_neg c1] at H
    refine g_ic3f iX10_bestLine_2 c1 ?_
    refine g_c iX10_bestLine_5 ?_
    exact g_ri iX10_bestLine_7 (Or.inl rfl) H
set_option maxRecDepth 20000 in
set_option maxHeartbeats 4000000 in
theorem bX10_layers (L d : Nat) (x1 : Int) (σ : rx_St) (K : Int → rx_St → Prop)
    (H : rx_CI L d mX10_crossingsTold [.inr 0, .inl 2, .inl x1] σ (fun v2 σ1 => K v2 σ1)) :
    rx_CI L (d + 1) mX10_layers [.inr 0, .inl x1] σ K := by
  refine rx_CI.of (la := [some (.inr 0), some (.inl x1)]) rfl ?_
  refine g_al iX10_layers_0 rfl ?_
  refine g_c iX10_layers_1 ?_
  refine g_il iX10_layers_2 rfl ?_
  refine g_ci (as := [.inr 0, .inl 2, .inl x1]) (rest := []) iX10_layers_3 rfl rfl (Nat.le_of_ble_eq_true rfl) (Or.inr ⟨_, _, rfl, oo_10_0⟩) (rx_CI.imp H (fun v2 σ1 H => ?_))
  exact g_ri iX10_layers_6 (Or.inl rfl) H
set_option maxRecDepth 20000 in
set_option maxHeartbeats 4000000 in
theorem bX10_bestRow (L d : Nat) (x1 : Int) (x2 : Int) (σ : rx_St) (K : Int → rx_St → Prop)
    (H : rx_CI L d mX10_isLayer [.inl x1] σ (fun v2 σ1 => if v2 = 0 then (K (-1000000001) σ1) else (if (-1) ≤ x2 then (rx_CI L d mX1_postsOf [.inr 1, .inl x1] σ1 (fun v6 σ5 => if v6 ≤ 5 then (if x2 < v6 then (rx_CV L d mX0_reckon [.inr 37, .inr 1] σ5 (fun σ9 => rx_CV L d mX1_takeFrom [.inr 23, .inr 1] σ9 (fun σ10 => rx_CV L d mX6_search [.inr 95, .inr 23, .inl x1, .inr 37] σ10 (fun σ11 => if x2 ≠ (-1) then ((0 ≤ x2 ∧ x2 < 5) ∧ (K (σ11 96 x2) σ11)) else (K (σ11 95 1) σ11))))) else (K (-1000000005) σ5)) else (K (-1000000002) σ5))) else (K (-1000000001) σ1)))) :
    rx_CI L (d + 1) mX10_bestRow [.inr 0, .inl x1, .inl x2] σ K := by
  refine rx_CI.of (la := [some (.inr 0), some (.inl x1), some (.inl x2), none]) rfl ?_
  refine g_il iX10_bestRow_0 rfl ?_
  refine g_ci (as := [.inl x1]) (rest := []) iX10_bestRow_1 rfl rfl (Nat.le_of_ble_eq_true rfl) (Or.inl (by decide)) (rx_CI.imp H (fun v2 σ1 H => ?_))
  by_cases c3 : v2 = 0
  · rw [if_pos c3] at H
    refine g_if0t iX10_bestRow_4 c3 ?_
    refine g_c iX10_bestRow_12 ?_
    exact g_ri iX10_bestRow_14 (Or.inl rfl) H
  · rw [if_neg c3] at H
    refine g_if0f iX10_bestRow_4 c3 ?_
    refine g_il iX10_bestRow_7 rfl ?_
    refine g_c iX10_bestRow_8 ?_
    by_cases c4 : (-1) ≤ x2
    · rw [if_pos c4] at H
      refine g_ic3t iX10_bestRow_9 c4 ?_
      refine g_al iX10_bestRow_15 rfl ?_
      refine g_gr iX10_bestRow_16 fr_10_0_0 ?_
      refine g_il iX10_bestRow_19 rfl ?_
      refine g_ci (as := [.inr 1, .inl x1]) (rest := []) iX10_bestRow_20 rfl rfl (Nat.le_of_ble_eq_true rfl) (Or.inr ⟨_, _, rfl, oo_1_1⟩) (rx_CI.imp H (fun v6 σ5 H => ?_))
      refine g_is iX10_bestRow_23 (Nat.le_of_ble_eq_true rfl) ?_
      refine rx_Go.ls (la := [some (.inr 0), some (.inl x1), some (.inl x2), some (.inl v6)]) rfl ?_
      refine g_il iX10_bestRow_24 rfl ?_
      refine g_c iX10_bestRow_25 ?_
      by_cases c7 : v6 ≤ 5
      · rw [if_pos c7] at H
        refine g_ic5t iX10_bestRow_26 c7 ?_
        refine g_il iX10_bestRow_32 rfl ?_
        refine g_il iX10_bestRow_33 rfl ?_
        by_cases c8 : x2 < v6
        · rw [if_pos c8] at H
          refine g_ic2t iX10_bestRow_34 c8 ?_
          refine g_al iX10_bestRow_40 rfl ?_
          refine g_gr iX10_bestRow_41 fr_10_5_0 ?_
          refine g_al iX10_bestRow_44 rfl ?_
          refine g_gr iX10_bestRow_45 fr_10_0_0 ?_
          refine g_cv (as := [.inr 37, .inr 1]) (rest := []) iX10_bestRow_48 rfl rfl (Nat.le_of_ble_eq_true rfl) (Or.inr ⟨_, _, rfl, oo_0_37⟩) (rx_CV.imp H (fun σ9 H => ?_))
          refine g_al iX10_bestRow_51 rfl ?_
          refine g_gr iX10_bestRow_52 fr_10_2_0 ?_
          refine g_al iX10_bestRow_55 rfl ?_
          refine g_gr iX10_bestRow_56 fr_10_0_0 ?_
          refine g_cv (as := [.inr 23, .inr 1]) (rest := []) iX10_bestRow_59 rfl rfl (Nat.le_of_ble_eq_true rfl) (Or.inr ⟨_, _, rfl, oo_1_23⟩) (rx_CV.imp H (fun σ10 H => ?_))
          refine g_al iX10_bestRow_62 rfl ?_
          refine g_gr iX10_bestRow_63 fr_10_9_0 ?_
          refine g_al iX10_bestRow_66 rfl ?_
          refine g_gr iX10_bestRow_67 fr_10_2_0 ?_
          refine g_il iX10_bestRow_70 rfl ?_
          refine g_al iX10_bestRow_71 rfl ?_
          refine g_gr iX10_bestRow_72 fr_10_5_0 ?_
          refine g_cv (as := [.inr 95, .inr 23, .inl x1, .inr 37]) (rest := []) iX10_bestRow_75 rfl rfl (Nat.le_of_ble_eq_true rfl) (Or.inr ⟨_, _, rfl, oo_6_95⟩) (rx_CV.imp H (fun σ11 H => ?_))
          refine g_il iX10_bestRow_78 rfl ?_
          refine g_c iX10_bestRow_79 ?_
          by_cases c12 : x2 ≠ (-1)
          · rw [if_pos c12] at H
            refine g_ic1t iX10_bestRow_80 c12 ?_
            refine g_al iX10_bestRow_93 rfl ?_
            refine g_gr iX10_bestRow_94 fr_10_9_0 ?_
            refine g_gr iX10_bestRow_97 fr_6_0_95 ?_
            refine g_il iX10_bestRow_100 rfl ?_
            obtain ⟨o13, H⟩ := H
            refine g_ld iX10_bestRow_101 (ln_96 L) o13 ?_
            exact g_ri iX10_bestRow_102 (Or.inl rfl) H
          · rw [if_neg c12] at H
            refine g_ic1f iX10_bestRow_80 c12 ?_
            refine g_al iX10_bestRow_83 rfl ?_
            refine g_gr iX10_bestRow_84 fr_10_9_0 ?_
            refine g_gf (kI := 1) rfl iX10_bestRow_87 fi_6_1_95 ?_
            refine g_goto iX10_bestRow_90 ?_
            exact g_ri iX10_bestRow_102 (Or.inl rfl) H
        · rw [if_neg c8] at H
          refine g_ic2f iX10_bestRow_34 c8 ?_
          refine g_c iX10_bestRow_37 ?_
          exact g_ri iX10_bestRow_39 (Or.inl rfl) H
      · rw [if_neg c7] at H
        refine g_ic5f iX10_bestRow_26 c7 ?_
        refine g_c iX10_bestRow_29 ?_
        exact g_ri iX10_bestRow_31 (Or.inl rfl) H
    · rw [if_neg c4] at H
      refine g_ic3f iX10_bestRow_9 c4 ?_
      refine g_c iX10_bestRow_12 ?_
      exact g_ri iX10_bestRow_14 (Or.inl rfl) H
set_option maxRecDepth 20000 in
set_option maxHeartbeats 4000000 in
theorem bX10_deal (L d : Nat) (x1 : Int) (x2 : Int) (σ : rx_St) (K : Int → rx_St → Prop)
    (H : if x1 = 0 then (if x2 < 1 then (K (-1000000001) σ) else (if x2 ≤ 20 then (if x1 ≠ 1 then (rx_Go L (d + 1) mX10_deal 46 [some (.inr 0), some (.inl x1), some (.inl x2), some (.inl 0), some (.inl 0)] [] σ (rx_PI K)) else (if (σ 1 0) ≠ 0 then (rx_Go L (d + 1) mX10_deal 46 [some (.inr 0), some (.inl x1), some (.inl x2), some (.inl 0), some (.inl 0)] [] σ (rx_PI K)) else (K (-1000000002) σ))) else (K (-1000000001) σ))) else (if x1 ≠ 1 then (K (-1000000001) σ) else (if x2 < 1 then (K (-1000000001) σ) else (if x2 ≤ 20 then (if (σ 1 0) ≠ 0 then (rx_Go L (d + 1) mX10_deal 46 [some (.inr 0), some (.inl x1), some (.inl x2), some (.inl 0), some (.inl 0)] [] σ (rx_PI K)) else (K (-1000000002) σ)) else (K (-1000000001) σ))))) :
    rx_CI L (d + 1) mX10_deal [.inr 0, .inl x1, .inl x2] σ K := by
  refine rx_CI.of (la := [some (.inr 0), some (.inl x1), some (.inl x2), none, none]) rfl ?_
  refine g_il iX10_deal_0 rfl ?_
  by_cases c1 : x1 = 0
  · rw [if_pos c1] at H
    refine g_if0t iX10_deal_1 c1 ?_
    refine g_il iX10_deal_9 rfl ?_
    refine g_c iX10_deal_10 ?_
    by_cases c2 : x2 < 1
    · rw [if_pos c2] at H
      refine g_ic2t iX10_deal_11 c2 ?_
      refine g_c iX10_deal_20 ?_
      exact g_ri iX10_deal_22 (Or.inl rfl) H
    · rw [if_neg c2] at H
      refine g_ic2f iX10_deal_11 c2 ?_
      refine g_il iX10_deal_14 rfl ?_
      refine g_c iX10_deal_15 ?_
      by_cases c3 : x2 ≤ 20
      · rw [if_pos c3] at H
        refine g_ic5t iX10_deal_17 c3 ?_
        refine g_il iX10_deal_23 rfl ?_
        refine g_c iX10_deal_24 ?_
        by_cases c4 : x1 ≠ 1
        · rw [if_pos c4] at H
          refine g_ic1t iX10_deal_25 c4 ?_
          refine g_c iX10_deal_41 ?_
          refine g_is iX10_deal_42 (Nat.le_of_ble_eq_true rfl) ?_
          refine rx_Go.ls (la := [some (.inr 0), some (.inl x1), some (.inl x2), some (.inl 0), none]) rfl ?_
          refine g_c iX10_deal_43 ?_
          refine g_is iX10_deal_44 (Nat.le_of_ble_eq_true rfl) ?_
          refine rx_Go.ls (la := [some (.inr 0), some (.inl x1), some (.inl x2), some (.inl 0), some (.inl 0)]) rfl ?_
          exact H
        · rw [if_neg c4] at H
          refine g_ic1f iX10_deal_25 c4 ?_
          refine g_al iX10_deal_28 rfl ?_
          refine g_gr iX10_deal_29 fr_10_0_0 ?_
          refine g_gf (kI := 0) rfl iX10_deal_32 fi_1_0_1 ?_
          by_cases c5 : (σ 1 0) ≠ 0
          · rw [if_pos c5] at H
            refine g_if1t iX10_deal_35 c5 ?_
            refine g_c iX10_deal_41 ?_
            refine g_is iX10_deal_42 (Nat.le_of_ble_eq_true rfl) ?_
            refine rx_Go.ls (la := [some (.inr 0), some (.inl x1), some (.inl x2), some (.inl 0), none]) rfl ?_
            refine g_c iX10_deal_43 ?_
            refine g_is iX10_deal_44 (Nat.le_of_ble_eq_true rfl) ?_
            refine rx_Go.ls (la := [some (.inr 0), some (.inl x1), some (.inl x2), some (.inl 0), some (.inl 0)]) rfl ?_
            exact H
          · rw [if_neg c5] at H
            refine g_if1f iX10_deal_35 c5 ?_
            refine g_c iX10_deal_38 ?_
            exact g_ri iX10_deal_40 (Or.inl rfl) H
      · rw [if_neg c3] at H
        refine g_ic5f iX10_deal_17 c3 ?_
        refine g_c iX10_deal_20 ?_
        exact g_ri iX10_deal_22 (Or.inl rfl) H
  · rw [if_neg c1] at H
    refine g_if0f iX10_deal_1 c1 ?_
    refine g_il iX10_deal_4 rfl ?_
    refine g_c iX10_deal_5 ?_
    by_cases c6 : x1 ≠ 1
    · rw [if_pos c6] at H
      refine g_ic1t iX10_deal_6 c6 ?_
      refine g_c iX10_deal_20 ?_
      exact g_ri iX10_deal_22 (Or.inl rfl) H
    · rw [if_neg c6] at H
      refine g_ic1f iX10_deal_6 c6 ?_
      refine g_il iX10_deal_9 rfl ?_
      refine g_c iX10_deal_10 ?_
      by_cases c7 : x2 < 1
      · rw [if_pos c7] at H
        refine g_ic2t iX10_deal_11 c7 ?_
        refine g_c iX10_deal_20 ?_
        exact g_ri iX10_deal_22 (Or.inl rfl) H
      · rw [if_neg c7] at H
        refine g_ic2f iX10_deal_11 c7 ?_
        refine g_il iX10_deal_14 rfl ?_
        refine g_c iX10_deal_15 ?_
        by_cases c8 : x2 ≤ 20
        · rw [if_pos c8] at H
          refine g_ic5t iX10_deal_17 c8 ?_
          refine g_il iX10_deal_23 rfl ?_
          refine g_c iX10_deal_24 ?_
          refine g_ic1f iX10_deal_25 c6 ?_
          refine g_al iX10_deal_28 rfl ?_
          refine g_gr iX10_deal_29 fr_10_0_0 ?_
          refine g_gf (kI := 0) rfl iX10_deal_32 fi_1_0_1 ?_
          by_cases c9 : (σ 1 0) ≠ 0
          · rw [if_pos c9] at H
            refine g_if1t iX10_deal_35 c9 ?_
            refine g_c iX10_deal_41 ?_
            refine g_is iX10_deal_42 (Nat.le_of_ble_eq_true rfl) ?_
            refine rx_Go.ls (la := [some (.inr 0), some (.inl x1), some (.inl x2), some (.inl 0), none]) rfl ?_
            refine g_c iX10_deal_43 ?_
            refine g_is iX10_deal_44 (Nat.le_of_ble_eq_true rfl) ?_
            refine rx_Go.ls (la := [some (.inr 0), some (.inl x1), some (.inl x2), some (.inl 0), some (.inl 0)]) rfl ?_
            exact H
          · rw [if_neg c9] at H
            refine g_if1f iX10_deal_35 c9 ?_
            refine g_c iX10_deal_38 ?_
            exact g_ri iX10_deal_40 (Or.inl rfl) H
        · rw [if_neg c8] at H
          refine g_ic5f iX10_deal_17 c8 ?_
          refine g_c iX10_deal_20 ?_
          exact g_ri iX10_deal_22 (Or.inl rfl) H
set_option maxRecDepth 20000 in
set_option maxHeartbeats 4000000 in
theorem bX10_deal_46 (L d : Nat) (x1 : Int) (x2 : Int) (x3 : Int) (x4 : Int) (σ : rx_St) (K : Int → rx_St → Prop)
    (H : if x2 ≤ x4 then (K x3 σ) else (if x1 ≠ 0 then (rx_CI L d mX1_drawRoad [.inr 1] σ (fun v13 σ12 => if v13 = 0 then (rx_Go L (d + 1) mX10_deal 46 [some (.inr 0), some (.inl x1), some (.inl x2), some (.inl x3), some (.inl (rx_w (x4 + 1)))] [] σ12 (rx_PI K)) else (rx_Go L (d + 1) mX10_deal 46 [some (.inr 0), some (.inl x1), some (.inl x2), some (.inl (rx_w (x3 + 1))), some (.inl (rx_w (x4 + 1)))] [] σ12 (rx_PI K)))) else (rx_CI L d mX1_drawPost [.inr 1] σ (fun v16 σ15 => if v16 = 0 then (rx_Go L (d + 1) mX10_deal 46 [some (.inr 0), some (.inl x1), some (.inl x2), some (.inl x3), some (.inl (rx_w (x4 + 1)))] [] σ15 (rx_PI K)) else (rx_Go L (d + 1) mX10_deal 46 [some (.inr 0), some (.inl x1), some (.inl x2), some (.inl (rx_w (x3 + 1))), some (.inl (rx_w (x4 + 1)))] [] σ15 (rx_PI K)))))) :
    rx_Go L (d + 1) mX10_deal 46 [some (.inr 0), some (.inl x1), some (.inl x2), some (.inl x3), some (.inl x4)] [] σ (rx_PI K) := by
  refine g_il iX10_deal_46 rfl ?_
  refine g_il iX10_deal_48 rfl ?_
  by_cases c10 : x2 ≤ x4
  · rw [if_pos c10] at H
    refine g_ic3t iX10_deal_49 c10 ?_
    refine g_il iX10_deal_88 rfl ?_
    exact g_ri iX10_deal_89 (Or.inl rfl) H
  · rw [if_neg c10] at H
    refine g_ic3f iX10_deal_49 c10 ?_
    refine g_il iX10_deal_52 rfl ?_
    by_cases c11 : x1 ≠ 0
    · rw [if_pos c11] at H
      refine g_if1t iX10_deal_53 c11 ?_
      refine g_al iX10_deal_69 rfl ?_
      refine g_gr iX10_deal_70 fr_10_0_0 ?_
      refine g_ci (as := [.inr 1]) (rest := []) iX10_deal_73 rfl rfl (Nat.le_of_ble_eq_true rfl) (Or.inr ⟨_, _, rfl, oo_1_1⟩) (rx_CI.imp H (fun v13 σ12 H => ?_))
      by_cases c14 : v13 = 0
      · rw [if_pos c14] at H
        refine g_if0t iX10_deal_76 c14 ?_
        refine g_ii iX10_deal_82 rfl ?_
        refine rx_Go.ls (la := [some (.inr 0), some (.inl x1), some (.inl x2), some (.inl x3), some (.inl (rx_w (x4 + 1)))]) rfl ?_
        refine g_goto iX10_deal_85 ?_
        exact H
      · rw [if_neg c14] at H
        refine g_if0f iX10_deal_76 c14 ?_
        refine g_ii iX10_deal_79 rfl ?_
        refine rx_Go.ls (la := [some (.inr 0), some (.inl x1), some (.inl x2), some (.inl (rx_w (x3 + 1))), some (.inl x4)]) rfl ?_
        refine g_ii iX10_deal_82 rfl ?_
        refine rx_Go.ls (la := [some (.inr 0), some (.inl x1), some (.inl x2), some (.inl (rx_w (x3 + 1))), some (.inl (rx_w (x4 + 1)))]) rfl ?_
        refine g_goto iX10_deal_85 ?_
        exact H
    · rw [if_neg c11] at H
      refine g_if1f iX10_deal_53 c11 ?_
      refine g_al iX10_deal_56 rfl ?_
      refine g_gr iX10_deal_57 fr_10_0_0 ?_
      refine g_ci (as := [.inr 1]) (rest := []) iX10_deal_60 rfl rfl (Nat.le_of_ble_eq_true rfl) (Or.inr ⟨_, _, rfl, oo_1_1⟩) (rx_CI.imp H (fun v16 σ15 H => ?_))
      by_cases c17 : v16 = 0
      · rw [if_pos c17] at H
        refine g_if0t iX10_deal_63 c17 ?_
        refine g_ii iX10_deal_82 rfl ?_
        refine rx_Go.ls (la := [some (.inr 0), some (.inl x1), some (.inl x2), some (.inl x3), some (.inl (rx_w (x4 + 1)))]) rfl ?_
        refine g_goto iX10_deal_85 ?_
        exact H
      · rw [if_neg c17] at H
        refine g_if0f iX10_deal_63 c17 ?_
        refine g_goto iX10_deal_66 ?_
        refine g_ii iX10_deal_79 rfl ?_
        refine rx_Go.ls (la := [some (.inr 0), some (.inl x1), some (.inl x2), some (.inl (rx_w (x3 + 1))), some (.inl x4)]) rfl ?_
        refine g_ii iX10_deal_82 rfl ?_
        refine rx_Go.ls (la := [some (.inr 0), some (.inl x1), some (.inl x2), some (.inl (rx_w (x3 + 1))), some (.inl (rx_w (x4 + 1)))]) rfl ?_
        refine g_goto iX10_deal_85 ?_
        exact H
set_option maxRecDepth 20000 in
set_option maxHeartbeats 4000000 in
theorem bX10_seed (L d : Nat) (x1 : Int) (σ : rx_St) (K : Int → rx_St → Prop)
    (H : K (σ 1 13) (rx_up σ 1 13 x1)) :
    rx_CI L d mX10_seed [.inr 0, .inl x1] σ K := by
  refine rx_CI.of (la := [some (.inr 0), some (.inl x1), none]) rfl ?_
  refine g_al iX10_seed_0 rfl ?_
  refine g_gr iX10_seed_1 fr_10_0_0 ?_
  refine g_gf (kI := 13) rfl iX10_seed_4 fi_1_13_1 ?_
  refine g_is iX10_seed_7 (Nat.le_of_ble_eq_true rfl) ?_
  refine rx_Go.ls (la := [some (.inr 0), some (.inl x1), some (.inl (σ 1 13))]) rfl ?_
  refine g_al iX10_seed_8 rfl ?_
  refine g_gr iX10_seed_9 fr_10_0_0 ?_
  refine g_il iX10_seed_12 rfl ?_
  refine g_pf (kI := 13) rfl iX10_seed_13 fi_1_13_1 (Or.inl rfl) ?_
  refine g_il iX10_seed_16 rfl ?_
  exact g_ri iX10_seed_17 (Or.inl rfl) H
set_option maxRecDepth 20000 in
set_option maxHeartbeats 4000000 in
theorem bX10_feed (L d : Nat) (x1 : Int) (x2 : Int) (x3 : Int) (σ : rx_St) (K : Int → rx_St → Prop)
    (H : if (rx_w ((σ 34 0) + 12)) ≤ 96 then (rx_CV L d mX5_feedNumber [.inr 34, .inl x1] σ (fun σ2 => rx_CV L d mX5_feedNumber [.inr 34, .inl x2] σ2 (fun σ3 => rx_CV L d mX5_feedNumber [.inr 34, .inl x3] σ3 (fun σ4 => K (σ4 34 0) σ4)))) else (K (-1000000003) σ)) :
    rx_CI L (d + 1) mX10_feed [.inr 0, .inl x1, .inl x2, .inl x3] σ K := by
  refine rx_CI.of (la := [some (.inr 0), some (.inl x1), some (.inl x2), some (.inl x3)]) rfl ?_
  refine g_al iX10_feed_0 rfl ?_
  refine g_gr iX10_feed_1 fr_10_4_0 ?_
  refine g_gf (kI := 0) rfl iX10_feed_4 fi_5_0_34 ?_
  refine g_c iX10_feed_7 ?_
  refine g_add iX10_feed_9 ?_
  refine g_c iX10_feed_10 ?_
  by_cases c1 : (rx_w ((σ 34 0) + 12)) ≤ 96
  · rw [if_pos c1] at H
    refine g_ic5t iX10_feed_12 c1 ?_
    refine g_al iX10_feed_19 rfl ?_
    refine g_gr iX10_feed_20 fr_10_4_0 ?_
    refine g_il iX10_feed_23 rfl ?_
    refine g_cv (as := [.inr 34, .inl x1]) (rest := []) iX10_feed_24 rfl rfl (Nat.le_of_ble_eq_true rfl) (Or.inr ⟨_, _, rfl, oo_5_34⟩) (rx_CV.imp H (fun σ2 H => ?_))
    refine g_al iX10_feed_27 rfl ?_
    refine g_gr iX10_feed_28 fr_10_4_0 ?_
    refine g_il iX10_feed_31 rfl ?_
    refine g_cv (as := [.inr 34, .inl x2]) (rest := []) iX10_feed_32 rfl rfl (Nat.le_of_ble_eq_true rfl) (Or.inr ⟨_, _, rfl, oo_5_34⟩) (rx_CV.imp H (fun σ3 H => ?_))
    refine g_al iX10_feed_35 rfl ?_
    refine g_gr iX10_feed_36 fr_10_4_0 ?_
    refine g_il iX10_feed_39 rfl ?_
    refine g_cv (as := [.inr 34, .inl x3]) (rest := []) iX10_feed_40 rfl rfl (Nat.le_of_ble_eq_true rfl) (Or.inr ⟨_, _, rfl, oo_5_34⟩) (rx_CV.imp H (fun σ4 H => ?_))
    refine g_al iX10_feed_43 rfl ?_
    refine g_gr iX10_feed_44 fr_10_4_0 ?_
    refine g_gf (kI := 0) rfl iX10_feed_47 fi_5_0_34 ?_
    exact g_ri iX10_feed_50 (Or.inl rfl) H
  · rw [if_neg c1] at H
    refine g_ic5f iX10_feed_12 c1 ?_
    refine g_c iX10_feed_15 ?_
    exact g_ri iX10_feed_18 (Or.inl rfl) H
set_option maxRecDepth 20000 in
set_option maxHeartbeats 4000000 in
theorem bX10_trim (L d : Nat) (x1 : Int) (σ : rx_St) (K : Int → rx_St → Prop)
    (H : if x1 < 0 then (K (-1000000001) σ) else (if x1 ≤ (σ 34 0) then (K x1 (rx_up σ 34 0 x1)) else (K (-1000000001) σ))) :
    rx_CI L d mX10_trim [.inr 0, .inl x1] σ K := by
  refine rx_CI.of (la := [some (.inr 0), some (.inl x1)]) rfl ?_
  refine g_il iX10_trim_0 rfl ?_
  by_cases c1 : x1 < 0
  · rw [if_pos c1] at H
    refine g_if2t iX10_trim_1 c1 ?_
    refine g_c iX10_trim_15 ?_
    exact g_ri iX10_trim_17 (Or.inl rfl) H
  · rw [if_neg c1] at H
    refine g_if2f iX10_trim_1 c1 ?_
    refine g_il iX10_trim_4 rfl ?_
    refine g_al iX10_trim_5 rfl ?_
    refine g_gr iX10_trim_6 fr_10_4_0 ?_
    refine g_gf (kI := 0) rfl iX10_trim_9 fi_5_0_34 ?_
    by_cases c2 : x1 ≤ (σ 34 0)
    · rw [if_pos c2] at H
      refine g_ic5t iX10_trim_12 c2 ?_
      refine g_al iX10_trim_18 rfl ?_
      refine g_gr iX10_trim_19 fr_10_4_0 ?_
      refine g_il iX10_trim_22 rfl ?_
      refine g_pf (kI := 0) rfl iX10_trim_23 fi_5_0_34 (Or.inl rfl) ?_
      refine g_il iX10_trim_26 rfl ?_
      exact g_ri iX10_trim_27 (Or.inl rfl) H
    · rw [if_neg c2] at H
      refine g_ic5f iX10_trim_12 c2 ?_
      refine g_c iX10_trim_15 ?_
      exact g_ri iX10_trim_17 (Or.inl rfl) H
set_option maxRecDepth 20000 in
set_option maxHeartbeats 4000000 in
theorem bX10_text (L d : Nat)  (σ : rx_St) (K : Int → rx_St → Prop)
    (H : rx_CI L d mX5_read [.inr 34] σ (fun v2 σ1 => if v2 < 0 then (if ((rx_up σ1 34 0 0) 1 12) < 14 then (rx_CV L d mX2_put [.inr 38, .inl ((rx_up σ1 34 0 0) 1 12), .inr 34] (rx_up σ1 34 0 0) (fun σ5 => K (rx_w (((rx_up σ5 1 12 (rx_w ((σ5 1 12) + 1))) 1 12) - 1)) (rx_up σ5 1 12 (rx_w ((σ5 1 12) + 1))))) else (K (-1000000003) (rx_up σ1 34 0 0))) else (K (rx_w ((-100) - v2)) (rx_up σ1 34 0 0)))) :
    rx_CI L (d + 1) mX10_text [.inr 0] σ K := by
  refine rx_CI.of (la := [some (.inr 0), none]) rfl ?_
  refine g_al iX10_text_0 rfl ?_
  refine g_gr iX10_text_1 fr_10_4_0 ?_
  refine g_ci (as := [.inr 34]) (rest := []) iX10_text_4 rfl rfl (Nat.le_of_ble_eq_true rfl) (Or.inr ⟨_, _, rfl, oo_5_34⟩) (rx_CI.imp H (fun v2 σ1 H => ?_))
  refine g_is iX10_text_7 (Nat.le_of_ble_eq_true rfl) ?_
  refine rx_Go.ls (la := [some (.inr 0), some (.inl v2)]) rfl ?_
  refine g_al iX10_text_8 rfl ?_
  refine g_gr iX10_text_9 fr_10_4_0 ?_
  refine g_c iX10_text_12 ?_
  refine g_pf (kI := 0) rfl iX10_text_13 fi_5_0_34 (Or.inl rfl) ?_
  refine g_il iX10_text_16 rfl ?_
  by_cases c3 : v2 < 0
  · rw [if_pos c3] at H
    refine g_if2t iX10_text_17 c3 ?_
    refine g_al iX10_text_25 rfl ?_
    refine g_gr iX10_text_26 fr_10_0_0 ?_
    refine g_gf (kI := 12) rfl iX10_text_29 fi_1_12_1 ?_
    refine g_c iX10_text_32 ?_
    by_cases c4 : ((rx_up σ1 34 0 0) 1 12) < 14
    · rw [if_pos c4] at H
      refine g_ic2t iX10_text_34 c4 ?_
      refine g_al iX10_text_41 rfl ?_
      refine g_gr iX10_text_42 fr_10_5_0 ?_
      refine g_gr iX10_text_45 fr_0_0_37 ?_
      refine g_al iX10_text_48 rfl ?_
      refine g_gr iX10_text_49 fr_10_0_0 ?_
      refine g_gf (kI := 12) rfl iX10_text_52 fi_1_12_1 ?_
      refine g_al iX10_text_55 rfl ?_
      refine g_gr iX10_text_56 fr_10_4_0 ?_
      refine g_cv (as := [.inr 38, .inl ((rx_up σ1 34 0 0) 1 12), .inr 34]) (rest := []) iX10_text_59 rfl rfl (Nat.le_of_ble_eq_true rfl) (Or.inr ⟨_, _, rfl, oo_2_38⟩) (rx_CV.imp H (fun σ5 H => ?_))
      refine g_al iX10_text_62 rfl ?_
      refine g_gr iX10_text_63 fr_10_0_0 ?_
      refine g_dup iX10_text_66 ?_
      refine g_gf (kI := 12) rfl iX10_text_67 fi_1_12_1 ?_
      refine g_c iX10_text_70 ?_
      refine g_add iX10_text_71 ?_
      refine g_pf (kI := 12) rfl iX10_text_72 fi_1_12_1 (Or.inl rfl) ?_
      refine g_al iX10_text_75 rfl ?_
      refine g_gr iX10_text_76 fr_10_0_0 ?_
      refine g_gf (kI := 12) rfl iX10_text_79 fi_1_12_1 ?_
      refine g_c iX10_text_82 ?_
      refine g_sub iX10_text_83 ?_
      exact g_ri iX10_text_84 (Or.inl rfl) H
    · rw [if_neg c4] at H
      refine g_ic2f iX10_text_34 c4 ?_
      refine g_c iX10_text_37 ?_
      exact g_ri iX10_text_40 (Or.inl rfl) H
  · rw [if_neg c3] at H
    refine g_if2f iX10_text_17 c3 ?_
    refine g_c iX10_text_20 ?_
    refine g_il iX10_text_22 rfl ?_
    refine g_sub iX10_text_23 ?_
    exact g_ri iX10_text_24 (Or.inl rfl) H
set_option maxRecDepth 20000 in
set_option maxHeartbeats 4000000 in
theorem bX10_textTold (L d : Nat) (x1 : Int) (x2 : Int) (σ : rx_St) (K : Int → rx_St → Prop)
    (H : if x1 < 0 then (K (-1000000001) σ) else (if x1 < (σ 1 12) then (if x2 = 0 then ((0 ≤ x1 ∧ x1 < 14) ∧ (K (σ 39 x1) σ)) else (if x2 = 1 then ((0 ≤ x1 ∧ x1 < 14) ∧ (K (σ 40 x1) σ)) else (K (-1000000001) σ))) else (K (-1000000001) σ))) :
    rx_CI L d mX10_textTold [.inr 0, .inl x1, .inl x2] σ K := by
  refine rx_CI.of (la := [some (.inr 0), some (.inl x1), some (.inl x2)]) rfl ?_
  refine g_il iX10_textTold_0 rfl ?_
  by_cases c1 : x1 < 0
  · rw [if_pos c1] at H
    refine g_if2t iX10_textTold_1 c1 ?_
    refine g_c iX10_textTold_15 ?_
    exact g_ri iX10_textTold_17 (Or.inl rfl) H
  · rw [if_neg c1] at H
    refine g_if2f iX10_textTold_1 c1 ?_
    refine g_il iX10_textTold_4 rfl ?_
    refine g_al iX10_textTold_5 rfl ?_
    refine g_gr iX10_textTold_6 fr_10_0_0 ?_
    refine g_gf (kI := 12) rfl iX10_textTold_9 fi_1_12_1 ?_
    by_cases c2 : x1 < (σ 1 12)
    · rw [if_pos c2] at H
      refine g_ic2t iX10_textTold_12 c2 ?_
      refine g_il iX10_textTold_18 rfl ?_
      by_cases c3 : x2 = 0
      · rw [if_pos c3] at H
        refine g_sw iX10_textTold_19 (by simp only [rx_sw]; rw [if_pos c3]) ?_
        refine g_al iX10_textTold_44 rfl ?_
        refine g_gr iX10_textTold_45 fr_10_5_0 ?_
        refine g_gr iX10_textTold_48 fr_0_0_37 ?_
        refine g_gr iX10_textTold_51 fr_2_0_38 ?_
        refine g_il iX10_textTold_54 rfl ?_
        obtain ⟨o4, H⟩ := H
        refine g_ld iX10_textTold_55 (ln_39 L) o4 ?_
        exact g_ri iX10_textTold_56 (Or.inl rfl) H
      · rw [if_neg c3] at H
        by_cases c5 : x2 = 1
        · rw [if_pos c5] at H
          refine g_sw iX10_textTold_19 (by simp only [rx_sw]; rw [if_neg c3, if_pos c5]) ?_
          refine g_al iX10_textTold_57 rfl ?_
          refine g_gr iX10_textTold_58 fr_10_5_0 ?_
          refine g_gr iX10_textTold_61 fr_0_0_37 ?_
          refine g_gr iX10_textTold_64 fr_2_1_38 ?_
          refine g_il iX10_textTold_67 rfl ?_
          obtain ⟨o6, H⟩ := H
          refine g_ld iX10_textTold_68 (ln_40 L) o6 ?_
          exact g_ri iX10_textTold_69 (Or.inl rfl) H
        · rw [if_neg c5] at H
          refine g_sw (t := 70) iX10_textTold_19 (by simp only [rx_sw, c3, c5, if_false]) ?_
          refine g_c iX10_textTold_70 ?_
          exact g_ri iX10_textTold_72 (Or.inl rfl) H
    · rw [if_neg c2] at H
      refine g_ic2f iX10_textTold_12 c2 ?_
      refine g_c iX10_textTold_15 ?_
      exact g_ri iX10_textTold_17 (Or.inl rfl) H
set_option maxRecDepth 20000 in
set_option maxHeartbeats 4000000 in
theorem bX10_why (L d : Nat) (x1 : Int) (σ : rx_St) (K : Int → rx_St → Prop)
    (H : if x1 < 0 then (K (-1000000001) σ) else (if x1 < 3 then (rx_CI L d mX2_lastOf [.inr 38, .inl (σ 1 12), .inl x1] σ (fun v4 σ3 => if 0 ≤ v4 then (K v4 σ3) else (K (-1000000005) σ3))) else (K (-1000000001) σ))) :
    rx_CI L (d + 1) mX10_why [.inr 0, .inl x1] σ K := by
  refine rx_CI.of (la := [some (.inr 0), some (.inl x1), none]) rfl ?_
  refine g_il iX10_why_0 rfl ?_
  by_cases c1 : x1 < 0
  · rw [if_pos c1] at H
    refine g_if2t iX10_why_1 c1 ?_
    refine g_c iX10_why_9 ?_
    exact g_ri iX10_why_11 (Or.inl rfl) H
  · rw [if_neg c1] at H
    refine g_if2f iX10_why_1 c1 ?_
    refine g_il iX10_why_4 rfl ?_
    refine g_c iX10_why_5 ?_
    by_cases c2 : x1 < 3
    · rw [if_pos c2] at H
      refine g_ic2t iX10_why_6 c2 ?_
      refine g_al iX10_why_12 rfl ?_
      refine g_gr iX10_why_13 fr_10_5_0 ?_
      refine g_gr iX10_why_16 fr_0_0_37 ?_
      refine g_al iX10_why_19 rfl ?_
      refine g_gr iX10_why_20 fr_10_0_0 ?_
      refine g_gf (kI := 12) rfl iX10_why_23 fi_1_12_1 ?_
      refine g_il iX10_why_26 rfl ?_
      refine g_ci (as := [.inr 38, .inl (σ 1 12), .inl x1]) (rest := []) iX10_why_27 rfl rfl (Nat.le_of_ble_eq_true rfl) (Or.inr ⟨_, _, rfl, oo_2_38⟩) (rx_CI.imp H (fun v4 σ3 H => ?_))
      refine g_is iX10_why_30 (Nat.le_of_ble_eq_true rfl) ?_
      refine rx_Go.ls (la := [some (.inr 0), some (.inl x1), some (.inl v4)]) rfl ?_
      refine g_il iX10_why_31 rfl ?_
      by_cases c5 : 0 ≤ v4
      · rw [if_pos c5] at H
        refine g_if3t iX10_why_32 c5 ?_
        refine g_il iX10_why_40 rfl ?_
        exact g_ri iX10_why_41 (Or.inl rfl) H
      · rw [if_neg c5] at H
        refine g_if3f iX10_why_32 c5 ?_
        refine g_c iX10_why_35 ?_
        refine g_goto iX10_why_37 ?_
        exact g_ri iX10_why_41 (Or.inl rfl) H
    · rw [if_neg c2] at H
      refine g_ic2f iX10_why_6 c2 ?_
      refine g_c iX10_why_9 ?_
      exact g_ri iX10_why_11 (Or.inl rfl) H
set_option maxRecDepth 20000 in
set_option maxHeartbeats 4000000 in
theorem bX10_sheet (L d : Nat) (x1 : Int) (x2 : Int) (x3 : Int) (σ : rx_St) (K : Int → rx_St → Prop)
    (H : rx_CI L d mX10_isSheet [.inl x1] σ (fun v2 σ1 => if v2 = 0 then (K (-1000000001) σ1) else (if x2 < (-1) then (K (-1000000001) σ1) else (if x2 ≤ 1 then (if x2 ≠ (-1) then (if x3 ≤ 24 then (if 0 ≤ x3 then ((0 ≤ x1 ∧ x1 < 4) ∧ ∀ A9 : Nat, A9 = 102 + 2 * x1.toNat → rx_isO 7 A9 = true → (rx_CV L d mX7_become [.inr A9, .inl x2, .inl x3] σ1 (fun σ11 => K x3 σ11))) else (K (-1000000014) σ1)) else (K (-1000000001) σ1)) else ((0 ≤ x1 ∧ x1 < 4) ∧ ∀ A12 : Nat, A12 = 102 + 2 * x1.toNat → rx_isO 7 A12 = true → (rx_CV L d mX7_become [.inr A12, .inl (-1), .inl 0] σ1 (fun σ14 => K 0 σ14)))) else (K (-1000000001) σ1))))) :
    rx_CI L (d + 1) mX10_sheet [.inr 0, .inl x1, .inl x2, .inl x3] σ K := by
  refine rx_CI.of (la := [some (.inr 0), some (.inl x1), some (.inl x2), some (.inl x3)]) rfl ?_
  refine g_il iX10_sheet_0 rfl ?_
  refine g_ci (as := [.inl x1]) (rest := []) iX10_sheet_1 rfl rfl (Nat.le_of_ble_eq_true rfl) (Or.inl (by decide)) (rx_CI.imp H (fun v2 σ1 H => ?_))
  by_cases c3 : v2 = 0
  · rw [if_pos c3] at H
    refine g_if0t iX10_sheet_4 c3 ?_
    refine g_c iX10_sheet_17 ?_
    exact g_ri iX10_sheet_19 (Or.inl rfl) H
  · rw [if_neg c3] at H
    refine g_if0f iX10_sheet_4 c3 ?_
    refine g_il iX10_sheet_7 rfl ?_
    refine g_c iX10_sheet_8 ?_
    by_cases c4 : x2 < (-1)
    · rw [if_pos c4] at H
      refine g_ic2t iX10_sheet_9 c4 ?_
      refine g_c iX10_sheet_17 ?_
      exact g_ri iX10_sheet_19 (Or.inl rfl) H
    · rw [if_neg c4] at H
      refine g_ic2f iX10_sheet_9 c4 ?_
      refine g_il iX10_sheet_12 rfl ?_
      refine g_c iX10_sheet_13 ?_
      by_cases c5 : x2 ≤ 1
      · rw [if_pos c5] at H
        refine g_ic5t iX10_sheet_14 c5 ?_
        refine g_il iX10_sheet_20 rfl ?_
        refine g_c iX10_sheet_21 ?_
        by_cases c6 : x2 ≠ (-1)
        · rw [if_pos c6] at H
          refine g_ic1t iX10_sheet_22 c6 ?_
          refine g_il iX10_sheet_38 rfl ?_
          refine g_c iX10_sheet_39 ?_
          by_cases c7 : x3 ≤ 24
          · rw [if_pos c7] at H
            refine g_ic5t iX10_sheet_41 c7 ?_
            refine g_il iX10_sheet_47 rfl ?_
            by_cases c8 : 0 ≤ x3
            · rw [if_pos c8] at H
              refine g_if3t iX10_sheet_48 c8 ?_
              refine g_al iX10_sheet_54 rfl ?_
              refine g_gr iX10_sheet_55 fr_10_10_0 ?_
              refine g_il iX10_sheet_58 rfl ?_
              obtain ⟨o10, H⟩ := H
              refine g_aa iX10_sheet_59 (ae_99 o10).1 ?_
              obtain ⟨A9, eA9⟩ : ∃ z, z = 102 + 2 * x1.toNat := ⟨_, rfl⟩
              have hA9 : rx_isO 7 A9 = true := by rw [eA9]; exact (ae_99 o10).2
              rw [← eA9]
              replace H := H A9 eA9 hA9
              refine g_il iX10_sheet_60 rfl ?_
              refine g_il iX10_sheet_61 rfl ?_
              refine g_cv (as := [.inr A9, .inl x2, .inl x3]) (rest := []) iX10_sheet_62 rfl rfl (Nat.le_of_ble_eq_true rfl) (Or.inr ⟨_, _, rfl, hA9⟩) (rx_CV.imp H (fun σ11 H => ?_))
              refine g_il iX10_sheet_65 rfl ?_
              exact g_ri iX10_sheet_66 (Or.inl rfl) H
            · rw [if_neg c8] at H
              refine g_if3f iX10_sheet_48 c8 ?_
              refine g_c iX10_sheet_51 ?_
              exact g_ri iX10_sheet_53 (Or.inl rfl) H
          · rw [if_neg c7] at H
            refine g_ic5f iX10_sheet_41 c7 ?_
            refine g_c iX10_sheet_44 ?_
            exact g_ri iX10_sheet_46 (Or.inl rfl) H
        · rw [if_neg c6] at H
          refine g_ic1f iX10_sheet_22 c6 ?_
          refine g_al iX10_sheet_25 rfl ?_
          refine g_gr iX10_sheet_26 fr_10_10_0 ?_
          refine g_il iX10_sheet_29 rfl ?_
          obtain ⟨o13, H⟩ := H
          refine g_aa iX10_sheet_30 (ae_99 o13).1 ?_
          obtain ⟨A12, eA12⟩ : ∃ z, z = 102 + 2 * x1.toNat := ⟨_, rfl⟩
          have hA12 : rx_isO 7 A12 = true := by rw [eA12]; exact (ae_99 o13).2
          rw [← eA12]
          replace H := H A12 eA12 hA12
          refine g_c iX10_sheet_31 ?_
          refine g_c iX10_sheet_32 ?_
          refine g_cv (as := [.inr A12, .inl (-1), .inl 0]) (rest := []) iX10_sheet_33 rfl rfl (Nat.le_of_ble_eq_true rfl) (Or.inr ⟨_, _, rfl, hA12⟩) (rx_CV.imp H (fun σ14 H => ?_))
          refine g_c iX10_sheet_36 ?_
          exact g_ri iX10_sheet_37 (Or.inl rfl) H
      · rw [if_neg c5] at H
        refine g_ic5f iX10_sheet_14 c5 ?_
        refine g_c iX10_sheet_17 ?_
        exact g_ri iX10_sheet_19 (Or.inl rfl) H
set_option maxRecDepth 20000 in
set_option maxHeartbeats 4000000 in
theorem bX10_mark (L d : Nat) (x1 : Int) (x2 : Int) (x3 : Int) (σ : rx_St) (K : Int → rx_St → Prop)
    (H : rx_CI L d mX10_isSheet [.inl x1] σ (fun v2 σ1 => if v2 ≠ 0 then ((0 ≤ x1 ∧ x1 < 4) ∧ ∀ A4 : Nat, A4 = 102 + 2 * x1.toNat → rx_isO 7 A4 = true → (rx_CI L d mX7_isMissing [.inr A4] σ1 (fun v7 σ6 => if v7 = 0 then (rx_CI L d mX7_hasPlace [.inr A4, .inl x2] σ6 (fun v10 σ9 => if v10 ≠ 0 then (if (σ9 A4 0) ≠ 0 then (if x3 = (-1000000005) then ((0 ≤ x2 ∧ x2 < 24) ∧ (K 1 (rx_up σ9 (A4 + 1) x2 x3))) else (if x3 < (-99999) then (K (-1000000001) σ9) else (if x3 ≤ 99999 then ((0 ≤ x2 ∧ x2 < 24) ∧ (K 1 (rx_up σ9 (A4 + 1) x2 x3))) else (K (-1000000001) σ9)))) else (if x3 ≠ (-1000000005) then ((0 ≤ x2 ∧ x2 < 24) ∧ (K 1 (rx_up σ9 (A4 + 1) x2 (rx_un 1 x3)))) else (K (-1000000012) σ9))) else (K (-1000000013) σ9))) else (K (-1000000011) σ6)))) else (K (-1000000001) σ1))) :
    rx_CI L (d + 1) mX10_mark [.inr 0, .inl x1, .inl x2, .inl x3] σ K := by
  refine rx_CI.of (la := [some (.inr 0), some (.inl x1), some (.inl x2), some (.inl x3), none]) rfl ?_
  refine g_il iX10_mark_0 rfl ?_
  refine g_ci (as := [.inl x1]) (rest := []) iX10_mark_1 rfl rfl (Nat.le_of_ble_eq_true rfl) (Or.inl (by decide)) (rx_CI.imp H (fun v2 σ1 H => ?_))
  by_cases c3 : v2 ≠ 0
  · rw [if_pos c3] at H
    refine g_if1t iX10_mark_4 c3 ?_
    refine g_al iX10_mark_10 rfl ?_
    refine g_gr iX10_mark_11 fr_10_10_0 ?_
    refine g_il iX10_mark_14 rfl ?_
    obtain ⟨o5, H⟩ := H
    refine g_aa iX10_mark_15 (ae_99 o5).1 ?_
    obtain ⟨A4, eA4⟩ : ∃ z, z = 102 + 2 * x1.toNat := ⟨_, rfl⟩
    have hA4 : rx_isO 7 A4 = true := by rw [eA4]; exact (ae_99 o5).2
    rw [← eA4]
    replace H := H A4 eA4 hA4
    refine g_as iX10_mark_16 (Nat.le_of_ble_eq_true rfl) ?_
    refine rx_Go.ls (la := [some (.inr 0), some (.inl x1), some (.inl x2), some (.inl x3), some (.inr A4)]) rfl ?_
    refine g_al iX10_mark_18 rfl ?_
    refine g_ci (as := [.inr A4]) (rest := []) iX10_mark_20 rfl rfl (Nat.le_of_ble_eq_true rfl) (Or.inr ⟨_, _, rfl, hA4⟩) (rx_CI.imp H (fun v7 σ6 H => ?_))
    by_cases c8 : v7 = 0
    · rw [if_pos c8] at H
      refine g_if0t iX10_mark_23 c8 ?_
      refine g_al iX10_mark_29 rfl ?_
      refine g_il iX10_mark_31 rfl ?_
      refine g_ci (as := [.inr A4, .inl x2]) (rest := []) iX10_mark_32 rfl rfl (Nat.le_of_ble_eq_true rfl) (Or.inr ⟨_, _, rfl, hA4⟩) (rx_CI.imp H (fun v10 σ9 H => ?_))
      by_cases c11 : v10 ≠ 0
      · rw [if_pos c11] at H
        refine g_if1t iX10_mark_35 c11 ?_
        refine g_al iX10_mark_42 rfl ?_
        refine g_gf (kI := 0) rfl iX10_mark_44 (fi_7_0 hA4) ?_
        by_cases c12 : (σ9 A4 0) ≠ 0
        · rw [if_pos c12] at H
          refine g_if1t iX10_mark_47 c12 ?_
          refine g_il iX10_mark_70 rfl ?_
          refine g_c iX10_mark_71 ?_
          by_cases c13 : x3 = (-1000000005)
          · rw [if_pos c13] at H
            refine g_ic0t iX10_mark_73 c13 ?_
            refine g_al iX10_mark_93 rfl ?_
            refine g_gr iX10_mark_95 (fr_7_2 hA4) ?_
            refine g_il iX10_mark_98 rfl ?_
            refine g_il iX10_mark_99 rfl ?_
            obtain ⟨o14, H⟩ := H
            refine g_st iX10_mark_100 (ln_7_o1 L hA4).1 (ln_7_o1 L hA4).2 o14 rfl ?_
            refine g_c iX10_mark_101 ?_
            exact g_ri iX10_mark_102 (Or.inl rfl) H
          · rw [if_neg c13] at H
            refine g_ic0f iX10_mark_73 c13 ?_
            refine g_il iX10_mark_76 rfl ?_
            refine g_c iX10_mark_77 ?_
            by_cases c15 : x3 < (-99999)
            · rw [if_pos c15] at H
              refine g_ic2t iX10_mark_80 c15 ?_
              refine g_c iX10_mark_90 ?_
              exact g_ri iX10_mark_92 (Or.inl rfl) H
            · rw [if_neg c15] at H
              refine g_ic2f iX10_mark_80 c15 ?_
              refine g_il iX10_mark_83 rfl ?_
              refine g_c iX10_mark_84 ?_
              by_cases c16 : x3 ≤ 99999
              · rw [if_pos c16] at H
                refine g_ic5t iX10_mark_87 c16 ?_
                refine g_al iX10_mark_93 rfl ?_
                refine g_gr iX10_mark_95 (fr_7_2 hA4) ?_
                refine g_il iX10_mark_98 rfl ?_
                refine g_il iX10_mark_99 rfl ?_
                obtain ⟨o17, H⟩ := H
                refine g_st iX10_mark_100 (ln_7_o1 L hA4).1 (ln_7_o1 L hA4).2 o17 rfl ?_
                refine g_c iX10_mark_101 ?_
                exact g_ri iX10_mark_102 (Or.inl rfl) H
              · rw [if_neg c16] at H
                refine g_ic5f iX10_mark_87 c16 ?_
                refine g_c iX10_mark_90 ?_
                exact g_ri iX10_mark_92 (Or.inl rfl) H
        · rw [if_neg c12] at H
          refine g_if1f iX10_mark_47 c12 ?_
          refine g_il iX10_mark_50 rfl ?_
          refine g_c iX10_mark_51 ?_
          by_cases c18 : x3 ≠ (-1000000005)
          · rw [if_pos c18] at H
            refine g_ic1t iX10_mark_53 c18 ?_
            refine g_al iX10_mark_59 rfl ?_
            refine g_gr iX10_mark_61 (fr_7_2 hA4) ?_
            refine g_il iX10_mark_64 rfl ?_
            refine g_il iX10_mark_65 rfl ?_
            refine g_i2s iX10_mark_66 ?_
            obtain ⟨o19, H⟩ := H
            refine g_st iX10_mark_67 (ln_7_o1 L hA4).1 (ln_7_o1 L hA4).2 o19 rfl ?_
            refine g_c iX10_mark_68 ?_
            exact g_ri iX10_mark_69 (Or.inl rfl) H
          · rw [if_neg c18] at H
            refine g_ic1f iX10_mark_53 c18 ?_
            refine g_c iX10_mark_56 ?_
            exact g_ri iX10_mark_58 (Or.inl rfl) H
      · rw [if_neg c11] at H
        refine g_if1f iX10_mark_35 c11 ?_
        refine g_c iX10_mark_38 ?_
        exact g_ri iX10_mark_41 (Or.inl rfl) H
    · rw [if_neg c8] at H
      refine g_if0f iX10_mark_23 c8 ?_
      refine g_c iX10_mark_26 ?_
      exact g_ri iX10_mark_28 (Or.inl rfl) H
  · rw [if_neg c3] at H
    refine g_if1f iX10_mark_4 c3 ?_
    refine g_c iX10_mark_7 ?_
    exact g_ri iX10_mark_9 (Or.inl rfl) H
set_option maxRecDepth 20000 in
set_option maxHeartbeats 4000000 in
theorem bX10_pour (L d : Nat) (x1 : Int) (σ : rx_St) (K : Int → rx_St → Prop)
    (H : rx_CI L d mX10_isSheet [.inl x1] σ (fun v2 σ1 => if v2 ≠ 0 then ((0 ≤ x1 ∧ x1 < 4) ∧ ∀ A4 : Nat, A4 = 102 + 2 * x1.toNat → rx_isO 7 A4 = true → (rx_CI L d mX7_isMissing [.inr A4] σ1 (fun v7 σ6 => if v7 = 0 then (rx_Go L (d + 1) mX10_pour 29 [some (.inr 0), some (.inl x1), some (.inr A4), some (.inl 0), none] [] σ6 (rx_PI K)) else (K (-1000000011) σ6)))) else (K (-1000000001) σ1))) :
    rx_CI L (d + 1) mX10_pour [.inr 0, .inl x1] σ K := by
  refine rx_CI.of (la := [some (.inr 0), some (.inl x1), none, none, none]) rfl ?_
  refine g_il iX10_pour_0 rfl ?_
  refine g_ci (as := [.inl x1]) (rest := []) iX10_pour_1 rfl rfl (Nat.le_of_ble_eq_true rfl) (Or.inl (by decide)) (rx_CI.imp H (fun v2 σ1 H => ?_))
  by_cases c3 : v2 ≠ 0
  · rw [if_pos c3] at H
    refine g_if1t iX10_pour_4 c3 ?_
    refine g_al iX10_pour_10 rfl ?_
    refine g_gr iX10_pour_11 fr_10_10_0 ?_
    refine g_il iX10_pour_14 rfl ?_
    obtain ⟨o5, H⟩ := H
    refine g_aa iX10_pour_15 (ae_99 o5).1 ?_
    obtain ⟨A4, eA4⟩ : ∃ z, z = 102 + 2 * x1.toNat := ⟨_, rfl⟩
    have hA4 : rx_isO 7 A4 = true := by rw [eA4]; exact (ae_99 o5).2
    rw [← eA4]
    replace H := H A4 eA4 hA4
    refine g_as iX10_pour_16 (Nat.le_of_ble_eq_true rfl) ?_
    refine rx_Go.ls (la := [some (.inr 0), some (.inl x1), some (.inr A4), none, none]) rfl ?_
    refine g_al iX10_pour_17 rfl ?_
    refine g_ci (as := [.inr A4]) (rest := []) iX10_pour_18 rfl rfl (Nat.le_of_ble_eq_true rfl) (Or.inr ⟨_, _, rfl, hA4⟩) (rx_CI.imp H (fun v7 σ6 H => ?_))
    by_cases c8 : v7 = 0
    · rw [if_pos c8] at H
      refine g_if0t iX10_pour_21 c8 ?_
      refine g_c iX10_pour_27 ?_
      refine g_is iX10_pour_28 (Nat.le_of_ble_eq_true rfl) ?_
      refine rx_Go.ls (la := [some (.inr 0), some (.inl x1), some (.inr A4), some (.inl 0), none]) rfl ?_
      exact H
    · rw [if_neg c8] at H
      refine g_if0f iX10_pour_21 c8 ?_
      refine g_c iX10_pour_24 ?_
      exact g_ri iX10_pour_26 (Or.inl rfl) H
  · rw [if_neg c3] at H
    refine g_if1f iX10_pour_4 c3 ?_
    refine g_c iX10_pour_7 ?_
    exact g_ri iX10_pour_9 (Or.inl rfl) H
set_option maxRecDepth 20000 in
set_option maxHeartbeats 4000000 in
theorem bX10_pour_29 (L d : Nat) (q1 : Option rx_V) (A4 : Nat) (hA4 : rx_isO 7 A4 = true) (x3 : Int) (q4 : Option rx_V) (σ : rx_St) (K : Int → rx_St → Prop)
    (H : if (σ A4 1) ≤ x3 then (K x3 σ) else ((0 ≤ x3 ∧ x3 < 24) ∧ (if (σ (A4 + 1) x3) < 0 then (K x3 σ) else (rx_CI L d mX1_postRefusal [.inr 1, .inl (rx_w (Int.tdiv (σ (A4 + 1) x3) 100)), .inl (Int.tmod (σ (A4 + 1) x3) 100)] σ (fun v13 σ12 => if v13 = 0 then (rx_CI L d mX1_addPost [.inr 1, .inl (rx_w (Int.tdiv (σ (A4 + 1) x3) 100)), .inl (Int.tmod (σ (A4 + 1) x3) 100)] σ12 (fun v16 σ15 => rx_Go L (d + 1) mX10_pour 29 [some (.inr 0), q1, some (.inr A4), some (.inl (rx_w (x3 + 1))), some (.inl (σ (A4 + 1) x3))] [] σ15 (rx_PI K))) else (K x3 σ12)))))) :
    rx_Go L (d + 1) mX10_pour 29 [some (.inr 0), q1, some (.inr A4), some (.inl x3), q4] [] σ (rx_PI K) := by
  refine g_il iX10_pour_29 rfl ?_
  refine g_al iX10_pour_30 rfl ?_
  refine g_gf (kI := 1) rfl iX10_pour_31 (fi_7_1 hA4) ?_
  by_cases c9 : (σ A4 1) ≤ x3
  · rw [if_pos c9] at H
    refine g_ic3t iX10_pour_34 c9 ?_
    refine g_il iX10_pour_97 rfl ?_
    exact g_ri iX10_pour_98 (Or.inl rfl) H
  · rw [if_neg c9] at H
    refine g_ic3f iX10_pour_34 c9 ?_
    refine g_al iX10_pour_37 rfl ?_
    refine g_gr iX10_pour_38 (fr_7_2 hA4) ?_
    refine g_il iX10_pour_41 rfl ?_
    obtain ⟨o10, H⟩ := H
    refine g_ld iX10_pour_42 (ln_7_o1 L hA4).1 o10 ?_
    refine g_is iX10_pour_43 (Nat.le_of_ble_eq_true rfl) ?_
    refine rx_Go.ls (la := [some (.inr 0), q1, some (.inr A4), some (.inl x3), some (.inl (σ (A4 + 1) x3))]) rfl ?_
    refine g_il iX10_pour_45 rfl ?_
    by_cases c11 : (σ (A4 + 1) x3) < 0
    · rw [if_pos c11] at H
      refine g_if2t iX10_pour_47 c11 ?_
      refine g_il iX10_pour_97 rfl ?_
      exact g_ri iX10_pour_98 (Or.inl rfl) H
    · rw [if_neg c11] at H
      refine g_if2f iX10_pour_47 c11 ?_
      refine g_al iX10_pour_50 rfl ?_
      refine g_gr iX10_pour_51 fr_10_0_0 ?_
      refine g_il iX10_pour_54 rfl ?_
      refine g_c iX10_pour_56 ?_
      refine g_div iX10_pour_58 (by decide) ?_
      refine g_il iX10_pour_59 rfl ?_
      refine g_c iX10_pour_61 ?_
      refine g_rem iX10_pour_63 (by decide) ?_
      refine g_ci (as := [.inr 1, .inl (rx_w (Int.tdiv (σ (A4 + 1) x3) 100)), .inl (Int.tmod (σ (A4 + 1) x3) 100)]) (rest := []) iX10_pour_64 rfl rfl (Nat.le_of_ble_eq_true rfl) (Or.inr ⟨_, _, rfl, oo_1_1⟩) (rx_CI.imp H (fun v13 σ12 H => ?_))
      by_cases c14 : v13 = 0
      · rw [if_pos c14] at H
        refine g_if0t iX10_pour_67 c14 ?_
        refine g_al iX10_pour_73 rfl ?_
        refine g_gr iX10_pour_74 fr_10_0_0 ?_
        refine g_il iX10_pour_77 rfl ?_
        refine g_c iX10_pour_79 ?_
        refine g_div iX10_pour_81 (by decide) ?_
        refine g_il iX10_pour_82 rfl ?_
        refine g_c iX10_pour_84 ?_
        refine g_rem iX10_pour_86 (by decide) ?_
        refine g_ci (as := [.inr 1, .inl (rx_w (Int.tdiv (σ (A4 + 1) x3) 100)), .inl (Int.tmod (σ (A4 + 1) x3) 100)]) (rest := []) iX10_pour_87 rfl rfl (Nat.le_of_ble_eq_true rfl) (Or.inr ⟨_, _, rfl, oo_1_1⟩) (rx_CI.imp H (fun v16 σ15 H => ?_))
        refine g_pop iX10_pour_90 ?_
        refine g_ii iX10_pour_91 rfl ?_
        refine rx_Go.ls (la := [some (.inr 0), q1, some (.inr A4), some (.inl (rx_w (x3 + 1))), some (.inl (σ (A4 + 1) x3))]) rfl ?_
        refine g_goto iX10_pour_94 ?_
        exact H
      · rw [if_neg c14] at H
        refine g_if0f iX10_pour_67 c14 ?_
        refine g_goto iX10_pour_70 ?_
        refine g_il iX10_pour_97 rfl ?_
        exact g_ri iX10_pour_98 (Or.inl rfl) H
set_option maxRecDepth 20000 in
set_option maxHeartbeats 4000000 in
theorem bX10_copy (L d : Nat) (x1 : Int) (x2 : Int) (x3 : Int) (x4 : Int) (x5 : Int) (σ : rx_St) (K : Int → rx_St → Prop)
    (H : rx_CI L d mX10_isSheet [.inl x1] σ (fun v2 σ1 => if v2 = 0 then (K (-1000000001) σ1) else (rx_CI L d mX10_isSheet [.inl x3] σ1 (fun v5 σ4 => if v5 ≠ 0 then ((0 ≤ x1 ∧ x1 < 4) ∧ ∀ A7 : Nat, A7 = 102 + 2 * x1.toNat → rx_isO 7 A7 = true → ((0 ≤ x3 ∧ x3 < 4) ∧ ∀ A9 : Nat, A9 = 102 + 2 * x3.toNat → rx_isO 7 A9 = true → (rx_CI L d mX7_isMissing [.inr A7] σ4 (fun v12 σ11 => if v12 ≠ 0 then (K (-1000000011) σ11) else (rx_CI L d mX7_isMissing [.inr A9] σ11 (fun v15 σ14 => if v15 = 0 then (if (σ14 A7 0) = (σ14 A9 0) then (rx_CI L d mX7_hasPlaces [.inr A7, .inl x2, .inl x5] σ14 (fun v19 σ18 => if v19 = 0 then (K (-1000000013) σ18) else (rx_CI L d mX7_hasPlaces [.inr A9, .inl x4, .inl x5] σ18 (fun v22 σ21 => if v22 ≠ 0 then (rx_cpOK x5 x2 24 x4 24 ∧ (K x5 (rx_cp σ21 (A7 + 1) x2 (A9 + 1) x4 x5))) else (K (-1000000013) σ21))))) else (K (-1000000012) σ14)) else (K (-1000000011) σ14))))))) else (K (-1000000001) σ4))))) :
    rx_CI L (d + 1) mX10_copy [.inr 0, .inl x1, .inl x2, .inl x3, .inl x4, .inl x5] σ K := by
  refine rx_CI.of (la := [some (.inr 0), some (.inl x1), some (.inl x2), some (.inl x3), some (.inl x4), some (.inl x5), none, none]) rfl ?_
  refine g_il iX10_copy_0 rfl ?_
  refine g_ci (as := [.inl x1]) (rest := []) iX10_copy_1 rfl rfl (Nat.le_of_ble_eq_true rfl) (Or.inl (by decide)) (rx_CI.imp H (fun v2 σ1 H => ?_))
  by_cases c3 : v2 = 0
  · rw [if_pos c3] at H
    refine g_if0t iX10_copy_4 c3 ?_
    refine g_c iX10_copy_14 ?_
    exact g_ri iX10_copy_16 (Or.inl rfl) H
  · rw [if_neg c3] at H
    refine g_if0f iX10_copy_4 c3 ?_
    refine g_il iX10_copy_7 rfl ?_
    refine g_ci (as := [.inl x3]) (rest := []) iX10_copy_8 rfl rfl (Nat.le_of_ble_eq_true rfl) (Or.inl (by decide)) (rx_CI.imp H (fun v5 σ4 H => ?_))
    by_cases c6 : v5 ≠ 0
    · rw [if_pos c6] at H
      refine g_if1t iX10_copy_11 c6 ?_
      refine g_al iX10_copy_17 rfl ?_
      refine g_gr iX10_copy_18 fr_10_10_0 ?_
      refine g_il iX10_copy_21 rfl ?_
      obtain ⟨o8, H⟩ := H
      refine g_aa iX10_copy_22 (ae_99 o8).1 ?_
      obtain ⟨A7, eA7⟩ : ∃ z, z = 102 + 2 * x1.toNat := ⟨_, rfl⟩
      have hA7 : rx_isO 7 A7 = true := by rw [eA7]; exact (ae_99 o8).2
      rw [← eA7]
      replace H := H A7 eA7 hA7
      refine g_as iX10_copy_23 (Nat.le_of_ble_eq_true rfl) ?_
      refine rx_Go.ls (la := [some (.inr 0), some (.inl x1), some (.inl x2), some (.inl x3), some (.inl x4), some (.inl x5), some (.inr A7), none]) rfl ?_
      refine g_al iX10_copy_25 rfl ?_
      refine g_gr iX10_copy_26 fr_10_10_0 ?_
      refine g_il iX10_copy_29 rfl ?_
      obtain ⟨o10, H⟩ := H
      refine g_aa iX10_copy_30 (ae_99 o10).1 ?_
      obtain ⟨A9, eA9⟩ : ∃ z, z = 102 + 2 * x3.toNat := ⟨_, rfl⟩
      have hA9 : rx_isO 7 A9 = true := by rw [eA9]; exact (ae_99 o10).2
      rw [← eA9]
      replace H := H A9 eA9 hA9
      refine g_as iX10_copy_31 (Nat.le_of_ble_eq_true rfl) ?_
      refine rx_Go.ls (la := [some (.inr 0), some (.inl x1), some (.inl x2), some (.inl x3), some (.inl x4), some (.inl x5), some (.inr A7), some (.inr A9)]) rfl ?_
      refine g_al iX10_copy_33 rfl ?_
      refine g_ci (as := [.inr A7]) (rest := []) iX10_copy_35 rfl rfl (Nat.le_of_ble_eq_true rfl) (Or.inr ⟨_, _, rfl, hA7⟩) (rx_CI.imp H (fun v12 σ11 H => ?_))
      by_cases c13 : v12 ≠ 0
      · rw [if_pos c13] at H
        refine g_if1t iX10_copy_38 c13 ?_
        refine g_c iX10_copy_49 ?_
        exact g_ri iX10_copy_51 (Or.inl rfl) H
      · rw [if_neg c13] at H
        refine g_if1f iX10_copy_38 c13 ?_
        refine g_al iX10_copy_41 rfl ?_
        refine g_ci (as := [.inr A9]) (rest := []) iX10_copy_43 rfl rfl (Nat.le_of_ble_eq_true rfl) (Or.inr ⟨_, _, rfl, hA9⟩) (rx_CI.imp H (fun v15 σ14 H => ?_))
        by_cases c16 : v15 = 0
        · rw [if_pos c16] at H
          refine g_if0t iX10_copy_46 c16 ?_
          refine g_al iX10_copy_52 rfl ?_
          refine g_gf (kI := 0) rfl iX10_copy_54 (fi_7_0 hA7) ?_
          refine g_al iX10_copy_57 rfl ?_
          refine g_gf (kI := 0) rfl iX10_copy_59 (fi_7_0 hA9) ?_
          by_cases c17 : (σ14 A7 0) = (σ14 A9 0)
          · rw [if_pos c17] at H
            refine g_ic0t iX10_copy_62 c17 ?_
            refine g_al iX10_copy_68 rfl ?_
            refine g_il iX10_copy_70 rfl ?_
            refine g_il iX10_copy_71 rfl ?_
            refine g_ci (as := [.inr A7, .inl x2, .inl x5]) (rest := []) iX10_copy_73 rfl rfl (Nat.le_of_ble_eq_true rfl) (Or.inr ⟨_, _, rfl, hA7⟩) (rx_CI.imp H (fun v19 σ18 H => ?_))
            by_cases c20 : v19 = 0
            · rw [if_pos c20] at H
              refine g_if0t iX10_copy_76 c20 ?_
              refine g_c iX10_copy_91 ?_
              exact g_ri iX10_copy_94 (Or.inl rfl) H
            · rw [if_neg c20] at H
              refine g_if0f iX10_copy_76 c20 ?_
              refine g_al iX10_copy_79 rfl ?_
              refine g_il iX10_copy_81 rfl ?_
              refine g_il iX10_copy_83 rfl ?_
              refine g_ci (as := [.inr A9, .inl x4, .inl x5]) (rest := []) iX10_copy_85 rfl rfl (Nat.le_of_ble_eq_true rfl) (Or.inr ⟨_, _, rfl, hA9⟩) (rx_CI.imp H (fun v22 σ21 H => ?_))
              by_cases c23 : v22 ≠ 0
              · rw [if_pos c23] at H
                refine g_if1t iX10_copy_88 c23 ?_
                refine g_al iX10_copy_95 rfl ?_
                refine g_gr iX10_copy_97 (fr_7_2 hA7) ?_
                refine g_il iX10_copy_100 rfl ?_
                refine g_al iX10_copy_101 rfl ?_
                refine g_gr iX10_copy_103 (fr_7_2 hA9) ?_
                refine g_il iX10_copy_106 rfl ?_
                refine g_il iX10_copy_108 rfl ?_
                obtain ⟨o24, H⟩ := H
                refine g_cp iX10_copy_110 (ln_7_o1 L hA7).1 (ln_7_o1 L hA9).1 o24 ⟨(ln_7_o1 L hA7).2, (ln_7_o1 L hA9).2⟩ ?_
                refine g_il iX10_copy_113 rfl ?_
                exact g_ri iX10_copy_115 (Or.inl rfl) H
              · rw [if_neg c23] at H
                refine g_if1f iX10_copy_88 c23 ?_
                refine g_c iX10_copy_91 ?_
                exact g_ri iX10_copy_94 (Or.inl rfl) H
          · rw [if_neg c17] at H
            refine g_ic0f iX10_copy_62 c17 ?_
            refine g_c iX10_copy_65 ?_
            exact g_ri iX10_copy_67 (Or.inl rfl) H
        · rw [if_neg c16] at H
          refine g_if0f iX10_copy_46 c16 ?_
          refine g_c iX10_copy_49 ?_
          exact g_ri iX10_copy_51 (Or.inl rfl) H
    · rw [if_neg c6] at H
      refine g_if1f iX10_copy_11 c6 ?_
      refine g_c iX10_copy_14 ?_
      exact g_ri iX10_copy_16 (Or.inl rfl) H
set_option maxRecDepth 20000 in
set_option maxHeartbeats 4000000 in
theorem bX10_lay (L d : Nat) (x1 : Int) (x2 : Int) (x3 : Int) (σ : rx_St) (K : Int → rx_St → Prop)
    (H : rx_CI L d mX10_isSlot [.inl x1] σ (fun v2 σ1 => if v2 = 0 then (K (-1000000001) σ1) else (if x2 < 0 then (K (-1000000001) σ1) else (if x2 ≤ 3 then (if x2 ≠ 1 then (rx_Go L (d + 1) mX10_lay 35 [some (.inr 0), some (.inl x1), some (.inl x2), some (.inl x3), none, none] [] σ1 (rx_PI K)) else (rx_CI L d mX1_isRoad [.inr 1, .inl x3] σ1 (fun v8 σ7 => if v8 = 0 then (K (-1000000001) σ7) else (rx_Go L (d + 1) mX10_lay 35 [some (.inr 0), some (.inl x1), some (.inl x2), some (.inl x3), none, none] [] σ7 (rx_PI K))))) else (K (-1000000001) σ1))))) :
    rx_CI L (d + 1) mX10_lay [.inr 0, .inl x1, .inl x2, .inl x3] σ K := by
  refine rx_CI.of (la := [some (.inr 0), some (.inl x1), some (.inl x2), some (.inl x3), none, none]) rfl ?_
  refine g_il iX10_lay_0 rfl ?_
  refine g_ci (as := [.inl x1]) (rest := []) iX10_lay_1 rfl rfl (Nat.le_of_ble_eq_true rfl) (Or.inl (by decide)) (rx_CI.imp H (fun v2 σ1 H => ?_))
  by_cases c3 : v2 = 0
  · rw [if_pos c3] at H
    refine g_if0t iX10_lay_4 c3 ?_
    refine g_c iX10_lay_16 ?_
    exact g_ri iX10_lay_18 (Or.inl rfl) H
  · rw [if_neg c3] at H
    refine g_if0f iX10_lay_4 c3 ?_
    refine g_il iX10_lay_7 rfl ?_
    by_cases c4 : x2 < 0
    · rw [if_pos c4] at H
      refine g_if2t iX10_lay_8 c4 ?_
      refine g_c iX10_lay_16 ?_
      exact g_ri iX10_lay_18 (Or.inl rfl) H
    · rw [if_neg c4] at H
      refine g_if2f iX10_lay_8 c4 ?_
      refine g_il iX10_lay_11 rfl ?_
      refine g_c iX10_lay_12 ?_
      by_cases c5 : x2 ≤ 3
      · rw [if_pos c5] at H
        refine g_ic5t iX10_lay_13 c5 ?_
        refine g_il iX10_lay_19 rfl ?_
        refine g_c iX10_lay_20 ?_
        by_cases c6 : x2 ≠ 1
        · rw [if_pos c6] at H
          refine g_ic1t iX10_lay_21 c6 ?_
          exact H
        · rw [if_neg c6] at H
          refine g_ic1f iX10_lay_21 c6 ?_
          refine g_al iX10_lay_24 rfl ?_
          refine g_gr iX10_lay_25 fr_10_0_0 ?_
          refine g_il iX10_lay_28 rfl ?_
          refine g_ci (as := [.inr 1, .inl x3]) (rest := []) iX10_lay_29 rfl rfl (Nat.le_of_ble_eq_true rfl) (Or.inr ⟨_, _, rfl, oo_1_1⟩) (rx_CI.imp H (fun v8 σ7 H => ?_))
          by_cases c9 : v8 = 0
          · rw [if_pos c9] at H
            refine g_if0t iX10_lay_32 c9 ?_
            refine g_c iX10_lay_47 ?_
            exact g_ri iX10_lay_49 (Or.inl rfl) H
          · rw [if_neg c9] at H
            refine g_if0f iX10_lay_32 c9 ?_
            exact H
      · rw [if_neg c5] at H
        refine g_ic5f iX10_lay_13 c5 ?_
        refine g_c iX10_lay_16 ?_
        exact g_ri iX10_lay_18 (Or.inl rfl) H
set_option maxRecDepth 20000 in
set_option maxHeartbeats 4000000 in
theorem bX10_lay_35 (L d : Nat) (x1 : Int) (x2 : Int) (x3 : Int) (q4 : Option rx_V) (q5 : Option rx_V) (σ : rx_St) (K : Int → rx_St → Prop)
    (H : if x2 ≠ 2 then (rx_Go L (d + 1) mX10_lay 50 [some (.inr 0), some (.inl x1), some (.inl x2), some (.inl x3), q4, q5] [] σ (rx_PI K)) else (rx_CI L d mX10_isSheet [.inl x3] σ (fun v12 σ11 => if v12 ≠ 0 then (rx_Go L (d + 1) mX10_lay 50 [some (.inr 0), some (.inl x1), some (.inl x2), some (.inl x3), q4, q5] [] σ11 (rx_PI K)) else (K (-1000000001) σ11)))) :
    rx_Go L (d + 1) mX10_lay 35 [some (.inr 0), some (.inl x1), some (.inl x2), some (.inl x3), q4, q5] [] σ (rx_PI K) := by
  refine g_il iX10_lay_35 rfl ?_
  refine g_c iX10_lay_36 ?_
  by_cases c10 : x2 ≠ 2
  · rw [if_pos c10] at H
    refine g_ic1t iX10_lay_37 c10 ?_
    exact H
  · rw [if_neg c10] at H
    refine g_ic1f iX10_lay_37 c10 ?_
    refine g_il iX10_lay_40 rfl ?_
    refine g_ci (as := [.inl x3]) (rest := []) iX10_lay_41 rfl rfl (Nat.le_of_ble_eq_true rfl) (Or.inl (by decide)) (rx_CI.imp H (fun v12 σ11 H => ?_))
    by_cases c13 : v12 ≠ 0
    · rw [if_pos c13] at H
      refine g_if1t iX10_lay_44 c13 ?_
      exact H
    · rw [if_neg c13] at H
      refine g_if1f iX10_lay_44 c13 ?_
      refine g_c iX10_lay_47 ?_
      exact g_ri iX10_lay_49 (Or.inl rfl) H
set_option maxRecDepth 20000 in
set_option maxHeartbeats 4000000 in
theorem bX10_lay_50 (L d : Nat) (x1 : Int) (x2 : Int) (x3 : Int) (q4 : Option rx_V) (q5 : Option rx_V) (σ : rx_St) (K : Int → rx_St → Prop)
    (H : if x2 ≠ 2 then (rx_Go L (d + 1) mX10_lay 70 [some (.inr 0), some (.inl x1), some (.inl x2), some (.inl x3), q4, q5] [] σ (rx_PI K)) else ((0 ≤ x3 ∧ x3 < 4) ∧ ∀ A15 : Nat, A15 = 102 + 2 * x3.toNat → rx_isO 7 A15 = true → (rx_CI L d mX7_isMissing [.inr A15] σ (fun v18 σ17 => if v18 = 0 then (rx_Go L (d + 1) mX10_lay 70 [some (.inr 0), some (.inl x1), some (.inl x2), some (.inl x3), q4, q5] [] σ17 (rx_PI K)) else (K (-1000000011) σ17))))) :
    rx_Go L (d + 1) mX10_lay 50 [some (.inr 0), some (.inl x1), some (.inl x2), some (.inl x3), q4, q5] [] σ (rx_PI K) := by
  refine g_il iX10_lay_50 rfl ?_
  refine g_c iX10_lay_51 ?_
  by_cases c14 : x2 ≠ 2
  · rw [if_pos c14] at H
    refine g_ic1t iX10_lay_52 c14 ?_
    exact H
  · rw [if_neg c14] at H
    refine g_ic1f iX10_lay_52 c14 ?_
    refine g_al iX10_lay_55 rfl ?_
    refine g_gr iX10_lay_56 fr_10_10_0 ?_
    refine g_il iX10_lay_59 rfl ?_
    obtain ⟨o16, H⟩ := H
    refine g_aa iX10_lay_60 (ae_99 o16).1 ?_
    obtain ⟨A15, eA15⟩ : ∃ z, z = 102 + 2 * x3.toNat := ⟨_, rfl⟩
    have hA15 : rx_isO 7 A15 = true := by rw [eA15]; exact (ae_99 o16).2
    rw [← eA15]
    replace H := H A15 eA15 hA15
    refine g_ci (as := [.inr A15]) (rest := []) iX10_lay_61 rfl rfl (Nat.le_of_ble_eq_true rfl) (Or.inr ⟨_, _, rfl, hA15⟩) (rx_CI.imp H (fun v18 σ17 H => ?_))
    by_cases c19 : v18 = 0
    · rw [if_pos c19] at H
      refine g_if0t iX10_lay_64 c19 ?_
      exact H
    · rw [if_neg c19] at H
      refine g_if0f iX10_lay_64 c19 ?_
      refine g_c iX10_lay_67 ?_
      exact g_ri iX10_lay_69 (Or.inl rfl) H
set_option maxRecDepth 20000 in
set_option maxHeartbeats 4000000 in
theorem bX10_lay_70 (L d : Nat) (x1 : Int) (x2 : Int) (x3 : Int) (q4 : Option rx_V) (q5 : Option rx_V) (σ : rx_St) (K : Int → rx_St → Prop)
    (H : (0 ≤ x1 ∧ x1 < 5) ∧ ∀ A20 : Nat, A20 = 110 + 3 * x1.toNat → rx_isO 8 A20 = true → (if x2 ≠ 1 then (if x2 ≠ 2 then (rx_Go L (d + 1) mX10_lay 155 [some (.inr 0), some (.inl x1), some (.inl x2), some (.inl x3), some (.inr A20), some (.inl (σ A20 0))] [] (rx_up (rx_up σ A20 0 x2) A20 4 x3) (rx_PI K)) else (∀ A24 : Nat, A24 = (A20 + 1) → rx_isO 7 A24 = true → ((0 ≤ x3 ∧ x3 < 4) ∧ ∀ A25 : Nat, A25 = 102 + 2 * x3.toNat → rx_isO 7 A25 = true → (rx_CV L d mX7_takeFrom [.inr A24, .inr A25] (rx_up σ A20 0 x2) (fun σ27 => rx_Go L (d + 1) mX10_lay 155 [some (.inr 0), some (.inl x1), some (.inl x2), some (.inl x3), some (.inr A20), some (.inl (σ A20 0))] [] σ27 (rx_PI K)))))) else ((0 ≤ x3 ∧ x3 < 18) ∧ (rx_Go L (d + 1) mX10_lay 155 [some (.inr 0), some (.inl x1), some (.inl x2), some (.inl x3), some (.inr A20), some (.inl (σ A20 0))] [] (rx_up (rx_up (rx_up σ A20 0 x2) A20 1 ((rx_up σ A20 0 x2) 7 x3)) A20 2 ((rx_up (rx_up σ A20 0 x2) A20 1 ((rx_up σ A20 0 x2) 7 x3)) 10 x3)) (rx_PI K))))) :
    rx_Go L (d + 1) mX10_lay 70 [some (.inr 0), some (.inl x1), some (.inl x2), some (.inl x3), q4, q5] [] σ (rx_PI K) := by
  refine g_al iX10_lay_70 rfl ?_
  refine g_gr iX10_lay_71 fr_10_11_0 ?_
  refine g_il iX10_lay_74 rfl ?_
  obtain ⟨o21, H⟩ := H
  refine g_aa iX10_lay_75 (ae_100 o21).1 ?_
  obtain ⟨A20, eA20⟩ : ∃ z, z = 110 + 3 * x1.toNat := ⟨_, rfl⟩
  have hA20 : rx_isO 8 A20 = true := by rw [eA20]; exact (ae_100 o21).2
  rw [← eA20]
  replace H := H A20 eA20 hA20
  refine g_as iX10_lay_76 (Nat.le_of_ble_eq_true rfl) ?_
  refine rx_Go.ls (la := [some (.inr 0), some (.inl x1), some (.inl x2), some (.inl x3), some (.inr A20), q5]) rfl ?_
  refine g_al iX10_lay_78 rfl ?_
  refine g_gf (kI := 0) rfl iX10_lay_80 (fi_8_0 hA20) ?_
  refine g_is iX10_lay_83 (Nat.le_of_ble_eq_true rfl) ?_
  refine rx_Go.ls (la := [some (.inr 0), some (.inl x1), some (.inl x2), some (.inl x3), some (.inr A20), some (.inl (σ A20 0))]) rfl ?_
  refine g_al iX10_lay_85 rfl ?_
  refine g_il iX10_lay_87 rfl ?_
  refine g_pf (kI := 0) rfl iX10_lay_88 (fi_8_0 hA20) (Or.inl rfl) ?_
  refine g_il iX10_lay_91 rfl ?_
  refine g_c iX10_lay_92 ?_
  by_cases c22 : x2 ≠ 1
  · rw [if_pos c22] at H
    refine g_ic1t iX10_lay_93 c22 ?_
    refine g_il iX10_lay_127 rfl ?_
    refine g_c iX10_lay_128 ?_
    by_cases c23 : x2 ≠ 2
    · rw [if_pos c23] at H
      refine g_ic1t iX10_lay_129 c23 ?_
      refine g_al iX10_lay_149 rfl ?_
      refine g_il iX10_lay_151 rfl ?_
      refine g_pf (kI := 4) rfl iX10_lay_152 (fi_8_4 hA20) (Or.inl rfl) ?_
      exact H
    · rw [if_neg c23] at H
      refine g_ic1f iX10_lay_129 c23 ?_
      refine g_al iX10_lay_132 rfl ?_
      refine g_gr iX10_lay_134 (fr_8_3 hA20) ?_
      obtain ⟨A24, eA24⟩ : ∃ z, z = (A20 + 1) := ⟨_, rfl⟩
      have hA24 : rx_isO 7 A24 = true := by rw [eA24]; exact so_8_1 hA20
      rw [← eA24]
      replace H := H A24 eA24 hA24
      refine g_al iX10_lay_137 rfl ?_
      refine g_gr iX10_lay_138 fr_10_10_0 ?_
      refine g_il iX10_lay_141 rfl ?_
      obtain ⟨o26, H⟩ := H
      refine g_aa iX10_lay_142 (ae_99 o26).1 ?_
      obtain ⟨A25, eA25⟩ : ∃ z, z = 102 + 2 * x3.toNat := ⟨_, rfl⟩
      have hA25 : rx_isO 7 A25 = true := by rw [eA25]; exact (ae_99 o26).2
      rw [← eA25]
      replace H := H A25 eA25 hA25
      refine g_cv (as := [.inr A24, .inr A25]) (rest := []) iX10_lay_143 rfl rfl (Nat.le_of_ble_eq_true rfl) (Or.inr ⟨_, _, rfl, hA24⟩) (rx_CV.imp H (fun σ27 H => ?_))
      refine g_goto iX10_lay_146 ?_
      exact H
  · rw [if_neg c22] at H
    refine g_ic1f iX10_lay_93 c22 ?_
    refine g_al iX10_lay_96 rfl ?_
    refine g_al iX10_lay_98 rfl ?_
    refine g_gr iX10_lay_99 fr_10_0_0 ?_
    refine g_gr iX10_lay_102 fr_1_7_1 ?_
    refine g_il iX10_lay_105 rfl ?_
    obtain ⟨o28, H⟩ := H
    refine g_ld iX10_lay_106 (ln_7 L) o28 ?_
    refine g_pf (kI := 1) rfl iX10_lay_107 (fi_8_1 hA20) (Or.inl rfl) ?_
    refine g_al iX10_lay_110 rfl ?_
    refine g_al iX10_lay_112 rfl ?_
    refine g_gr iX10_lay_113 fr_10_0_0 ?_
    refine g_gr iX10_lay_116 fr_1_10_1 ?_
    refine g_il iX10_lay_119 rfl ?_
    refine g_ld iX10_lay_120 (ln_10 L) o28 ?_
    refine g_pf (kI := 2) rfl iX10_lay_121 (fi_8_2 hA20) (Or.inl rfl) ?_
    refine g_goto iX10_lay_124 ?_
    exact H
set_option maxRecDepth 20000 in
set_option maxHeartbeats 4000000 in
theorem bX10_lay_155 (L d : Nat) (q0 : Option rx_V) (q1 : Option rx_V) (q2 : Option rx_V) (q3 : Option rx_V) (q4 : Option rx_V) (x5 : Int) (σ : rx_St) (K : Int → rx_St → Prop)
    (H : K x5 σ) :
    rx_Go L (d + 1) mX10_lay 155 [q0, q1, q2, q3, q4, some (.inl x5)] [] σ (rx_PI K) := by
  refine g_il iX10_lay_155 rfl ?_
  exact g_ri iX10_lay_157 (Or.inl rfl) H
set_option maxRecDepth 20000 in
set_option maxHeartbeats 4000000 in
theorem bX10_ask (L d : Nat) (x1 : Int) (x2 : Int) (σ : rx_St) (K : Int → rx_St → Prop)
    (H : rx_CI L d mX10_isSlot [.inl x1] σ (fun v2 σ1 => if v2 = 0 then (K (-1000000001) σ1) else (rx_CI L d mX10_isKind [.inl x2] σ1 (fun v5 σ4 => if v5 ≠ 0 then ((0 ≤ x1 ∧ x1 < 5) ∧ ∀ A7 : Nat, A7 = 110 + 3 * x1.toNat → rx_isO 8 A7 = true → (rx_CI L d mX8_refusalAs [.inr A7, .inl 1] σ4 (fun v10 σ9 => if v10 = 0 then (rx_CI L d mX10_isUnder [.inl (σ9 A7 1), .inl x2] σ9 (fun v13 σ12 => if v13 = 0 then (K (-1000000012) σ12) else (rx_CI L d mX10_worthOf [.inl (σ12 A7 1), .inl (σ12 A7 2)] σ12 (fun v16 σ15 => K v16 σ15)))) else (K v10 σ9)))) else (K (-1000000001) σ4))))) :
    rx_CI L (d + 1) mX10_ask [.inr 0, .inl x1, .inl x2] σ K := by
  refine rx_CI.of (la := [some (.inr 0), some (.inl x1), some (.inl x2), none, none]) rfl ?_
  refine g_il iX10_ask_0 rfl ?_
  refine g_ci (as := [.inl x1]) (rest := []) iX10_ask_1 rfl rfl (Nat.le_of_ble_eq_true rfl) (Or.inl (by decide)) (rx_CI.imp H (fun v2 σ1 H => ?_))
  by_cases c3 : v2 = 0
  · rw [if_pos c3] at H
    refine g_if0t iX10_ask_4 c3 ?_
    refine g_c iX10_ask_14 ?_
    exact g_ri iX10_ask_16 (Or.inl rfl) H
  · rw [if_neg c3] at H
    refine g_if0f iX10_ask_4 c3 ?_
    refine g_il iX10_ask_7 rfl ?_
    refine g_ci (as := [.inl x2]) (rest := []) iX10_ask_8 rfl rfl (Nat.le_of_ble_eq_true rfl) (Or.inl (by decide)) (rx_CI.imp H (fun v5 σ4 H => ?_))
    by_cases c6 : v5 ≠ 0
    · rw [if_pos c6] at H
      refine g_if1t iX10_ask_11 c6 ?_
      refine g_al iX10_ask_17 rfl ?_
      refine g_gr iX10_ask_18 fr_10_11_0 ?_
      refine g_il iX10_ask_21 rfl ?_
      obtain ⟨o8, H⟩ := H
      refine g_aa iX10_ask_22 (ae_100 o8).1 ?_
      obtain ⟨A7, eA7⟩ : ∃ z, z = 110 + 3 * x1.toNat := ⟨_, rfl⟩
      have hA7 : rx_isO 8 A7 = true := by rw [eA7]; exact (ae_100 o8).2
      rw [← eA7]
      replace H := H A7 eA7 hA7
      refine g_as iX10_ask_23 (Nat.le_of_ble_eq_true rfl) ?_
      refine rx_Go.ls (la := [some (.inr 0), some (.inl x1), some (.inl x2), some (.inr A7), none]) rfl ?_
      refine g_al iX10_ask_24 rfl ?_
      refine g_c iX10_ask_25 ?_
      refine g_ci (as := [.inr A7, .inl 1]) (rest := []) iX10_ask_26 rfl rfl (Nat.le_of_ble_eq_true rfl) (Or.inr ⟨_, _, rfl, hA7⟩) (rx_CI.imp H (fun v10 σ9 H => ?_))
      refine g_is iX10_ask_29 (Nat.le_of_ble_eq_true rfl) ?_
      refine rx_Go.ls (la := [some (.inr 0), some (.inl x1), some (.inl x2), some (.inr A7), some (.inl v10)]) rfl ?_
      refine g_il iX10_ask_31 rfl ?_
      by_cases c11 : v10 = 0
      · rw [if_pos c11] at H
        refine g_if0t iX10_ask_33 c11 ?_
        refine g_al iX10_ask_39 rfl ?_
        refine g_gf (kI := 1) rfl iX10_ask_40 (fi_8_1 hA7) ?_
        refine g_il iX10_ask_43 rfl ?_
        refine g_ci (as := [.inl (σ9 A7 1), .inl x2]) (rest := []) iX10_ask_44 rfl rfl (Nat.le_of_ble_eq_true rfl) (Or.inl (by decide)) (rx_CI.imp H (fun v13 σ12 H => ?_))
        by_cases c14 : v13 = 0
        · rw [if_pos c14] at H
          refine g_if0t iX10_ask_47 c14 ?_
          refine g_c iX10_ask_64 ?_
          exact g_ri iX10_ask_66 (Or.inl rfl) H
        · rw [if_neg c14] at H
          refine g_if0f iX10_ask_47 c14 ?_
          refine g_al iX10_ask_50 rfl ?_
          refine g_gf (kI := 1) rfl iX10_ask_51 (fi_8_1 hA7) ?_
          refine g_al iX10_ask_54 rfl ?_
          refine g_gf (kI := 2) rfl iX10_ask_55 (fi_8_2 hA7) ?_
          refine g_ci (as := [.inl (σ12 A7 1), .inl (σ12 A7 2)]) (rest := []) iX10_ask_58 rfl rfl (Nat.le_of_ble_eq_true rfl) (Or.inl (by decide)) (rx_CI.imp H (fun v16 σ15 H => ?_))
          refine g_goto iX10_ask_61 ?_
          exact g_ri iX10_ask_66 (Or.inl rfl) H
      · rw [if_neg c11] at H
        refine g_if0f iX10_ask_33 c11 ?_
        refine g_il iX10_ask_36 rfl ?_
        exact g_ri iX10_ask_38 (Or.inl rfl) H
    · rw [if_neg c6] at H
      refine g_if1f iX10_ask_11 c6 ?_
      refine g_c iX10_ask_14 ?_
      exact g_ri iX10_ask_16 (Or.inl rfl) H
set_option maxRecDepth 20000 in
set_option maxHeartbeats 4000000 in
theorem bX10_item (L d : Nat) (x1 : Int) (x2 : Int) (σ : rx_St) (K : Int → rx_St → Prop)
    (H : rx_CI L d mX10_isSlot [.inl x1] σ (fun v2 σ1 => if v2 ≠ 0 then ((0 ≤ x1 ∧ x1 < 5) ∧ ∀ A4 : Nat, A4 = 110 + 3 * x1.toNat → rx_isO 8 A4 = true → (rx_CI L d mX8_refusalAs [.inr A4, .inl 2] σ1 (fun v7 σ6 => if v7 = 0 then (∀ A9 : Nat, A9 = (A4 + 1) → rx_isO 7 A9 = true → (rx_CI L d mX7_hasPlace [.inr A9, .inl x2] σ6 (fun v11 σ10 => if v11 ≠ 0 then (∀ A13 : Nat, A13 = (A4 + 1) → rx_isO 7 A13 = true → ((0 ≤ x2 ∧ x2 < 24) ∧ (if (σ10 (A13 + 1) x2) ≠ (-1000000005) then (K (σ10 (A13 + 1) x2) σ10) else (K (-1000000012) σ10)))) else (K (-1000000013) σ10)))) else (K v7 σ6)))) else (K (-1000000001) σ1))) :
    rx_CI L (d + 1) mX10_item [.inr 0, .inl x1, .inl x2] σ K := by
  refine rx_CI.of (la := [some (.inr 0), some (.inl x1), some (.inl x2), none, none, none]) rfl ?_
  refine g_il iX10_item_0 rfl ?_
  refine g_ci (as := [.inl x1]) (rest := []) iX10_item_1 rfl rfl (Nat.le_of_ble_eq_true rfl) (Or.inl (by decide)) (rx_CI.imp H (fun v2 σ1 H => ?_))
  by_cases c3 : v2 ≠ 0
  · rw [if_pos c3] at H
    refine g_if1t iX10_item_4 c3 ?_
    refine g_al iX10_item_10 rfl ?_
    refine g_gr iX10_item_11 fr_10_11_0 ?_
    refine g_il iX10_item_14 rfl ?_
    obtain ⟨o5, H⟩ := H
    refine g_aa iX10_item_15 (ae_100 o5).1 ?_
    obtain ⟨A4, eA4⟩ : ∃ z, z = 110 + 3 * x1.toNat := ⟨_, rfl⟩
    have hA4 : rx_isO 8 A4 = true := by rw [eA4]; exact (ae_100 o5).2
    rw [← eA4]
    replace H := H A4 eA4 hA4
    refine g_as iX10_item_16 (Nat.le_of_ble_eq_true rfl) ?_
    refine rx_Go.ls (la := [some (.inr 0), some (.inl x1), some (.inl x2), some (.inr A4), none, none]) rfl ?_
    refine g_al iX10_item_17 rfl ?_
    refine g_c iX10_item_18 ?_
    refine g_ci (as := [.inr A4, .inl 2]) (rest := []) iX10_item_19 rfl rfl (Nat.le_of_ble_eq_true rfl) (Or.inr ⟨_, _, rfl, hA4⟩) (rx_CI.imp H (fun v7 σ6 H => ?_))
    refine g_is iX10_item_22 (Nat.le_of_ble_eq_true rfl) ?_
    refine rx_Go.ls (la := [some (.inr 0), some (.inl x1), some (.inl x2), some (.inr A4), some (.inl v7), none]) rfl ?_
    refine g_il iX10_item_24 rfl ?_
    by_cases c8 : v7 = 0
    · rw [if_pos c8] at H
      refine g_if0t iX10_item_26 c8 ?_
      refine g_al iX10_item_32 rfl ?_
      refine g_gr iX10_item_33 (fr_8_3 hA4) ?_
      obtain ⟨A9, eA9⟩ : ∃ z, z = (A4 + 1) := ⟨_, rfl⟩
      have hA9 : rx_isO 7 A9 = true := by rw [eA9]; exact so_8_1 hA4
      rw [← eA9]
      replace H := H A9 eA9 hA9
      refine g_il iX10_item_36 rfl ?_
      refine g_ci (as := [.inr A9, .inl x2]) (rest := []) iX10_item_37 rfl rfl (Nat.le_of_ble_eq_true rfl) (Or.inr ⟨_, _, rfl, hA9⟩) (rx_CI.imp H (fun v11 σ10 H => ?_))
      by_cases c12 : v11 ≠ 0
      · rw [if_pos c12] at H
        refine g_if1t iX10_item_40 c12 ?_
        refine g_al iX10_item_47 rfl ?_
        refine g_gr iX10_item_48 (fr_8_3 hA4) ?_
        obtain ⟨A13, eA13⟩ : ∃ z, z = (A4 + 1) := ⟨_, rfl⟩
        have hA13 : rx_isO 7 A13 = true := by rw [eA13]; exact so_8_1 hA4
        rw [← eA13]
        replace H := H A13 eA13 hA13
        refine g_gr iX10_item_51 (fr_7_2 hA13) ?_
        refine g_il iX10_item_54 rfl ?_
        obtain ⟨o14, H⟩ := H
        refine g_ld iX10_item_55 (ln_7_o1 L hA13).1 o14 ?_
        refine g_is iX10_item_56 (Nat.le_of_ble_eq_true rfl) ?_
        refine rx_Go.ls (la := [some (.inr 0), some (.inl x1), some (.inl x2), some (.inr A4), some (.inl v7), some (.inl (σ10 (A13 + 1) x2))]) rfl ?_
        refine g_il iX10_item_58 rfl ?_
        refine g_c iX10_item_60 ?_
        by_cases c15 : (σ10 (A13 + 1) x2) ≠ (-1000000005)
        · rw [if_pos c15] at H
          refine g_ic1t iX10_item_62 c15 ?_
          refine g_il iX10_item_70 rfl ?_
          exact g_ri iX10_item_72 (Or.inl rfl) H
        · rw [if_neg c15] at H
          refine g_ic1f iX10_item_62 c15 ?_
          refine g_c iX10_item_65 ?_
          refine g_goto iX10_item_67 ?_
          exact g_ri iX10_item_72 (Or.inl rfl) H
      · rw [if_neg c12] at H
        refine g_if1f iX10_item_40 c12 ?_
        refine g_c iX10_item_43 ?_
        exact g_ri iX10_item_46 (Or.inl rfl) H
    · rw [if_neg c8] at H
      refine g_if0f iX10_item_26 c8 ?_
      refine g_il iX10_item_29 rfl ?_
      exact g_ri iX10_item_31 (Or.inl rfl) H
  · rw [if_neg c3] at H
    refine g_if1f iX10_item_4 c3 ?_
    refine g_c iX10_item_7 ?_
    exact g_ri iX10_item_9 (Or.inl rfl) H
set_option maxRecDepth 20000 in
set_option maxHeartbeats 4000000 in
theorem bX10_rest (L d : Nat) (x1 : Int) (x2 : Int) (σ : rx_St) (K : Int → rx_St → Prop)
    (H : rx_CI L d mX10_isSlot [.inl x1] σ (fun v2 σ1 => if v2 ≠ 0 then ((0 ≤ x1 ∧ x1 < 5) ∧ ∀ A4 : Nat, A4 = 110 + 3 * x1.toNat → rx_isO 8 A4 = true → (rx_CI L d mX8_refusalAs [.inr A4, .inl 3] σ1 (fun v7 σ6 => if v7 = 0 then (if x2 ≠ 0 then (¬ x2 = 0 ∧ (K (Int.tmod (σ6 A4 4) x2) σ6)) else (K (-1000000002) σ6)) else (K v7 σ6)))) else (K (-1000000001) σ1))) :
    rx_CI L (d + 1) mX10_rest [.inr 0, .inl x1, .inl x2] σ K := by
  refine rx_CI.of (la := [some (.inr 0), some (.inl x1), some (.inl x2), none, none]) rfl ?_
  refine g_il iX10_rest_0 rfl ?_
  refine g_ci (as := [.inl x1]) (rest := []) iX10_rest_1 rfl rfl (Nat.le_of_ble_eq_true rfl) (Or.inl (by decide)) (rx_CI.imp H (fun v2 σ1 H => ?_))
  by_cases c3 : v2 ≠ 0
  · rw [if_pos c3] at H
    refine g_if1t iX10_rest_4 c3 ?_
    refine g_al iX10_rest_10 rfl ?_
    refine g_gr iX10_rest_11 fr_10_11_0 ?_
    refine g_il iX10_rest_14 rfl ?_
    obtain ⟨o5, H⟩ := H
    refine g_aa iX10_rest_15 (ae_100 o5).1 ?_
    obtain ⟨A4, eA4⟩ : ∃ z, z = 110 + 3 * x1.toNat := ⟨_, rfl⟩
    have hA4 : rx_isO 8 A4 = true := by rw [eA4]; exact (ae_100 o5).2
    rw [← eA4]
    replace H := H A4 eA4 hA4
    refine g_as iX10_rest_16 (Nat.le_of_ble_eq_true rfl) ?_
    refine rx_Go.ls (la := [some (.inr 0), some (.inl x1), some (.inl x2), some (.inr A4), none]) rfl ?_
    refine g_al iX10_rest_17 rfl ?_
    refine g_c iX10_rest_18 ?_
    refine g_ci (as := [.inr A4, .inl 3]) (rest := []) iX10_rest_19 rfl rfl (Nat.le_of_ble_eq_true rfl) (Or.inr ⟨_, _, rfl, hA4⟩) (rx_CI.imp H (fun v7 σ6 H => ?_))
    refine g_is iX10_rest_22 (Nat.le_of_ble_eq_true rfl) ?_
    refine rx_Go.ls (la := [some (.inr 0), some (.inl x1), some (.inl x2), some (.inr A4), some (.inl v7)]) rfl ?_
    refine g_il iX10_rest_24 rfl ?_
    by_cases c8 : v7 = 0
    · rw [if_pos c8] at H
      refine g_if0t iX10_rest_26 c8 ?_
      refine g_il iX10_rest_32 rfl ?_
      by_cases c9 : x2 ≠ 0
      · rw [if_pos c9] at H
        refine g_if1t iX10_rest_33 c9 ?_
        refine g_al iX10_rest_41 rfl ?_
        refine g_gf (kI := 4) rfl iX10_rest_42 (fi_8_4 hA4) ?_
        refine g_il iX10_rest_45 rfl ?_
        obtain ⟨o10, H⟩ := H
        refine g_rem iX10_rest_46 o10 ?_
        exact g_ri iX10_rest_47 (Or.inl rfl) H
      · rw [if_neg c9] at H
        refine g_if1f iX10_rest_33 c9 ?_
        refine g_c iX10_rest_36 ?_
        refine g_goto iX10_rest_38 ?_
        exact g_ri iX10_rest_47 (Or.inl rfl) H
    · rw [if_neg c8] at H
      refine g_if0f iX10_rest_26 c8 ?_
      refine g_il iX10_rest_29 rfl ?_
      exact g_ri iX10_rest_31 (Or.inl rfl) H
  · rw [if_neg c3] at H
    refine g_if1f iX10_rest_4 c3 ?_
    refine g_c iX10_rest_7 ?_
    exact g_ri iX10_rest_9 (Or.inl rfl) H
set_option maxRecDepth 20000 in
set_option maxHeartbeats 4000000 in
theorem bX10_tell (L d : Nat) (x1 : Int) (σ : rx_St) (K : Int → rx_St → Prop)
    (H : if (σ 0 13) < 60 then ((0 ≤ (σ 0 13) ∧ (σ 0 13) < 60) ∧ (K ((rx_up (rx_up σ 101 (σ 0 13) x1) 0 13 (rx_w (((rx_up σ 101 (σ 0 13) x1) 0 13) + 1))) 0 13) (rx_up (rx_up σ 101 (σ 0 13) x1) 0 13 (rx_w (((rx_up σ 101 (σ 0 13) x1) 0 13) + 1))))) else (K (-1000000003) σ)) :
    rx_CI L d mX10_tell [.inr 0, .inl x1] σ K := by
  refine rx_CI.of (la := [some (.inr 0), some (.inl x1)]) rfl ?_
  refine g_al iX10_tell_0 rfl ?_
  refine g_gf (kI := 13) rfl iX10_tell_1 fi_10_13_0 ?_
  refine g_c iX10_tell_4 ?_
  by_cases c1 : (σ 0 13) < 60
  · rw [if_pos c1] at H
    refine g_ic2t iX10_tell_6 c1 ?_
    refine g_al iX10_tell_13 rfl ?_
    refine g_gr iX10_tell_14 fr_10_12_0 ?_
    refine g_al iX10_tell_17 rfl ?_
    refine g_gf (kI := 13) rfl iX10_tell_18 fi_10_13_0 ?_
    refine g_il iX10_tell_21 rfl ?_
    obtain ⟨o2, H⟩ := H
    refine g_st iX10_tell_22 (ln_101 L) (by decide) o2 rfl ?_
    refine g_al iX10_tell_23 rfl ?_
    refine g_dup iX10_tell_24 ?_
    refine g_gf (kI := 13) rfl iX10_tell_25 fi_10_13_0 ?_
    refine g_c iX10_tell_28 ?_
    refine g_add iX10_tell_29 ?_
    refine g_pf (kI := 13) rfl iX10_tell_30 fi_10_13_0 (Or.inl rfl) ?_
    refine g_al iX10_tell_33 rfl ?_
    refine g_gf (kI := 13) rfl iX10_tell_34 fi_10_13_0 ?_
    exact g_ri iX10_tell_37 (Or.inl rfl) H
  · rw [if_neg c1] at H
    refine g_ic2f iX10_tell_6 c1 ?_
    refine g_c iX10_tell_9 ?_
    exact g_ri iX10_tell_12 (Or.inl rfl) H
set_option maxRecDepth 20000 in
set_option maxHeartbeats 4000000 in
theorem bX10_check (L d : Nat) (x1 : Int) (σ : rx_St) (K : Int → rx_St → Prop)
    (H : if x1 < 1 then (K (-1000000001) (rx_up σ 0 13 0)) else (if x1 ≤ 30 then (if ((rx_up σ 0 13 0) 0 3) ≠ 0 then (rx_CI L d mX10_checkSwapsTold [.inr 0, .inl x1, .inl (σ 0 13)] (rx_up σ 0 13 0) (fun v5 σ4 => K v5 σ4)) else (K (-1000000002) (rx_up σ 0 13 0))) else (K (-1000000001) (rx_up σ 0 13 0)))) :
    rx_CI L (d + 1) mX10_check [.inr 0, .inl x1] σ K := by
  refine rx_CI.of (la := [some (.inr 0), some (.inl x1), none]) rfl ?_
  refine g_al iX10_check_0 rfl ?_
  refine g_gf (kI := 13) rfl iX10_check_1 fi_10_13_0 ?_
  refine g_is iX10_check_4 (Nat.le_of_ble_eq_true rfl) ?_
  refine rx_Go.ls (la := [some (.inr 0), some (.inl x1), some (.inl (σ 0 13))]) rfl ?_
  refine g_al iX10_check_5 rfl ?_
  refine g_c iX10_check_6 ?_
  refine g_pf (kI := 13) rfl iX10_check_7 fi_10_13_0 (Or.inl rfl) ?_
  refine g_il iX10_check_10 rfl ?_
  refine g_c iX10_check_11 ?_
  by_cases c1 : x1 < 1
  · rw [if_pos c1] at H
    refine g_ic2t iX10_check_12 c1 ?_
    refine g_c iX10_check_21 ?_
    exact g_ri iX10_check_23 (Or.inl rfl) H
  · rw [if_neg c1] at H
    refine g_ic2f iX10_check_12 c1 ?_
    refine g_il iX10_check_15 rfl ?_
    refine g_c iX10_check_16 ?_
    by_cases c2 : x1 ≤ 30
    · rw [if_pos c2] at H
      refine g_ic5t iX10_check_18 c2 ?_
      refine g_al iX10_check_24 rfl ?_
      refine g_gf (kI := 3) rfl iX10_check_25 fi_10_3_0 ?_
      by_cases c3 : ((rx_up σ 0 13 0) 0 3) ≠ 0
      · rw [if_pos c3] at H
        refine g_if1t iX10_check_28 c3 ?_
        refine g_al iX10_check_34 rfl ?_
        refine g_il iX10_check_35 rfl ?_
        refine g_il iX10_check_36 rfl ?_
        refine g_ci (as := [.inr 0, .inl x1, .inl (σ 0 13)]) (rest := []) iX10_check_37 rfl rfl (Nat.le_of_ble_eq_true rfl) (Or.inr ⟨_, _, rfl, oo_10_0⟩) (rx_CI.imp H (fun v5 σ4 H => ?_))
        exact g_ri iX10_check_40 (Or.inl rfl) H
      · rw [if_neg c3] at H
        refine g_if1f iX10_check_28 c3 ?_
        refine g_c iX10_check_31 ?_
        exact g_ri iX10_check_33 (Or.inl rfl) H
    · rw [if_neg c2] at H
      refine g_ic5f iX10_check_18 c2 ?_
      refine g_c iX10_check_21 ?_
      exact g_ri iX10_check_23 (Or.inl rfl) H
set_option maxRecDepth 20000 in
set_option maxHeartbeats 4000000 in
theorem bX10_keep (L d : Nat)  (σ : rx_St) (K : Int → rx_St → Prop)
    (H : rx_CV L d mX1_takeFrom [.inr 12, .inr 1] σ (fun σ1 => K ((rx_up σ1 0 3 1) 12 6) (rx_up σ1 0 3 1))) :
    rx_CI L (d + 1) mX10_keep [.inr 0] σ K := by
  refine rx_CI.of (la := [some (.inr 0)]) rfl ?_
  refine g_al iX10_keep_0 rfl ?_
  refine g_gr iX10_keep_1 fr_10_1_0 ?_
  refine g_al iX10_keep_4 rfl ?_
  refine g_gr iX10_keep_5 fr_10_0_0 ?_
  refine g_cv (as := [.inr 12, .inr 1]) (rest := []) iX10_keep_8 rfl rfl (Nat.le_of_ble_eq_true rfl) (Or.inr ⟨_, _, rfl, oo_1_12⟩) (rx_CV.imp H (fun σ1 H => ?_))
  refine g_al iX10_keep_11 rfl ?_
  refine g_c iX10_keep_12 ?_
  refine g_pf (kI := 3) rfl iX10_keep_13 fi_10_3_0 (by decide) ?_
  refine g_al iX10_keep_16 rfl ?_
  refine g_gr iX10_keep_17 fr_10_1_0 ?_
  refine g_gf (kI := 6) rfl iX10_keep_20 fi_1_6_12 ?_
  exact g_ri iX10_keep_23 (Or.inl rfl) H
set_option maxRecDepth 20000 in
set_option maxHeartbeats 4000000 in
theorem bX10_back (L d : Nat)  (σ : rx_St) (K : Int → rx_St → Prop)
    (H : if (σ 0 3) ≠ 0 then (rx_CV L d mX1_takeFrom [.inr 1, .inr 12] σ (fun σ2 => K (σ2 1 6) σ2)) else (K (-1000000002) σ)) :
    rx_CI L (d + 1) mX10_back [.inr 0] σ K := by
  refine rx_CI.of (la := [some (.inr 0)]) rfl ?_
  refine g_al iX10_back_0 rfl ?_
  refine g_gf (kI := 3) rfl iX10_back_1 fi_10_3_0 ?_
  by_cases c1 : (σ 0 3) ≠ 0
  · rw [if_pos c1] at H
    refine g_if1t iX10_back_4 c1 ?_
    refine g_al iX10_back_10 rfl ?_
    refine g_gr iX10_back_11 fr_10_0_0 ?_
    refine g_al iX10_back_14 rfl ?_
    refine g_gr iX10_back_15 fr_10_1_0 ?_
    refine g_cv (as := [.inr 1, .inr 12]) (rest := []) iX10_back_18 rfl rfl (Nat.le_of_ble_eq_true rfl) (Or.inr ⟨_, _, rfl, oo_1_1⟩) (rx_CV.imp H (fun σ2 H => ?_))
    refine g_al iX10_back_21 rfl ?_
    refine g_gr iX10_back_22 fr_10_0_0 ?_
    refine g_gf (kI := 6) rfl iX10_back_25 fi_1_6_1 ?_
    exact g_ri iX10_back_28 (Or.inl rfl) H
  · rw [if_neg c1] at H
    refine g_if1f iX10_back_4 c1 ?_
    refine g_c iX10_back_7 ?_
    exact g_ri iX10_back_9 (Or.inl rfl) H
set_option maxRecDepth 20000 in
set_option maxHeartbeats 4000000 in
theorem bX10_count (L d : Nat) (x1 : Int) (σ : rx_St) (K : Int → rx_St → Prop)
    (H : if x1 = 0 then (K (σ 1 0) σ) else (if x1 = 1 then (K (σ 1 6) σ) else (if x1 = 2 then (K (σ 1 12) σ) else (if x1 = 3 then (K (σ 0 13) σ) else (if x1 = 4 then (K (σ 34 0) σ) else (if x1 = 5 then (K (σ 1 13) σ) else (K (-1000000001) σ))))))) :
    rx_CI L d mX10_count [.inr 0, .inl x1] σ K := by
  refine rx_CI.of (la := [some (.inr 0), some (.inl x1)]) rfl ?_
  refine g_il iX10_count_0 rfl ?_
  by_cases c1 : x1 = 0
  · rw [if_pos c1] at H
    refine g_sw iX10_count_1 (by simp only [rx_sw]; rw [if_pos c1]) ?_
    refine g_al iX10_count_40 rfl ?_
    refine g_gr iX10_count_41 fr_10_0_0 ?_
    refine g_gf (kI := 0) rfl iX10_count_44 fi_1_0_1 ?_
    exact g_ri iX10_count_47 (Or.inl rfl) H
  · rw [if_neg c1] at H
    by_cases c2 : x1 = 1
    · rw [if_pos c2] at H
      refine g_sw iX10_count_1 (by simp only [rx_sw]; rw [if_neg c1, if_pos c2]) ?_
      refine g_al iX10_count_48 rfl ?_
      refine g_gr iX10_count_49 fr_10_0_0 ?_
      refine g_gf (kI := 6) rfl iX10_count_52 fi_1_6_1 ?_
      exact g_ri iX10_count_55 (Or.inl rfl) H
    · rw [if_neg c2] at H
      by_cases c3 : x1 = 2
      · rw [if_pos c3] at H
        refine g_sw iX10_count_1 (by simp only [rx_sw]; rw [if_neg c1, if_neg c2, if_pos c3]) ?_
        refine g_al iX10_count_56 rfl ?_
        refine g_gr iX10_count_57 fr_10_0_0 ?_
        refine g_gf (kI := 12) rfl iX10_count_60 fi_1_12_1 ?_
        exact g_ri iX10_count_63 (Or.inl rfl) H
      · rw [if_neg c3] at H
        by_cases c4 : x1 = 3
        · rw [if_pos c4] at H
          refine g_sw iX10_count_1 (by simp only [rx_sw]; rw [if_neg c1, if_neg c2, if_neg c3, if_pos c4]) ?_
          refine g_al iX10_count_64 rfl ?_
          refine g_gf (kI := 13) rfl iX10_count_65 fi_10_13_0 ?_
          exact g_ri iX10_count_68 (Or.inl rfl) H
        · rw [if_neg c4] at H
          by_cases c5 : x1 = 4
          · rw [if_pos c5] at H
            refine g_sw iX10_count_1 (by simp only [rx_sw]; rw [if_neg c1, if_neg c2, if_neg c3, if_neg c4, if_pos c5]) ?_
            refine g_al iX10_count_69 rfl ?_
            refine g_gr iX10_count_70 fr_10_4_0 ?_
            refine g_gf (kI := 0) rfl iX10_count_73 fi_5_0_34 ?_
            exact g_ri iX10_count_76 (Or.inl rfl) H
          · rw [if_neg c5] at H
            by_cases c6 : x1 = 5
            · rw [if_pos c6] at H
              refine g_sw iX10_count_1 (by simp only [rx_sw]; rw [if_neg c1, if_neg c2, if_neg c3, if_neg c4, if_neg c5, if_pos c6]) ?_
              refine g_al iX10_count_77 rfl ?_
              refine g_gr iX10_count_78 fr_10_0_0 ?_
              refine g_gf (kI := 13) rfl iX10_count_81 fi_1_13_1 ?_
              exact g_ri iX10_count_84 (Or.inl rfl) H
            · rw [if_neg c6] at H
              refine g_sw (t := 85) iX10_count_1 (by simp only [rx_sw, c1, c2, c3, c4, c5, c6, if_false]) ?_
              refine g_c iX10_count_85 ?_
              exact g_ri iX10_count_87 (Or.inl rfl) H
set_option maxRecDepth 20000 in
set_option maxHeartbeats 4000000 in
theorem bX10_crossingsTold (L d : Nat) (x1 : Int) (x2 : Int) (σ : rx_St) (K : Int → rx_St → Prop)
    (H : if x2 ≠ 0 then (if x2 = 1 then (rx_CV L d mX0_reckon [.inr 37, .inr 1] σ (fun σ3 => rx_CI L d mX0_sum [.inr 37, .inr 1, .inl x1, .inl 2147483647] σ3 (fun v5 σ4 => K v5 σ4))) else (K (-1000000001) σ)) else (rx_CI L d mX1_pairsThatMeet [.inr 1, .inl x1] σ (fun v7 σ6 => K v7 σ6))) :
    rx_CI L (d + 1) mX10_crossingsTold [.inr 0, .inl x1, .inl x2] σ K := by
  refine rx_CI.of (la := [some (.inr 0), some (.inl x1), some (.inl x2)]) rfl ?_
  refine g_il iX10_crossingsTold_0 rfl ?_
  by_cases c1 : x2 ≠ 0
  · rw [if_pos c1] at H
    refine g_if1t iX10_crossingsTold_1 c1 ?_
    refine g_il iX10_crossingsTold_13 rfl ?_
    refine g_c iX10_crossingsTold_14 ?_
    by_cases c2 : x2 = 1
    · rw [if_pos c2] at H
      refine g_ic0t iX10_crossingsTold_15 c2 ?_
      refine g_al iX10_crossingsTold_21 rfl ?_
      refine g_gr iX10_crossingsTold_22 fr_10_5_0 ?_
      refine g_al iX10_crossingsTold_25 rfl ?_
      refine g_gr iX10_crossingsTold_26 fr_10_0_0 ?_
      refine g_cv (as := [.inr 37, .inr 1]) (rest := []) iX10_crossingsTold_29 rfl rfl (Nat.le_of_ble_eq_true rfl) (Or.inr ⟨_, _, rfl, oo_0_37⟩) (rx_CV.imp H (fun σ3 H => ?_))
      refine g_al iX10_crossingsTold_32 rfl ?_
      refine g_gr iX10_crossingsTold_33 fr_10_5_0 ?_
      refine g_al iX10_crossingsTold_36 rfl ?_
      refine g_gr iX10_crossingsTold_37 fr_10_0_0 ?_
      refine g_il iX10_crossingsTold_40 rfl ?_
      refine g_c iX10_crossingsTold_41 ?_
      refine g_ci (as := [.inr 37, .inr 1, .inl x1, .inl 2147483647]) (rest := []) iX10_crossingsTold_43 rfl rfl (Nat.le_of_ble_eq_true rfl) (Or.inr ⟨_, _, rfl, oo_0_37⟩) (rx_CI.imp H (fun v5 σ4 H => ?_))
      exact g_ri iX10_crossingsTold_46 (Or.inl rfl) H
    · rw [if_neg c2] at H
      refine g_ic0f iX10_crossingsTold_15 c2 ?_
      refine g_c iX10_crossingsTold_18 ?_
      exact g_ri iX10_crossingsTold_20 (Or.inl rfl) H
  · rw [if_neg c1] at H
    refine g_if1f iX10_crossingsTold_1 c1 ?_
    refine g_al iX10_crossingsTold_4 rfl ?_
    refine g_gr iX10_crossingsTold_5 fr_10_0_0 ?_
    refine g_il iX10_crossingsTold_8 rfl ?_
    refine g_ci (as := [.inr 1, .inl x1]) (rest := []) iX10_crossingsTold_9 rfl rfl (Nat.le_of_ble_eq_true rfl) (Or.inr ⟨_, _, rfl, oo_1_1⟩) (rx_CI.imp H (fun v7 σ6 H => ?_))
    exact g_ri iX10_crossingsTold_12 (Or.inl rfl) H
set_option maxRecDepth 20000 in
set_option maxHeartbeats 4000000 in
theorem bX10_dearestRoad (L d : Nat)  (σ : rx_St) (K : Int → rx_St → Prop)
    (H : rx_CI L d mX1_pairsThatMeet [.inr 1, .inl 0] σ (fun v2 σ1 => if v2 ≠ 0 then (rx_CV L d mX0_reckon [.inr 37, .inr 1] σ1 (fun σ4 => rx_Go L (d + 1) mX10_dearestRoad 31 [some (.inr 0), some (.inl 0), some (.inl (-1)), some (.inl 0), none] [] σ4 (rx_PI K))) else (K (-1000000005) σ1))) :
    rx_CI L (d + 1) mX10_dearestRoad [.inr 0] σ K := by
  refine rx_CI.of (la := [some (.inr 0), none, none, none, none]) rfl ?_
  refine g_al iX10_dearestRoad_0 rfl ?_
  refine g_gr iX10_dearestRoad_1 fr_10_0_0 ?_
  refine g_c iX10_dearestRoad_4 ?_
  refine g_ci (as := [.inr 1, .inl 0]) (rest := []) iX10_dearestRoad_5 rfl rfl (Nat.le_of_ble_eq_true rfl) (Or.inr ⟨_, _, rfl, oo_1_1⟩) (rx_CI.imp H (fun v2 σ1 H => ?_))
  by_cases c3 : v2 ≠ 0
  · rw [if_pos c3] at H
    refine g_if1t iX10_dearestRoad_8 c3 ?_
    refine g_al iX10_dearestRoad_14 rfl ?_
    refine g_gr iX10_dearestRoad_15 fr_10_5_0 ?_
    refine g_al iX10_dearestRoad_18 rfl ?_
    refine g_gr iX10_dearestRoad_19 fr_10_0_0 ?_
    refine g_cv (as := [.inr 37, .inr 1]) (rest := []) iX10_dearestRoad_22 rfl rfl (Nat.le_of_ble_eq_true rfl) (Or.inr ⟨_, _, rfl, oo_0_37⟩) (rx_CV.imp H (fun σ4 H => ?_))
    refine g_c iX10_dearestRoad_25 ?_
    refine g_is iX10_dearestRoad_26 (Nat.le_of_ble_eq_true rfl) ?_
    refine rx_Go.ls (la := [some (.inr 0), some (.inl 0), none, none, none]) rfl ?_
    refine g_c iX10_dearestRoad_27 ?_
    refine g_is iX10_dearestRoad_28 (Nat.le_of_ble_eq_true rfl) ?_
    refine rx_Go.ls (la := [some (.inr 0), some (.inl 0), some (.inl (-1)), none, none]) rfl ?_
    refine g_c iX10_dearestRoad_29 ?_
    refine g_is iX10_dearestRoad_30 (Nat.le_of_ble_eq_true rfl) ?_
    refine rx_Go.ls (la := [some (.inr 0), some (.inl 0), some (.inl (-1)), some (.inl 0), none]) rfl ?_
    exact H
  · rw [if_neg c3] at H
    refine g_if1f iX10_dearestRoad_8 c3 ?_
    refine g_c iX10_dearestRoad_11 ?_
    exact g_ri iX10_dearestRoad_13 (Or.inl rfl) H
set_option maxRecDepth 20000 in
set_option maxHeartbeats 4000000 in
theorem bX10_dearestRoad_31 (L d : Nat) (x1 : Int) (x2 : Int) (x3 : Int) (q4 : Option rx_V) (σ : rx_St) (K : Int → rx_St → Prop)
    (H : if (σ 1 6) ≤ x3 then (K x1 σ) else (rx_CI L d mX0_straightSumOf [.inr 37, .inr 1, .inl x3] σ (fun v7 σ6 => if v7 ≤ x2 then (rx_Go L (d + 1) mX10_dearestRoad 31 [some (.inr 0), some (.inl x1), some (.inl x2), some (.inl (rx_w (x3 + 1))), some (.inl v7)] [] σ6 (rx_PI K)) else (rx_Go L (d + 1) mX10_dearestRoad 31 [some (.inr 0), some (.inl x3), some (.inl v7), some (.inl (rx_w (x3 + 1))), some (.inl v7)] [] σ6 (rx_PI K))))) :
    rx_Go L (d + 1) mX10_dearestRoad 31 [some (.inr 0), some (.inl x1), some (.inl x2), some (.inl x3), q4] [] σ (rx_PI K) := by
  refine g_il iX10_dearestRoad_31 rfl ?_
  refine g_al iX10_dearestRoad_32 rfl ?_
  refine g_gr iX10_dearestRoad_33 fr_10_0_0 ?_
  refine g_gf (kI := 6) rfl iX10_dearestRoad_36 fi_1_6_1 ?_
  by_cases c5 : (σ 1 6) ≤ x3
  · rw [if_pos c5] at H
    refine g_ic3t iX10_dearestRoad_39 c5 ?_
    refine g_il iX10_dearestRoad_73 rfl ?_
    exact g_ri iX10_dearestRoad_74 (Or.inl rfl) H
  · rw [if_neg c5] at H
    refine g_ic3f iX10_dearestRoad_39 c5 ?_
    refine g_al iX10_dearestRoad_42 rfl ?_
    refine g_gr iX10_dearestRoad_43 fr_10_5_0 ?_
    refine g_al iX10_dearestRoad_46 rfl ?_
    refine g_gr iX10_dearestRoad_47 fr_10_0_0 ?_
    refine g_il iX10_dearestRoad_50 rfl ?_
    refine g_ci (as := [.inr 37, .inr 1, .inl x3]) (rest := []) iX10_dearestRoad_51 rfl rfl (Nat.le_of_ble_eq_true rfl) (Or.inr ⟨_, _, rfl, oo_0_37⟩) (rx_CI.imp H (fun v7 σ6 H => ?_))
    refine g_is iX10_dearestRoad_54 (Nat.le_of_ble_eq_true rfl) ?_
    refine rx_Go.ls (la := [some (.inr 0), some (.inl x1), some (.inl x2), some (.inl x3), some (.inl v7)]) rfl ?_
    refine g_il iX10_dearestRoad_56 rfl ?_
    refine g_il iX10_dearestRoad_58 rfl ?_
    by_cases c8 : v7 ≤ x2
    · rw [if_pos c8] at H
      refine g_ic5t iX10_dearestRoad_59 c8 ?_
      refine g_ii iX10_dearestRoad_67 rfl ?_
      refine rx_Go.ls (la := [some (.inr 0), some (.inl x1), some (.inl x2), some (.inl (rx_w (x3 + 1))), some (.inl v7)]) rfl ?_
      refine g_goto iX10_dearestRoad_70 ?_
      exact H
    · rw [if_neg c8] at H
      refine g_ic5f iX10_dearestRoad_59 c8 ?_
      refine g_il iX10_dearestRoad_62 rfl ?_
      refine g_is iX10_dearestRoad_63 (Nat.le_of_ble_eq_true rfl) ?_
      refine rx_Go.ls (la := [some (.inr 0), some (.inl x3), some (.inl x2), some (.inl x3), some (.inl v7)]) rfl ?_
      refine g_il iX10_dearestRoad_64 rfl ?_
      refine g_is iX10_dearestRoad_66 (Nat.le_of_ble_eq_true rfl) ?_
      refine rx_Go.ls (la := [some (.inr 0), some (.inl x3), some (.inl v7), some (.inl x3), some (.inl v7)]) rfl ?_
      refine g_ii iX10_dearestRoad_67 rfl ?_
      refine rx_Go.ls (la := [some (.inr 0), some (.inl x3), some (.inl v7), some (.inl (rx_w (x3 + 1))), some (.inl v7)]) rfl ?_
      refine g_goto iX10_dearestRoad_70 ?_
      exact H
set_option maxRecDepth 20000 in
set_option maxHeartbeats 4000000 in
theorem bX10_checkSwapsTold (L d : Nat) (x1 : Int) (x2 : Int) (σ : rx_St) (K : Int → rx_St → Prop)
    (H : rx_CV L d mX1_takeFrom [.inr 23, .inr 12] σ (fun σ1 => rx_CV L d mX0_reckon [.inr 37, .inr 23] σ1 (fun σ2 => rx_Go L (d + 1) mX10_checkSwapsTold 24 [some (.inr 0), some (.inl x1), some (.inl x2), some (.inl 0), none, none] [] σ2 (rx_PI K)))) :
    rx_CI L (d + 1) mX10_checkSwapsTold [.inr 0, .inl x1, .inl x2] σ K := by
  refine rx_CI.of (la := [some (.inr 0), some (.inl x1), some (.inl x2), none, none, none]) rfl ?_
  refine g_al iX10_checkSwapsTold_0 rfl ?_
  refine g_gr iX10_checkSwapsTold_1 fr_10_2_0 ?_
  refine g_al iX10_checkSwapsTold_4 rfl ?_
  refine g_gr iX10_checkSwapsTold_5 fr_10_1_0 ?_
  refine g_cv (as := [.inr 23, .inr 12]) (rest := []) iX10_checkSwapsTold_8 rfl rfl (Nat.le_of_ble_eq_true rfl) (Or.inr ⟨_, _, rfl, oo_1_23⟩) (rx_CV.imp H (fun σ1 H => ?_))
  refine g_al iX10_checkSwapsTold_11 rfl ?_
  refine g_gr iX10_checkSwapsTold_12 fr_10_5_0 ?_
  refine g_al iX10_checkSwapsTold_15 rfl ?_
  refine g_gr iX10_checkSwapsTold_16 fr_10_2_0 ?_
  refine g_cv (as := [.inr 37, .inr 23]) (rest := []) iX10_checkSwapsTold_19 rfl rfl (Nat.le_of_ble_eq_true rfl) (Or.inr ⟨_, _, rfl, oo_0_37⟩) (rx_CV.imp H (fun σ2 H => ?_))
  refine g_c iX10_checkSwapsTold_22 ?_
  refine g_is iX10_checkSwapsTold_23 (Nat.le_of_ble_eq_true rfl) ?_
  refine rx_Go.ls (la := [some (.inr 0), some (.inl x1), some (.inl x2), some (.inl 0), none, none]) rfl ?_
  exact H
set_option maxRecDepth 20000 in
set_option maxHeartbeats 4000000 in
theorem bX10_checkSwapsTold_24 (L d : Nat) (x1 : Int) (x2 : Int) (x3 : Int) (q4 : Option rx_V) (q5 : Option rx_V) (σ : rx_St) (K : Int → rx_St → Prop)
    (H : if x1 ≤ x3 then (if x2 ≤ (rx_w (2 * x1)) then (K 0 σ) else (K (rx_w (1 + (rx_w (2 * x1)))) σ)) else (rx_CI L d mX9_search [.inr 78, .inr 23, .inr 37] σ (fun v6 σ5 => if v6 = 0 then (rx_Go L (d + 1) mX10_checkSwapsTold 80 [some (.inr 0), some (.inl x1), some (.inl x2), some (.inl x3), some (.inl (-1)), q5] [] σ5 (rx_PI K)) else (rx_CI L d mX9_pair [.inr 78] σ5 (fun v9 σ8 => rx_CV L d mX1_swapPosts [.inr 23, .inl (σ8 78 0), .inl (σ8 78 1)] σ8 (fun σ10 => rx_Go L (d + 1) mX10_checkSwapsTold 80 [some (.inr 0), some (.inl x1), some (.inl x2), some (.inl x3), some (.inl v9), q5] [] σ10 (rx_PI K))))))) :
    rx_Go L (d + 1) mX10_checkSwapsTold 24 [some (.inr 0), some (.inl x1), some (.inl x2), some (.inl x3), q4, q5] [] σ (rx_PI K) := by
  refine g_il iX10_checkSwapsTold_24 rfl ?_
  refine g_il iX10_checkSwapsTold_25 rfl ?_
  by_cases c3 : x1 ≤ x3
  · rw [if_pos c3] at H
    refine g_ic3t iX10_checkSwapsTold_26 c3 ?_
    refine g_il iX10_checkSwapsTold_146 rfl ?_
    refine g_c iX10_checkSwapsTold_147 ?_
    refine g_il iX10_checkSwapsTold_148 rfl ?_
    refine g_mul iX10_checkSwapsTold_149 ?_
    by_cases c4 : x2 ≤ (rx_w (2 * x1))
    · rw [if_pos c4] at H
      refine g_ic5t iX10_checkSwapsTold_150 c4 ?_
      refine g_c iX10_checkSwapsTold_161 ?_
      exact g_ri iX10_checkSwapsTold_162 (Or.inl rfl) H
    · rw [if_neg c4] at H
      refine g_ic5f iX10_checkSwapsTold_150 c4 ?_
      refine g_c iX10_checkSwapsTold_153 ?_
      refine g_c iX10_checkSwapsTold_154 ?_
      refine g_il iX10_checkSwapsTold_155 rfl ?_
      refine g_mul iX10_checkSwapsTold_156 ?_
      refine g_add iX10_checkSwapsTold_157 ?_
      refine g_goto iX10_checkSwapsTold_158 ?_
      exact g_ri iX10_checkSwapsTold_162 (Or.inl rfl) H
  · rw [if_neg c3] at H
    refine g_ic3f iX10_checkSwapsTold_26 c3 ?_
    refine g_c iX10_checkSwapsTold_29 ?_
    refine g_is iX10_checkSwapsTold_30 (Nat.le_of_ble_eq_true rfl) ?_
    refine rx_Go.ls (la := [some (.inr 0), some (.inl x1), some (.inl x2), some (.inl x3), some (.inl (-1)), q5]) rfl ?_
    refine g_al iX10_checkSwapsTold_32 rfl ?_
    refine g_gr iX10_checkSwapsTold_33 fr_10_6_0 ?_
    refine g_al iX10_checkSwapsTold_36 rfl ?_
    refine g_gr iX10_checkSwapsTold_37 fr_10_2_0 ?_
    refine g_al iX10_checkSwapsTold_40 rfl ?_
    refine g_gr iX10_checkSwapsTold_41 fr_10_5_0 ?_
    refine g_ci (as := [.inr 78, .inr 23, .inr 37]) (rest := []) iX10_checkSwapsTold_44 rfl rfl (Nat.le_of_ble_eq_true rfl) (Or.inr ⟨_, _, rfl, oo_9_78⟩) (rx_CI.imp H (fun v6 σ5 H => ?_))
    by_cases c7 : v6 = 0
    · rw [if_pos c7] at H
      refine g_if0t iX10_checkSwapsTold_47 c7 ?_
      exact H
    · rw [if_neg c7] at H
      refine g_if0f iX10_checkSwapsTold_47 c7 ?_
      refine g_al iX10_checkSwapsTold_50 rfl ?_
      refine g_gr iX10_checkSwapsTold_51 fr_10_6_0 ?_
      refine g_ci (as := [.inr 78]) (rest := []) iX10_checkSwapsTold_54 rfl rfl (Nat.le_of_ble_eq_true rfl) (Or.inr ⟨_, _, rfl, oo_9_78⟩) (rx_CI.imp H (fun v9 σ8 H => ?_))
      refine g_is iX10_checkSwapsTold_57 (Nat.le_of_ble_eq_true rfl) ?_
      refine rx_Go.ls (la := [some (.inr 0), some (.inl x1), some (.inl x2), some (.inl x3), some (.inl v9), q5]) rfl ?_
      refine g_al iX10_checkSwapsTold_59 rfl ?_
      refine g_gr iX10_checkSwapsTold_60 fr_10_2_0 ?_
      refine g_al iX10_checkSwapsTold_63 rfl ?_
      refine g_gr iX10_checkSwapsTold_64 fr_10_6_0 ?_
      refine g_gf (kI := 0) rfl iX10_checkSwapsTold_67 fi_9_0_78 ?_
      refine g_al iX10_checkSwapsTold_70 rfl ?_
      refine g_gr iX10_checkSwapsTold_71 fr_10_6_0 ?_
      refine g_gf (kI := 1) rfl iX10_checkSwapsTold_74 fi_9_1_78 ?_
      refine g_cv (as := [.inr 23, .inl (σ8 78 0), .inl (σ8 78 1)]) (rest := []) iX10_checkSwapsTold_77 rfl rfl (Nat.le_of_ble_eq_true rfl) (Or.inr ⟨_, _, rfl, oo_1_23⟩) (rx_CV.imp H (fun σ10 H => ?_))
      exact H
set_option maxRecDepth 20000 in
set_option maxHeartbeats 4000000 in
theorem bX10_checkSwapsTold_80 (L d : Nat) (x1 : Int) (x2 : Int) (x3 : Int) (x4 : Int) (q5 : Option rx_V) (σ : rx_St) (K : Int → rx_St → Prop)
    (H : if x2 ≤ (rx_w (2 * x3)) then (rx_Go L (d + 1) mX10_checkSwapsTold 103 [some (.inr 0), some (.inl x1), some (.inl x2), some (.inl x3), some (.inl x4), some (.inl (rx_w (2 * x3)))] [] σ (rx_PI K)) else ((0 ≤ (rx_w (2 * x3)) ∧ (rx_w (2 * x3)) < 60) ∧ (if (σ 101 (rx_w (2 * x3))) = x4 then (if x2 ≤ (rx_w ((rx_w (2 * x3)) + 1)) then (rx_Go L (d + 1) mX10_checkSwapsTold 135 [some (.inr 0), some (.inl x1), some (.inl x2), some (.inl x3), some (.inl x4), some (.inl (rx_w (2 * x3)))] [] σ (rx_PI K)) else ((0 ≤ (rx_w ((rx_w (2 * x3)) + 1)) ∧ (rx_w ((rx_w (2 * x3)) + 1)) < 60) ∧ (if (σ 101 (rx_w ((rx_w (2 * x3)) + 1))) = (σ 78 2) then (rx_Go L (d + 1) mX10_checkSwapsTold 24 [some (.inr 0), some (.inl x1), some (.inl x2), some (.inl (rx_w (x3 + 1))), some (.inl x4), some (.inl (rx_w (2 * x3)))] [] σ (rx_PI K)) else (rx_Go L (d + 1) mX10_checkSwapsTold 135 [some (.inr 0), some (.inl x1), some (.inl x2), some (.inl x3), some (.inl x4), some (.inl (rx_w (2 * x3)))] [] σ (rx_PI K))))) else (rx_Go L (d + 1) mX10_checkSwapsTold 103 [some (.inr 0), some (.inl x1), some (.inl x2), some (.inl x3), some (.inl x4), some (.inl (rx_w (2 * x3)))] [] σ (rx_PI K))))) :
    rx_Go L (d + 1) mX10_checkSwapsTold 80 [some (.inr 0), some (.inl x1), some (.inl x2), some (.inl x3), some (.inl x4), q5] [] σ (rx_PI K) := by
  refine g_c iX10_checkSwapsTold_80 ?_
  refine g_il iX10_checkSwapsTold_81 rfl ?_
  refine g_mul iX10_checkSwapsTold_82 ?_
  refine g_is iX10_checkSwapsTold_83 (Nat.le_of_ble_eq_true rfl) ?_
  refine rx_Go.ls (la := [some (.inr 0), some (.inl x1), some (.inl x2), some (.inl x3), some (.inl x4), some (.inl (rx_w (2 * x3)))]) rfl ?_
  refine g_il iX10_checkSwapsTold_85 rfl ?_
  refine g_il iX10_checkSwapsTold_87 rfl ?_
  by_cases c11 : x2 ≤ (rx_w (2 * x3))
  · rw [if_pos c11] at H
    refine g_ic3t iX10_checkSwapsTold_88 c11 ?_
    exact H
  · rw [if_neg c11] at H
    refine g_ic3f iX10_checkSwapsTold_88 c11 ?_
    refine g_al iX10_checkSwapsTold_91 rfl ?_
    refine g_gr iX10_checkSwapsTold_92 fr_10_12_0 ?_
    refine g_il iX10_checkSwapsTold_95 rfl ?_
    obtain ⟨o12, H⟩ := H
    refine g_ld iX10_checkSwapsTold_97 (ln_101 L) o12 ?_
    refine g_il iX10_checkSwapsTold_98 rfl ?_
    by_cases c13 : (σ 101 (rx_w (2 * x3))) = x4
    · rw [if_pos c13] at H
      refine g_ic0t iX10_checkSwapsTold_100 c13 ?_
      refine g_il iX10_checkSwapsTold_108 rfl ?_
      refine g_c iX10_checkSwapsTold_110 ?_
      refine g_add iX10_checkSwapsTold_111 ?_
      refine g_il iX10_checkSwapsTold_112 rfl ?_
      by_cases c14 : x2 ≤ (rx_w ((rx_w (2 * x3)) + 1))
      · rw [if_pos c14] at H
        refine g_ic3t iX10_checkSwapsTold_113 c14 ?_
        exact H
      · rw [if_neg c14] at H
        refine g_ic3f iX10_checkSwapsTold_113 c14 ?_
        refine g_al iX10_checkSwapsTold_116 rfl ?_
        refine g_gr iX10_checkSwapsTold_117 fr_10_12_0 ?_
        refine g_il iX10_checkSwapsTold_120 rfl ?_
        refine g_c iX10_checkSwapsTold_122 ?_
        refine g_add iX10_checkSwapsTold_123 ?_
        obtain ⟨o15, H⟩ := H
        refine g_ld iX10_checkSwapsTold_124 (ln_101 L) o15 ?_
        refine g_al iX10_checkSwapsTold_125 rfl ?_
        refine g_gr iX10_checkSwapsTold_126 fr_10_6_0 ?_
        refine g_gf (kI := 2) rfl iX10_checkSwapsTold_129 fi_9_2_78 ?_
        by_cases c16 : (σ 101 (rx_w ((rx_w (2 * x3)) + 1))) = (σ 78 2)
        · rw [if_pos c16] at H
          refine g_ic0t iX10_checkSwapsTold_132 c16 ?_
          refine g_ii iX10_checkSwapsTold_140 rfl ?_
          refine rx_Go.ls (la := [some (.inr 0), some (.inl x1), some (.inl x2), some (.inl (rx_w (x3 + 1))), some (.inl x4), some (.inl (rx_w (2 * x3)))]) rfl ?_
          refine g_goto iX10_checkSwapsTold_143 ?_
          exact H
        · rw [if_neg c16] at H
          refine g_ic0f iX10_checkSwapsTold_132 c16 ?_
          exact H
    · rw [if_neg c13] at H
      refine g_ic0f iX10_checkSwapsTold_100 c13 ?_
      exact H
set_option maxRecDepth 20000 in
set_option maxHeartbeats 4000000 in
theorem bX10_checkSwapsTold_103 (L d : Nat) (q0 : Option rx_V) (q1 : Option rx_V) (q2 : Option rx_V) (q3 : Option rx_V) (q4 : Option rx_V) (x5 : Int) (σ : rx_St) (K : Int → rx_St → Prop)
    (H : K (rx_w (1 + x5)) σ) :
    rx_Go L (d + 1) mX10_checkSwapsTold 103 [q0, q1, q2, q3, q4, some (.inl x5)] [] σ (rx_PI K) := by
  refine g_c iX10_checkSwapsTold_103 ?_
  refine g_il iX10_checkSwapsTold_104 rfl ?_
  refine g_add iX10_checkSwapsTold_106 ?_
  exact g_ri iX10_checkSwapsTold_107 (Or.inl rfl) H
set_option maxRecDepth 20000 in
set_option maxHeartbeats 4000000 in
theorem bX10_checkSwapsTold_135 (L d : Nat) (q0 : Option rx_V) (q1 : Option rx_V) (q2 : Option rx_V) (q3 : Option rx_V) (q4 : Option rx_V) (x5 : Int) (σ : rx_St) (K : Int → rx_St → Prop)
    (H : K (rx_w (2 + x5)) σ) :
    rx_Go L (d + 1) mX10_checkSwapsTold 135 [q0, q1, q2, q3, q4, some (.inl x5)] [] σ (rx_PI K) := by
  refine g_c iX10_checkSwapsTold_135 ?_
  refine g_il iX10_checkSwapsTold_136 rfl ?_
  refine g_add iX10_checkSwapsTold_138 ?_
  exact g_ri iX10_checkSwapsTold_139 (Or.inl rfl) H
set_option maxRecDepth 20000 in
set_option maxHeartbeats 4000000 in
theorem bX10_isPlace (L d : Nat) (x0 : Int) (x1 : Int) (σ : rx_St) (K : Int → rx_St → Prop)
    (H : if x0 < 0 then (K 0 σ) else (if 100 ≤ x0 then (K 0 σ) else (if x1 < 0 then (K 0 σ) else (if 100 ≤ x1 then (K 0 σ) else (K 1 σ))))) :
    rx_CI L d mX10_isPlace [.inl x0, .inl x1] σ K := by
  refine rx_CI.of (la := [some (.inl x0), some (.inl x1)]) rfl ?_
  refine g_il iX10_isPlace_0 rfl ?_
  by_cases c1 : x0 < 0
  · rw [if_pos c1] at H
    refine g_if2t iX10_isPlace_1 c1 ?_
    refine g_c iX10_isPlace_24 ?_
    exact g_ri iX10_isPlace_25 (by decide) H
  · rw [if_neg c1] at H
    refine g_if2f iX10_isPlace_1 c1 ?_
    refine g_il iX10_isPlace_4 rfl ?_
    refine g_c iX10_isPlace_5 ?_
    by_cases c2 : 100 ≤ x0
    · rw [if_pos c2] at H
      refine g_ic3t iX10_isPlace_7 c2 ?_
      refine g_c iX10_isPlace_24 ?_
      exact g_ri iX10_isPlace_25 (by decide) H
    · rw [if_neg c2] at H
      refine g_ic3f iX10_isPlace_7 c2 ?_
      refine g_il iX10_isPlace_10 rfl ?_
      by_cases c3 : x1 < 0
      · rw [if_pos c3] at H
        refine g_if2t iX10_isPlace_11 c3 ?_
        refine g_c iX10_isPlace_24 ?_
        exact g_ri iX10_isPlace_25 (by decide) H
      · rw [if_neg c3] at H
        refine g_if2f iX10_isPlace_11 c3 ?_
        refine g_il iX10_isPlace_14 rfl ?_
        refine g_c iX10_isPlace_15 ?_
        by_cases c4 : 100 ≤ x1
        · rw [if_pos c4] at H
          refine g_ic3t iX10_isPlace_17 c4 ?_
          refine g_c iX10_isPlace_24 ?_
          exact g_ri iX10_isPlace_25 (by decide) H
        · rw [if_neg c4] at H
          refine g_ic3f iX10_isPlace_17 c4 ?_
          refine g_c iX10_isPlace_20 ?_
          refine g_goto iX10_isPlace_21 ?_
          exact g_ri iX10_isPlace_25 (by decide) H
set_option maxRecDepth 20000 in
set_option maxHeartbeats 4000000 in
theorem bX10_isLayer (L d : Nat) (x0 : Int) (σ : rx_St) (K : Int → rx_St → Prop)
    (H : if x0 < 0 then (K 0 σ) else (if 4 ≤ x0 then (K 0 σ) else (K 1 σ))) :
    rx_CI L d mX10_isLayer [.inl x0] σ K := by
  refine rx_CI.of (la := [some (.inl x0)]) rfl ?_
  refine g_il iX10_isLayer_0 rfl ?_
  by_cases c1 : x0 < 0
  · rw [if_pos c1] at H
    refine g_if2t iX10_isLayer_1 c1 ?_
    refine g_c iX10_isLayer_13 ?_
    exact g_ri iX10_isLayer_14 (by decide) H
  · rw [if_neg c1] at H
    refine g_if2f iX10_isLayer_1 c1 ?_
    refine g_il iX10_isLayer_4 rfl ?_
    refine g_c iX10_isLayer_5 ?_
    by_cases c2 : 4 ≤ x0
    · rw [if_pos c2] at H
      refine g_ic3t iX10_isLayer_6 c2 ?_
      refine g_c iX10_isLayer_13 ?_
      exact g_ri iX10_isLayer_14 (by decide) H
    · rw [if_neg c2] at H
      refine g_ic3f iX10_isLayer_6 c2 ?_
      refine g_c iX10_isLayer_9 ?_
      refine g_goto iX10_isLayer_10 ?_
      exact g_ri iX10_isLayer_14 (by decide) H
set_option maxRecDepth 20000 in
set_option maxHeartbeats 4000000 in
theorem bX10_isPage (L d : Nat) (x0 : Int) (σ : rx_St) (K : Int → rx_St → Prop)
    (H : if x0 < 0 then (K 0 σ) else (if 4 ≤ x0 then (K 0 σ) else (K 1 σ))) :
    rx_CI L d mX10_isPage [.inl x0] σ K := by
  refine rx_CI.of (la := [some (.inl x0)]) rfl ?_
  refine g_il iX10_isPage_0 rfl ?_
  by_cases c1 : x0 < 0
  · rw [if_pos c1] at H
    refine g_if2t iX10_isPage_1 c1 ?_
    refine g_c iX10_isPage_13 ?_
    exact g_ri iX10_isPage_14 (by decide) H
  · rw [if_neg c1] at H
    refine g_if2f iX10_isPage_1 c1 ?_
    refine g_il iX10_isPage_4 rfl ?_
    refine g_c iX10_isPage_5 ?_
    by_cases c2 : 4 ≤ x0
    · rw [if_pos c2] at H
      refine g_ic3t iX10_isPage_6 c2 ?_
      refine g_c iX10_isPage_13 ?_
      exact g_ri iX10_isPage_14 (by decide) H
    · rw [if_neg c2] at H
      refine g_ic3f iX10_isPage_6 c2 ?_
      refine g_c iX10_isPage_9 ?_
      refine g_goto iX10_isPage_10 ?_
      exact g_ri iX10_isPage_14 (by decide) H
set_option maxRecDepth 20000 in
set_option maxHeartbeats 4000000 in
theorem bX10_isKind (L d : Nat) (x0 : Int) (σ : rx_St) (K : Int → rx_St → Prop)
    (H : if x0 < 0 then (K 0 σ) else (if 6 ≤ x0 then (K 0 σ) else (K 1 σ))) :
    rx_CI L d mX10_isKind [.inl x0] σ K := by
  refine rx_CI.of (la := [some (.inl x0)]) rfl ?_
  refine g_il iX10_isKind_0 rfl ?_
  by_cases c1 : x0 < 0
  · rw [if_pos c1] at H
    refine g_if2t iX10_isKind_1 c1 ?_
    refine g_c iX10_isKind_14 ?_
    exact g_ri iX10_isKind_15 (by decide) H
  · rw [if_neg c1] at H
    refine g_if2f iX10_isKind_1 c1 ?_
    refine g_il iX10_isKind_4 rfl ?_
    refine g_c iX10_isKind_5 ?_
    by_cases c2 : 6 ≤ x0
    · rw [if_pos c2] at H
      refine g_ic3t iX10_isKind_7 c2 ?_
      refine g_c iX10_isKind_14 ?_
      exact g_ri iX10_isKind_15 (by decide) H
    · rw [if_neg c2] at H
      refine g_ic3f iX10_isKind_7 c2 ?_
      refine g_c iX10_isKind_10 ?_
      refine g_goto iX10_isKind_11 ?_
      exact g_ri iX10_isKind_15 (by decide) H
set_option maxRecDepth 20000 in
set_option maxHeartbeats 4000000 in
theorem bX10_isWeight (L d : Nat) (x0 : Int) (σ : rx_St) (K : Int → rx_St → Prop)
    (H : if x0 < 1 then (K 0 σ) else (if 9 < x0 then (K 0 σ) else (K 1 σ))) :
    rx_CI L d mX10_isWeight [.inl x0] σ K := by
  refine rx_CI.of (la := [some (.inl x0)]) rfl ?_
  refine g_il iX10_isWeight_0 rfl ?_
  refine g_c iX10_isWeight_1 ?_
  by_cases c1 : x0 < 1
  · rw [if_pos c1] at H
    refine g_ic2t iX10_isWeight_2 c1 ?_
    refine g_c iX10_isWeight_15 ?_
    exact g_ri iX10_isWeight_16 (by decide) H
  · rw [if_neg c1] at H
    refine g_ic2f iX10_isWeight_2 c1 ?_
    refine g_il iX10_isWeight_5 rfl ?_
    refine g_c iX10_isWeight_6 ?_
    by_cases c2 : 9 < x0
    · rw [if_pos c2] at H
      refine g_ic4t iX10_isWeight_8 c2 ?_
      refine g_c iX10_isWeight_15 ?_
      exact g_ri iX10_isWeight_16 (by decide) H
    · rw [if_neg c2] at H
      refine g_ic4f iX10_isWeight_8 c2 ?_
      refine g_c iX10_isWeight_11 ?_
      refine g_goto iX10_isWeight_12 ?_
      exact g_ri iX10_isWeight_16 (by decide) H
set_option maxRecDepth 20000 in
set_option maxHeartbeats 4000000 in
theorem bX10_isSheet (L d : Nat) (x0 : Int) (σ : rx_St) (K : Int → rx_St → Prop)
    (H : if x0 < 0 then (K 0 σ) else (if 4 ≤ x0 then (K 0 σ) else (K 1 σ))) :
    rx_CI L d mX10_isSheet [.inl x0] σ K := by
  refine rx_CI.of (la := [some (.inl x0)]) rfl ?_
  refine g_il iX10_isSheet_0 rfl ?_
  by_cases c1 : x0 < 0
  · rw [if_pos c1] at H
    refine g_if2t iX10_isSheet_1 c1 ?_
    refine g_c iX10_isSheet_13 ?_
    exact g_ri iX10_isSheet_14 (by decide) H
  · rw [if_neg c1] at H
    refine g_if2f iX10_isSheet_1 c1 ?_
    refine g_il iX10_isSheet_4 rfl ?_
    refine g_c iX10_isSheet_5 ?_
    by_cases c2 : 4 ≤ x0
    · rw [if_pos c2] at H
      refine g_ic3t iX10_isSheet_6 c2 ?_
      refine g_c iX10_isSheet_13 ?_
      exact g_ri iX10_isSheet_14 (by decide) H
    · rw [if_neg c2] at H
      refine g_ic3f iX10_isSheet_6 c2 ?_
      refine g_c iX10_isSheet_9 ?_
      refine g_goto iX10_isSheet_10 ?_
      exact g_ri iX10_isSheet_14 (by decide) H
set_option maxRecDepth 20000 in
set_option maxHeartbeats 4000000 in
theorem bX10_isSlot (L d : Nat) (x0 : Int) (σ : rx_St) (K : Int → rx_St → Prop)
    (H : if x0 < 0 then (K 0 σ) else (if 5 ≤ x0 then (K 0 σ) else (K 1 σ))) :
    rx_CI L d mX10_isSlot [.inl x0] σ K := by
  refine rx_CI.of (la := [some (.inl x0)]) rfl ?_
  refine g_il iX10_isSlot_0 rfl ?_
  by_cases c1 : x0 < 0
  · rw [if_pos c1] at H
    refine g_if2t iX10_isSlot_1 c1 ?_
    refine g_c iX10_isSlot_13 ?_
    exact g_ri iX10_isSlot_14 (by decide) H
  · rw [if_neg c1] at H
    refine g_if2f iX10_isSlot_1 c1 ?_
    refine g_il iX10_isSlot_4 rfl ?_
    refine g_c iX10_isSlot_5 ?_
    by_cases c2 : 5 ≤ x0
    · rw [if_pos c2] at H
      refine g_ic3t iX10_isSlot_6 c2 ?_
      refine g_c iX10_isSlot_13 ?_
      exact g_ri iX10_isSlot_14 (by decide) H
    · rw [if_neg c2] at H
      refine g_ic3f iX10_isSlot_6 c2 ?_
      refine g_c iX10_isSlot_9 ?_
      refine g_goto iX10_isSlot_10 ?_
      exact g_ri iX10_isSlot_14 (by decide) H
set_option maxRecDepth 20000 in
set_option maxHeartbeats 4000000 in
theorem bX10_within (L d : Nat) (x0 : Int) (x1 : Int) (σ : rx_St) (K : Int → rx_St → Prop)
    (H : K (rx_mx 0 (rx_mn x1 x0)) σ) :
    rx_CI L d mX10_within [.inl x0, .inl x1] σ K := by
  refine rx_CI.of (la := [some (.inl x0), some (.inl x1)]) rfl ?_
  refine g_c iX10_within_0 ?_
  refine g_il iX10_within_1 rfl ?_
  refine g_il iX10_within_2 rfl ?_
  refine g_mn iX10_within_3 (Nat.le_of_ble_eq_true rfl) ?_
  refine g_mx iX10_within_6 (Nat.le_of_ble_eq_true rfl) ?_
  exact g_ri iX10_within_9 (Or.inl rfl) H
set_option maxRecDepth 20000 in
set_option maxHeartbeats 4000000 in
theorem bX10_isUnder (L d : Nat) (x0 : Int) (x1 : Int) (σ : rx_St) (K : Int → rx_St → Prop)
    (H : rx_Go L (d + 1) mX10_isUnder 4 [some (.inl x0), some (.inl x1), some (.inl x0), some (.inl 0)] [] σ (rx_PI K)) :
    rx_CI L (d + 1) mX10_isUnder [.inl x0, .inl x1] σ K := by
  refine rx_CI.of (la := [some (.inl x0), some (.inl x1), none, none]) rfl ?_
  refine g_il iX10_isUnder_0 rfl ?_
  refine g_is iX10_isUnder_1 (Nat.le_of_ble_eq_true rfl) ?_
  refine rx_Go.ls (la := [some (.inl x0), some (.inl x1), some (.inl x0), none]) rfl ?_
  refine g_c iX10_isUnder_2 ?_
  refine g_is iX10_isUnder_3 (Nat.le_of_ble_eq_true rfl) ?_
  refine rx_Go.ls (la := [some (.inl x0), some (.inl x1), some (.inl x0), some (.inl 0)]) rfl ?_
  exact H
set_option maxRecDepth 20000 in
set_option maxHeartbeats 4000000 in
theorem bX10_isUnder_4 (L d : Nat) (q0 : Option rx_V) (x1 : Int) (x2 : Int) (x3 : Int) (σ : rx_St) (K : Int → rx_St → Prop)
    (H : if 6 ≤ x3 then (K 0 σ) else (if x2 ≠ x1 then (rx_CI L d mX10_isKind [.inl x2] σ (fun v4 σ3 => if v4 ≠ 0 then ((0 ≤ x2 ∧ x2 < 6) ∧ (rx_Go L (d + 1) mX10_isUnder 4 [q0, some (.inl x1), some (.inl (σ3 160 x2)), some (.inl (rx_w (x3 + 1)))] [] σ3 (rx_PI K))) else (K 0 σ3))) else (K 1 σ))) :
    rx_Go L (d + 1) mX10_isUnder 4 [q0, some (.inl x1), some (.inl x2), some (.inl x3)] [] σ (rx_PI K) := by
  refine g_il iX10_isUnder_4 rfl ?_
  refine g_c iX10_isUnder_5 ?_
  by_cases c1 : 6 ≤ x3
  · rw [if_pos c1] at H
    refine g_ic3t iX10_isUnder_7 c1 ?_
    refine g_c iX10_isUnder_38 ?_
    exact g_ri iX10_isUnder_39 (by decide) H
  · rw [if_neg c1] at H
    refine g_ic3f iX10_isUnder_7 c1 ?_
    refine g_il iX10_isUnder_10 rfl ?_
    refine g_il iX10_isUnder_11 rfl ?_
    by_cases c2 : x2 ≠ x1
    · rw [if_pos c2] at H
      refine g_ic1t iX10_isUnder_12 c2 ?_
      refine g_il iX10_isUnder_17 rfl ?_
      refine g_ci (as := [.inl x2]) (rest := []) iX10_isUnder_18 rfl rfl (Nat.le_of_ble_eq_true rfl) (Or.inl (by decide)) (rx_CI.imp H (fun v4 σ3 H => ?_))
      by_cases c5 : v4 ≠ 0
      · rw [if_pos c5] at H
        refine g_if1t iX10_isUnder_21 c5 ?_
        refine g_ref iX10_isUnder_26 ?_
        refine g_il iX10_isUnder_29 rfl ?_
        obtain ⟨o6, H⟩ := H
        refine g_ld iX10_isUnder_30 (ln_160 L) o6 ?_
        refine g_is iX10_isUnder_31 (Nat.le_of_ble_eq_true rfl) ?_
        refine rx_Go.ls (la := [q0, some (.inl x1), some (.inl (σ3 160 x2)), some (.inl x3)]) rfl ?_
        refine g_ii iX10_isUnder_32 rfl ?_
        refine rx_Go.ls (la := [q0, some (.inl x1), some (.inl (σ3 160 x2)), some (.inl (rx_w (x3 + 1)))]) rfl ?_
        refine g_goto iX10_isUnder_35 ?_
        exact H
      · rw [if_neg c5] at H
        refine g_if1f iX10_isUnder_21 c5 ?_
        refine g_c iX10_isUnder_24 ?_
        exact g_ri iX10_isUnder_25 (by decide) H
    · rw [if_neg c2] at H
      refine g_ic1f iX10_isUnder_12 c2 ?_
      refine g_c iX10_isUnder_15 ?_
      exact g_ri iX10_isUnder_16 (by decide) H
set_option maxRecDepth 20000 in
set_option maxHeartbeats 4000000 in
theorem bX10_harmAs (L d : Nat) (x0 : Int) (x1 : Int) (x2 : Int) (σ : rx_St) (K : Int → rx_St → Prop)
    (H : if x0 = 1 then (K (rx_w (x1 + 2)) σ) else (if x0 = 2 then (K (rx_w (Int.tdiv (rx_w (x1 + 1)) 2)) σ) else (if x0 = 3 then (K (rx_w (2 * (rx_w (x1 + 2)))) σ) else (if x0 = 4 then (K (rx_w ((rx_w (Int.tdiv (rx_w (x1 + 1)) 2)) + x2)) σ) else (if x0 = 5 then (K 0 σ) else (K x1 σ)))))) :
    rx_CI L d mX10_harmAs [.inl x0, .inl x1, .inl x2] σ K := by
  refine rx_CI.of (la := [some (.inl x0), some (.inl x1), some (.inl x2)]) rfl ?_
  refine g_il iX10_harmAs_0 rfl ?_
  by_cases c1 : x0 = 1
  · rw [if_pos c1] at H
    refine g_sw iX10_harmAs_1 (by simp only [rx_sw]; rw [if_pos c1]) ?_
    refine g_il iX10_harmAs_36 rfl ?_
    refine g_c iX10_harmAs_37 ?_
    refine g_add iX10_harmAs_38 ?_
    exact g_ri iX10_harmAs_39 (Or.inl rfl) H
  · rw [if_neg c1] at H
    by_cases c2 : x0 = 2
    · rw [if_pos c2] at H
      refine g_sw iX10_harmAs_1 (by simp only [rx_sw]; rw [if_neg c1, if_pos c2]) ?_
      refine g_il iX10_harmAs_46 rfl ?_
      refine g_c iX10_harmAs_47 ?_
      refine g_add iX10_harmAs_48 ?_
      refine g_c iX10_harmAs_49 ?_
      refine g_div iX10_harmAs_50 (by decide) ?_
      exact g_ri iX10_harmAs_51 (Or.inl rfl) H
    · rw [if_neg c2] at H
      by_cases c3 : x0 = 3
      · rw [if_pos c3] at H
        refine g_sw iX10_harmAs_1 (by simp only [rx_sw]; rw [if_neg c1, if_neg c2, if_pos c3]) ?_
        refine g_c iX10_harmAs_40 ?_
        refine g_il iX10_harmAs_41 rfl ?_
        refine g_c iX10_harmAs_42 ?_
        refine g_add iX10_harmAs_43 ?_
        refine g_mul iX10_harmAs_44 ?_
        exact g_ri iX10_harmAs_45 (Or.inl rfl) H
      · rw [if_neg c3] at H
        by_cases c4 : x0 = 4
        · rw [if_pos c4] at H
          refine g_sw iX10_harmAs_1 (by simp only [rx_sw]; rw [if_neg c1, if_neg c2, if_neg c3, if_pos c4]) ?_
          refine g_il iX10_harmAs_52 rfl ?_
          refine g_c iX10_harmAs_53 ?_
          refine g_add iX10_harmAs_54 ?_
          refine g_c iX10_harmAs_55 ?_
          refine g_div iX10_harmAs_56 (by decide) ?_
          refine g_il iX10_harmAs_57 rfl ?_
          refine g_add iX10_harmAs_58 ?_
          exact g_ri iX10_harmAs_59 (Or.inl rfl) H
        · rw [if_neg c4] at H
          by_cases c5 : x0 = 5
          · rw [if_pos c5] at H
            refine g_sw iX10_harmAs_1 (by simp only [rx_sw]; rw [if_neg c1, if_neg c2, if_neg c3, if_neg c4, if_pos c5]) ?_
            refine g_c iX10_harmAs_60 ?_
            exact g_ri iX10_harmAs_61 (Or.inl rfl) H
          · rw [if_neg c5] at H
            refine g_sw (t := 62) iX10_harmAs_1 (by simp only [rx_sw, c1, c2, c3, c4, c5, if_false]) ?_
            refine g_il iX10_harmAs_62 rfl ?_
            exact g_ri iX10_harmAs_63 (Or.inl rfl) H
set_option maxRecDepth 20000 in
set_option maxHeartbeats 4000000 in
theorem bX10_worthOf (L d : Nat) (x0 : Int) (x1 : Int) (σ : rx_St) (K : Int → rx_St → Prop)
    (H : if x0 = 1 then (K (rx_w ((rx_w (10 - x1)) + 5)) σ) else (if x0 = 2 then (K (rx_w (Int.tdiv (rx_w (10 - x1)) 2)) σ) else (if x0 = 3 then (K (rx_w ((rx_w ((rx_w (10 - x1)) + 5)) - x1)) σ) else (if x0 = 4 then (K (rx_w (Int.tdiv (rx_w (10 - x1)) 2)) σ) else (if x0 = 5 then (K 20 σ) else (K (rx_w (10 - x1)) σ)))))) :
    rx_CI L d mX10_worthOf [.inl x0, .inl x1] σ K := by
  refine rx_CI.of (la := [some (.inl x0), some (.inl x1), none]) rfl ?_
  refine g_c iX10_worthOf_0 ?_
  refine g_il iX10_worthOf_2 rfl ?_
  refine g_sub iX10_worthOf_3 ?_
  refine g_is iX10_worthOf_4 (Nat.le_of_ble_eq_true rfl) ?_
  refine rx_Go.ls (la := [some (.inl x0), some (.inl x1), some (.inl (rx_w (10 - x1)))]) rfl ?_
  refine g_il iX10_worthOf_5 rfl ?_
  by_cases c1 : x0 = 1
  · rw [if_pos c1] at H
    refine g_sw iX10_worthOf_6 (by simp only [rx_sw]; rw [if_pos c1]) ?_
    refine g_il iX10_worthOf_40 rfl ?_
    refine g_c iX10_worthOf_41 ?_
    refine g_add iX10_worthOf_42 ?_
    exact g_ri iX10_worthOf_43 (Or.inl rfl) H
  · rw [if_neg c1] at H
    by_cases c2 : x0 = 2
    · rw [if_pos c2] at H
      refine g_sw iX10_worthOf_6 (by simp only [rx_sw]; rw [if_neg c1, if_pos c2]) ?_
      refine g_il iX10_worthOf_50 rfl ?_
      refine g_c iX10_worthOf_51 ?_
      refine g_div iX10_worthOf_52 (by decide) ?_
      exact g_ri iX10_worthOf_53 (Or.inl rfl) H
    · rw [if_neg c2] at H
      by_cases c3 : x0 = 3
      · rw [if_pos c3] at H
        refine g_sw iX10_worthOf_6 (by simp only [rx_sw]; rw [if_neg c1, if_neg c2, if_pos c3]) ?_
        refine g_il iX10_worthOf_44 rfl ?_
        refine g_c iX10_worthOf_45 ?_
        refine g_add iX10_worthOf_46 ?_
        refine g_il iX10_worthOf_47 rfl ?_
        refine g_sub iX10_worthOf_48 ?_
        exact g_ri iX10_worthOf_49 (Or.inl rfl) H
      · rw [if_neg c3] at H
        by_cases c4 : x0 = 4
        · rw [if_pos c4] at H
          refine g_sw iX10_worthOf_6 (by simp only [rx_sw]; rw [if_neg c1, if_neg c2, if_neg c3, if_pos c4]) ?_
          refine g_il iX10_worthOf_50 rfl ?_
          refine g_c iX10_worthOf_51 ?_
          refine g_div iX10_worthOf_52 (by decide) ?_
          exact g_ri iX10_worthOf_53 (Or.inl rfl) H
        · rw [if_neg c4] at H
          by_cases c5 : x0 = 5
          · rw [if_pos c5] at H
            refine g_sw iX10_worthOf_6 (by simp only [rx_sw]; rw [if_neg c1, if_neg c2, if_neg c3, if_neg c4, if_pos c5]) ?_
            refine g_c iX10_worthOf_54 ?_
            exact g_ri iX10_worthOf_56 (Or.inl rfl) H
          · rw [if_neg c5] at H
            refine g_sw (t := 57) iX10_worthOf_6 (by simp only [rx_sw, c1, c2, c3, c4, c5, if_false]) ?_
            refine g_il iX10_worthOf_57 rfl ?_
            exact g_ri iX10_worthOf_58 (Or.inl rfl) H
