theorem tbX11_isSheet : rx_tab.getD mX11_isSheet [] = rt_X11_isSheet := rfl
theorem ndX11_isSheet : rx_inc rt_X11_isSheet = true := by decide +kernel
theorem tbX11_check : rx_tab.getD mX11_check [] = rt_X11_check := rfl
theorem ndX11_check : rx_inc rt_X11_check = true := by decide +kernel
theorem tbX11_notsOpen : rx_tab.getD mX11_notsOpen [] = rt_X11_notsOpen := rfl
theorem ndX11_notsOpen : rx_inc rt_X11_notsOpen = true := by decide +kernel
theorem tbX11_count : rx_tab.getD mX11_count [] = rt_X11_count := rfl
theorem ndX11_count : rx_inc rt_X11_count = true := by decide +kernel
theorem tbX11_settle : rx_tab.getD mX11_settle [] = rt_X11_settle := rfl
theorem ndX11_settle : rx_inc rt_X11_settle = true := by decide +kernel
theorem tbX11_ask : rx_tab.getD mX11_ask [] = rt_X11_ask := rfl
theorem ndX11_ask : rx_inc rt_X11_ask = true := by decide +kernel
theorem tbX11_takesKey : rx_tab.getD mX11_takesKey [] = rt_X11_takesKey := rfl
theorem ndX11_takesKey : rx_inc rt_X11_takesKey = true := by decide +kernel
theorem tbX11_signHere : rx_tab.getD mX11_signHere [] = rt_X11_signHere := rfl
theorem ndX11_signHere : rx_inc rt_X11_signHere = true := by decide +kernel
theorem tbX11_mark : rx_tab.getD mX11_mark [] = rt_X11_mark := rfl
theorem ndX11_mark : rx_inc rt_X11_mark = true := by decide +kernel
theorem tbX11_keep : rx_tab.getD mX11_keep [] = rt_X11_keep := rfl
theorem ndX11_keep : rx_inc rt_X11_keep = true := by decide +kernel
theorem tbX11_counts : rx_tab.getD mX11_counts [] = rt_X11_counts := rfl
theorem ndX11_counts : rx_inc rt_X11_counts = true := by decide +kernel
theorem tbX11_takesPart : rx_tab.getD mX11_takesPart [] = rt_X11_takesPart := rfl
theorem ndX11_takesPart : rx_inc rt_X11_takesPart = true := by decide +kernel
theorem tbX11_back : rx_tab.getD mX11_back [] = rt_X11_back := rfl
theorem ndX11_back : rx_inc rt_X11_back = true := by decide +kernel
theorem tbX11_sheet : rx_tab.getD mX11_sheet [] = rt_X11_sheet := rfl
theorem ndX11_sheet : rx_inc rt_X11_sheet = true := by decide +kernel
theorem tbX11_text : rx_tab.getD mX11_text [] = rt_X11_text := rfl
theorem ndX11_text : rx_inc rt_X11_text = true := by decide +kernel
theorem tbX11_isSlot : rx_tab.getD mX11_isSlot [] = rt_X11_isSlot := rfl
theorem ndX11_isSlot : rx_inc rt_X11_isSlot = true := by decide +kernel
theorem tbX11_copy : rx_tab.getD mX11_copy [] = rt_X11_copy := rfl
theorem ndX11_copy : rx_inc rt_X11_copy = true := by decide +kernel
theorem tbX11_rest : rx_tab.getD mX11_rest [] = rt_X11_rest := rfl
theorem ndX11_rest : rx_inc rt_X11_rest = true := by decide +kernel
theorem tbX11_isFigure : rx_tab.getD mX11_isFigure [] = rt_X11_isFigure := rfl
theorem ndX11_isFigure : rx_inc rt_X11_isFigure = true := by decide +kernel
theorem tbX11_pour : rx_tab.getD mX11_pour [] = rt_X11_pour := rfl
theorem ndX11_pour : rx_inc rt_X11_pour = true := by decide +kernel
theorem tbX11_textTold : rx_tab.getD mX11_textTold [] = rt_X11_textTold := rfl
theorem ndX11_textTold : rx_inc rt_X11_textTold = true := by decide +kernel
theorem tbX11_lay : rx_tab.getD mX11_lay [] = rt_X11_lay := rfl
theorem ndX11_lay : rx_inc rt_X11_lay = true := by decide +kernel
theorem tbX11_rank : rx_tab.getD mX11_rank [] = rt_X11_rank := rfl
theorem ndX11_rank : rx_inc rt_X11_rank = true := by decide +kernel
theorem tbX11_deal : rx_tab.getD mX11_deal [] = rt_X11_deal := rfl
theorem ndX11_deal : rx_inc rt_X11_deal = true := by decide +kernel
theorem tbX11_takesE : rx_tab.getD mX11_takesE [] = rt_X11_takesE := rfl
theorem ndX11_takesE : rx_inc rt_X11_takesE = true := by decide +kernel
theorem lmX11_takesE_0 {x : Nat × rx_I} (h : x ∈ rt_X11_takesE_0) : x ∈ rt_X11_takesE := List.mem_append_left _ h
theorem lmX11_takesE_1 {x : Nat × rx_I} (h : x ∈ rt_X11_takesE_1) : x ∈ rt_X11_takesE := List.mem_append_right _ (List.mem_append_left _ h)
theorem lmX11_takesE_2 {x : Nat × rx_I} (h : x ∈ rt_X11_takesE_2) : x ∈ rt_X11_takesE := List.mem_append_right _ (List.mem_append_right _ (List.mem_append_left _ h))
theorem lmX11_takesE_3 {x : Nat × rx_I} (h : x ∈ rt_X11_takesE_3) : x ∈ rt_X11_takesE := List.mem_append_right _ (List.mem_append_right _ (List.mem_append_right _ (List.mem_append_left _ h)))
theorem lmX11_takesE_4 {x : Nat × rx_I} (h : x ∈ rt_X11_takesE_4) : x ∈ rt_X11_takesE := List.mem_append_right _ (List.mem_append_right _ (List.mem_append_right _ (List.mem_append_right _ (h))))
theorem tbX11_feed : rx_tab.getD mX11_feed [] = rt_X11_feed := rfl
theorem ndX11_feed : rx_inc rt_X11_feed = true := by decide +kernel
theorem tbX11_isLetter : rx_tab.getD mX11_isLetter [] = rt_X11_isLetter := rfl
theorem ndX11_isLetter : rx_inc rt_X11_isLetter = true := by decide +kernel
theorem tbX11_two : rx_tab.getD mX11_two [] = rt_X11_two := rfl
theorem ndX11_two : rx_inc rt_X11_two = true := by decide +kernel
theorem tbX11_seed : rx_tab.getD mX11_seed [] = rt_X11_seed := rfl
theorem ndX11_seed : rx_inc rt_X11_seed = true := by decide +kernel
theorem tbX11_rightSwaps : rx_tab.getD mX11_rightSwaps [] = rt_X11_rightSwaps := rfl
theorem ndX11_rightSwaps : rx_inc rt_X11_rightSwaps = true := by decide +kernel
theorem tbX11_worksOut : rx_tab.getD mX11_worksOut [] = rt_X11_worksOut := rfl
theorem ndX11_worksOut : rx_inc rt_X11_worksOut = true := by decide +kernel
theorem tbX11_item : rx_tab.getD mX11_item [] = rt_X11_item := rfl
theorem ndX11_item : rx_inc rt_X11_item = true := by decide +kernel
theorem tbX11_go : rx_tab.getD mX11_go [] = rt_X11_go := rfl
theorem ndX11_go : rx_inc rt_X11_go = true := by decide +kernel
theorem lmX11_go_0 {x : Nat × rx_I} (h : x ∈ rt_X11_go_0) : x ∈ rt_X11_go := List.mem_append_left _ h
theorem lmX11_go_1 {x : Nat × rx_I} (h : x ∈ rt_X11_go_1) : x ∈ rt_X11_go := List.mem_append_right _ (List.mem_append_left _ h)
theorem lmX11_go_2 {x : Nat × rx_I} (h : x ∈ rt_X11_go_2) : x ∈ rt_X11_go := List.mem_append_right _ (List.mem_append_right _ (List.mem_append_left _ h))
theorem lmX11_go_3 {x : Nat × rx_I} (h : x ∈ rt_X11_go_3) : x ∈ rt_X11_go := List.mem_append_right _ (List.mem_append_right _ (List.mem_append_right _ (h)))
theorem tbX11_trim : rx_tab.getD mX11_trim [] = rt_X11_trim := rfl
theorem ndX11_trim : rx_inc rt_X11_trim = true := by decide +kernel
theorem tbX11_tell : rx_tab.getD mX11_tell [] = rt_X11_tell := rfl
theorem ndX11_tell : rx_inc rt_X11_tell = true := by decide +kernel
theorem tbX11_why : rx_tab.getD mX11_why [] = rt_X11_why := rfl
theorem ndX11_why : rx_inc rt_X11_why = true := by decide +kernel
theorem tbX11_nameOf : rx_tab.getD mX11_nameOf [] = rt_X11_nameOf := rfl
theorem ndX11_nameOf : rx_inc rt_X11_nameOf = true := by decide +kernel
theorem iX11_deal_0 : rx_ins mX11_deal 0 = some (2, 1, 0, 1, 0, []) := rx_at tbX11_deal ndX11_deal (j := 0) rfl
theorem iX11_deal_1 : rx_ins mX11_deal 1 = some (1, 2, 0, 0, 0, []) := rx_at tbX11_deal ndX11_deal (j := 1) rfl
theorem iX11_deal_2 : rx_ins mX11_deal 2 = some (1, 3, 1, 0, 0, []) := rx_at tbX11_deal ndX11_deal (j := 2) rfl
theorem iX11_deal_3 : rx_ins mX11_deal 3 = some (28, 6, 0, 133, 3, [(111, 198)]) := rx_at tbX11_deal ndX11_deal (j := 3) rfl
theorem iX11_deal_6 : rx_ins mX11_deal 6 = some (13, 9, 13, 0, 19, []) := rx_at tbX11_deal ndX11_deal (j := 4) rfl
theorem iX11_deal_19 : rx_ins mX11_deal 19 = some (1, 21, (-1000000001), 3, 21, [(130, 0)]) := rx_at tbX11_deal ndX11_deal (j := 10) rfl
theorem iX11_deal_21 : rx_ins mX11_deal 21 = some (29, 22, 0, 0, 0, []) := rx_at tbX11_deal ndX11_deal (j := 11) rfl
theorem iX11_deal_9 : rx_ins mX11_deal 9 = some (2, 10, 0, 2, 0, []) := rx_at tbX11_deal ndX11_deal (j := 5) rfl
theorem iX11_deal_10 : rx_ins mX11_deal 10 = some (1, 11, 1, 0, 0, []) := rx_at tbX11_deal ndX11_deal (j := 6) rfl
theorem iX11_deal_11 : rx_ins mX11_deal 11 = some (1, 13, 20, 1, 0, []) := rx_at tbX11_deal ndX11_deal (j := 7) rfl
theorem iX11_deal_13 : rx_ins mX11_deal 13 = some (28, 16, 0, 133, 3, [(111, 198)]) := rx_at tbX11_deal ndX11_deal (j := 8) rfl
theorem iX11_deal_16 : rx_ins mX11_deal 16 = some (13, 19, 6, 1, 22, []) := rx_at tbX11_deal ndX11_deal (j := 9) rfl
theorem iX11_deal_22 : rx_ins mX11_deal 22 = some (2, 23, 0, 1, 0, []) := rx_at tbX11_deal ndX11_deal (j := 12) rfl
theorem iX11_deal_23 : rx_ins mX11_deal 23 = some (1, 24, 1, 0, 0, []) := rx_at tbX11_deal ndX11_deal (j := 13) rfl
theorem iX11_deal_24 : rx_ins mX11_deal 24 = some (14, 27, 15, 1, 39, []) := rx_at tbX11_deal ndX11_deal (j := 14) rfl
theorem iX11_deal_39 : rx_ins mX11_deal 39 = some (1, 40, 0, 0, 0, []) := rx_at tbX11_deal ndX11_deal (j := 22) rfl
theorem iX11_deal_40 : rx_ins mX11_deal 40 = some (4, 41, 0, 3, 0, []) := rx_at tbX11_deal ndX11_deal (j := 23) rfl
theorem iX11_deal_41 : rx_ins mX11_deal 41 = some (1, 42, 0, 0, 0, []) := rx_at tbX11_deal ndX11_deal (j := 24) rfl
theorem iX11_deal_42 : rx_ins mX11_deal 42 = some (4, 44, 1, 4, 0, []) := rx_at tbX11_deal ndX11_deal (j := 25) rfl
theorem iX11_deal_27 : rx_ins mX11_deal 27 = some (3, 28, 0, 0, 0, []) := rx_at tbX11_deal ndX11_deal (j := 15) rfl
theorem iX11_deal_28 : rx_ins mX11_deal 28 = some (18, 31, 0, 11, 0, [(9, 124)]) := rx_at tbX11_deal ndX11_deal (j := 16) rfl
theorem iX11_deal_31 : rx_ins mX11_deal 31 = some (1, 32, 1, 0, 0, []) := rx_at tbX11_deal ndX11_deal (j := 17) rfl
theorem iX11_deal_32 : rx_ins mX11_deal 32 = some (20, 33, 0, 0, 0, []) := rx_at tbX11_deal ndX11_deal (j := 18) rfl
theorem iX11_deal_33 : rx_ins mX11_deal 33 = some (13, 36, 6, 1, 39, []) := rx_at tbX11_deal ndX11_deal (j := 19) rfl
theorem iX11_deal_36 : rx_ins mX11_deal 36 = some (1, 38, (-1000000002), 3, 22, [(134, 0)]) := rx_at tbX11_deal ndX11_deal (j := 20) rfl
theorem iX11_deal_38 : rx_ins mX11_deal 38 = some (29, 39, 0, 0, 0, []) := rx_at tbX11_deal ndX11_deal (j := 21) rfl
theorem iX11_deal_44 : rx_ins mX11_deal 44 = some (2, 46, 1, 4, 0, []) := rx_at tbX11_deal ndX11_deal (j := 26) rfl
theorem iX11_deal_46 : rx_ins mX11_deal 46 = some (2, 47, 0, 2, 0, []) := rx_at tbX11_deal ndX11_deal (j := 27) rfl
theorem iX11_deal_47 : rx_ins mX11_deal 47 = some (14, 50, 27, 3, 74, []) := rx_at tbX11_deal ndX11_deal (j := 28) rfl
theorem iX11_deal_74 : rx_ins mX11_deal 74 = some (2, 75, 0, 3, 0, []) := rx_at tbX11_deal ndX11_deal (j := 41) rfl
theorem iX11_deal_75 : rx_ins mX11_deal 75 = some (29, 76, 0, 0, 0, []) := rx_at tbX11_deal ndX11_deal (j := 42) rfl
theorem iX11_deal_50 : rx_ins mX11_deal 50 = some (2, 51, 0, 3, 0, []) := rx_at tbX11_deal ndX11_deal (j := 29) rfl
theorem iX11_deal_51 : rx_ins mX11_deal 51 = some (2, 52, 0, 1, 0, []) := rx_at tbX11_deal ndX11_deal (j := 30) rfl
theorem iX11_deal_52 : rx_ins mX11_deal 52 = some (13, 55, 10, 1, 62, []) := rx_at tbX11_deal ndX11_deal (j := 31) rfl
theorem iX11_deal_62 : rx_ins mX11_deal 62 = some (3, 63, 0, 0, 0, []) := rx_at tbX11_deal ndX11_deal (j := 35) rfl
theorem iX11_deal_63 : rx_ins mX11_deal 63 = some (28, 66, 13, 208, 1, [(316, 252)]) := rx_at tbX11_deal ndX11_deal (j := 36) rfl
theorem iX11_deal_66 : rx_ins mX11_deal 66 = some (7, 67, 0, 0, 0, []) := rx_at tbX11_deal ndX11_deal (j := 37) rfl
theorem iX11_deal_67 : rx_ins mX11_deal 67 = some (4, 68, 0, 3, 0, []) := rx_at tbX11_deal ndX11_deal (j := 38) rfl
theorem iX11_deal_68 : rx_ins mX11_deal 68 = some (6, 71, 1, 4, 0, []) := rx_at tbX11_deal ndX11_deal (j := 39) rfl
theorem iX11_deal_71 : rx_ins mX11_deal 71 = some (15, 74, (-27), 0, 44, []) := rx_at tbX11_deal ndX11_deal (j := 40) rfl
theorem iX11_deal_55 : rx_ins mX11_deal 55 = some (3, 56, 0, 0, 0, []) := rx_at tbX11_deal ndX11_deal (j := 32) rfl
theorem iX11_deal_56 : rx_ins mX11_deal 56 = some (28, 59, 13, 207, 1, [(313, 251)]) := rx_at tbX11_deal ndX11_deal (j := 33) rfl
theorem iX11_deal_59 : rx_ins mX11_deal 59 = some (15, 62, 7, 0, 66, []) := rx_at tbX11_deal ndX11_deal (j := 34) rfl
theorem iX11_seed_0 : rx_ins mX11_seed 0 = some (3, 1, 0, 0, 0, []) := rx_at tbX11_seed ndX11_seed (j := 0) rfl
theorem iX11_seed_1 : rx_ins mX11_seed 1 = some (18, 4, 0, 11, 0, [(9, 124)]) := rx_at tbX11_seed ndX11_seed (j := 1) rfl
theorem iX11_seed_4 : rx_ins mX11_seed 4 = some (1, 5, 0, 0, 0, []) := rx_at tbX11_seed ndX11_seed (j := 2) rfl
theorem iX11_seed_5 : rx_ins mX11_seed 5 = some (20, 6, 0, 0, 0, []) := rx_at tbX11_seed ndX11_seed (j := 3) rfl
theorem iX11_seed_6 : rx_ins mX11_seed 6 = some (4, 7, 0, 2, 0, []) := rx_at tbX11_seed ndX11_seed (j := 4) rfl
theorem iX11_seed_7 : rx_ins mX11_seed 7 = some (3, 8, 0, 0, 0, []) := rx_at tbX11_seed ndX11_seed (j := 5) rfl
theorem iX11_seed_8 : rx_ins mX11_seed 8 = some (18, 11, 0, 11, 0, [(9, 124)]) := rx_at tbX11_seed ndX11_seed (j := 6) rfl
theorem iX11_seed_11 : rx_ins mX11_seed 11 = some (1, 12, 0, 0, 0, []) := rx_at tbX11_seed ndX11_seed (j := 7) rfl
theorem iX11_seed_12 : rx_ins mX11_seed 12 = some (2, 13, 0, 1, 0, []) := rx_at tbX11_seed ndX11_seed (j := 8) rfl
theorem iX11_seed_13 : rx_ins mX11_seed 13 = some (21, 14, 0, 0, 0, []) := rx_at tbX11_seed ndX11_seed (j := 9) rfl
theorem iX11_seed_14 : rx_ins mX11_seed 14 = some (2, 15, 0, 2, 0, []) := rx_at tbX11_seed ndX11_seed (j := 10) rfl
theorem iX11_seed_15 : rx_ins mX11_seed 15 = some (29, 16, 0, 0, 0, []) := rx_at tbX11_seed ndX11_seed (j := 11) rfl
theorem iX11_feed_0 : rx_ins mX11_feed 0 = some (3, 1, 0, 0, 0, []) := rx_at tbX11_feed ndX11_feed (j := 0) rfl
theorem iX11_feed_1 : rx_ins mX11_feed 1 = some (17, 4, 0, 11, 22, [(319, 146)]) := rx_at tbX11_feed ndX11_feed (j := 1) rfl
theorem iX11_feed_4 : rx_ins mX11_feed 4 = some (1, 6, 12, 1, 0, []) := rx_at tbX11_feed ndX11_feed (j := 2) rfl
theorem iX11_feed_6 : rx_ins mX11_feed 6 = some (7, 7, 0, 0, 0, []) := rx_at tbX11_feed ndX11_feed (j := 3) rfl
theorem iX11_feed_7 : rx_ins mX11_feed 7 = some (1, 9, 96, 1, 0, []) := rx_at tbX11_feed ndX11_feed (j := 4) rfl
theorem iX11_feed_9 : rx_ins mX11_feed 9 = some (14, 12, 6, 5, 15, []) := rx_at tbX11_feed ndX11_feed (j := 5) rfl
theorem iX11_feed_15 : rx_ins mX11_feed 15 = some (1, 16, 0, 0, 0, []) := rx_at tbX11_feed ndX11_feed (j := 8) rfl
theorem iX11_feed_16 : rx_ins mX11_feed 16 = some (4, 18, 1, 4, 0, []) := rx_at tbX11_feed ndX11_feed (j := 9) rfl
theorem iX11_feed_12 : rx_ins mX11_feed 12 = some (1, 14, (-1000000003), 3, 23, [(135, 0)]) := rx_at tbX11_feed ndX11_feed (j := 6) rfl
theorem iX11_feed_14 : rx_ins mX11_feed 14 = some (29, 15, 0, 0, 0, []) := rx_at tbX11_feed ndX11_feed (j := 7) rfl
theorem iX11_feed_18 : rx_ins mX11_feed 18 = some (2, 20, 1, 4, 0, []) := rx_at tbX11_feed ndX11_feed (j := 10) rfl
theorem iX11_feed_20 : rx_ins mX11_feed 20 = some (1, 22, 12, 1, 0, []) := rx_at tbX11_feed ndX11_feed (j := 11) rfl
theorem iX11_feed_22 : rx_ins mX11_feed 22 = some (14, 25, 62, 3, 84, []) := rx_at tbX11_feed ndX11_feed (j := 12) rfl
theorem iX11_feed_84 : rx_ins mX11_feed 84 = some (3, 85, 0, 0, 0, []) := rx_at tbX11_feed ndX11_feed (j := 45) rfl
theorem iX11_feed_85 : rx_ins mX11_feed 85 = some (10, 86, 0, 0, 0, []) := rx_at tbX11_feed ndX11_feed (j := 46) rfl
theorem iX11_feed_86 : rx_ins mX11_feed 86 = some (17, 89, 0, 11, 22, [(319, 146)]) := rx_at tbX11_feed ndX11_feed (j := 47) rfl
theorem iX11_feed_89 : rx_ins mX11_feed 89 = some (1, 91, 12, 1, 0, []) := rx_at tbX11_feed ndX11_feed (j := 48) rfl
theorem iX11_feed_91 : rx_ins mX11_feed 91 = some (7, 92, 0, 0, 0, []) := rx_at tbX11_feed ndX11_feed (j := 49) rfl
theorem iX11_feed_92 : rx_ins mX11_feed 92 = some (19, 95, 0, 11, 22, [(319, 146)]) := rx_at tbX11_feed ndX11_feed (j := 50) rfl
theorem iX11_feed_95 : rx_ins mX11_feed 95 = some (3, 96, 0, 0, 0, []) := rx_at tbX11_feed ndX11_feed (j := 51) rfl
theorem iX11_feed_96 : rx_ins mX11_feed 96 = some (17, 99, 0, 11, 22, [(319, 146)]) := rx_at tbX11_feed ndX11_feed (j := 52) rfl
theorem iX11_feed_99 : rx_ins mX11_feed 99 = some (29, 100, 0, 0, 0, []) := rx_at tbX11_feed ndX11_feed (j := 53) rfl
theorem iX11_feed_25 : rx_ins mX11_feed 25 = some (2, 27, 1, 4, 0, []) := rx_at tbX11_feed ndX11_feed (j := 13) rfl
theorem iX11_feed_27 : rx_ins mX11_feed 27 = some (1, 28, 4, 0, 0, []) := rx_at tbX11_feed ndX11_feed (j := 14) rfl
theorem iX11_feed_28 : rx_ins mX11_feed 28 = some (14, 31, 7, 3, 35, []) := rx_at tbX11_feed ndX11_feed (j := 15) rfl
theorem iX11_feed_35 : rx_ins mX11_feed 35 = some (2, 37, 1, 4, 0, []) := rx_at tbX11_feed ndX11_feed (j := 18) rfl
theorem iX11_feed_37 : rx_ins mX11_feed 37 = some (1, 39, 8, 1, 0, []) := rx_at tbX11_feed ndX11_feed (j := 19) rfl
theorem iX11_feed_39 : rx_ins mX11_feed 39 = some (14, 42, 7, 3, 46, []) := rx_at tbX11_feed ndX11_feed (j := 20) rfl
theorem iX11_feed_46 : rx_ins mX11_feed 46 = some (2, 47, 0, 3, 0, []) := rx_at tbX11_feed ndX11_feed (j := 23) rfl
theorem iX11_feed_47 : rx_ins mX11_feed 47 = some (4, 49, 1, 5, 0, []) := rx_at tbX11_feed ndX11_feed (j := 24) rfl
theorem iX11_feed_49 : rx_ins mX11_feed 49 = some (3, 50, 0, 0, 0, []) := rx_at tbX11_feed ndX11_feed (j := 25) rfl
theorem iX11_feed_50 : rx_ins mX11_feed 50 = some (18, 53, 0, 11, 21, [(59, 147)]) := rx_at tbX11_feed ndX11_feed (j := 26) rfl
theorem iX11_feed_53 : rx_ins mX11_feed 53 = some (3, 54, 0, 0, 0, []) := rx_at tbX11_feed ndX11_feed (j := 27) rfl
theorem iX11_feed_54 : rx_ins mX11_feed 54 = some (17, 57, 0, 11, 22, [(319, 146)]) := rx_at tbX11_feed ndX11_feed (j := 28) rfl
theorem iX11_feed_57 : rx_ins mX11_feed 57 = some (2, 59, 1, 4, 0, []) := rx_at tbX11_feed ndX11_feed (j := 29) rfl
theorem iX11_feed_59 : rx_ins mX11_feed 59 = some (7, 60, 0, 0, 0, []) := rx_at tbX11_feed ndX11_feed (j := 30) rfl
theorem iX11_feed_60 : rx_ins mX11_feed 60 = some (2, 62, 1, 5, 0, []) := rx_at tbX11_feed ndX11_feed (j := 31) rfl
theorem iX11_feed_62 : rx_ins mX11_feed 62 = some (1, 64, 24, 1, 0, []) := rx_at tbX11_feed ndX11_feed (j := 32) rfl
theorem iX11_feed_64 : rx_ins mX11_feed 64 = some (1, 66, 8, 1, 0, []) := rx_at tbX11_feed ndX11_feed (j := 33) rfl
theorem iX11_feed_66 : rx_ins mX11_feed 66 = some (2, 68, 1, 4, 0, []) := rx_at tbX11_feed ndX11_feed (j := 34) rfl
theorem iX11_feed_68 : rx_ins mX11_feed 68 = some (1, 69, 4, 0, 0, []) := rx_at tbX11_feed ndX11_feed (j := 35) rfl
theorem iX11_feed_69 : rx_ins mX11_feed 69 = some (8, 70, 0, 1, 0, []) := rx_at tbX11_feed ndX11_feed (j := 36) rfl
theorem iX11_feed_70 : rx_ins mX11_feed 70 = some (7, 71, 0, 2, 0, []) := rx_at tbX11_feed ndX11_feed (j := 37) rfl
theorem iX11_feed_71 : rx_ins mX11_feed 71 = some (7, 72, 0, 1, 0, []) := rx_at tbX11_feed ndX11_feed (j := 38) rfl
theorem iX11_feed_72 : rx_ins mX11_feed 72 = some (7, 73, 0, 7, 0, []) := rx_at tbX11_feed ndX11_feed (j := 39) rfl
theorem iX11_feed_73 : rx_ins mX11_feed 73 = some (1, 76, 255, 2, 0, []) := rx_at tbX11_feed ndX11_feed (j := 40) rfl
theorem iX11_feed_76 : rx_ins mX11_feed 76 = some (7, 77, 0, 3, 0, []) := rx_at tbX11_feed ndX11_feed (j := 41) rfl
theorem iX11_feed_77 : rx_ins mX11_feed 77 = some (21, 78, 0, 0, 0, []) := rx_at tbX11_feed ndX11_feed (j := 42) rfl
theorem iX11_feed_78 : rx_ins mX11_feed 78 = some (6, 81, 1, 4, 0, []) := rx_at tbX11_feed ndX11_feed (j := 43) rfl
theorem iX11_feed_81 : rx_ins mX11_feed 81 = some (15, 84, (-63), 0, 18, []) := rx_at tbX11_feed ndX11_feed (j := 44) rfl
theorem iX11_feed_42 : rx_ins mX11_feed 42 = some (2, 43, 0, 2, 0, []) := rx_at tbX11_feed ndX11_feed (j := 21) rfl
theorem iX11_feed_43 : rx_ins mX11_feed 43 = some (15, 46, 4, 0, 47, []) := rx_at tbX11_feed ndX11_feed (j := 22) rfl
theorem iX11_feed_31 : rx_ins mX11_feed 31 = some (2, 32, 0, 1, 0, []) := rx_at tbX11_feed ndX11_feed (j := 16) rfl
theorem iX11_feed_32 : rx_ins mX11_feed 32 = some (15, 35, 15, 0, 47, []) := rx_at tbX11_feed ndX11_feed (j := 17) rfl
theorem iX11_trim_0 : rx_ins mX11_trim 0 = some (2, 1, 0, 1, 0, []) := rx_at tbX11_trim ndX11_trim (j := 0) rfl
theorem iX11_trim_1 : rx_ins mX11_trim 1 = some (1, 2, 0, 0, 0, []) := rx_at tbX11_trim ndX11_trim (j := 1) rfl
theorem iX11_trim_2 : rx_ins mX11_trim 2 = some (3, 3, 0, 0, 0, []) := rx_at tbX11_trim ndX11_trim (j := 2) rfl
theorem iX11_trim_3 : rx_ins mX11_trim 3 = some (17, 6, 0, 11, 22, [(319, 146)]) := rx_at tbX11_trim ndX11_trim (j := 3) rfl
theorem iX11_trim_6 : rx_ins mX11_trim 6 = some (28, 9, 0, 133, 3, [(111, 198)]) := rx_at tbX11_trim ndX11_trim (j := 4) rfl
theorem iX11_trim_9 : rx_ins mX11_trim 9 = some (13, 12, 6, 1, 15, []) := rx_at tbX11_trim ndX11_trim (j := 5) rfl
theorem iX11_trim_15 : rx_ins mX11_trim 15 = some (3, 16, 0, 0, 0, []) := rx_at tbX11_trim ndX11_trim (j := 8) rfl
theorem iX11_trim_16 : rx_ins mX11_trim 16 = some (2, 17, 0, 1, 0, []) := rx_at tbX11_trim ndX11_trim (j := 9) rfl
theorem iX11_trim_17 : rx_ins mX11_trim 17 = some (19, 20, 0, 11, 22, [(319, 146)]) := rx_at tbX11_trim ndX11_trim (j := 10) rfl
theorem iX11_trim_20 : rx_ins mX11_trim 20 = some (2, 21, 0, 1, 0, []) := rx_at tbX11_trim ndX11_trim (j := 11) rfl
theorem iX11_trim_21 : rx_ins mX11_trim 21 = some (29, 22, 0, 0, 0, []) := rx_at tbX11_trim ndX11_trim (j := 12) rfl
theorem iX11_trim_12 : rx_ins mX11_trim 12 = some (1, 14, (-1000000001), 3, 21, [(130, 0)]) := rx_at tbX11_trim ndX11_trim (j := 6) rfl
theorem iX11_trim_14 : rx_ins mX11_trim 14 = some (29, 15, 0, 0, 0, []) := rx_at tbX11_trim ndX11_trim (j := 7) rfl
theorem iX11_isLetter_0 : rx_ins mX11_isLetter 0 = some (2, 1, 0, 1, 0, []) := rx_at tbX11_isLetter ndX11_isLetter (j := 0) rfl
theorem iX11_isLetter_1 : rx_ins mX11_isLetter 1 = some (3, 2, 0, 0, 0, []) := rx_at tbX11_isLetter ndX11_isLetter (j := 1) rfl
theorem iX11_isLetter_2 : rx_ins mX11_isLetter 2 = some (17, 5, 0, 11, 22, [(319, 146)]) := rx_at tbX11_isLetter ndX11_isLetter (j := 2) rfl
theorem iX11_isLetter_5 : rx_ins mX11_isLetter 5 = some (14, 8, 29, 3, 34, []) := rx_at tbX11_isLetter ndX11_isLetter (j := 3) rfl
theorem iX11_isLetter_34 : rx_ins mX11_isLetter 34 = some (1, 35, 0, 0, 0, []) := rx_at tbX11_isLetter ndX11_isLetter (j := 18) rfl
theorem iX11_isLetter_35 : rx_ins mX11_isLetter 35 = some (29, 36, 1, 0, 0, []) := rx_at tbX11_isLetter ndX11_isLetter (j := 19) rfl
theorem iX11_isLetter_8 : rx_ins mX11_isLetter 8 = some (3, 9, 0, 0, 0, []) := rx_at tbX11_isLetter ndX11_isLetter (j := 4) rfl
theorem iX11_isLetter_9 : rx_ins mX11_isLetter 9 = some (18, 12, 0, 11, 21, [(59, 147)]) := rx_at tbX11_isLetter ndX11_isLetter (j := 5) rfl
theorem iX11_isLetter_12 : rx_ins mX11_isLetter 12 = some (2, 13, 0, 1, 0, []) := rx_at tbX11_isLetter ndX11_isLetter (j := 6) rfl
theorem iX11_isLetter_13 : rx_ins mX11_isLetter 13 = some (20, 14, 0, 0, 0, []) := rx_at tbX11_isLetter ndX11_isLetter (j := 7) rfl
theorem iX11_isLetter_14 : rx_ins mX11_isLetter 14 = some (1, 16, 97, 1, 0, []) := rx_at tbX11_isLetter ndX11_isLetter (j := 8) rfl
theorem iX11_isLetter_16 : rx_ins mX11_isLetter 16 = some (14, 19, 18, 2, 34, []) := rx_at tbX11_isLetter ndX11_isLetter (j := 9) rfl
theorem iX11_isLetter_19 : rx_ins mX11_isLetter 19 = some (3, 20, 0, 0, 0, []) := rx_at tbX11_isLetter ndX11_isLetter (j := 10) rfl
theorem iX11_isLetter_20 : rx_ins mX11_isLetter 20 = some (18, 23, 0, 11, 21, [(59, 147)]) := rx_at tbX11_isLetter ndX11_isLetter (j := 11) rfl
theorem iX11_isLetter_23 : rx_ins mX11_isLetter 23 = some (2, 24, 0, 1, 0, []) := rx_at tbX11_isLetter ndX11_isLetter (j := 12) rfl
theorem iX11_isLetter_24 : rx_ins mX11_isLetter 24 = some (20, 25, 0, 0, 0, []) := rx_at tbX11_isLetter ndX11_isLetter (j := 13) rfl
theorem iX11_isLetter_25 : rx_ins mX11_isLetter 25 = some (1, 27, 122, 1, 0, []) := rx_at tbX11_isLetter ndX11_isLetter (j := 14) rfl
theorem iX11_isLetter_27 : rx_ins mX11_isLetter 27 = some (14, 30, 7, 4, 34, []) := rx_at tbX11_isLetter ndX11_isLetter (j := 15) rfl
theorem iX11_isLetter_30 : rx_ins mX11_isLetter 30 = some (1, 31, 1, 0, 0, []) := rx_at tbX11_isLetter ndX11_isLetter (j := 16) rfl
theorem iX11_isLetter_31 : rx_ins mX11_isLetter 31 = some (15, 34, 4, 0, 35, []) := rx_at tbX11_isLetter ndX11_isLetter (j := 17) rfl
theorem iX11_isFigure_0 : rx_ins mX11_isFigure 0 = some (2, 1, 0, 1, 0, []) := rx_at tbX11_isFigure ndX11_isFigure (j := 0) rfl
theorem iX11_isFigure_1 : rx_ins mX11_isFigure 1 = some (3, 2, 0, 0, 0, []) := rx_at tbX11_isFigure ndX11_isFigure (j := 1) rfl
theorem iX11_isFigure_2 : rx_ins mX11_isFigure 2 = some (17, 5, 0, 11, 22, [(319, 146)]) := rx_at tbX11_isFigure ndX11_isFigure (j := 2) rfl
theorem iX11_isFigure_5 : rx_ins mX11_isFigure 5 = some (14, 8, 29, 3, 34, []) := rx_at tbX11_isFigure ndX11_isFigure (j := 3) rfl
theorem iX11_isFigure_34 : rx_ins mX11_isFigure 34 = some (1, 35, 0, 0, 0, []) := rx_at tbX11_isFigure ndX11_isFigure (j := 18) rfl
theorem iX11_isFigure_35 : rx_ins mX11_isFigure 35 = some (29, 36, 1, 0, 0, []) := rx_at tbX11_isFigure ndX11_isFigure (j := 19) rfl
theorem iX11_isFigure_8 : rx_ins mX11_isFigure 8 = some (3, 9, 0, 0, 0, []) := rx_at tbX11_isFigure ndX11_isFigure (j := 4) rfl
theorem iX11_isFigure_9 : rx_ins mX11_isFigure 9 = some (18, 12, 0, 11, 21, [(59, 147)]) := rx_at tbX11_isFigure ndX11_isFigure (j := 5) rfl
theorem iX11_isFigure_12 : rx_ins mX11_isFigure 12 = some (2, 13, 0, 1, 0, []) := rx_at tbX11_isFigure ndX11_isFigure (j := 6) rfl
theorem iX11_isFigure_13 : rx_ins mX11_isFigure 13 = some (20, 14, 0, 0, 0, []) := rx_at tbX11_isFigure ndX11_isFigure (j := 7) rfl
theorem iX11_isFigure_14 : rx_ins mX11_isFigure 14 = some (1, 16, 48, 1, 0, []) := rx_at tbX11_isFigure ndX11_isFigure (j := 8) rfl
theorem iX11_isFigure_16 : rx_ins mX11_isFigure 16 = some (14, 19, 18, 2, 34, []) := rx_at tbX11_isFigure ndX11_isFigure (j := 9) rfl
theorem iX11_isFigure_19 : rx_ins mX11_isFigure 19 = some (3, 20, 0, 0, 0, []) := rx_at tbX11_isFigure ndX11_isFigure (j := 10) rfl
theorem iX11_isFigure_20 : rx_ins mX11_isFigure 20 = some (18, 23, 0, 11, 21, [(59, 147)]) := rx_at tbX11_isFigure ndX11_isFigure (j := 11) rfl
theorem iX11_isFigure_23 : rx_ins mX11_isFigure 23 = some (2, 24, 0, 1, 0, []) := rx_at tbX11_isFigure ndX11_isFigure (j := 12) rfl
theorem iX11_isFigure_24 : rx_ins mX11_isFigure 24 = some (20, 25, 0, 0, 0, []) := rx_at tbX11_isFigure ndX11_isFigure (j := 13) rfl
theorem iX11_isFigure_25 : rx_ins mX11_isFigure 25 = some (1, 27, 57, 1, 0, []) := rx_at tbX11_isFigure ndX11_isFigure (j := 14) rfl
theorem iX11_isFigure_27 : rx_ins mX11_isFigure 27 = some (14, 30, 7, 4, 34, []) := rx_at tbX11_isFigure ndX11_isFigure (j := 15) rfl
theorem iX11_isFigure_30 : rx_ins mX11_isFigure 30 = some (1, 31, 1, 0, 0, []) := rx_at tbX11_isFigure ndX11_isFigure (j := 16) rfl
theorem iX11_isFigure_31 : rx_ins mX11_isFigure 31 = some (15, 34, 4, 0, 35, []) := rx_at tbX11_isFigure ndX11_isFigure (j := 17) rfl
theorem iX11_go_0 : rx_ins mX11_go 0 = some (3, 1, 0, 0, 0, []) := rx_atm tbX11_go ndX11_go (lmX11_go_0 (List.mem_of_getElem? (i := 0) rfl))
theorem iX11_go_1 : rx_ins mX11_go 1 = some (17, 4, 0, 11, 23, [(322, 148)]) := rx_atm tbX11_go ndX11_go (lmX11_go_0 (List.mem_of_getElem? (i := 1) rfl))
theorem iX11_go_4 : rx_ins mX11_go 4 = some (3, 5, 0, 0, 0, []) := rx_atm tbX11_go ndX11_go (lmX11_go_0 (List.mem_of_getElem? (i := 2) rfl))
theorem iX11_go_5 : rx_ins mX11_go 5 = some (17, 8, 0, 11, 22, [(319, 146)]) := rx_atm tbX11_go ndX11_go (lmX11_go_0 (List.mem_of_getElem? (i := 3) rfl))
theorem iX11_go_8 : rx_ins mX11_go 8 = some (14, 11, 30, 3, 38, []) := rx_atm tbX11_go ndX11_go (lmX11_go_0 (List.mem_of_getElem? (i := 4) rfl))
theorem iX11_go_11 : rx_ins mX11_go 11 = some (3, 12, 0, 0, 0, []) := rx_atm tbX11_go ndX11_go (lmX11_go_0 (List.mem_of_getElem? (i := 5) rfl))
theorem iX11_go_12 : rx_ins mX11_go 12 = some (18, 15, 0, 11, 21, [(59, 147)]) := rx_atm tbX11_go ndX11_go (lmX11_go_0 (List.mem_of_getElem? (i := 6) rfl))
theorem iX11_go_15 : rx_ins mX11_go 15 = some (3, 16, 0, 0, 0, []) := rx_atm tbX11_go ndX11_go (lmX11_go_0 (List.mem_of_getElem? (i := 7) rfl))
theorem iX11_go_16 : rx_ins mX11_go 16 = some (17, 19, 0, 11, 23, [(322, 148)]) := rx_atm tbX11_go ndX11_go (lmX11_go_0 (List.mem_of_getElem? (i := 8) rfl))
theorem iX11_go_19 : rx_ins mX11_go 19 = some (20, 20, 0, 0, 0, []) := rx_atm tbX11_go ndX11_go (lmX11_go_0 (List.mem_of_getElem? (i := 9) rfl))
theorem iX11_go_20 : rx_ins mX11_go 20 = some (1, 22, 32, 1, 0, []) := rx_atm tbX11_go ndX11_go (lmX11_go_0 (List.mem_of_getElem? (i := 10) rfl))
theorem iX11_go_22 : rx_ins mX11_go 22 = some (14, 25, 16, 1, 38, []) := rx_atm tbX11_go ndX11_go (lmX11_go_0 (List.mem_of_getElem? (i := 11) rfl))
theorem iX11_go_25 : rx_ins mX11_go 25 = some (3, 26, 0, 0, 0, []) := rx_atm tbX11_go ndX11_go (lmX11_go_0 (List.mem_of_getElem? (i := 12) rfl))
theorem iX11_go_26 : rx_ins mX11_go 26 = some (10, 27, 0, 0, 0, []) := rx_atm tbX11_go ndX11_go (lmX11_go_0 (List.mem_of_getElem? (i := 13) rfl))
theorem iX11_go_27 : rx_ins mX11_go 27 = some (17, 30, 0, 11, 23, [(322, 148)]) := rx_atm tbX11_go ndX11_go (lmX11_go_0 (List.mem_of_getElem? (i := 14) rfl))
theorem iX11_go_30 : rx_ins mX11_go 30 = some (1, 31, 1, 0, 0, []) := rx_atm tbX11_go ndX11_go (lmX11_go_0 (List.mem_of_getElem? (i := 15) rfl))
theorem iX11_go_31 : rx_ins mX11_go 31 = some (7, 32, 0, 0, 0, []) := rx_atm tbX11_go ndX11_go (lmX11_go_0 (List.mem_of_getElem? (i := 16) rfl))
theorem iX11_go_32 : rx_ins mX11_go 32 = some (19, 35, 0, 11, 23, [(322, 148)]) := rx_atm tbX11_go ndX11_go (lmX11_go_0 (List.mem_of_getElem? (i := 17) rfl))
theorem iX11_go_35 : rx_ins mX11_go 35 = some (15, 38, (-35), 0, 0, []) := rx_atm tbX11_go ndX11_go (lmX11_go_0 (List.mem_of_getElem? (i := 18) rfl))
theorem iX11_go_38 : rx_ins mX11_go 38 = some (3, 39, 0, 0, 0, []) := rx_atm tbX11_go ndX11_go (lmX11_go_0 (List.mem_of_getElem? (i := 19) rfl))
theorem iX11_go_39 : rx_ins mX11_go 39 = some (3, 40, 0, 0, 0, []) := rx_atm tbX11_go ndX11_go (lmX11_go_0 (List.mem_of_getElem? (i := 20) rfl))
theorem iX11_go_40 : rx_ins mX11_go 40 = some (17, 43, 0, 11, 23, [(322, 148)]) := rx_atm tbX11_go ndX11_go (lmX11_go_0 (List.mem_of_getElem? (i := 21) rfl))
theorem iX11_go_43 : rx_ins mX11_go 43 = some (19, 46, 0, 11, 24, [(325, 149)]) := rx_atm tbX11_go ndX11_go (lmX11_go_0 (List.mem_of_getElem? (i := 22) rfl))
theorem iX11_go_46 : rx_ins mX11_go 46 = some (3, 47, 0, 0, 0, []) := rx_atm tbX11_go ndX11_go (lmX11_go_0 (List.mem_of_getElem? (i := 23) rfl))
theorem iX11_go_47 : rx_ins mX11_go 47 = some (17, 50, 0, 11, 24, [(325, 149)]) := rx_atm tbX11_go ndX11_go (lmX11_go_0 (List.mem_of_getElem? (i := 24) rfl))
theorem iX11_go_50 : rx_ins mX11_go 50 = some (3, 51, 0, 0, 0, []) := rx_atm tbX11_go ndX11_go (lmX11_go_0 (List.mem_of_getElem? (i := 25) rfl))
theorem iX11_go_51 : rx_ins mX11_go 51 = some (17, 54, 0, 11, 27, [(328, 150)]) := rx_atm tbX11_go ndX11_go (lmX11_go_0 (List.mem_of_getElem? (i := 26) rfl))
theorem iX11_go_54 : rx_ins mX11_go 54 = some (14, 57, 7, 1, 61, []) := rx_atm tbX11_go ndX11_go (lmX11_go_0 (List.mem_of_getElem? (i := 27) rfl))
theorem iX11_go_61 : rx_ins mX11_go 61 = some (1, 62, 0, 0, 0, []) := rx_atm tbX11_go ndX11_go (lmX11_go_0 (List.mem_of_getElem? (i := 30) rfl))
theorem iX11_go_62 : rx_ins mX11_go 62 = some (4, 63, 0, 1, 0, []) := rx_atm tbX11_go ndX11_go (lmX11_go_0 (List.mem_of_getElem? (i := 31) rfl))
theorem iX11_go_57 : rx_ins mX11_go 57 = some (1, 58, 1, 0, 0, []) := rx_atm tbX11_go ndX11_go (lmX11_go_0 (List.mem_of_getElem? (i := 28) rfl))
theorem iX11_go_58 : rx_ins mX11_go 58 = some (15, 61, 4, 0, 62, []) := rx_atm tbX11_go ndX11_go (lmX11_go_0 (List.mem_of_getElem? (i := 29) rfl))
theorem iX11_go_63 : rx_ins mX11_go 63 = some (3, 64, 0, 0, 0, []) := rx_atm tbX11_go ndX11_go (lmX11_go_0 (List.mem_of_getElem? (i := 32) rfl))
theorem iX11_go_64 : rx_ins mX11_go 64 = some (17, 67, 0, 11, 24, [(325, 149)]) := rx_atm tbX11_go ndX11_go (lmX11_go_0 (List.mem_of_getElem? (i := 33) rfl))
theorem iX11_go_67 : rx_ins mX11_go 67 = some (3, 68, 0, 0, 0, []) := rx_atm tbX11_go ndX11_go (lmX11_go_0 (List.mem_of_getElem? (i := 34) rfl))
theorem iX11_go_68 : rx_ins mX11_go 68 = some (17, 71, 0, 11, 22, [(319, 146)]) := rx_atm tbX11_go ndX11_go (lmX11_go_0 (List.mem_of_getElem? (i := 35) rfl))
theorem iX11_go_71 : rx_ins mX11_go 71 = some (14, 74, 11, 1, 82, []) := rx_atm tbX11_go ndX11_go (lmX11_go_0 (List.mem_of_getElem? (i := 36) rfl))
theorem iX11_go_82 : rx_ins mX11_go 82 = some (3, 83, 0, 0, 0, []) := rx_atm tbX11_go ndX11_go (lmX11_go_1 (List.mem_of_getElem? (i := 1) rfl))
theorem iX11_go_83 : rx_ins mX11_go 83 = some (3, 84, 0, 0, 0, []) := rx_atm tbX11_go ndX11_go (lmX11_go_1 (List.mem_of_getElem? (i := 2) rfl))
theorem iX11_go_84 : rx_ins mX11_go 84 = some (17, 87, 0, 11, 24, [(325, 149)]) := rx_atm tbX11_go ndX11_go (lmX11_go_1 (List.mem_of_getElem? (i := 3) rfl))
theorem iX11_go_87 : rx_ins mX11_go 87 = some (28, 90, 13, 213, 2, [(334, 253)]) := rx_atm tbX11_go ndX11_go (lmX11_go_1 (List.mem_of_getElem? (i := 4) rfl))
theorem iX11_go_90 : rx_ins mX11_go 90 = some (13, 93, 64, 0, 154, []) := rx_atm tbX11_go ndX11_go (lmX11_go_1 (List.mem_of_getElem? (i := 5) rfl))
theorem iX11_go_154 : rx_ins mX11_go 154 = some (3, 155, 0, 0, 0, []) := rx_atm tbX11_go ndX11_go (lmX11_go_1 (List.mem_of_getElem? (i := 37) rfl))
theorem iX11_go_155 : rx_ins mX11_go 155 = some (3, 156, 0, 0, 0, []) := rx_atm tbX11_go ndX11_go (lmX11_go_1 (List.mem_of_getElem? (i := 38) rfl))
theorem iX11_go_156 : rx_ins mX11_go 156 = some (17, 159, 0, 11, 24, [(325, 149)]) := rx_atm tbX11_go ndX11_go (lmX11_go_1 (List.mem_of_getElem? (i := 39) rfl))
theorem iX11_go_159 : rx_ins mX11_go 159 = some (28, 162, 13, 214, 2, [(340, 254)]) := rx_atm tbX11_go ndX11_go (lmX11_go_2 (List.mem_of_getElem? (i := 0) rfl))
theorem iX11_go_162 : rx_ins mX11_go 162 = some (13, 165, 113, 0, 275, []) := rx_atm tbX11_go ndX11_go (lmX11_go_2 (List.mem_of_getElem? (i := 1) rfl))
theorem iX11_go_275 : rx_ins mX11_go 275 = some (3, 276, 0, 0, 0, []) := rx_atm tbX11_go ndX11_go (lmX11_go_3 (List.mem_of_getElem? (i := 20) rfl))
theorem iX11_go_276 : rx_ins mX11_go 276 = some (1, 277, 3, 0, 0, []) := rx_atm tbX11_go ndX11_go (lmX11_go_3 (List.mem_of_getElem? (i := 21) rfl))
theorem iX11_go_277 : rx_ins mX11_go 277 = some (19, 280, 0, 11, 25, [(331, 151)]) := rx_atm tbX11_go ndX11_go (lmX11_go_3 (List.mem_of_getElem? (i := 22) rfl))
theorem iX11_go_280 : rx_ins mX11_go 280 = some (3, 281, 0, 0, 0, []) := rx_atm tbX11_go ndX11_go (lmX11_go_3 (List.mem_of_getElem? (i := 23) rfl))
theorem iX11_go_281 : rx_ins mX11_go 281 = some (3, 282, 0, 0, 0, []) := rx_atm tbX11_go ndX11_go (lmX11_go_3 (List.mem_of_getElem? (i := 24) rfl))
theorem iX11_go_282 : rx_ins mX11_go 282 = some (18, 285, 0, 11, 21, [(59, 147)]) := rx_atm tbX11_go ndX11_go (lmX11_go_3 (List.mem_of_getElem? (i := 25) rfl))
theorem iX11_go_285 : rx_ins mX11_go 285 = some (3, 286, 0, 0, 0, []) := rx_atm tbX11_go ndX11_go (lmX11_go_3 (List.mem_of_getElem? (i := 26) rfl))
theorem iX11_go_286 : rx_ins mX11_go 286 = some (17, 289, 0, 11, 24, [(325, 149)]) := rx_atm tbX11_go ndX11_go (lmX11_go_3 (List.mem_of_getElem? (i := 27) rfl))
theorem iX11_go_289 : rx_ins mX11_go 289 = some (20, 290, 0, 0, 0, []) := rx_atm tbX11_go ndX11_go (lmX11_go_3 (List.mem_of_getElem? (i := 28) rfl))
theorem iX11_go_290 : rx_ins mX11_go 290 = some (19, 293, 0, 11, 26, [(337, 152)]) := rx_atm tbX11_go ndX11_go (lmX11_go_3 (List.mem_of_getElem? (i := 29) rfl))
theorem iX11_go_293 : rx_ins mX11_go 293 = some (3, 294, 0, 0, 0, []) := rx_atm tbX11_go ndX11_go (lmX11_go_3 (List.mem_of_getElem? (i := 30) rfl))
theorem iX11_go_294 : rx_ins mX11_go 294 = some (10, 295, 0, 0, 0, []) := rx_atm tbX11_go ndX11_go (lmX11_go_3 (List.mem_of_getElem? (i := 31) rfl))
theorem iX11_go_295 : rx_ins mX11_go 295 = some (17, 298, 0, 11, 23, [(322, 148)]) := rx_atm tbX11_go ndX11_go (lmX11_go_3 (List.mem_of_getElem? (i := 32) rfl))
theorem iX11_go_298 : rx_ins mX11_go 298 = some (1, 299, 1, 0, 0, []) := rx_atm tbX11_go ndX11_go (lmX11_go_3 (List.mem_of_getElem? (i := 33) rfl))
theorem iX11_go_299 : rx_ins mX11_go 299 = some (7, 300, 0, 0, 0, []) := rx_atm tbX11_go ndX11_go (lmX11_go_3 (List.mem_of_getElem? (i := 34) rfl))
theorem iX11_go_300 : rx_ins mX11_go 300 = some (19, 303, 0, 11, 23, [(322, 148)]) := rx_atm tbX11_go ndX11_go (lmX11_go_3 (List.mem_of_getElem? (i := 35) rfl))
theorem iX11_go_303 : rx_ins mX11_go 303 = some (30, 304, 0, 0, 0, []) := rx_atm tbX11_go ndX11_go (lmX11_go_3 (List.mem_of_getElem? (i := 36) rfl))
theorem iX11_go_165 : rx_ins mX11_go 165 = some (3, 166, 0, 0, 0, []) := rx_atm tbX11_go ndX11_go (lmX11_go_2 (List.mem_of_getElem? (i := 2) rfl))
theorem iX11_go_166 : rx_ins mX11_go 166 = some (1, 167, 0, 0, 0, []) := rx_atm tbX11_go ndX11_go (lmX11_go_2 (List.mem_of_getElem? (i := 3) rfl))
theorem iX11_go_167 : rx_ins mX11_go 167 = some (19, 170, 0, 11, 26, [(337, 152)]) := rx_atm tbX11_go ndX11_go (lmX11_go_2 (List.mem_of_getElem? (i := 4) rfl))
theorem iX11_go_74 : rx_ins mX11_go 74 = some (3, 75, 0, 0, 0, []) := rx_atm tbX11_go ndX11_go (lmX11_go_0 (List.mem_of_getElem? (i := 37) rfl))
theorem iX11_go_75 : rx_ins mX11_go 75 = some (1, 76, 0, 0, 0, []) := rx_atm tbX11_go ndX11_go (lmX11_go_0 (List.mem_of_getElem? (i := 38) rfl))
theorem iX11_go_76 : rx_ins mX11_go 76 = some (19, 79, 0, 11, 25, [(331, 151)]) := rx_atm tbX11_go ndX11_go (lmX11_go_0 (List.mem_of_getElem? (i := 39) rfl))
theorem iX11_go_79 : rx_ins mX11_go 79 = some (15, 82, 224, 0, 303, []) := rx_atm tbX11_go ndX11_go (lmX11_go_1 (List.mem_of_getElem? (i := 0) rfl))
theorem iX11_go_170 : rx_ins mX11_go 170 = some (3, 171, 0, 0, 0, []) := rx_atm tbX11_go ndX11_go (lmX11_go_2 (List.mem_of_getElem? (i := 5) rfl))
theorem iX11_go_171 : rx_ins mX11_go 171 = some (3, 172, 0, 0, 0, []) := rx_atm tbX11_go ndX11_go (lmX11_go_2 (List.mem_of_getElem? (i := 6) rfl))
theorem iX11_go_172 : rx_ins mX11_go 172 = some (17, 175, 0, 11, 23, [(322, 148)]) := rx_atm tbX11_go ndX11_go (lmX11_go_2 (List.mem_of_getElem? (i := 7) rfl))
theorem iX11_go_175 : rx_ins mX11_go 175 = some (28, 178, 13, 214, 2, [(340, 254)]) := rx_atm tbX11_go ndX11_go (lmX11_go_2 (List.mem_of_getElem? (i := 8) rfl))
theorem iX11_go_178 : rx_ins mX11_go 178 = some (13, 181, 60, 0, 238, []) := rx_atm tbX11_go ndX11_go (lmX11_go_2 (List.mem_of_getElem? (i := 9) rfl))
theorem iX11_go_238 : rx_ins mX11_go 238 = some (3, 239, 0, 0, 0, []) := rx_atm tbX11_go ndX11_go (lmX11_go_3 (List.mem_of_getElem? (i := 1) rfl))
theorem iX11_go_239 : rx_ins mX11_go 239 = some (2, 240, 0, 1, 0, []) := rx_atm tbX11_go ndX11_go (lmX11_go_3 (List.mem_of_getElem? (i := 2) rfl))
theorem iX11_go_240 : rx_ins mX11_go 240 = some (13, 243, 16, 1, 256, []) := rx_atm tbX11_go ndX11_go (lmX11_go_3 (List.mem_of_getElem? (i := 3) rfl))
theorem iX11_go_256 : rx_ins mX11_go 256 = some (1, 257, 4, 0, 0, []) := rx_atm tbX11_go ndX11_go (lmX11_go_3 (List.mem_of_getElem? (i := 11) rfl))
theorem iX11_go_257 : rx_ins mX11_go 257 = some (15, 260, 4, 0, 261, []) := rx_atm tbX11_go ndX11_go (lmX11_go_3 (List.mem_of_getElem? (i := 12) rfl))
theorem iX11_go_261 : rx_ins mX11_go 261 = some (19, 264, 0, 11, 25, [(331, 151)]) := rx_atm tbX11_go ndX11_go (lmX11_go_3 (List.mem_of_getElem? (i := 14) rfl))
theorem iX11_go_243 : rx_ins mX11_go 243 = some (3, 244, 0, 0, 0, []) := rx_atm tbX11_go ndX11_go (lmX11_go_3 (List.mem_of_getElem? (i := 4) rfl))
theorem iX11_go_244 : rx_ins mX11_go 244 = some (17, 247, 0, 11, 23, [(322, 148)]) := rx_atm tbX11_go ndX11_go (lmX11_go_3 (List.mem_of_getElem? (i := 5) rfl))
theorem iX11_go_247 : rx_ins mX11_go 247 = some (3, 248, 0, 0, 0, []) := rx_atm tbX11_go ndX11_go (lmX11_go_3 (List.mem_of_getElem? (i := 6) rfl))
theorem iX11_go_248 : rx_ins mX11_go 248 = some (17, 251, 0, 11, 24, [(325, 149)]) := rx_atm tbX11_go ndX11_go (lmX11_go_3 (List.mem_of_getElem? (i := 7) rfl))
theorem iX11_go_251 : rx_ins mX11_go 251 = some (7, 252, 0, 1, 0, []) := rx_atm tbX11_go ndX11_go (lmX11_go_3 (List.mem_of_getElem? (i := 8) rfl))
theorem iX11_go_252 : rx_ins mX11_go 252 = some (1, 253, 4, 0, 0, []) := rx_atm tbX11_go ndX11_go (lmX11_go_3 (List.mem_of_getElem? (i := 9) rfl))
theorem iX11_go_253 : rx_ins mX11_go 253 = some (14, 256, 7, 5, 260, []) := rx_atm tbX11_go ndX11_go (lmX11_go_3 (List.mem_of_getElem? (i := 10) rfl))
theorem iX11_go_260 : rx_ins mX11_go 260 = some (1, 261, 2, 0, 0, []) := rx_atm tbX11_go ndX11_go (lmX11_go_3 (List.mem_of_getElem? (i := 13) rfl))
theorem iX11_go_181 : rx_ins mX11_go 181 = some (3, 182, 0, 0, 0, []) := rx_atm tbX11_go ndX11_go (lmX11_go_2 (List.mem_of_getElem? (i := 10) rfl))
theorem iX11_go_182 : rx_ins mX11_go 182 = some (3, 183, 0, 0, 0, []) := rx_atm tbX11_go ndX11_go (lmX11_go_2 (List.mem_of_getElem? (i := 11) rfl))
theorem iX11_go_183 : rx_ins mX11_go 183 = some (17, 186, 0, 11, 23, [(322, 148)]) := rx_atm tbX11_go ndX11_go (lmX11_go_2 (List.mem_of_getElem? (i := 12) rfl))
theorem iX11_go_186 : rx_ins mX11_go 186 = some (3, 187, 0, 0, 0, []) := rx_atm tbX11_go ndX11_go (lmX11_go_2 (List.mem_of_getElem? (i := 13) rfl))
theorem iX11_go_187 : rx_ins mX11_go 187 = some (17, 190, 0, 11, 24, [(325, 149)]) := rx_atm tbX11_go ndX11_go (lmX11_go_2 (List.mem_of_getElem? (i := 14) rfl))
theorem iX11_go_190 : rx_ins mX11_go 190 = some (7, 191, 0, 1, 0, []) := rx_atm tbX11_go ndX11_go (lmX11_go_2 (List.mem_of_getElem? (i := 15) rfl))
theorem iX11_go_191 : rx_ins mX11_go 191 = some (1, 192, 4, 0, 0, []) := rx_atm tbX11_go ndX11_go (lmX11_go_2 (List.mem_of_getElem? (i := 16) rfl))
theorem iX11_go_192 : rx_ins mX11_go 192 = some (14, 195, 26, 3, 218, []) := rx_atm tbX11_go ndX11_go (lmX11_go_2 (List.mem_of_getElem? (i := 17) rfl))
theorem iX11_go_218 : rx_ins mX11_go 218 = some (3, 219, 0, 0, 0, []) := rx_atm tbX11_go ndX11_go (lmX11_go_2 (List.mem_of_getElem? (i := 31) rfl))
theorem iX11_go_219 : rx_ins mX11_go 219 = some (17, 222, 0, 11, 26, [(337, 152)]) := rx_atm tbX11_go ndX11_go (lmX11_go_2 (List.mem_of_getElem? (i := 32) rfl))
theorem iX11_go_222 : rx_ins mX11_go 222 = some (19, 225, 0, 11, 26, [(337, 152)]) := rx_atm tbX11_go ndX11_go (lmX11_go_2 (List.mem_of_getElem? (i := 33) rfl))
theorem iX11_go_195 : rx_ins mX11_go 195 = some (1, 197, 10, 1, 0, []) := rx_atm tbX11_go ndX11_go (lmX11_go_2 (List.mem_of_getElem? (i := 18) rfl))
theorem iX11_go_197 : rx_ins mX11_go 197 = some (3, 198, 0, 0, 0, []) := rx_atm tbX11_go ndX11_go (lmX11_go_2 (List.mem_of_getElem? (i := 19) rfl))
theorem iX11_go_198 : rx_ins mX11_go 198 = some (17, 201, 0, 11, 26, [(337, 152)]) := rx_atm tbX11_go ndX11_go (lmX11_go_2 (List.mem_of_getElem? (i := 20) rfl))
theorem iX11_go_201 : rx_ins mX11_go 201 = some (7, 202, 0, 2, 0, []) := rx_atm tbX11_go ndX11_go (lmX11_go_2 (List.mem_of_getElem? (i := 21) rfl))
theorem iX11_go_202 : rx_ins mX11_go 202 = some (3, 203, 0, 0, 0, []) := rx_atm tbX11_go ndX11_go (lmX11_go_2 (List.mem_of_getElem? (i := 22) rfl))
theorem iX11_go_203 : rx_ins mX11_go 203 = some (18, 206, 0, 11, 21, [(59, 147)]) := rx_atm tbX11_go ndX11_go (lmX11_go_2 (List.mem_of_getElem? (i := 23) rfl))
theorem iX11_go_206 : rx_ins mX11_go 206 = some (3, 207, 0, 0, 0, []) := rx_atm tbX11_go ndX11_go (lmX11_go_2 (List.mem_of_getElem? (i := 24) rfl))
theorem iX11_go_207 : rx_ins mX11_go 207 = some (17, 210, 0, 11, 23, [(322, 148)]) := rx_atm tbX11_go ndX11_go (lmX11_go_2 (List.mem_of_getElem? (i := 25) rfl))
theorem iX11_go_210 : rx_ins mX11_go 210 = some (20, 211, 0, 0, 0, []) := rx_atm tbX11_go ndX11_go (lmX11_go_2 (List.mem_of_getElem? (i := 26) rfl))
theorem iX11_go_211 : rx_ins mX11_go 211 = some (7, 212, 0, 0, 0, []) := rx_atm tbX11_go ndX11_go (lmX11_go_2 (List.mem_of_getElem? (i := 27) rfl))
theorem iX11_go_212 : rx_ins mX11_go 212 = some (1, 214, 48, 1, 0, []) := rx_atm tbX11_go ndX11_go (lmX11_go_2 (List.mem_of_getElem? (i := 28) rfl))
theorem iX11_go_214 : rx_ins mX11_go 214 = some (7, 215, 0, 1, 0, []) := rx_atm tbX11_go ndX11_go (lmX11_go_2 (List.mem_of_getElem? (i := 29) rfl))
theorem iX11_go_215 : rx_ins mX11_go 215 = some (15, 218, 7, 0, 222, []) := rx_atm tbX11_go ndX11_go (lmX11_go_2 (List.mem_of_getElem? (i := 30) rfl))
theorem iX11_go_93 : rx_ins mX11_go 93 = some (3, 94, 0, 0, 0, []) := rx_atm tbX11_go ndX11_go (lmX11_go_1 (List.mem_of_getElem? (i := 6) rfl))
theorem iX11_go_94 : rx_ins mX11_go 94 = some (3, 95, 0, 0, 0, []) := rx_atm tbX11_go ndX11_go (lmX11_go_1 (List.mem_of_getElem? (i := 7) rfl))
theorem iX11_go_95 : rx_ins mX11_go 95 = some (17, 98, 0, 11, 23, [(322, 148)]) := rx_atm tbX11_go ndX11_go (lmX11_go_1 (List.mem_of_getElem? (i := 8) rfl))
theorem iX11_go_98 : rx_ins mX11_go 98 = some (28, 101, 13, 213, 2, [(334, 253)]) := rx_atm tbX11_go ndX11_go (lmX11_go_1 (List.mem_of_getElem? (i := 9) rfl))
theorem iX11_go_101 : rx_ins mX11_go 101 = some (13, 104, 16, 0, 117, []) := rx_atm tbX11_go ndX11_go (lmX11_go_1 (List.mem_of_getElem? (i := 10) rfl))
theorem iX11_go_117 : rx_ins mX11_go 117 = some (3, 118, 0, 0, 0, []) := rx_atm tbX11_go ndX11_go (lmX11_go_1 (List.mem_of_getElem? (i := 18) rfl))
theorem iX11_go_118 : rx_ins mX11_go 118 = some (2, 119, 0, 1, 0, []) := rx_atm tbX11_go ndX11_go (lmX11_go_1 (List.mem_of_getElem? (i := 19) rfl))
theorem iX11_go_119 : rx_ins mX11_go 119 = some (13, 122, 7, 0, 126, []) := rx_atm tbX11_go ndX11_go (lmX11_go_1 (List.mem_of_getElem? (i := 20) rfl))
theorem iX11_go_126 : rx_ins mX11_go 126 = some (1, 127, 1, 0, 0, []) := rx_atm tbX11_go ndX11_go (lmX11_go_1 (List.mem_of_getElem? (i := 23) rfl))
theorem iX11_go_127 : rx_ins mX11_go 127 = some (19, 130, 0, 11, 25, [(331, 151)]) := rx_atm tbX11_go ndX11_go (lmX11_go_1 (List.mem_of_getElem? (i := 24) rfl))
theorem iX11_go_122 : rx_ins mX11_go 122 = some (1, 123, 4, 0, 0, []) := rx_atm tbX11_go ndX11_go (lmX11_go_1 (List.mem_of_getElem? (i := 21) rfl))
theorem iX11_go_123 : rx_ins mX11_go 123 = some (15, 126, 4, 0, 127, []) := rx_atm tbX11_go ndX11_go (lmX11_go_1 (List.mem_of_getElem? (i := 22) rfl))
theorem iX11_go_104 : rx_ins mX11_go 104 = some (3, 105, 0, 0, 0, []) := rx_atm tbX11_go ndX11_go (lmX11_go_1 (List.mem_of_getElem? (i := 11) rfl))
theorem iX11_go_105 : rx_ins mX11_go 105 = some (10, 106, 0, 0, 0, []) := rx_atm tbX11_go ndX11_go (lmX11_go_1 (List.mem_of_getElem? (i := 12) rfl))
theorem iX11_go_106 : rx_ins mX11_go 106 = some (17, 109, 0, 11, 23, [(322, 148)]) := rx_atm tbX11_go ndX11_go (lmX11_go_1 (List.mem_of_getElem? (i := 13) rfl))
theorem iX11_go_109 : rx_ins mX11_go 109 = some (1, 110, 1, 0, 0, []) := rx_atm tbX11_go ndX11_go (lmX11_go_1 (List.mem_of_getElem? (i := 14) rfl))
theorem iX11_go_110 : rx_ins mX11_go 110 = some (7, 111, 0, 0, 0, []) := rx_atm tbX11_go ndX11_go (lmX11_go_1 (List.mem_of_getElem? (i := 15) rfl))
theorem iX11_go_111 : rx_ins mX11_go 111 = some (19, 114, 0, 11, 23, [(322, 148)]) := rx_atm tbX11_go ndX11_go (lmX11_go_1 (List.mem_of_getElem? (i := 16) rfl))
theorem iX11_go_114 : rx_ins mX11_go 114 = some (15, 117, (-21), 0, 93, []) := rx_atm tbX11_go ndX11_go (lmX11_go_1 (List.mem_of_getElem? (i := 17) rfl))
theorem iX11_go_264 : rx_ins mX11_go 264 = some (3, 265, 0, 0, 0, []) := rx_atm tbX11_go ndX11_go (lmX11_go_3 (List.mem_of_getElem? (i := 15) rfl))
theorem iX11_go_265 : rx_ins mX11_go 265 = some (3, 266, 0, 0, 0, []) := rx_atm tbX11_go ndX11_go (lmX11_go_3 (List.mem_of_getElem? (i := 16) rfl))
theorem iX11_go_266 : rx_ins mX11_go 266 = some (17, 269, 0, 11, 23, [(322, 148)]) := rx_atm tbX11_go ndX11_go (lmX11_go_3 (List.mem_of_getElem? (i := 17) rfl))
theorem iX11_go_269 : rx_ins mX11_go 269 = some (19, 272, 0, 11, 27, [(328, 150)]) := rx_atm tbX11_go ndX11_go (lmX11_go_3 (List.mem_of_getElem? (i := 18) rfl))
theorem iX11_go_272 : rx_ins mX11_go 272 = some (15, 275, 31, 0, 303, []) := rx_atm tbX11_go ndX11_go (lmX11_go_3 (List.mem_of_getElem? (i := 19) rfl))
theorem iX11_go_225 : rx_ins mX11_go 225 = some (3, 226, 0, 0, 0, []) := rx_atm tbX11_go ndX11_go (lmX11_go_2 (List.mem_of_getElem? (i := 34) rfl))
theorem iX11_go_226 : rx_ins mX11_go 226 = some (10, 227, 0, 0, 0, []) := rx_atm tbX11_go ndX11_go (lmX11_go_2 (List.mem_of_getElem? (i := 35) rfl))
theorem iX11_go_227 : rx_ins mX11_go 227 = some (17, 230, 0, 11, 23, [(322, 148)]) := rx_atm tbX11_go ndX11_go (lmX11_go_2 (List.mem_of_getElem? (i := 36) rfl))
theorem iX11_go_230 : rx_ins mX11_go 230 = some (1, 231, 1, 0, 0, []) := rx_atm tbX11_go ndX11_go (lmX11_go_2 (List.mem_of_getElem? (i := 37) rfl))
theorem iX11_go_231 : rx_ins mX11_go 231 = some (7, 232, 0, 0, 0, []) := rx_atm tbX11_go ndX11_go (lmX11_go_2 (List.mem_of_getElem? (i := 38) rfl))
theorem iX11_go_232 : rx_ins mX11_go 232 = some (19, 235, 0, 11, 23, [(322, 148)]) := rx_atm tbX11_go ndX11_go (lmX11_go_2 (List.mem_of_getElem? (i := 39) rfl))
theorem iX11_go_235 : rx_ins mX11_go 235 = some (15, 238, (-65), 0, 170, []) := rx_atm tbX11_go ndX11_go (lmX11_go_3 (List.mem_of_getElem? (i := 0) rfl))
theorem iX11_go_130 : rx_ins mX11_go 130 = some (3, 131, 0, 0, 0, []) := rx_atm tbX11_go ndX11_go (lmX11_go_1 (List.mem_of_getElem? (i := 25) rfl))
theorem iX11_go_131 : rx_ins mX11_go 131 = some (3, 132, 0, 0, 0, []) := rx_atm tbX11_go ndX11_go (lmX11_go_1 (List.mem_of_getElem? (i := 26) rfl))
theorem iX11_go_132 : rx_ins mX11_go 132 = some (18, 135, 0, 11, 21, [(59, 147)]) := rx_atm tbX11_go ndX11_go (lmX11_go_1 (List.mem_of_getElem? (i := 27) rfl))
theorem iX11_go_135 : rx_ins mX11_go 135 = some (3, 136, 0, 0, 0, []) := rx_atm tbX11_go ndX11_go (lmX11_go_1 (List.mem_of_getElem? (i := 28) rfl))
theorem iX11_go_136 : rx_ins mX11_go 136 = some (17, 139, 0, 11, 24, [(325, 149)]) := rx_atm tbX11_go ndX11_go (lmX11_go_1 (List.mem_of_getElem? (i := 29) rfl))
theorem iX11_go_139 : rx_ins mX11_go 139 = some (20, 140, 0, 0, 0, []) := rx_atm tbX11_go ndX11_go (lmX11_go_1 (List.mem_of_getElem? (i := 30) rfl))
theorem iX11_go_140 : rx_ins mX11_go 140 = some (19, 143, 0, 11, 26, [(337, 152)]) := rx_atm tbX11_go ndX11_go (lmX11_go_1 (List.mem_of_getElem? (i := 31) rfl))
theorem iX11_go_143 : rx_ins mX11_go 143 = some (3, 144, 0, 0, 0, []) := rx_atm tbX11_go ndX11_go (lmX11_go_1 (List.mem_of_getElem? (i := 32) rfl))
theorem iX11_go_144 : rx_ins mX11_go 144 = some (3, 145, 0, 0, 0, []) := rx_atm tbX11_go ndX11_go (lmX11_go_1 (List.mem_of_getElem? (i := 33) rfl))
theorem iX11_go_145 : rx_ins mX11_go 145 = some (17, 148, 0, 11, 23, [(322, 148)]) := rx_atm tbX11_go ndX11_go (lmX11_go_1 (List.mem_of_getElem? (i := 34) rfl))
theorem iX11_go_148 : rx_ins mX11_go 148 = some (19, 151, 0, 11, 27, [(328, 150)]) := rx_atm tbX11_go ndX11_go (lmX11_go_1 (List.mem_of_getElem? (i := 35) rfl))
theorem iX11_go_151 : rx_ins mX11_go 151 = some (15, 154, 152, 0, 303, []) := rx_atm tbX11_go ndX11_go (lmX11_go_1 (List.mem_of_getElem? (i := 36) rfl))
theorem iX11_takesKey_0 : rx_ins mX11_takesKey 0 = some (3, 1, 0, 0, 0, []) := rx_at tbX11_takesKey ndX11_takesKey (j := 0) rfl
theorem iX11_takesKey_1 : rx_ins mX11_takesKey 1 = some (17, 4, 0, 11, 25, [(331, 151)]) := rx_at tbX11_takesKey ndX11_takesKey (j := 1) rfl
theorem iX11_takesKey_4 : rx_ins mX11_takesKey 4 = some (1, 5, 1, 0, 0, []) := rx_at tbX11_takesKey ndX11_takesKey (j := 2) rfl
theorem iX11_takesKey_5 : rx_ins mX11_takesKey 5 = some (14, 8, 5, 0, 10, []) := rx_at tbX11_takesKey ndX11_takesKey (j := 3) rfl
theorem iX11_takesKey_10 : rx_ins mX11_takesKey 10 = some (1, 11, 0, 0, 0, []) := rx_at tbX11_takesKey ndX11_takesKey (j := 6) rfl
theorem iX11_takesKey_11 : rx_ins mX11_takesKey 11 = some (4, 12, 0, 1, 0, []) := rx_at tbX11_takesKey ndX11_takesKey (j := 7) rfl
theorem iX11_takesKey_8 : rx_ins mX11_takesKey 8 = some (1, 9, 0, 0, 0, []) := rx_at tbX11_takesKey ndX11_takesKey (j := 4) rfl
theorem iX11_takesKey_9 : rx_ins mX11_takesKey 9 = some (29, 10, 1, 0, 0, []) := rx_at tbX11_takesKey ndX11_takesKey (j := 5) rfl
theorem iX11_takesKey_12 : rx_ins mX11_takesKey 12 = some (2, 13, 0, 1, 0, []) := rx_at tbX11_takesKey ndX11_takesKey (j := 8) rfl
theorem iX11_takesKey_13 : rx_ins mX11_takesKey 13 = some (1, 14, 3, 0, 0, []) := rx_at tbX11_takesKey ndX11_takesKey (j := 9) rfl
theorem iX11_takesKey_14 : rx_ins mX11_takesKey 14 = some (14, 17, 113, 3, 127, []) := rx_at tbX11_takesKey ndX11_takesKey (j := 10) rfl
theorem iX11_takesKey_127 : rx_ins mX11_takesKey 127 = some (1, 128, 0, 0, 0, []) := rx_at tbX11_takesKey ndX11_takesKey (j := 75) rfl
theorem iX11_takesKey_128 : rx_ins mX11_takesKey 128 = some (29, 129, 1, 0, 0, []) := rx_at tbX11_takesKey ndX11_takesKey (j := 76) rfl
theorem iX11_takesKey_17 : rx_ins mX11_takesKey 17 = some (3, 18, 0, 0, 0, []) := rx_at tbX11_takesKey ndX11_takesKey (j := 11) rfl
theorem iX11_takesKey_18 : rx_ins mX11_takesKey 18 = some (18, 21, 0, 11, 30, [(66, 153)]) := rx_at tbX11_takesKey ndX11_takesKey (j := 12) rfl
theorem iX11_takesKey_21 : rx_ins mX11_takesKey 21 = some (2, 22, 0, 1, 0, []) := rx_at tbX11_takesKey ndX11_takesKey (j := 13) rfl
theorem iX11_takesKey_22 : rx_ins mX11_takesKey 22 = some (1, 23, 1, 0, 0, []) := rx_at tbX11_takesKey ndX11_takesKey (j := 14) rfl
theorem iX11_takesKey_23 : rx_ins mX11_takesKey 23 = some (7, 24, 0, 0, 0, []) := rx_at tbX11_takesKey ndX11_takesKey (j := 15) rfl
theorem iX11_takesKey_24 : rx_ins mX11_takesKey 24 = some (20, 25, 0, 0, 0, []) := rx_at tbX11_takesKey ndX11_takesKey (j := 16) rfl
theorem iX11_takesKey_25 : rx_ins mX11_takesKey 25 = some (3, 26, 0, 0, 0, []) := rx_at tbX11_takesKey ndX11_takesKey (j := 17) rfl
theorem iX11_takesKey_26 : rx_ins mX11_takesKey 26 = some (18, 29, 0, 11, 30, [(66, 153)]) := rx_at tbX11_takesKey ndX11_takesKey (j := 18) rfl
theorem iX11_takesKey_29 : rx_ins mX11_takesKey 29 = some (2, 30, 0, 1, 0, []) := rx_at tbX11_takesKey ndX11_takesKey (j := 19) rfl
theorem iX11_takesKey_30 : rx_ins mX11_takesKey 30 = some (20, 31, 0, 0, 0, []) := rx_at tbX11_takesKey ndX11_takesKey (j := 20) rfl
theorem iX11_takesKey_31 : rx_ins mX11_takesKey 31 = some (7, 32, 0, 1, 0, []) := rx_at tbX11_takesKey ndX11_takesKey (j := 21) rfl
theorem iX11_takesKey_32 : rx_ins mX11_takesKey 32 = some (4, 33, 0, 2, 0, []) := rx_at tbX11_takesKey ndX11_takesKey (j := 22) rfl
theorem iX11_takesKey_33 : rx_ins mX11_takesKey 33 = some (2, 34, 0, 2, 0, []) := rx_at tbX11_takesKey ndX11_takesKey (j := 23) rfl
theorem iX11_takesKey_34 : rx_ins mX11_takesKey 34 = some (3, 35, 0, 0, 0, []) := rx_at tbX11_takesKey ndX11_takesKey (j := 24) rfl
theorem iX11_takesKey_35 : rx_ins mX11_takesKey 35 = some (17, 38, 0, 11, 23, [(322, 148)]) := rx_at tbX11_takesKey ndX11_takesKey (j := 25) rfl
theorem iX11_takesKey_38 : rx_ins mX11_takesKey 38 = some (3, 39, 0, 0, 0, []) := rx_at tbX11_takesKey ndX11_takesKey (j := 26) rfl
theorem iX11_takesKey_39 : rx_ins mX11_takesKey 39 = some (17, 42, 0, 11, 24, [(325, 149)]) := rx_at tbX11_takesKey ndX11_takesKey (j := 27) rfl
theorem iX11_takesKey_42 : rx_ins mX11_takesKey 42 = some (7, 43, 0, 1, 0, []) := rx_at tbX11_takesKey ndX11_takesKey (j := 28) rfl
theorem iX11_takesKey_43 : rx_ins mX11_takesKey 43 = some (14, 46, 7, 1, 50, []) := rx_at tbX11_takesKey ndX11_takesKey (j := 29) rfl
theorem iX11_takesKey_50 : rx_ins mX11_takesKey 50 = some (1, 51, 0, 0, 0, []) := rx_at tbX11_takesKey ndX11_takesKey (j := 32) rfl
theorem iX11_takesKey_51 : rx_ins mX11_takesKey 51 = some (4, 52, 0, 3, 0, []) := rx_at tbX11_takesKey ndX11_takesKey (j := 33) rfl
theorem iX11_takesKey_52 : rx_ins mX11_takesKey 52 = some (1, 53, 0, 0, 0, []) := rx_at tbX11_takesKey ndX11_takesKey (j := 34) rfl
theorem iX11_takesKey_53 : rx_ins mX11_takesKey 53 = some (4, 55, 1, 4, 0, []) := rx_at tbX11_takesKey ndX11_takesKey (j := 35) rfl
theorem iX11_takesKey_46 : rx_ins mX11_takesKey 46 = some (1, 47, 1, 0, 0, []) := rx_at tbX11_takesKey ndX11_takesKey (j := 30) rfl
theorem iX11_takesKey_47 : rx_ins mX11_takesKey 47 = some (15, 50, 4, 0, 51, []) := rx_at tbX11_takesKey ndX11_takesKey (j := 31) rfl
theorem iX11_takesKey_55 : rx_ins mX11_takesKey 55 = some (2, 57, 1, 4, 0, []) := rx_at tbX11_takesKey ndX11_takesKey (j := 36) rfl
theorem iX11_takesKey_57 : rx_ins mX11_takesKey 57 = some (2, 58, 0, 2, 0, []) := rx_at tbX11_takesKey ndX11_takesKey (j := 37) rfl
theorem iX11_takesKey_58 : rx_ins mX11_takesKey 58 = some (14, 61, 48, 3, 106, []) := rx_at tbX11_takesKey ndX11_takesKey (j := 38) rfl
theorem iX11_takesKey_106 : rx_ins mX11_takesKey 106 = some (2, 107, 0, 3, 0, []) := rx_at tbX11_takesKey ndX11_takesKey (j := 64) rfl
theorem iX11_takesKey_107 : rx_ins mX11_takesKey 107 = some (13, 110, 14, 0, 121, []) := rx_at tbX11_takesKey ndX11_takesKey (j := 65) rfl
theorem iX11_takesKey_121 : rx_ins mX11_takesKey 121 = some (6, 124, 1, 1, 0, []) := rx_at tbX11_takesKey ndX11_takesKey (j := 73) rfl
theorem iX11_takesKey_124 : rx_ins mX11_takesKey 124 = some (15, 127, (-112), 0, 12, []) := rx_at tbX11_takesKey ndX11_takesKey (j := 74) rfl
theorem iX11_takesKey_110 : rx_ins mX11_takesKey 110 = some (3, 111, 0, 0, 0, []) := rx_at tbX11_takesKey ndX11_takesKey (j := 66) rfl
theorem iX11_takesKey_111 : rx_ins mX11_takesKey 111 = some (2, 112, 0, 1, 0, []) := rx_at tbX11_takesKey ndX11_takesKey (j := 67) rfl
theorem iX11_takesKey_112 : rx_ins mX11_takesKey 112 = some (19, 115, 0, 11, 28, [(343, 155)]) := rx_at tbX11_takesKey ndX11_takesKey (j := 68) rfl
theorem iX11_takesKey_115 : rx_ins mX11_takesKey 115 = some (3, 116, 0, 0, 0, []) := rx_at tbX11_takesKey ndX11_takesKey (j := 69) rfl
theorem iX11_takesKey_116 : rx_ins mX11_takesKey 116 = some (28, 119, 13, 215, 1, [(346, 255)]) := rx_at tbX11_takesKey ndX11_takesKey (j := 70) rfl
theorem iX11_takesKey_119 : rx_ins mX11_takesKey 119 = some (1, 120, 1, 0, 0, []) := rx_at tbX11_takesKey ndX11_takesKey (j := 71) rfl
theorem iX11_takesKey_120 : rx_ins mX11_takesKey 120 = some (29, 121, 1, 0, 0, []) := rx_at tbX11_takesKey ndX11_takesKey (j := 72) rfl
theorem iX11_takesKey_61 : rx_ins mX11_takesKey 61 = some (2, 62, 0, 3, 0, []) := rx_at tbX11_takesKey ndX11_takesKey (j := 39) rfl
theorem iX11_takesKey_62 : rx_ins mX11_takesKey 62 = some (13, 65, 44, 0, 106, []) := rx_at tbX11_takesKey ndX11_takesKey (j := 40) rfl
theorem iX11_takesKey_65 : rx_ins mX11_takesKey 65 = some (3, 66, 0, 0, 0, []) := rx_at tbX11_takesKey ndX11_takesKey (j := 41) rfl
theorem iX11_takesKey_66 : rx_ins mX11_takesKey 66 = some (18, 69, 0, 11, 21, [(59, 147)]) := rx_at tbX11_takesKey ndX11_takesKey (j := 42) rfl
theorem iX11_takesKey_69 : rx_ins mX11_takesKey 69 = some (3, 70, 0, 0, 0, []) := rx_at tbX11_takesKey ndX11_takesKey (j := 43) rfl
theorem iX11_takesKey_70 : rx_ins mX11_takesKey 70 = some (17, 73, 0, 11, 24, [(325, 149)]) := rx_at tbX11_takesKey ndX11_takesKey (j := 44) rfl
theorem iX11_takesKey_73 : rx_ins mX11_takesKey 73 = some (2, 75, 1, 4, 0, []) := rx_at tbX11_takesKey ndX11_takesKey (j := 45) rfl
theorem iX11_takesKey_75 : rx_ins mX11_takesKey 75 = some (7, 76, 0, 0, 0, []) := rx_at tbX11_takesKey ndX11_takesKey (j := 46) rfl
theorem iX11_takesKey_76 : rx_ins mX11_takesKey 76 = some (20, 77, 0, 0, 0, []) := rx_at tbX11_takesKey ndX11_takesKey (j := 47) rfl
theorem iX11_takesKey_77 : rx_ins mX11_takesKey 77 = some (3, 78, 0, 0, 0, []) := rx_at tbX11_takesKey ndX11_takesKey (j := 48) rfl
theorem iX11_takesKey_78 : rx_ins mX11_takesKey 78 = some (18, 81, 0, 11, 29, [(62, 154)]) := rx_at tbX11_takesKey ndX11_takesKey (j := 49) rfl
theorem iX11_takesKey_81 : rx_ins mX11_takesKey 81 = some (3, 82, 0, 0, 0, []) := rx_at tbX11_takesKey ndX11_takesKey (j := 50) rfl
theorem iX11_takesKey_82 : rx_ins mX11_takesKey 82 = some (18, 85, 0, 11, 30, [(66, 153)]) := rx_at tbX11_takesKey ndX11_takesKey (j := 51) rfl
theorem iX11_takesKey_85 : rx_ins mX11_takesKey 85 = some (2, 86, 0, 1, 0, []) := rx_at tbX11_takesKey ndX11_takesKey (j := 52) rfl
theorem iX11_takesKey_86 : rx_ins mX11_takesKey 86 = some (20, 87, 0, 0, 0, []) := rx_at tbX11_takesKey ndX11_takesKey (j := 53) rfl
theorem iX11_takesKey_87 : rx_ins mX11_takesKey 87 = some (2, 89, 1, 4, 0, []) := rx_at tbX11_takesKey ndX11_takesKey (j := 54) rfl
theorem iX11_takesKey_89 : rx_ins mX11_takesKey 89 = some (7, 90, 0, 0, 0, []) := rx_at tbX11_takesKey ndX11_takesKey (j := 55) rfl
theorem iX11_takesKey_90 : rx_ins mX11_takesKey 90 = some (20, 91, 0, 2, 0, []) := rx_at tbX11_takesKey ndX11_takesKey (j := 56) rfl
theorem iX11_takesKey_91 : rx_ins mX11_takesKey 91 = some (14, 94, 7, 1, 98, []) := rx_at tbX11_takesKey ndX11_takesKey (j := 57) rfl
theorem iX11_takesKey_98 : rx_ins mX11_takesKey 98 = some (1, 99, 0, 0, 0, []) := rx_at tbX11_takesKey ndX11_takesKey (j := 60) rfl
theorem iX11_takesKey_99 : rx_ins mX11_takesKey 99 = some (4, 100, 0, 3, 0, []) := rx_at tbX11_takesKey ndX11_takesKey (j := 61) rfl
theorem iX11_takesKey_100 : rx_ins mX11_takesKey 100 = some (6, 103, 1, 4, 0, []) := rx_at tbX11_takesKey ndX11_takesKey (j := 62) rfl
theorem iX11_takesKey_103 : rx_ins mX11_takesKey 103 = some (15, 106, (-48), 0, 55, []) := rx_at tbX11_takesKey ndX11_takesKey (j := 63) rfl
theorem iX11_takesKey_94 : rx_ins mX11_takesKey 94 = some (1, 95, 1, 0, 0, []) := rx_at tbX11_takesKey ndX11_takesKey (j := 58) rfl
theorem iX11_takesKey_95 : rx_ins mX11_takesKey 95 = some (15, 98, 4, 0, 99, []) := rx_at tbX11_takesKey ndX11_takesKey (j := 59) rfl
theorem iX11_nameOf_0 : rx_ins mX11_nameOf 0 = some (3, 1, 0, 0, 0, []) := rx_at tbX11_nameOf ndX11_nameOf (j := 0) rfl
theorem iX11_nameOf_1 : rx_ins mX11_nameOf 1 = some (17, 4, 0, 11, 28, [(343, 155)]) := rx_at tbX11_nameOf ndX11_nameOf (j := 1) rfl
theorem iX11_nameOf_4 : rx_ins mX11_nameOf 4 = some (16, 32, 1, 0, 86, [(0, 32), (1, 64)]) := rx_at tbX11_nameOf ndX11_nameOf (j := 2) rfl
theorem iX11_nameOf_32 : rx_ins mX11_nameOf 32 = some (2, 33, 0, 1, 0, []) := rx_at tbX11_nameOf ndX11_nameOf (j := 3) rfl
theorem iX11_nameOf_33 : rx_ins mX11_nameOf 33 = some (1, 35, 119, 1, 0, []) := rx_at tbX11_nameOf ndX11_nameOf (j := 4) rfl
theorem iX11_nameOf_35 : rx_ins mX11_nameOf 35 = some (14, 38, 7, 1, 42, []) := rx_at tbX11_nameOf ndX11_nameOf (j := 5) rfl
theorem iX11_nameOf_42 : rx_ins mX11_nameOf 42 = some (2, 43, 0, 1, 0, []) := rx_at tbX11_nameOf ndX11_nameOf (j := 8) rfl
theorem iX11_nameOf_43 : rx_ins mX11_nameOf 43 = some (1, 45, 97, 1, 0, []) := rx_at tbX11_nameOf ndX11_nameOf (j := 9) rfl
theorem iX11_nameOf_45 : rx_ins mX11_nameOf 45 = some (14, 48, 7, 1, 52, []) := rx_at tbX11_nameOf ndX11_nameOf (j := 10) rfl
theorem iX11_nameOf_52 : rx_ins mX11_nameOf 52 = some (2, 53, 0, 1, 0, []) := rx_at tbX11_nameOf ndX11_nameOf (j := 13) rfl
theorem iX11_nameOf_53 : rx_ins mX11_nameOf 53 = some (1, 55, 98, 1, 0, []) := rx_at tbX11_nameOf ndX11_nameOf (j := 14) rfl
theorem iX11_nameOf_55 : rx_ins mX11_nameOf 55 = some (14, 58, 7, 1, 62, []) := rx_at tbX11_nameOf ndX11_nameOf (j := 15) rfl
theorem iX11_nameOf_62 : rx_ins mX11_nameOf 62 = some (1, 63, (-1), 0, 0, []) := rx_at tbX11_nameOf ndX11_nameOf (j := 18) rfl
theorem iX11_nameOf_63 : rx_ins mX11_nameOf 63 = some (29, 64, 0, 0, 0, []) := rx_at tbX11_nameOf ndX11_nameOf (j := 19) rfl
theorem iX11_nameOf_58 : rx_ins mX11_nameOf 58 = some (1, 59, 2, 0, 0, []) := rx_at tbX11_nameOf ndX11_nameOf (j := 16) rfl
theorem iX11_nameOf_59 : rx_ins mX11_nameOf 59 = some (15, 62, 4, 0, 63, []) := rx_at tbX11_nameOf ndX11_nameOf (j := 17) rfl
theorem iX11_nameOf_48 : rx_ins mX11_nameOf 48 = some (1, 49, 1, 0, 0, []) := rx_at tbX11_nameOf ndX11_nameOf (j := 11) rfl
theorem iX11_nameOf_49 : rx_ins mX11_nameOf 49 = some (15, 52, 14, 0, 63, []) := rx_at tbX11_nameOf ndX11_nameOf (j := 12) rfl
theorem iX11_nameOf_38 : rx_ins mX11_nameOf 38 = some (1, 39, 0, 0, 0, []) := rx_at tbX11_nameOf ndX11_nameOf (j := 6) rfl
theorem iX11_nameOf_39 : rx_ins mX11_nameOf 39 = some (15, 42, 24, 0, 63, []) := rx_at tbX11_nameOf ndX11_nameOf (j := 7) rfl
theorem iX11_nameOf_64 : rx_ins mX11_nameOf 64 = some (2, 65, 0, 1, 0, []) := rx_at tbX11_nameOf ndX11_nameOf (j := 20) rfl
theorem iX11_nameOf_65 : rx_ins mX11_nameOf 65 = some (1, 67, 112, 1, 0, []) := rx_at tbX11_nameOf ndX11_nameOf (j := 21) rfl
theorem iX11_nameOf_67 : rx_ins mX11_nameOf 67 = some (14, 70, 7, 1, 74, []) := rx_at tbX11_nameOf ndX11_nameOf (j := 22) rfl
theorem iX11_nameOf_74 : rx_ins mX11_nameOf 74 = some (2, 75, 0, 1, 0, []) := rx_at tbX11_nameOf ndX11_nameOf (j := 25) rfl
theorem iX11_nameOf_75 : rx_ins mX11_nameOf 75 = some (1, 77, 113, 1, 0, []) := rx_at tbX11_nameOf ndX11_nameOf (j := 26) rfl
theorem iX11_nameOf_77 : rx_ins mX11_nameOf 77 = some (14, 80, 7, 1, 84, []) := rx_at tbX11_nameOf ndX11_nameOf (j := 27) rfl
theorem iX11_nameOf_84 : rx_ins mX11_nameOf 84 = some (1, 85, (-1), 0, 0, []) := rx_at tbX11_nameOf ndX11_nameOf (j := 30) rfl
theorem iX11_nameOf_85 : rx_ins mX11_nameOf 85 = some (29, 86, 0, 0, 0, []) := rx_at tbX11_nameOf ndX11_nameOf (j := 31) rfl
theorem iX11_nameOf_80 : rx_ins mX11_nameOf 80 = some (1, 81, 1, 0, 0, []) := rx_at tbX11_nameOf ndX11_nameOf (j := 28) rfl
theorem iX11_nameOf_81 : rx_ins mX11_nameOf 81 = some (15, 84, 4, 0, 85, []) := rx_at tbX11_nameOf ndX11_nameOf (j := 29) rfl
theorem iX11_nameOf_70 : rx_ins mX11_nameOf 70 = some (1, 71, 0, 0, 0, []) := rx_at tbX11_nameOf ndX11_nameOf (j := 23) rfl
theorem iX11_nameOf_71 : rx_ins mX11_nameOf 71 = some (15, 74, 14, 0, 85, []) := rx_at tbX11_nameOf ndX11_nameOf (j := 24) rfl
theorem iX11_nameOf_86 : rx_ins mX11_nameOf 86 = some (2, 87, 0, 1, 0, []) := rx_at tbX11_nameOf ndX11_nameOf (j := 32) rfl
theorem iX11_nameOf_87 : rx_ins mX11_nameOf 87 = some (1, 89, 97, 1, 0, []) := rx_at tbX11_nameOf ndX11_nameOf (j := 33) rfl
theorem iX11_nameOf_89 : rx_ins mX11_nameOf 89 = some (14, 92, 7, 1, 96, []) := rx_at tbX11_nameOf ndX11_nameOf (j := 34) rfl
theorem iX11_nameOf_96 : rx_ins mX11_nameOf 96 = some (2, 97, 0, 1, 0, []) := rx_at tbX11_nameOf ndX11_nameOf (j := 37) rfl
theorem iX11_nameOf_97 : rx_ins mX11_nameOf 97 = some (1, 99, 98, 1, 0, []) := rx_at tbX11_nameOf ndX11_nameOf (j := 38) rfl
theorem iX11_nameOf_99 : rx_ins mX11_nameOf 99 = some (14, 102, 7, 1, 106, []) := rx_at tbX11_nameOf ndX11_nameOf (j := 39) rfl
theorem iX11_nameOf_106 : rx_ins mX11_nameOf 106 = some (1, 107, (-1), 0, 0, []) := rx_at tbX11_nameOf ndX11_nameOf (j := 42) rfl
theorem iX11_nameOf_107 : rx_ins mX11_nameOf 107 = some (29, 108, 0, 0, 0, []) := rx_at tbX11_nameOf ndX11_nameOf (j := 43) rfl
theorem iX11_nameOf_102 : rx_ins mX11_nameOf 102 = some (1, 103, 1, 0, 0, []) := rx_at tbX11_nameOf ndX11_nameOf (j := 40) rfl
theorem iX11_nameOf_103 : rx_ins mX11_nameOf 103 = some (15, 106, 4, 0, 107, []) := rx_at tbX11_nameOf ndX11_nameOf (j := 41) rfl
theorem iX11_nameOf_92 : rx_ins mX11_nameOf 92 = some (1, 93, 0, 0, 0, []) := rx_at tbX11_nameOf ndX11_nameOf (j := 35) rfl
theorem iX11_nameOf_93 : rx_ins mX11_nameOf 93 = some (15, 96, 14, 0, 107, []) := rx_at tbX11_nameOf ndX11_nameOf (j := 36) rfl
theorem iX11_rank_0 : rx_ins mX11_rank 0 = some (2, 1, 0, 0, 0, []) := rx_at tbX11_rank ndX11_rank (j := 0) rfl
theorem iX11_rank_1 : rx_ins mX11_rank 1 = some (1, 2, (-1), 0, 0, []) := rx_at tbX11_rank ndX11_rank (j := 1) rfl
theorem iX11_rank_2 : rx_ins mX11_rank 2 = some (14, 5, 7, 1, 9, []) := rx_at tbX11_rank ndX11_rank (j := 2) rfl
theorem iX11_rank_9 : rx_ins mX11_rank 9 = some (2, 10, 0, 0, 0, []) := rx_at tbX11_rank ndX11_rank (j := 5) rfl
theorem iX11_rank_10 : rx_ins mX11_rank 10 = some (1, 12, (-2), 1, 0, []) := rx_at tbX11_rank ndX11_rank (j := 6) rfl
theorem iX11_rank_12 : rx_ins mX11_rank 12 = some (14, 15, 7, 1, 19, []) := rx_at tbX11_rank ndX11_rank (j := 7) rfl
theorem iX11_rank_19 : rx_ins mX11_rank 19 = some (2, 20, 0, 0, 0, []) := rx_at tbX11_rank ndX11_rank (j := 10) rfl
theorem iX11_rank_20 : rx_ins mX11_rank 20 = some (1, 22, (-5), 1, 0, []) := rx_at tbX11_rank ndX11_rank (j := 11) rfl
theorem iX11_rank_22 : rx_ins mX11_rank 22 = some (14, 25, 7, 2, 29, []) := rx_at tbX11_rank ndX11_rank (j := 12) rfl
theorem iX11_rank_29 : rx_ins mX11_rank 29 = some (2, 30, 0, 0, 0, []) := rx_at tbX11_rank ndX11_rank (j := 15) rfl
theorem iX11_rank_30 : rx_ins mX11_rank 30 = some (1, 32, (-7), 1, 0, []) := rx_at tbX11_rank ndX11_rank (j := 16) rfl
theorem iX11_rank_32 : rx_ins mX11_rank 32 = some (14, 35, 7, 2, 39, []) := rx_at tbX11_rank ndX11_rank (j := 17) rfl
theorem iX11_rank_39 : rx_ins mX11_rank 39 = some (2, 40, 0, 0, 0, []) := rx_at tbX11_rank ndX11_rank (j := 20) rfl
theorem iX11_rank_40 : rx_ins mX11_rank 40 = some (1, 42, (-9), 1, 0, []) := rx_at tbX11_rank ndX11_rank (j := 21) rfl
theorem iX11_rank_42 : rx_ins mX11_rank 42 = some (14, 45, 7, 2, 49, []) := rx_at tbX11_rank ndX11_rank (j := 22) rfl
theorem iX11_rank_49 : rx_ins mX11_rank 49 = some (1, 51, 6, 1, 0, []) := rx_at tbX11_rank ndX11_rank (j := 25) rfl
theorem iX11_rank_51 : rx_ins mX11_rank 51 = some (29, 52, 0, 0, 0, []) := rx_at tbX11_rank ndX11_rank (j := 26) rfl
theorem iX11_rank_45 : rx_ins mX11_rank 45 = some (1, 46, 5, 0, 0, []) := rx_at tbX11_rank ndX11_rank (j := 23) rfl
theorem iX11_rank_46 : rx_ins mX11_rank 46 = some (15, 49, 5, 0, 51, []) := rx_at tbX11_rank ndX11_rank (j := 24) rfl
theorem iX11_rank_35 : rx_ins mX11_rank 35 = some (1, 36, 4, 0, 0, []) := rx_at tbX11_rank ndX11_rank (j := 18) rfl
theorem iX11_rank_36 : rx_ins mX11_rank 36 = some (15, 39, 15, 0, 51, []) := rx_at tbX11_rank ndX11_rank (j := 19) rfl
theorem iX11_rank_25 : rx_ins mX11_rank 25 = some (1, 26, 3, 0, 0, []) := rx_at tbX11_rank ndX11_rank (j := 13) rfl
theorem iX11_rank_26 : rx_ins mX11_rank 26 = some (15, 29, 25, 0, 51, []) := rx_at tbX11_rank ndX11_rank (j := 14) rfl
theorem iX11_rank_15 : rx_ins mX11_rank 15 = some (1, 16, 2, 0, 0, []) := rx_at tbX11_rank ndX11_rank (j := 8) rfl
theorem iX11_rank_16 : rx_ins mX11_rank 16 = some (15, 19, 35, 0, 51, []) := rx_at tbX11_rank ndX11_rank (j := 9) rfl
theorem iX11_rank_5 : rx_ins mX11_rank 5 = some (1, 6, 1, 0, 0, []) := rx_at tbX11_rank ndX11_rank (j := 3) rfl
theorem iX11_rank_6 : rx_ins mX11_rank 6 = some (15, 9, 45, 0, 51, []) := rx_at tbX11_rank ndX11_rank (j := 4) rfl
theorem iX11_settle_0 : rx_ins mX11_settle 0 = some (3, 1, 0, 0, 0, []) := rx_at tbX11_settle ndX11_settle (j := 0) rfl
theorem iX11_settle_1 : rx_ins mX11_settle 1 = some (17, 4, 0, 11, 35, [(349, 156)]) := rx_at tbX11_settle ndX11_settle (j := 1) rfl
theorem iX11_settle_4 : rx_ins mX11_settle 4 = some (13, 7, 78, 5, 82, []) := rx_at tbX11_settle ndX11_settle (j := 2) rfl
theorem iX11_settle_82 : rx_ins mX11_settle 82 = some (30, 83, 0, 0, 0, []) := rx_at tbX11_settle ndX11_settle (j := 45) rfl
theorem iX11_settle_7 : rx_ins mX11_settle 7 = some (3, 8, 0, 0, 0, []) := rx_at tbX11_settle ndX11_settle (j := 3) rfl
theorem iX11_settle_8 : rx_ins mX11_settle 8 = some (18, 11, 0, 11, 34, [(72, 157)]) := rx_at tbX11_settle ndX11_settle (j := 4) rfl
theorem iX11_settle_11 : rx_ins mX11_settle 11 = some (3, 12, 0, 0, 0, []) := rx_at tbX11_settle ndX11_settle (j := 5) rfl
theorem iX11_settle_12 : rx_ins mX11_settle 12 = some (17, 15, 0, 11, 35, [(349, 156)]) := rx_at tbX11_settle ndX11_settle (j := 6) rfl
theorem iX11_settle_15 : rx_ins mX11_settle 15 = some (1, 16, 1, 0, 0, []) := rx_at tbX11_settle ndX11_settle (j := 7) rfl
theorem iX11_settle_16 : rx_ins mX11_settle 16 = some (7, 17, 0, 1, 0, []) := rx_at tbX11_settle ndX11_settle (j := 8) rfl
theorem iX11_settle_17 : rx_ins mX11_settle 17 = some (20, 18, 0, 0, 0, []) := rx_at tbX11_settle ndX11_settle (j := 9) rfl
theorem iX11_settle_18 : rx_ins mX11_settle 18 = some (1, 20, (-11), 1, 0, []) := rx_at tbX11_settle ndX11_settle (j := 10) rfl
theorem iX11_settle_20 : rx_ins mX11_settle 20 = some (14, 23, 62, 0, 82, []) := rx_at tbX11_settle ndX11_settle (j := 11) rfl
theorem iX11_settle_23 : rx_ins mX11_settle 23 = some (3, 24, 0, 0, 0, []) := rx_at tbX11_settle ndX11_settle (j := 12) rfl
theorem iX11_settle_24 : rx_ins mX11_settle 24 = some (18, 27, 0, 11, 34, [(72, 157)]) := rx_at tbX11_settle ndX11_settle (j := 13) rfl
theorem iX11_settle_27 : rx_ins mX11_settle 27 = some (3, 28, 0, 0, 0, []) := rx_at tbX11_settle ndX11_settle (j := 14) rfl
theorem iX11_settle_28 : rx_ins mX11_settle 28 = some (17, 31, 0, 11, 35, [(349, 156)]) := rx_at tbX11_settle ndX11_settle (j := 15) rfl
theorem iX11_settle_31 : rx_ins mX11_settle 31 = some (1, 32, 1, 0, 0, []) := rx_at tbX11_settle ndX11_settle (j := 16) rfl
theorem iX11_settle_32 : rx_ins mX11_settle 32 = some (7, 33, 0, 1, 0, []) := rx_at tbX11_settle ndX11_settle (j := 17) rfl
theorem iX11_settle_33 : rx_ins mX11_settle 33 = some (20, 34, 0, 0, 0, []) := rx_at tbX11_settle ndX11_settle (j := 18) rfl
theorem iX11_settle_34 : rx_ins mX11_settle 34 = some (28, 37, 0, 218, 1, [(352, 256)]) := rx_at tbX11_settle ndX11_settle (j := 19) rfl
theorem iX11_settle_37 : rx_ins mX11_settle 37 = some (2, 38, 0, 1, 0, []) := rx_at tbX11_settle ndX11_settle (j := 20) rfl
theorem iX11_settle_38 : rx_ins mX11_settle 38 = some (14, 41, 44, 2, 82, []) := rx_at tbX11_settle ndX11_settle (j := 21) rfl
theorem iX11_settle_41 : rx_ins mX11_settle 41 = some (3, 42, 0, 0, 0, []) := rx_at tbX11_settle ndX11_settle (j := 22) rfl
theorem iX11_settle_42 : rx_ins mX11_settle 42 = some (10, 43, 0, 0, 0, []) := rx_at tbX11_settle ndX11_settle (j := 23) rfl
theorem iX11_settle_43 : rx_ins mX11_settle 43 = some (17, 46, 0, 11, 35, [(349, 156)]) := rx_at tbX11_settle ndX11_settle (j := 24) rfl
theorem iX11_settle_46 : rx_ins mX11_settle 46 = some (1, 47, 1, 0, 0, []) := rx_at tbX11_settle ndX11_settle (j := 25) rfl
theorem iX11_settle_47 : rx_ins mX11_settle 47 = some (7, 48, 0, 1, 0, []) := rx_at tbX11_settle ndX11_settle (j := 26) rfl
theorem iX11_settle_48 : rx_ins mX11_settle 48 = some (19, 51, 0, 11, 35, [(349, 156)]) := rx_at tbX11_settle ndX11_settle (j := 27) rfl
theorem iX11_settle_51 : rx_ins mX11_settle 51 = some (3, 52, 0, 0, 0, []) := rx_at tbX11_settle ndX11_settle (j := 28) rfl
theorem iX11_settle_52 : rx_ins mX11_settle 52 = some (18, 55, 0, 11, 31, [(69, 158)]) := rx_at tbX11_settle ndX11_settle (j := 29) rfl
theorem iX11_settle_55 : rx_ins mX11_settle 55 = some (3, 56, 0, 0, 0, []) := rx_at tbX11_settle ndX11_settle (j := 30) rfl
theorem iX11_settle_56 : rx_ins mX11_settle 56 = some (17, 59, 0, 11, 32, [(355, 159)]) := rx_at tbX11_settle ndX11_settle (j := 31) rfl
theorem iX11_settle_59 : rx_ins mX11_settle 59 = some (3, 60, 0, 0, 0, []) := rx_at tbX11_settle ndX11_settle (j := 32) rfl
theorem iX11_settle_60 : rx_ins mX11_settle 60 = some (18, 63, 0, 11, 34, [(72, 157)]) := rx_at tbX11_settle ndX11_settle (j := 33) rfl
theorem iX11_settle_63 : rx_ins mX11_settle 63 = some (3, 64, 0, 0, 0, []) := rx_at tbX11_settle ndX11_settle (j := 34) rfl
theorem iX11_settle_64 : rx_ins mX11_settle 64 = some (17, 67, 0, 11, 35, [(349, 156)]) := rx_at tbX11_settle ndX11_settle (j := 35) rfl
theorem iX11_settle_67 : rx_ins mX11_settle 67 = some (20, 68, 0, 0, 0, []) := rx_at tbX11_settle ndX11_settle (j := 36) rfl
theorem iX11_settle_68 : rx_ins mX11_settle 68 = some (21, 69, 0, 0, 0, []) := rx_at tbX11_settle ndX11_settle (j := 37) rfl
theorem iX11_settle_69 : rx_ins mX11_settle 69 = some (3, 70, 0, 0, 0, []) := rx_at tbX11_settle ndX11_settle (j := 38) rfl
theorem iX11_settle_70 : rx_ins mX11_settle 70 = some (10, 71, 0, 0, 0, []) := rx_at tbX11_settle ndX11_settle (j := 39) rfl
theorem iX11_settle_71 : rx_ins mX11_settle 71 = some (17, 74, 0, 11, 32, [(355, 159)]) := rx_at tbX11_settle ndX11_settle (j := 40) rfl
theorem iX11_settle_74 : rx_ins mX11_settle 74 = some (1, 75, 1, 0, 0, []) := rx_at tbX11_settle ndX11_settle (j := 41) rfl
theorem iX11_settle_75 : rx_ins mX11_settle 75 = some (7, 76, 0, 0, 0, []) := rx_at tbX11_settle ndX11_settle (j := 42) rfl
theorem iX11_settle_76 : rx_ins mX11_settle 76 = some (19, 79, 0, 11, 32, [(355, 159)]) := rx_at tbX11_settle ndX11_settle (j := 43) rfl
theorem iX11_settle_79 : rx_ins mX11_settle 79 = some (15, 82, (-79), 0, 0, []) := rx_at tbX11_settle ndX11_settle (j := 44) rfl
theorem iX11_signHere_0 : rx_ins mX11_signHere 0 = some (3, 1, 0, 0, 0, []) := rx_at tbX11_signHere ndX11_signHere (j := 0) rfl
theorem iX11_signHere_1 : rx_ins mX11_signHere 1 = some (17, 4, 0, 11, 25, [(331, 151)]) := rx_at tbX11_signHere ndX11_signHere (j := 1) rfl
theorem iX11_signHere_4 : rx_ins mX11_signHere 4 = some (1, 5, 3, 0, 0, []) := rx_at tbX11_signHere ndX11_signHere (j := 2) rfl
theorem iX11_signHere_5 : rx_ins mX11_signHere 5 = some (14, 8, 5, 0, 10, []) := rx_at tbX11_signHere ndX11_signHere (j := 3) rfl
theorem iX11_signHere_10 : rx_ins mX11_signHere 10 = some (3, 11, 0, 0, 0, []) := rx_at tbX11_signHere ndX11_signHere (j := 6) rfl
theorem iX11_signHere_11 : rx_ins mX11_signHere 11 = some (17, 14, 0, 11, 26, [(337, 152)]) := rx_at tbX11_signHere ndX11_signHere (j := 7) rfl
theorem iX11_signHere_14 : rx_ins mX11_signHere 14 = some (16, 96, 1, 0, 122, [(38, 98), (42, 116), (43, 110), (45, 113), (47, 119), (60, 101), (61, 104), (62, 107), (124, 96)]) := rx_at tbX11_signHere ndX11_signHere (j := 8) rfl
theorem iX11_signHere_98 : rx_ins mX11_signHere 98 = some (1, 100, (-2), 1, 0, []) := rx_at tbX11_signHere ndX11_signHere (j := 11) rfl
theorem iX11_signHere_100 : rx_ins mX11_signHere 100 = some (29, 101, 0, 0, 0, []) := rx_at tbX11_signHere ndX11_signHere (j := 12) rfl
theorem iX11_signHere_116 : rx_ins mX11_signHere 116 = some (1, 118, (-8), 1, 0, []) := rx_at tbX11_signHere ndX11_signHere (j := 23) rfl
theorem iX11_signHere_118 : rx_ins mX11_signHere 118 = some (29, 119, 0, 0, 0, []) := rx_at tbX11_signHere ndX11_signHere (j := 24) rfl
theorem iX11_signHere_110 : rx_ins mX11_signHere 110 = some (1, 112, (-6), 1, 0, []) := rx_at tbX11_signHere ndX11_signHere (j := 19) rfl
theorem iX11_signHere_112 : rx_ins mX11_signHere 112 = some (29, 113, 0, 0, 0, []) := rx_at tbX11_signHere ndX11_signHere (j := 20) rfl
theorem iX11_signHere_113 : rx_ins mX11_signHere 113 = some (1, 115, (-7), 1, 0, []) := rx_at tbX11_signHere ndX11_signHere (j := 21) rfl
theorem iX11_signHere_115 : rx_ins mX11_signHere 115 = some (29, 116, 0, 0, 0, []) := rx_at tbX11_signHere ndX11_signHere (j := 22) rfl
theorem iX11_signHere_119 : rx_ins mX11_signHere 119 = some (1, 121, (-9), 1, 0, []) := rx_at tbX11_signHere ndX11_signHere (j := 25) rfl
theorem iX11_signHere_121 : rx_ins mX11_signHere 121 = some (29, 122, 0, 0, 0, []) := rx_at tbX11_signHere ndX11_signHere (j := 26) rfl
theorem iX11_signHere_101 : rx_ins mX11_signHere 101 = some (1, 103, (-3), 1, 0, []) := rx_at tbX11_signHere ndX11_signHere (j := 13) rfl
theorem iX11_signHere_103 : rx_ins mX11_signHere 103 = some (29, 104, 0, 0, 0, []) := rx_at tbX11_signHere ndX11_signHere (j := 14) rfl
theorem iX11_signHere_104 : rx_ins mX11_signHere 104 = some (1, 106, (-4), 1, 0, []) := rx_at tbX11_signHere ndX11_signHere (j := 15) rfl
theorem iX11_signHere_106 : rx_ins mX11_signHere 106 = some (29, 107, 0, 0, 0, []) := rx_at tbX11_signHere ndX11_signHere (j := 16) rfl
theorem iX11_signHere_107 : rx_ins mX11_signHere 107 = some (1, 109, (-5), 1, 0, []) := rx_at tbX11_signHere ndX11_signHere (j := 17) rfl
theorem iX11_signHere_109 : rx_ins mX11_signHere 109 = some (29, 110, 0, 0, 0, []) := rx_at tbX11_signHere ndX11_signHere (j := 18) rfl
theorem iX11_signHere_96 : rx_ins mX11_signHere 96 = some (1, 97, (-1), 0, 0, []) := rx_at tbX11_signHere ndX11_signHere (j := 9) rfl
theorem iX11_signHere_97 : rx_ins mX11_signHere 97 = some (29, 98, 0, 0, 0, []) := rx_at tbX11_signHere ndX11_signHere (j := 10) rfl
theorem iX11_signHere_122 : rx_ins mX11_signHere 122 = some (1, 123, 0, 0, 0, []) := rx_at tbX11_signHere ndX11_signHere (j := 27) rfl
theorem iX11_signHere_123 : rx_ins mX11_signHere 123 = some (29, 124, 0, 0, 0, []) := rx_at tbX11_signHere ndX11_signHere (j := 28) rfl
theorem iX11_signHere_8 : rx_ins mX11_signHere 8 = some (1, 9, 0, 0, 0, []) := rx_at tbX11_signHere ndX11_signHere (j := 4) rfl
theorem iX11_signHere_9 : rx_ins mX11_signHere 9 = some (29, 10, 0, 0, 0, []) := rx_at tbX11_signHere ndX11_signHere (j := 5) rfl
theorem iX11_takesPart_0 : rx_ins mX11_takesPart 0 = some (3, 1, 0, 0, 0, []) := rx_at tbX11_takesPart ndX11_takesPart (j := 0) rfl
theorem iX11_takesPart_1 : rx_ins mX11_takesPart 1 = some (17, 4, 0, 11, 25, [(331, 151)]) := rx_at tbX11_takesPart ndX11_takesPart (j := 1) rfl
theorem iX11_takesPart_4 : rx_ins mX11_takesPart 4 = some (1, 5, 1, 0, 0, []) := rx_at tbX11_takesPart ndX11_takesPart (j := 2) rfl
theorem iX11_takesPart_5 : rx_ins mX11_takesPart 5 = some (14, 8, 31, 1, 36, []) := rx_at tbX11_takesPart ndX11_takesPart (j := 3) rfl
theorem iX11_takesPart_8 : rx_ins mX11_takesPart 8 = some (3, 9, 0, 0, 0, []) := rx_at tbX11_takesPart ndX11_takesPart (j := 4) rfl
theorem iX11_takesPart_9 : rx_ins mX11_takesPart 9 = some (17, 12, 0, 11, 23, [(322, 148)]) := rx_at tbX11_takesPart ndX11_takesPart (j := 5) rfl
theorem iX11_takesPart_12 : rx_ins mX11_takesPart 12 = some (3, 13, 0, 0, 0, []) := rx_at tbX11_takesPart ndX11_takesPart (j := 6) rfl
theorem iX11_takesPart_13 : rx_ins mX11_takesPart 13 = some (17, 16, 0, 11, 24, [(325, 149)]) := rx_at tbX11_takesPart ndX11_takesPart (j := 7) rfl
theorem iX11_takesPart_16 : rx_ins mX11_takesPart 16 = some (7, 17, 0, 1, 0, []) := rx_at tbX11_takesPart ndX11_takesPart (j := 8) rfl
theorem iX11_takesPart_17 : rx_ins mX11_takesPart 17 = some (1, 18, 1, 0, 0, []) := rx_at tbX11_takesPart ndX11_takesPart (j := 9) rfl
theorem iX11_takesPart_18 : rx_ins mX11_takesPart 18 = some (14, 21, 18, 1, 36, []) := rx_at tbX11_takesPart ndX11_takesPart (j := 10) rfl
theorem iX11_takesPart_21 : rx_ins mX11_takesPart 21 = some (3, 22, 0, 0, 0, []) := rx_at tbX11_takesPart ndX11_takesPart (j := 11) rfl
theorem iX11_takesPart_22 : rx_ins mX11_takesPart 22 = some (3, 23, 0, 0, 0, []) := rx_at tbX11_takesPart ndX11_takesPart (j := 12) rfl
theorem iX11_takesPart_23 : rx_ins mX11_takesPart 23 = some (17, 26, 0, 11, 26, [(337, 152)]) := rx_at tbX11_takesPart ndX11_takesPart (j := 13) rfl
theorem iX11_takesPart_26 : rx_ins mX11_takesPart 26 = some (28, 29, 13, 217, 2, [(358, 257)]) := rx_at tbX11_takesPart ndX11_takesPart (j := 14) rfl
theorem iX11_takesPart_29 : rx_ins mX11_takesPart 29 = some (13, 32, 7, 2, 36, []) := rx_at tbX11_takesPart ndX11_takesPart (j := 15) rfl
theorem iX11_takesPart_32 : rx_ins mX11_takesPart 32 = some (1, 33, 1, 0, 0, []) := rx_at tbX11_takesPart ndX11_takesPart (j := 16) rfl
theorem iX11_takesPart_33 : rx_ins mX11_takesPart 33 = some (15, 36, 4, 0, 37, []) := rx_at tbX11_takesPart ndX11_takesPart (j := 17) rfl
theorem iX11_takesPart_37 : rx_ins mX11_takesPart 37 = some (4, 38, 0, 1, 0, []) := rx_at tbX11_takesPart ndX11_takesPart (j := 19) rfl
theorem iX11_takesPart_36 : rx_ins mX11_takesPart 36 = some (1, 37, 0, 0, 0, []) := rx_at tbX11_takesPart ndX11_takesPart (j := 18) rfl
theorem iX11_takesPart_38 : rx_ins mX11_takesPart 38 = some (3, 39, 0, 0, 0, []) := rx_at tbX11_takesPart ndX11_takesPart (j := 20) rfl
theorem iX11_takesPart_39 : rx_ins mX11_takesPart 39 = some (17, 42, 0, 11, 25, [(331, 151)]) := rx_at tbX11_takesPart ndX11_takesPart (j := 21) rfl
theorem iX11_takesPart_42 : rx_ins mX11_takesPart 42 = some (1, 43, 2, 0, 0, []) := rx_at tbX11_takesPart ndX11_takesPart (j := 22) rfl
theorem iX11_takesPart_43 : rx_ins mX11_takesPart 43 = some (14, 46, 9, 0, 52, []) := rx_at tbX11_takesPart ndX11_takesPart (j := 23) rfl
theorem iX11_takesPart_46 : rx_ins mX11_takesPart 46 = some (2, 47, 0, 1, 0, []) := rx_at tbX11_takesPart ndX11_takesPart (j := 24) rfl
theorem iX11_takesPart_47 : rx_ins mX11_takesPart 47 = some (13, 50, 5, 1, 52, []) := rx_at tbX11_takesPart ndX11_takesPart (j := 25) rfl
theorem iX11_takesPart_50 : rx_ins mX11_takesPart 50 = some (1, 51, 0, 0, 0, []) := rx_at tbX11_takesPart ndX11_takesPart (j := 26) rfl
theorem iX11_takesPart_51 : rx_ins mX11_takesPart 51 = some (29, 52, 1, 0, 0, []) := rx_at tbX11_takesPart ndX11_takesPart (j := 27) rfl
theorem iX11_takesPart_52 : rx_ins mX11_takesPart 52 = some (3, 53, 0, 0, 0, []) := rx_at tbX11_takesPart ndX11_takesPart (j := 28) rfl
theorem iX11_takesPart_53 : rx_ins mX11_takesPart 53 = some (18, 56, 0, 11, 31, [(69, 158)]) := rx_at tbX11_takesPart ndX11_takesPart (j := 29) rfl
theorem iX11_takesPart_56 : rx_ins mX11_takesPart 56 = some (3, 57, 0, 0, 0, []) := rx_at tbX11_takesPart ndX11_takesPart (j := 30) rfl
theorem iX11_takesPart_57 : rx_ins mX11_takesPart 57 = some (17, 60, 0, 11, 32, [(355, 159)]) := rx_at tbX11_takesPart ndX11_takesPart (j := 31) rfl
theorem iX11_takesPart_60 : rx_ins mX11_takesPart 60 = some (3, 61, 0, 0, 0, []) := rx_at tbX11_takesPart ndX11_takesPart (j := 32) rfl
theorem iX11_takesPart_61 : rx_ins mX11_takesPart 61 = some (17, 64, 0, 11, 25, [(331, 151)]) := rx_at tbX11_takesPart ndX11_takesPart (j := 33) rfl
theorem iX11_takesPart_64 : rx_ins mX11_takesPart 64 = some (1, 65, 2, 0, 0, []) := rx_at tbX11_takesPart ndX11_takesPart (j := 34) rfl
theorem iX11_takesPart_65 : rx_ins mX11_takesPart 65 = some (14, 68, 10, 1, 75, []) := rx_at tbX11_takesPart ndX11_takesPart (j := 35) rfl
theorem iX11_takesPart_75 : rx_ins mX11_takesPart 75 = some (1, 78, 10000, 2, 0, []) := rx_at tbX11_takesPart ndX11_takesPart (j := 39) rfl
theorem iX11_takesPart_78 : rx_ins mX11_takesPart 78 = some (3, 79, 0, 0, 0, []) := rx_at tbX11_takesPart ndX11_takesPart (j := 40) rfl
theorem iX11_takesPart_79 : rx_ins mX11_takesPart 79 = some (3, 80, 0, 0, 0, []) := rx_at tbX11_takesPart ndX11_takesPart (j := 41) rfl
theorem iX11_takesPart_80 : rx_ins mX11_takesPart 80 = some (17, 83, 0, 11, 26, [(337, 152)]) := rx_at tbX11_takesPart ndX11_takesPart (j := 42) rfl
theorem iX11_takesPart_83 : rx_ins mX11_takesPart 83 = some (28, 86, 13, 217, 2, [(358, 257)]) := rx_at tbX11_takesPart ndX11_takesPart (j := 43) rfl
theorem iX11_takesPart_86 : rx_ins mX11_takesPart 86 = some (7, 87, 0, 0, 0, []) := rx_at tbX11_takesPart ndX11_takesPart (j := 44) rfl
theorem iX11_takesPart_87 : rx_ins mX11_takesPart 87 = some (21, 88, 0, 0, 0, []) := rx_at tbX11_takesPart ndX11_takesPart (j := 45) rfl
theorem iX11_takesPart_68 : rx_ins mX11_takesPart 68 = some (3, 69, 0, 0, 0, []) := rx_at tbX11_takesPart ndX11_takesPart (j := 36) rfl
theorem iX11_takesPart_69 : rx_ins mX11_takesPart 69 = some (17, 72, 0, 11, 26, [(337, 152)]) := rx_at tbX11_takesPart ndX11_takesPart (j := 37) rfl
theorem iX11_takesPart_72 : rx_ins mX11_takesPart 72 = some (15, 75, 15, 0, 87, []) := rx_at tbX11_takesPart ndX11_takesPart (j := 38) rfl
theorem iX11_takesPart_88 : rx_ins mX11_takesPart 88 = some (3, 89, 0, 0, 0, []) := rx_at tbX11_takesPart ndX11_takesPart (j := 46) rfl
theorem iX11_takesPart_89 : rx_ins mX11_takesPart 89 = some (10, 90, 0, 0, 0, []) := rx_at tbX11_takesPart ndX11_takesPart (j := 47) rfl
theorem iX11_takesPart_90 : rx_ins mX11_takesPart 90 = some (17, 93, 0, 11, 32, [(355, 159)]) := rx_at tbX11_takesPart ndX11_takesPart (j := 48) rfl
theorem iX11_takesPart_93 : rx_ins mX11_takesPart 93 = some (1, 94, 1, 0, 0, []) := rx_at tbX11_takesPart ndX11_takesPart (j := 49) rfl
theorem iX11_takesPart_94 : rx_ins mX11_takesPart 94 = some (7, 95, 0, 0, 0, []) := rx_at tbX11_takesPart ndX11_takesPart (j := 50) rfl
theorem iX11_takesPart_95 : rx_ins mX11_takesPart 95 = some (19, 98, 0, 11, 32, [(355, 159)]) := rx_at tbX11_takesPart ndX11_takesPart (j := 51) rfl
theorem iX11_takesPart_98 : rx_ins mX11_takesPart 98 = some (3, 99, 0, 0, 0, []) := rx_at tbX11_takesPart ndX11_takesPart (j := 52) rfl
theorem iX11_takesPart_99 : rx_ins mX11_takesPart 99 = some (10, 100, 0, 0, 0, []) := rx_at tbX11_takesPart ndX11_takesPart (j := 53) rfl
theorem iX11_takesPart_100 : rx_ins mX11_takesPart 100 = some (17, 103, 0, 11, 33, [(361, 160)]) := rx_at tbX11_takesPart ndX11_takesPart (j := 54) rfl
theorem iX11_takesPart_103 : rx_ins mX11_takesPart 103 = some (1, 104, 1, 0, 0, []) := rx_at tbX11_takesPart ndX11_takesPart (j := 55) rfl
theorem iX11_takesPart_104 : rx_ins mX11_takesPart 104 = some (7, 105, 0, 0, 0, []) := rx_at tbX11_takesPart ndX11_takesPart (j := 56) rfl
theorem iX11_takesPart_105 : rx_ins mX11_takesPart 105 = some (19, 108, 0, 11, 33, [(361, 160)]) := rx_at tbX11_takesPart ndX11_takesPart (j := 57) rfl
theorem iX11_takesPart_108 : rx_ins mX11_takesPart 108 = some (3, 109, 0, 0, 0, []) := rx_at tbX11_takesPart ndX11_takesPart (j := 58) rfl
theorem iX11_takesPart_109 : rx_ins mX11_takesPart 109 = some (1, 111, 6, 1, 0, []) := rx_at tbX11_takesPart ndX11_takesPart (j := 59) rfl
theorem iX11_takesPart_111 : rx_ins mX11_takesPart 111 = some (28, 114, 13, 219, 2, [(364, 258)]) := rx_at tbX11_takesPart ndX11_takesPart (j := 60) rfl
theorem iX11_takesPart_114 : rx_ins mX11_takesPart 114 = some (3, 115, 0, 0, 0, []) := rx_at tbX11_takesPart ndX11_takesPart (j := 61) rfl
theorem iX11_takesPart_115 : rx_ins mX11_takesPart 115 = some (28, 118, 13, 215, 1, [(346, 255)]) := rx_at tbX11_takesPart ndX11_takesPart (j := 62) rfl
theorem iX11_takesPart_118 : rx_ins mX11_takesPart 118 = some (1, 119, 1, 0, 0, []) := rx_at tbX11_takesPart ndX11_takesPart (j := 63) rfl
theorem iX11_takesPart_119 : rx_ins mX11_takesPart 119 = some (29, 120, 1, 0, 0, []) := rx_at tbX11_takesPart ndX11_takesPart (j := 64) rfl
theorem iX11_takesE_0 : rx_ins mX11_takesE 0 = some (1, 1, 0, 0, 0, []) := rx_atm tbX11_takesE ndX11_takesE (lmX11_takesE_0 (List.mem_of_getElem? (i := 0) rfl))
theorem iX11_takesE_1 : rx_ins mX11_takesE 1 = some (4, 2, 0, 1, 0, []) := rx_atm tbX11_takesE ndX11_takesE (lmX11_takesE_0 (List.mem_of_getElem? (i := 1) rfl))
theorem iX11_takesE_2 : rx_ins mX11_takesE 2 = some (1, 3, 0, 0, 0, []) := rx_atm tbX11_takesE ndX11_takesE (lmX11_takesE_0 (List.mem_of_getElem? (i := 2) rfl))
theorem iX11_takesE_3 : rx_ins mX11_takesE 3 = some (4, 4, 0, 2, 0, []) := rx_atm tbX11_takesE ndX11_takesE (lmX11_takesE_0 (List.mem_of_getElem? (i := 3) rfl))
theorem iX11_takesE_4 : rx_ins mX11_takesE 4 = some (1, 5, 1, 0, 0, []) := rx_atm tbX11_takesE ndX11_takesE (lmX11_takesE_0 (List.mem_of_getElem? (i := 4) rfl))
theorem iX11_takesE_5 : rx_ins mX11_takesE 5 = some (4, 6, 0, 3, 0, []) := rx_atm tbX11_takesE ndX11_takesE (lmX11_takesE_0 (List.mem_of_getElem? (i := 5) rfl))
theorem iX11_takesE_6 : rx_ins mX11_takesE 6 = some (3, 7, 0, 0, 0, []) := rx_atm tbX11_takesE ndX11_takesE (lmX11_takesE_0 (List.mem_of_getElem? (i := 6) rfl))
theorem iX11_takesE_7 : rx_ins mX11_takesE 7 = some (1, 8, 0, 0, 0, []) := rx_atm tbX11_takesE ndX11_takesE (lmX11_takesE_0 (List.mem_of_getElem? (i := 7) rfl))
theorem iX11_takesE_8 : rx_ins mX11_takesE 8 = some (19, 11, 0, 11, 32, [(355, 159)]) := rx_atm tbX11_takesE ndX11_takesE (lmX11_takesE_0 (List.mem_of_getElem? (i := 8) rfl))
theorem iX11_takesE_11 : rx_ins mX11_takesE 11 = some (3, 12, 0, 0, 0, []) := rx_atm tbX11_takesE ndX11_takesE (lmX11_takesE_0 (List.mem_of_getElem? (i := 9) rfl))
theorem iX11_takesE_12 : rx_ins mX11_takesE 12 = some (1, 13, 0, 0, 0, []) := rx_atm tbX11_takesE ndX11_takesE (lmX11_takesE_0 (List.mem_of_getElem? (i := 10) rfl))
theorem iX11_takesE_13 : rx_ins mX11_takesE 13 = some (19, 16, 0, 11, 33, [(361, 160)]) := rx_atm tbX11_takesE ndX11_takesE (lmX11_takesE_0 (List.mem_of_getElem? (i := 11) rfl))
theorem iX11_takesE_16 : rx_ins mX11_takesE 16 = some (3, 17, 0, 0, 0, []) := rx_atm tbX11_takesE ndX11_takesE (lmX11_takesE_0 (List.mem_of_getElem? (i := 12) rfl))
theorem iX11_takesE_17 : rx_ins mX11_takesE 17 = some (1, 18, 0, 0, 0, []) := rx_atm tbX11_takesE ndX11_takesE (lmX11_takesE_0 (List.mem_of_getElem? (i := 13) rfl))
theorem iX11_takesE_18 : rx_ins mX11_takesE 18 = some (19, 21, 0, 11, 35, [(349, 156)]) := rx_atm tbX11_takesE ndX11_takesE (lmX11_takesE_0 (List.mem_of_getElem? (i := 14) rfl))
theorem iX11_takesE_21 : rx_ins mX11_takesE 21 = some (3, 22, 0, 0, 0, []) := rx_atm tbX11_takesE ndX11_takesE (lmX11_takesE_0 (List.mem_of_getElem? (i := 15) rfl))
theorem iX11_takesE_22 : rx_ins mX11_takesE 22 = some (18, 25, 0, 11, 36, [(75, 161)]) := rx_atm tbX11_takesE ndX11_takesE (lmX11_takesE_0 (List.mem_of_getElem? (i := 16) rfl))
theorem iX11_takesE_25 : rx_ins mX11_takesE 25 = some (1, 26, 0, 0, 0, []) := rx_atm tbX11_takesE ndX11_takesE (lmX11_takesE_0 (List.mem_of_getElem? (i := 17) rfl))
theorem iX11_takesE_26 : rx_ins mX11_takesE 26 = some (1, 27, 0, 0, 0, []) := rx_atm tbX11_takesE ndX11_takesE (lmX11_takesE_0 (List.mem_of_getElem? (i := 18) rfl))
theorem iX11_takesE_27 : rx_ins mX11_takesE 27 = some (21, 28, 0, 1, 0, []) := rx_atm tbX11_takesE ndX11_takesE (lmX11_takesE_0 (List.mem_of_getElem? (i := 19) rfl))
theorem iX11_takesE_28 : rx_ins mX11_takesE 28 = some (2, 29, 0, 3, 0, []) := rx_atm tbX11_takesE ndX11_takesE (lmX11_takesE_0 (List.mem_of_getElem? (i := 20) rfl))
theorem iX11_takesE_29 : rx_ins mX11_takesE 29 = some (13, 32, 10, 1, 39, []) := rx_atm tbX11_takesE ndX11_takesE (lmX11_takesE_0 (List.mem_of_getElem? (i := 21) rfl))
theorem iX11_takesE_32 : rx_ins mX11_takesE 32 = some (3, 33, 0, 0, 0, []) := rx_atm tbX11_takesE ndX11_takesE (lmX11_takesE_0 (List.mem_of_getElem? (i := 22) rfl))
theorem iX11_takesE_33 : rx_ins mX11_takesE 33 = some (17, 36, 0, 11, 25, [(331, 151)]) := rx_atm tbX11_takesE ndX11_takesE (lmX11_takesE_0 (List.mem_of_getElem? (i := 23) rfl))
theorem iX11_takesE_36 : rx_ins mX11_takesE 36 = some (13, 39, 309, 0, 345, []) := rx_atm tbX11_takesE ndX11_takesE (lmX11_takesE_0 (List.mem_of_getElem? (i := 24) rfl))
theorem iX11_takesE_345 : rx_ins mX11_takesE 345 = some (3, 346, 0, 0, 0, []) := rx_atm tbX11_takesE ndX11_takesE (lmX11_takesE_4 (List.mem_of_getElem? (i := 24) rfl))
theorem iX11_takesE_346 : rx_ins mX11_takesE 346 = some (1, 347, 0, 0, 0, []) := rx_atm tbX11_takesE ndX11_takesE (lmX11_takesE_4 (List.mem_of_getElem? (i := 25) rfl))
theorem iX11_takesE_347 : rx_ins mX11_takesE 347 = some (28, 350, 13, 219, 2, [(364, 258)]) := rx_atm tbX11_takesE ndX11_takesE (lmX11_takesE_4 (List.mem_of_getElem? (i := 26) rfl))
theorem iX11_takesE_350 : rx_ins mX11_takesE 350 = some (2, 351, 0, 1, 0, []) := rx_atm tbX11_takesE ndX11_takesE (lmX11_takesE_4 (List.mem_of_getElem? (i := 27) rfl))
theorem iX11_takesE_351 : rx_ins mX11_takesE 351 = some (13, 354, 7, 1, 358, []) := rx_atm tbX11_takesE ndX11_takesE (lmX11_takesE_4 (List.mem_of_getElem? (i := 28) rfl))
theorem iX11_takesE_358 : rx_ins mX11_takesE 358 = some (1, 359, 0, 0, 0, []) := rx_atm tbX11_takesE ndX11_takesE (lmX11_takesE_4 (List.mem_of_getElem? (i := 31) rfl))
theorem iX11_takesE_359 : rx_ins mX11_takesE 359 = some (29, 360, 1, 0, 0, []) := rx_atm tbX11_takesE ndX11_takesE (lmX11_takesE_4 (List.mem_of_getElem? (i := 32) rfl))
theorem iX11_takesE_354 : rx_ins mX11_takesE 354 = some (1, 355, 1, 0, 0, []) := rx_atm tbX11_takesE ndX11_takesE (lmX11_takesE_4 (List.mem_of_getElem? (i := 29) rfl))
theorem iX11_takesE_355 : rx_ins mX11_takesE 355 = some (15, 358, 4, 0, 359, []) := rx_atm tbX11_takesE ndX11_takesE (lmX11_takesE_4 (List.mem_of_getElem? (i := 30) rfl))
theorem iX11_takesE_39 : rx_ins mX11_takesE 39 = some (2, 40, 0, 3, 0, []) := rx_atm tbX11_takesE ndX11_takesE (lmX11_takesE_0 (List.mem_of_getElem? (i := 25) rfl))
theorem iX11_takesE_40 : rx_ins mX11_takesE 40 = some (13, 43, 140, 0, 180, []) := rx_atm tbX11_takesE ndX11_takesE (lmX11_takesE_0 (List.mem_of_getElem? (i := 26) rfl))
theorem iX11_takesE_180 : rx_ins mX11_takesE 180 = some (3, 181, 0, 0, 0, []) := rx_atm tbX11_takesE ndX11_takesE (lmX11_takesE_2 (List.mem_of_getElem? (i := 18) rfl))
theorem iX11_takesE_181 : rx_ins mX11_takesE 181 = some (17, 184, 0, 11, 25, [(331, 151)]) := rx_atm tbX11_takesE ndX11_takesE (lmX11_takesE_2 (List.mem_of_getElem? (i := 19) rfl))
theorem iX11_takesE_184 : rx_ins mX11_takesE 184 = some (1, 185, 3, 0, 0, []) := rx_atm tbX11_takesE ndX11_takesE (lmX11_takesE_2 (List.mem_of_getElem? (i := 20) rfl))
theorem iX11_takesE_185 : rx_ins mX11_takesE 185 = some (14, 188, 52, 1, 237, []) := rx_atm tbX11_takesE ndX11_takesE (lmX11_takesE_2 (List.mem_of_getElem? (i := 21) rfl))
theorem iX11_takesE_188 : rx_ins mX11_takesE 188 = some (3, 189, 0, 0, 0, []) := rx_atm tbX11_takesE ndX11_takesE (lmX11_takesE_2 (List.mem_of_getElem? (i := 22) rfl))
theorem iX11_takesE_189 : rx_ins mX11_takesE 189 = some (17, 192, 0, 11, 26, [(337, 152)]) := rx_atm tbX11_takesE ndX11_takesE (lmX11_takesE_2 (List.mem_of_getElem? (i := 23) rfl))
theorem iX11_takesE_192 : rx_ins mX11_takesE 192 = some (1, 194, 41, 1, 0, []) := rx_atm tbX11_takesE ndX11_takesE (lmX11_takesE_2 (List.mem_of_getElem? (i := 24) rfl))
theorem iX11_takesE_194 : rx_ins mX11_takesE 194 = some (14, 197, 43, 1, 237, []) := rx_atm tbX11_takesE ndX11_takesE (lmX11_takesE_2 (List.mem_of_getElem? (i := 25) rfl))
theorem iX11_takesE_197 : rx_ins mX11_takesE 197 = some (2, 198, 0, 1, 0, []) := rx_atm tbX11_takesE ndX11_takesE (lmX11_takesE_2 (List.mem_of_getElem? (i := 26) rfl))
theorem iX11_takesE_198 : rx_ins mX11_takesE 198 = some (13, 201, 39, 5, 237, []) := rx_atm tbX11_takesE ndX11_takesE (lmX11_takesE_2 (List.mem_of_getElem? (i := 27) rfl))
theorem iX11_takesE_201 : rx_ins mX11_takesE 201 = some (3, 202, 0, 0, 0, []) := rx_atm tbX11_takesE ndX11_takesE (lmX11_takesE_2 (List.mem_of_getElem? (i := 28) rfl))
theorem iX11_takesE_202 : rx_ins mX11_takesE 202 = some (1, 203, 0, 0, 0, []) := rx_atm tbX11_takesE ndX11_takesE (lmX11_takesE_2 (List.mem_of_getElem? (i := 29) rfl))
theorem iX11_takesE_203 : rx_ins mX11_takesE 203 = some (28, 206, 13, 219, 2, [(364, 258)]) := rx_atm tbX11_takesE ndX11_takesE (lmX11_takesE_2 (List.mem_of_getElem? (i := 30) rfl))
theorem iX11_takesE_206 : rx_ins mX11_takesE 206 = some (3, 207, 0, 0, 0, []) := rx_atm tbX11_takesE ndX11_takesE (lmX11_takesE_2 (List.mem_of_getElem? (i := 31) rfl))
theorem iX11_takesE_207 : rx_ins mX11_takesE 207 = some (10, 208, 0, 0, 0, []) := rx_atm tbX11_takesE ndX11_takesE (lmX11_takesE_2 (List.mem_of_getElem? (i := 32) rfl))
theorem iX11_takesE_208 : rx_ins mX11_takesE 208 = some (17, 211, 0, 11, 35, [(349, 156)]) := rx_atm tbX11_takesE ndX11_takesE (lmX11_takesE_2 (List.mem_of_getElem? (i := 33) rfl))
theorem iX11_takesE_211 : rx_ins mX11_takesE 211 = some (1, 212, 1, 0, 0, []) := rx_atm tbX11_takesE ndX11_takesE (lmX11_takesE_2 (List.mem_of_getElem? (i := 34) rfl))
theorem iX11_takesE_212 : rx_ins mX11_takesE 212 = some (7, 213, 0, 1, 0, []) := rx_atm tbX11_takesE ndX11_takesE (lmX11_takesE_2 (List.mem_of_getElem? (i := 35) rfl))
theorem iX11_takesE_213 : rx_ins mX11_takesE 213 = some (19, 216, 0, 11, 35, [(349, 156)]) := rx_atm tbX11_takesE ndX11_takesE (lmX11_takesE_2 (List.mem_of_getElem? (i := 36) rfl))
theorem iX11_takesE_216 : rx_ins mX11_takesE 216 = some (6, 219, (-1), 1, 0, []) := rx_atm tbX11_takesE ndX11_takesE (lmX11_takesE_2 (List.mem_of_getElem? (i := 37) rfl))
theorem iX11_takesE_219 : rx_ins mX11_takesE 219 = some (3, 220, 0, 0, 0, []) := rx_atm tbX11_takesE ndX11_takesE (lmX11_takesE_2 (List.mem_of_getElem? (i := 38) rfl))
theorem iX11_takesE_220 : rx_ins mX11_takesE 220 = some (1, 222, 6, 1, 0, []) := rx_atm tbX11_takesE ndX11_takesE (lmX11_takesE_2 (List.mem_of_getElem? (i := 39) rfl))
theorem iX11_takesE_222 : rx_ins mX11_takesE 222 = some (28, 225, 13, 219, 2, [(364, 258)]) := rx_atm tbX11_takesE ndX11_takesE (lmX11_takesE_3 (List.mem_of_getElem? (i := 0) rfl))
theorem iX11_takesE_225 : rx_ins mX11_takesE 225 = some (3, 226, 0, 0, 0, []) := rx_atm tbX11_takesE ndX11_takesE (lmX11_takesE_3 (List.mem_of_getElem? (i := 1) rfl))
theorem iX11_takesE_226 : rx_ins mX11_takesE 226 = some (28, 229, 13, 223, 1, [(370, 260)]) := rx_atm tbX11_takesE ndX11_takesE (lmX11_takesE_3 (List.mem_of_getElem? (i := 2) rfl))
theorem iX11_takesE_229 : rx_ins mX11_takesE 229 = some (4, 230, 0, 2, 0, []) := rx_atm tbX11_takesE ndX11_takesE (lmX11_takesE_3 (List.mem_of_getElem? (i := 3) rfl))
theorem iX11_takesE_230 : rx_ins mX11_takesE 230 = some (3, 231, 0, 0, 0, []) := rx_atm tbX11_takesE ndX11_takesE (lmX11_takesE_3 (List.mem_of_getElem? (i := 4) rfl))
theorem iX11_takesE_231 : rx_ins mX11_takesE 231 = some (28, 234, 13, 215, 1, [(346, 255)]) := rx_atm tbX11_takesE ndX11_takesE (lmX11_takesE_3 (List.mem_of_getElem? (i := 5) rfl))
theorem iX11_takesE_234 : rx_ins mX11_takesE 234 = some (15, 237, (-206), 0, 28, []) := rx_atm tbX11_takesE ndX11_takesE (lmX11_takesE_3 (List.mem_of_getElem? (i := 6) rfl))
theorem iX11_takesE_43 : rx_ins mX11_takesE 43 = some (3, 44, 0, 0, 0, []) := rx_atm tbX11_takesE ndX11_takesE (lmX11_takesE_0 (List.mem_of_getElem? (i := 27) rfl))
theorem iX11_takesE_44 : rx_ins mX11_takesE 44 = some (17, 47, 0, 11, 25, [(331, 151)]) := rx_atm tbX11_takesE ndX11_takesE (lmX11_takesE_0 (List.mem_of_getElem? (i := 28) rfl))
theorem iX11_takesE_47 : rx_ins mX11_takesE 47 = some (1, 48, 3, 0, 0, []) := rx_atm tbX11_takesE ndX11_takesE (lmX11_takesE_0 (List.mem_of_getElem? (i := 29) rfl))
theorem iX11_takesE_48 : rx_ins mX11_takesE 48 = some (14, 51, 49, 1, 97, []) := rx_atm tbX11_takesE ndX11_takesE (lmX11_takesE_0 (List.mem_of_getElem? (i := 30) rfl))
theorem iX11_takesE_51 : rx_ins mX11_takesE 51 = some (3, 52, 0, 0, 0, []) := rx_atm tbX11_takesE ndX11_takesE (lmX11_takesE_0 (List.mem_of_getElem? (i := 31) rfl))
theorem iX11_takesE_52 : rx_ins mX11_takesE 52 = some (17, 55, 0, 11, 26, [(337, 152)]) := rx_atm tbX11_takesE ndX11_takesE (lmX11_takesE_0 (List.mem_of_getElem? (i := 32) rfl))
theorem iX11_takesE_55 : rx_ins mX11_takesE 55 = some (1, 57, 33, 1, 0, []) := rx_atm tbX11_takesE ndX11_takesE (lmX11_takesE_0 (List.mem_of_getElem? (i := 33) rfl))
theorem iX11_takesE_57 : rx_ins mX11_takesE 57 = some (14, 60, 40, 1, 97, []) := rx_atm tbX11_takesE ndX11_takesE (lmX11_takesE_0 (List.mem_of_getElem? (i := 34) rfl))
theorem iX11_takesE_60 : rx_ins mX11_takesE 60 = some (2, 61, 0, 2, 0, []) := rx_atm tbX11_takesE ndX11_takesE (lmX11_takesE_0 (List.mem_of_getElem? (i := 35) rfl))
theorem iX11_takesE_61 : rx_ins mX11_takesE 61 = some (1, 63, 8, 1, 0, []) := rx_atm tbX11_takesE ndX11_takesE (lmX11_takesE_0 (List.mem_of_getElem? (i := 36) rfl))
theorem iX11_takesE_63 : rx_ins mX11_takesE 63 = some (14, 66, 34, 3, 97, []) := rx_atm tbX11_takesE ndX11_takesE (lmX11_takesE_0 (List.mem_of_getElem? (i := 37) rfl))
theorem iX11_takesE_66 : rx_ins mX11_takesE 66 = some (3, 67, 0, 0, 0, []) := rx_atm tbX11_takesE ndX11_takesE (lmX11_takesE_0 (List.mem_of_getElem? (i := 38) rfl))
theorem iX11_takesE_67 : rx_ins mX11_takesE 67 = some (18, 70, 0, 11, 34, [(72, 157)]) := rx_atm tbX11_takesE ndX11_takesE (lmX11_takesE_0 (List.mem_of_getElem? (i := 39) rfl))
theorem iX11_takesE_70 : rx_ins mX11_takesE 70 = some (3, 71, 0, 0, 0, []) := rx_atm tbX11_takesE ndX11_takesE (lmX11_takesE_1 (List.mem_of_getElem? (i := 0) rfl))
theorem iX11_takesE_71 : rx_ins mX11_takesE 71 = some (17, 74, 0, 11, 35, [(349, 156)]) := rx_atm tbX11_takesE ndX11_takesE (lmX11_takesE_1 (List.mem_of_getElem? (i := 1) rfl))
theorem iX11_takesE_74 : rx_ins mX11_takesE 74 = some (1, 76, (-10), 1, 0, []) := rx_atm tbX11_takesE ndX11_takesE (lmX11_takesE_1 (List.mem_of_getElem? (i := 2) rfl))
theorem iX11_takesE_76 : rx_ins mX11_takesE 76 = some (21, 77, 0, 0, 0, []) := rx_atm tbX11_takesE ndX11_takesE (lmX11_takesE_1 (List.mem_of_getElem? (i := 3) rfl))
theorem iX11_takesE_77 : rx_ins mX11_takesE 77 = some (3, 78, 0, 0, 0, []) := rx_atm tbX11_takesE ndX11_takesE (lmX11_takesE_1 (List.mem_of_getElem? (i := 4) rfl))
theorem iX11_takesE_78 : rx_ins mX11_takesE 78 = some (10, 79, 0, 0, 0, []) := rx_atm tbX11_takesE ndX11_takesE (lmX11_takesE_1 (List.mem_of_getElem? (i := 5) rfl))
theorem iX11_takesE_79 : rx_ins mX11_takesE 79 = some (17, 82, 0, 11, 35, [(349, 156)]) := rx_atm tbX11_takesE ndX11_takesE (lmX11_takesE_1 (List.mem_of_getElem? (i := 6) rfl))
theorem iX11_takesE_82 : rx_ins mX11_takesE 82 = some (1, 83, 1, 0, 0, []) := rx_atm tbX11_takesE ndX11_takesE (lmX11_takesE_1 (List.mem_of_getElem? (i := 7) rfl))
theorem iX11_takesE_83 : rx_ins mX11_takesE 83 = some (7, 84, 0, 0, 0, []) := rx_atm tbX11_takesE ndX11_takesE (lmX11_takesE_1 (List.mem_of_getElem? (i := 8) rfl))
theorem iX11_takesE_84 : rx_ins mX11_takesE 84 = some (19, 87, 0, 11, 35, [(349, 156)]) := rx_atm tbX11_takesE ndX11_takesE (lmX11_takesE_1 (List.mem_of_getElem? (i := 9) rfl))
theorem iX11_takesE_87 : rx_ins mX11_takesE 87 = some (6, 90, 1, 2, 0, []) := rx_atm tbX11_takesE ndX11_takesE (lmX11_takesE_1 (List.mem_of_getElem? (i := 10) rfl))
theorem iX11_takesE_90 : rx_ins mX11_takesE 90 = some (3, 91, 0, 0, 0, []) := rx_atm tbX11_takesE ndX11_takesE (lmX11_takesE_1 (List.mem_of_getElem? (i := 11) rfl))
theorem iX11_takesE_91 : rx_ins mX11_takesE 91 = some (28, 94, 13, 215, 1, [(346, 255)]) := rx_atm tbX11_takesE ndX11_takesE (lmX11_takesE_1 (List.mem_of_getElem? (i := 12) rfl))
theorem iX11_takesE_94 : rx_ins mX11_takesE 94 = some (15, 97, 78, 0, 172, []) := rx_atm tbX11_takesE ndX11_takesE (lmX11_takesE_1 (List.mem_of_getElem? (i := 13) rfl))
theorem iX11_takesE_237 : rx_ins mX11_takesE 237 = some (3, 238, 0, 0, 0, []) := rx_atm tbX11_takesE ndX11_takesE (lmX11_takesE_3 (List.mem_of_getElem? (i := 7) rfl))
theorem iX11_takesE_238 : rx_ins mX11_takesE 238 = some (28, 241, 13, 220, 1, [(373, 261)]) := rx_atm tbX11_takesE ndX11_takesE (lmX11_takesE_3 (List.mem_of_getElem? (i := 8) rfl))
theorem iX11_takesE_241 : rx_ins mX11_takesE 241 = some (4, 243, 1, 4, 0, []) := rx_atm tbX11_takesE ndX11_takesE (lmX11_takesE_3 (List.mem_of_getElem? (i := 9) rfl))
theorem iX11_takesE_243 : rx_ins mX11_takesE 243 = some (2, 245, 1, 4, 0, []) := rx_atm tbX11_takesE ndX11_takesE (lmX11_takesE_3 (List.mem_of_getElem? (i := 10) rfl))
theorem iX11_takesE_245 : rx_ins mX11_takesE 245 = some (13, 248, 21, 0, 266, []) := rx_atm tbX11_takesE ndX11_takesE (lmX11_takesE_3 (List.mem_of_getElem? (i := 11) rfl))
theorem iX11_takesE_266 : rx_ins mX11_takesE 266 = some (1, 267, 0, 0, 0, []) := rx_atm tbX11_takesE ndX11_takesE (lmX11_takesE_3 (List.mem_of_getElem? (i := 21) rfl))
theorem iX11_takesE_267 : rx_ins mX11_takesE 267 = some (29, 268, 1, 0, 0, []) := rx_atm tbX11_takesE ndX11_takesE (lmX11_takesE_3 (List.mem_of_getElem? (i := 22) rfl))
theorem iX11_takesE_248 : rx_ins mX11_takesE 248 = some (2, 250, 1, 4, 0, []) := rx_atm tbX11_takesE ndX11_takesE (lmX11_takesE_3 (List.mem_of_getElem? (i := 12) rfl))
theorem iX11_takesE_250 : rx_ins mX11_takesE 250 = some (28, 253, 0, 218, 1, [(352, 256)]) := rx_atm tbX11_takesE ndX11_takesE (lmX11_takesE_3 (List.mem_of_getElem? (i := 13) rfl))
theorem iX11_takesE_253 : rx_ins mX11_takesE 253 = some (1, 254, 3, 0, 0, []) := rx_atm tbX11_takesE ndX11_takesE (lmX11_takesE_3 (List.mem_of_getElem? (i := 14) rfl))
theorem iX11_takesE_254 : rx_ins mX11_takesE 254 = some (14, 257, 14, 1, 268, []) := rx_atm tbX11_takesE ndX11_takesE (lmX11_takesE_3 (List.mem_of_getElem? (i := 15) rfl))
theorem iX11_takesE_257 : rx_ins mX11_takesE 257 = some (3, 258, 0, 0, 0, []) := rx_atm tbX11_takesE ndX11_takesE (lmX11_takesE_3 (List.mem_of_getElem? (i := 16) rfl))
theorem iX11_takesE_258 : rx_ins mX11_takesE 258 = some (18, 261, 0, 11, 36, [(75, 161)]) := rx_atm tbX11_takesE ndX11_takesE (lmX11_takesE_3 (List.mem_of_getElem? (i := 17) rfl))
theorem iX11_takesE_261 : rx_ins mX11_takesE 261 = some (2, 262, 0, 1, 0, []) := rx_atm tbX11_takesE ndX11_takesE (lmX11_takesE_3 (List.mem_of_getElem? (i := 18) rfl))
theorem iX11_takesE_262 : rx_ins mX11_takesE 262 = some (20, 263, 0, 1, 0, []) := rx_atm tbX11_takesE ndX11_takesE (lmX11_takesE_3 (List.mem_of_getElem? (i := 19) rfl))
theorem iX11_takesE_263 : rx_ins mX11_takesE 263 = some (13, 266, 5, 0, 268, []) := rx_atm tbX11_takesE ndX11_takesE (lmX11_takesE_3 (List.mem_of_getElem? (i := 20) rfl))
theorem iX11_takesE_97 : rx_ins mX11_takesE 97 = some (3, 98, 0, 0, 0, []) := rx_atm tbX11_takesE ndX11_takesE (lmX11_takesE_1 (List.mem_of_getElem? (i := 14) rfl))
theorem iX11_takesE_98 : rx_ins mX11_takesE 98 = some (17, 101, 0, 11, 25, [(331, 151)]) := rx_atm tbX11_takesE ndX11_takesE (lmX11_takesE_1 (List.mem_of_getElem? (i := 15) rfl))
theorem iX11_takesE_101 : rx_ins mX11_takesE 101 = some (1, 102, 3, 0, 0, []) := rx_atm tbX11_takesE ndX11_takesE (lmX11_takesE_1 (List.mem_of_getElem? (i := 16) rfl))
theorem iX11_takesE_102 : rx_ins mX11_takesE 102 = some (14, 105, 56, 1, 158, []) := rx_atm tbX11_takesE ndX11_takesE (lmX11_takesE_1 (List.mem_of_getElem? (i := 17) rfl))
theorem iX11_takesE_105 : rx_ins mX11_takesE 105 = some (3, 106, 0, 0, 0, []) := rx_atm tbX11_takesE ndX11_takesE (lmX11_takesE_1 (List.mem_of_getElem? (i := 18) rfl))
theorem iX11_takesE_106 : rx_ins mX11_takesE 106 = some (17, 109, 0, 11, 26, [(337, 152)]) := rx_atm tbX11_takesE ndX11_takesE (lmX11_takesE_1 (List.mem_of_getElem? (i := 19) rfl))
theorem iX11_takesE_109 : rx_ins mX11_takesE 109 = some (1, 111, 40, 1, 0, []) := rx_atm tbX11_takesE ndX11_takesE (lmX11_takesE_1 (List.mem_of_getElem? (i := 20) rfl))
theorem iX11_takesE_111 : rx_ins mX11_takesE 111 = some (14, 114, 47, 1, 158, []) := rx_atm tbX11_takesE ndX11_takesE (lmX11_takesE_1 (List.mem_of_getElem? (i := 21) rfl))
theorem iX11_takesE_114 : rx_ins mX11_takesE 114 = some (2, 115, 0, 1, 0, []) := rx_atm tbX11_takesE ndX11_takesE (lmX11_takesE_1 (List.mem_of_getElem? (i := 22) rfl))
theorem iX11_takesE_115 : rx_ins mX11_takesE 115 = some (1, 117, 8, 1, 0, []) := rx_atm tbX11_takesE ndX11_takesE (lmX11_takesE_1 (List.mem_of_getElem? (i := 23) rfl))
theorem iX11_takesE_117 : rx_ins mX11_takesE 117 = some (14, 120, 41, 3, 158, []) := rx_atm tbX11_takesE ndX11_takesE (lmX11_takesE_1 (List.mem_of_getElem? (i := 24) rfl))
theorem iX11_takesE_120 : rx_ins mX11_takesE 120 = some (3, 121, 0, 0, 0, []) := rx_atm tbX11_takesE ndX11_takesE (lmX11_takesE_1 (List.mem_of_getElem? (i := 25) rfl))
theorem iX11_takesE_121 : rx_ins mX11_takesE 121 = some (18, 124, 0, 11, 34, [(72, 157)]) := rx_atm tbX11_takesE ndX11_takesE (lmX11_takesE_1 (List.mem_of_getElem? (i := 26) rfl))
theorem iX11_takesE_124 : rx_ins mX11_takesE 124 = some (3, 125, 0, 0, 0, []) := rx_atm tbX11_takesE ndX11_takesE (lmX11_takesE_1 (List.mem_of_getElem? (i := 27) rfl))
theorem iX11_takesE_125 : rx_ins mX11_takesE 125 = some (17, 128, 0, 11, 35, [(349, 156)]) := rx_atm tbX11_takesE ndX11_takesE (lmX11_takesE_1 (List.mem_of_getElem? (i := 28) rfl))
theorem iX11_takesE_128 : rx_ins mX11_takesE 128 = some (1, 130, (-11), 1, 0, []) := rx_atm tbX11_takesE ndX11_takesE (lmX11_takesE_1 (List.mem_of_getElem? (i := 29) rfl))
theorem iX11_takesE_130 : rx_ins mX11_takesE 130 = some (21, 131, 0, 0, 0, []) := rx_atm tbX11_takesE ndX11_takesE (lmX11_takesE_1 (List.mem_of_getElem? (i := 30) rfl))
theorem iX11_takesE_131 : rx_ins mX11_takesE 131 = some (3, 132, 0, 0, 0, []) := rx_atm tbX11_takesE ndX11_takesE (lmX11_takesE_1 (List.mem_of_getElem? (i := 31) rfl))
theorem iX11_takesE_132 : rx_ins mX11_takesE 132 = some (10, 133, 0, 0, 0, []) := rx_atm tbX11_takesE ndX11_takesE (lmX11_takesE_1 (List.mem_of_getElem? (i := 32) rfl))
theorem iX11_takesE_133 : rx_ins mX11_takesE 133 = some (17, 136, 0, 11, 35, [(349, 156)]) := rx_atm tbX11_takesE ndX11_takesE (lmX11_takesE_1 (List.mem_of_getElem? (i := 33) rfl))
theorem iX11_takesE_136 : rx_ins mX11_takesE 136 = some (1, 137, 1, 0, 0, []) := rx_atm tbX11_takesE ndX11_takesE (lmX11_takesE_1 (List.mem_of_getElem? (i := 34) rfl))
theorem iX11_takesE_137 : rx_ins mX11_takesE 137 = some (7, 138, 0, 0, 0, []) := rx_atm tbX11_takesE ndX11_takesE (lmX11_takesE_1 (List.mem_of_getElem? (i := 35) rfl))
theorem iX11_takesE_138 : rx_ins mX11_takesE 138 = some (19, 141, 0, 11, 35, [(349, 156)]) := rx_atm tbX11_takesE ndX11_takesE (lmX11_takesE_1 (List.mem_of_getElem? (i := 36) rfl))
theorem iX11_takesE_141 : rx_ins mX11_takesE 141 = some (6, 144, 1, 1, 0, []) := rx_atm tbX11_takesE ndX11_takesE (lmX11_takesE_1 (List.mem_of_getElem? (i := 37) rfl))
theorem iX11_takesE_144 : rx_ins mX11_takesE 144 = some (3, 145, 0, 0, 0, []) := rx_atm tbX11_takesE ndX11_takesE (lmX11_takesE_1 (List.mem_of_getElem? (i := 38) rfl))
theorem iX11_takesE_145 : rx_ins mX11_takesE 145 = some (18, 148, 0, 11, 36, [(75, 161)]) := rx_atm tbX11_takesE ndX11_takesE (lmX11_takesE_1 (List.mem_of_getElem? (i := 39) rfl))
theorem iX11_takesE_148 : rx_ins mX11_takesE 148 = some (2, 149, 0, 1, 0, []) := rx_atm tbX11_takesE ndX11_takesE (lmX11_takesE_2 (List.mem_of_getElem? (i := 0) rfl))
theorem iX11_takesE_149 : rx_ins mX11_takesE 149 = some (1, 150, 0, 0, 0, []) := rx_atm tbX11_takesE ndX11_takesE (lmX11_takesE_2 (List.mem_of_getElem? (i := 1) rfl))
theorem iX11_takesE_150 : rx_ins mX11_takesE 150 = some (21, 151, 0, 1, 0, []) := rx_atm tbX11_takesE ndX11_takesE (lmX11_takesE_2 (List.mem_of_getElem? (i := 2) rfl))
theorem iX11_takesE_151 : rx_ins mX11_takesE 151 = some (3, 152, 0, 0, 0, []) := rx_atm tbX11_takesE ndX11_takesE (lmX11_takesE_2 (List.mem_of_getElem? (i := 3) rfl))
theorem iX11_takesE_152 : rx_ins mX11_takesE 152 = some (28, 155, 13, 215, 1, [(346, 255)]) := rx_atm tbX11_takesE ndX11_takesE (lmX11_takesE_2 (List.mem_of_getElem? (i := 4) rfl))
theorem iX11_takesE_155 : rx_ins mX11_takesE 155 = some (15, 158, 17, 0, 172, []) := rx_atm tbX11_takesE ndX11_takesE (lmX11_takesE_2 (List.mem_of_getElem? (i := 5) rfl))
theorem iX11_takesE_172 : rx_ins mX11_takesE 172 = some (3, 173, 0, 0, 0, []) := rx_atm tbX11_takesE ndX11_takesE (lmX11_takesE_2 (List.mem_of_getElem? (i := 14) rfl))
theorem iX11_takesE_173 : rx_ins mX11_takesE 173 = some (28, 176, 13, 223, 1, [(370, 260)]) := rx_atm tbX11_takesE ndX11_takesE (lmX11_takesE_2 (List.mem_of_getElem? (i := 15) rfl))
theorem iX11_takesE_176 : rx_ins mX11_takesE 176 = some (4, 177, 0, 2, 0, []) := rx_atm tbX11_takesE ndX11_takesE (lmX11_takesE_2 (List.mem_of_getElem? (i := 16) rfl))
theorem iX11_takesE_177 : rx_ins mX11_takesE 177 = some (15, 180, (-149), 0, 28, []) := rx_atm tbX11_takesE ndX11_takesE (lmX11_takesE_2 (List.mem_of_getElem? (i := 17) rfl))
theorem iX11_takesE_268 : rx_ins mX11_takesE 268 = some (3, 269, 0, 0, 0, []) := rx_atm tbX11_takesE ndX11_takesE (lmX11_takesE_3 (List.mem_of_getElem? (i := 23) rfl))
theorem iX11_takesE_269 : rx_ins mX11_takesE 269 = some (18, 272, 0, 11, 36, [(75, 161)]) := rx_atm tbX11_takesE ndX11_takesE (lmX11_takesE_3 (List.mem_of_getElem? (i := 24) rfl))
theorem iX11_takesE_272 : rx_ins mX11_takesE 272 = some (2, 273, 0, 1, 0, []) := rx_atm tbX11_takesE ndX11_takesE (lmX11_takesE_3 (List.mem_of_getElem? (i := 25) rfl))
theorem iX11_takesE_273 : rx_ins mX11_takesE 273 = some (2, 275, 1, 4, 0, []) := rx_atm tbX11_takesE ndX11_takesE (lmX11_takesE_3 (List.mem_of_getElem? (i := 26) rfl))
theorem iX11_takesE_275 : rx_ins mX11_takesE 275 = some (28, 278, 0, 218, 1, [(352, 256)]) := rx_atm tbX11_takesE ndX11_takesE (lmX11_takesE_3 (List.mem_of_getElem? (i := 27) rfl))
theorem iX11_takesE_278 : rx_ins mX11_takesE 278 = some (1, 279, 3, 0, 0, []) := rx_atm tbX11_takesE ndX11_takesE (lmX11_takesE_3 (List.mem_of_getElem? (i := 28) rfl))
theorem iX11_takesE_279 : rx_ins mX11_takesE 279 = some (14, 282, 21, 0, 300, []) := rx_atm tbX11_takesE ndX11_takesE (lmX11_takesE_3 (List.mem_of_getElem? (i := 29) rfl))
theorem iX11_takesE_300 : rx_ins mX11_takesE 300 = some (1, 301, 1, 0, 0, []) := rx_atm tbX11_takesE ndX11_takesE (lmX11_takesE_3 (List.mem_of_getElem? (i := 39) rfl))
theorem iX11_takesE_301 : rx_ins mX11_takesE 301 = some (15, 304, 4, 0, 305, []) := rx_atm tbX11_takesE ndX11_takesE (lmX11_takesE_4 (List.mem_of_getElem? (i := 0) rfl))
theorem iX11_takesE_305 : rx_ins mX11_takesE 305 = some (21, 306, 0, 1, 0, []) := rx_atm tbX11_takesE ndX11_takesE (lmX11_takesE_4 (List.mem_of_getElem? (i := 2) rfl))
theorem iX11_takesE_282 : rx_ins mX11_takesE 282 = some (2, 284, 1, 4, 0, []) := rx_atm tbX11_takesE ndX11_takesE (lmX11_takesE_3 (List.mem_of_getElem? (i := 30) rfl))
theorem iX11_takesE_284 : rx_ins mX11_takesE 284 = some (28, 287, 0, 218, 1, [(352, 256)]) := rx_atm tbX11_takesE ndX11_takesE (lmX11_takesE_3 (List.mem_of_getElem? (i := 31) rfl))
theorem iX11_takesE_287 : rx_ins mX11_takesE 287 = some (1, 288, 3, 0, 0, []) := rx_atm tbX11_takesE ndX11_takesE (lmX11_takesE_3 (List.mem_of_getElem? (i := 32) rfl))
theorem iX11_takesE_288 : rx_ins mX11_takesE 288 = some (14, 291, 16, 5, 304, []) := rx_atm tbX11_takesE ndX11_takesE (lmX11_takesE_3 (List.mem_of_getElem? (i := 33) rfl))
theorem iX11_takesE_304 : rx_ins mX11_takesE 304 = some (1, 305, 0, 0, 0, []) := rx_atm tbX11_takesE ndX11_takesE (lmX11_takesE_4 (List.mem_of_getElem? (i := 1) rfl))
theorem iX11_takesE_291 : rx_ins mX11_takesE 291 = some (3, 292, 0, 0, 0, []) := rx_atm tbX11_takesE ndX11_takesE (lmX11_takesE_3 (List.mem_of_getElem? (i := 34) rfl))
theorem iX11_takesE_292 : rx_ins mX11_takesE 292 = some (18, 295, 0, 11, 36, [(75, 161)]) := rx_atm tbX11_takesE ndX11_takesE (lmX11_takesE_3 (List.mem_of_getElem? (i := 35) rfl))
theorem iX11_takesE_295 : rx_ins mX11_takesE 295 = some (2, 296, 0, 1, 0, []) := rx_atm tbX11_takesE ndX11_takesE (lmX11_takesE_3 (List.mem_of_getElem? (i := 36) rfl))
theorem iX11_takesE_296 : rx_ins mX11_takesE 296 = some (20, 297, 0, 1, 0, []) := rx_atm tbX11_takesE ndX11_takesE (lmX11_takesE_3 (List.mem_of_getElem? (i := 37) rfl))
theorem iX11_takesE_297 : rx_ins mX11_takesE 297 = some (13, 300, 7, 0, 304, []) := rx_atm tbX11_takesE ndX11_takesE (lmX11_takesE_3 (List.mem_of_getElem? (i := 38) rfl))
theorem iX11_takesE_158 : rx_ins mX11_takesE 158 = some (3, 159, 0, 0, 0, []) := rx_atm tbX11_takesE ndX11_takesE (lmX11_takesE_2 (List.mem_of_getElem? (i := 6) rfl))
theorem iX11_takesE_159 : rx_ins mX11_takesE 159 = some (28, 162, 13, 221, 1, [(367, 259)]) := rx_atm tbX11_takesE ndX11_takesE (lmX11_takesE_2 (List.mem_of_getElem? (i := 7) rfl))
theorem iX11_takesE_162 : rx_ins mX11_takesE 162 = some (13, 165, 8, 0, 170, []) := rx_atm tbX11_takesE ndX11_takesE (lmX11_takesE_2 (List.mem_of_getElem? (i := 8) rfl))
theorem iX11_takesE_170 : rx_ins mX11_takesE 170 = some (1, 171, 0, 0, 0, []) := rx_atm tbX11_takesE ndX11_takesE (lmX11_takesE_2 (List.mem_of_getElem? (i := 12) rfl))
theorem iX11_takesE_171 : rx_ins mX11_takesE 171 = some (29, 172, 1, 0, 0, []) := rx_atm tbX11_takesE ndX11_takesE (lmX11_takesE_2 (List.mem_of_getElem? (i := 13) rfl))
theorem iX11_takesE_165 : rx_ins mX11_takesE 165 = some (1, 166, 0, 0, 0, []) := rx_atm tbX11_takesE ndX11_takesE (lmX11_takesE_2 (List.mem_of_getElem? (i := 9) rfl))
theorem iX11_takesE_166 : rx_ins mX11_takesE 166 = some (4, 167, 0, 3, 0, []) := rx_atm tbX11_takesE ndX11_takesE (lmX11_takesE_2 (List.mem_of_getElem? (i := 10) rfl))
theorem iX11_takesE_167 : rx_ins mX11_takesE 167 = some (15, 170, 5, 0, 172, []) := rx_atm tbX11_takesE ndX11_takesE (lmX11_takesE_2 (List.mem_of_getElem? (i := 11) rfl))
theorem iX11_takesE_306 : rx_ins mX11_takesE 306 = some (3, 307, 0, 0, 0, []) := rx_atm tbX11_takesE ndX11_takesE (lmX11_takesE_4 (List.mem_of_getElem? (i := 3) rfl))
theorem iX11_takesE_307 : rx_ins mX11_takesE 307 = some (2, 309, 1, 4, 0, []) := rx_atm tbX11_takesE ndX11_takesE (lmX11_takesE_4 (List.mem_of_getElem? (i := 4) rfl))
theorem iX11_takesE_309 : rx_ins mX11_takesE 309 = some (28, 312, 0, 218, 1, [(352, 256)]) := rx_atm tbX11_takesE ndX11_takesE (lmX11_takesE_4 (List.mem_of_getElem? (i := 5) rfl))
theorem iX11_takesE_312 : rx_ins mX11_takesE 312 = some (28, 315, 13, 219, 2, [(364, 258)]) := rx_atm tbX11_takesE ndX11_takesE (lmX11_takesE_4 (List.mem_of_getElem? (i := 6) rfl))
theorem iX11_takesE_315 : rx_ins mX11_takesE 315 = some (3, 316, 0, 0, 0, []) := rx_atm tbX11_takesE ndX11_takesE (lmX11_takesE_4 (List.mem_of_getElem? (i := 7) rfl))
theorem iX11_takesE_316 : rx_ins mX11_takesE 316 = some (18, 319, 0, 11, 34, [(72, 157)]) := rx_atm tbX11_takesE ndX11_takesE (lmX11_takesE_4 (List.mem_of_getElem? (i := 8) rfl))
theorem iX11_takesE_319 : rx_ins mX11_takesE 319 = some (3, 320, 0, 0, 0, []) := rx_atm tbX11_takesE ndX11_takesE (lmX11_takesE_4 (List.mem_of_getElem? (i := 9) rfl))
theorem iX11_takesE_320 : rx_ins mX11_takesE 320 = some (17, 323, 0, 11, 35, [(349, 156)]) := rx_atm tbX11_takesE ndX11_takesE (lmX11_takesE_4 (List.mem_of_getElem? (i := 10) rfl))
theorem iX11_takesE_323 : rx_ins mX11_takesE 323 = some (2, 325, 1, 4, 0, []) := rx_atm tbX11_takesE ndX11_takesE (lmX11_takesE_4 (List.mem_of_getElem? (i := 11) rfl))
theorem iX11_takesE_325 : rx_ins mX11_takesE 325 = some (21, 326, 0, 0, 0, []) := rx_atm tbX11_takesE ndX11_takesE (lmX11_takesE_4 (List.mem_of_getElem? (i := 12) rfl))
theorem iX11_takesE_326 : rx_ins mX11_takesE 326 = some (3, 327, 0, 0, 0, []) := rx_atm tbX11_takesE ndX11_takesE (lmX11_takesE_4 (List.mem_of_getElem? (i := 13) rfl))
theorem iX11_takesE_327 : rx_ins mX11_takesE 327 = some (10, 328, 0, 0, 0, []) := rx_atm tbX11_takesE ndX11_takesE (lmX11_takesE_4 (List.mem_of_getElem? (i := 14) rfl))
theorem iX11_takesE_328 : rx_ins mX11_takesE 328 = some (17, 331, 0, 11, 35, [(349, 156)]) := rx_atm tbX11_takesE ndX11_takesE (lmX11_takesE_4 (List.mem_of_getElem? (i := 15) rfl))
theorem iX11_takesE_331 : rx_ins mX11_takesE 331 = some (1, 332, 1, 0, 0, []) := rx_atm tbX11_takesE ndX11_takesE (lmX11_takesE_4 (List.mem_of_getElem? (i := 16) rfl))
theorem iX11_takesE_332 : rx_ins mX11_takesE 332 = some (7, 333, 0, 0, 0, []) := rx_atm tbX11_takesE ndX11_takesE (lmX11_takesE_4 (List.mem_of_getElem? (i := 17) rfl))
theorem iX11_takesE_333 : rx_ins mX11_takesE 333 = some (19, 336, 0, 11, 35, [(349, 156)]) := rx_atm tbX11_takesE ndX11_takesE (lmX11_takesE_4 (List.mem_of_getElem? (i := 18) rfl))
theorem iX11_takesE_336 : rx_ins mX11_takesE 336 = some (1, 337, 1, 0, 0, []) := rx_atm tbX11_takesE ndX11_takesE (lmX11_takesE_4 (List.mem_of_getElem? (i := 19) rfl))
theorem iX11_takesE_337 : rx_ins mX11_takesE 337 = some (4, 338, 0, 3, 0, []) := rx_atm tbX11_takesE ndX11_takesE (lmX11_takesE_4 (List.mem_of_getElem? (i := 20) rfl))
theorem iX11_takesE_338 : rx_ins mX11_takesE 338 = some (3, 339, 0, 0, 0, []) := rx_atm tbX11_takesE ndX11_takesE (lmX11_takesE_4 (List.mem_of_getElem? (i := 21) rfl))
theorem iX11_takesE_339 : rx_ins mX11_takesE 339 = some (28, 342, 13, 215, 1, [(346, 255)]) := rx_atm tbX11_takesE ndX11_takesE (lmX11_takesE_4 (List.mem_of_getElem? (i := 22) rfl))
theorem iX11_takesE_342 : rx_ins mX11_takesE 342 = some (15, 345, (-314), 0, 28, []) := rx_atm tbX11_takesE ndX11_takesE (lmX11_takesE_4 (List.mem_of_getElem? (i := 23) rfl))
theorem iX11_notsOpen_0 : rx_ins mX11_notsOpen 0 = some (1, 1, 0, 0, 0, []) := rx_at tbX11_notsOpen ndX11_notsOpen (j := 0) rfl
theorem iX11_notsOpen_1 : rx_ins mX11_notsOpen 1 = some (4, 2, 0, 1, 0, []) := rx_at tbX11_notsOpen ndX11_notsOpen (j := 1) rfl
theorem iX11_notsOpen_2 : rx_ins mX11_notsOpen 2 = some (1, 3, 0, 0, 0, []) := rx_at tbX11_notsOpen ndX11_notsOpen (j := 2) rfl
theorem iX11_notsOpen_3 : rx_ins mX11_notsOpen 3 = some (4, 4, 0, 2, 0, []) := rx_at tbX11_notsOpen ndX11_notsOpen (j := 3) rfl
theorem iX11_notsOpen_4 : rx_ins mX11_notsOpen 4 = some (2, 5, 0, 2, 0, []) := rx_at tbX11_notsOpen ndX11_notsOpen (j := 4) rfl
theorem iX11_notsOpen_5 : rx_ins mX11_notsOpen 5 = some (3, 6, 0, 0, 0, []) := rx_at tbX11_notsOpen ndX11_notsOpen (j := 5) rfl
theorem iX11_notsOpen_6 : rx_ins mX11_notsOpen 6 = some (17, 9, 0, 11, 35, [(349, 156)]) := rx_at tbX11_notsOpen ndX11_notsOpen (j := 6) rfl
theorem iX11_notsOpen_9 : rx_ins mX11_notsOpen 9 = some (14, 12, 28, 3, 37, []) := rx_at tbX11_notsOpen ndX11_notsOpen (j := 7) rfl
theorem iX11_notsOpen_37 : rx_ins mX11_notsOpen 37 = some (2, 38, 0, 1, 0, []) := rx_at tbX11_notsOpen ndX11_notsOpen (j := 22) rfl
theorem iX11_notsOpen_38 : rx_ins mX11_notsOpen 38 = some (29, 39, 0, 0, 0, []) := rx_at tbX11_notsOpen ndX11_notsOpen (j := 23) rfl
theorem iX11_notsOpen_12 : rx_ins mX11_notsOpen 12 = some (2, 13, 0, 1, 0, []) := rx_at tbX11_notsOpen ndX11_notsOpen (j := 8) rfl
theorem iX11_notsOpen_13 : rx_ins mX11_notsOpen 13 = some (3, 14, 0, 0, 0, []) := rx_at tbX11_notsOpen ndX11_notsOpen (j := 9) rfl
theorem iX11_notsOpen_14 : rx_ins mX11_notsOpen 14 = some (18, 17, 0, 11, 34, [(72, 157)]) := rx_at tbX11_notsOpen ndX11_notsOpen (j := 10) rfl
theorem iX11_notsOpen_17 : rx_ins mX11_notsOpen 17 = some (2, 18, 0, 2, 0, []) := rx_at tbX11_notsOpen ndX11_notsOpen (j := 11) rfl
theorem iX11_notsOpen_18 : rx_ins mX11_notsOpen 18 = some (20, 19, 0, 0, 0, []) := rx_at tbX11_notsOpen ndX11_notsOpen (j := 12) rfl
theorem iX11_notsOpen_19 : rx_ins mX11_notsOpen 19 = some (1, 21, (-10), 1, 0, []) := rx_at tbX11_notsOpen ndX11_notsOpen (j := 13) rfl
theorem iX11_notsOpen_21 : rx_ins mX11_notsOpen 21 = some (14, 24, 7, 1, 28, []) := rx_at tbX11_notsOpen ndX11_notsOpen (j := 14) rfl
theorem iX11_notsOpen_28 : rx_ins mX11_notsOpen 28 = some (1, 29, 0, 0, 0, []) := rx_at tbX11_notsOpen ndX11_notsOpen (j := 17) rfl
theorem iX11_notsOpen_29 : rx_ins mX11_notsOpen 29 = some (7, 30, 0, 0, 0, []) := rx_at tbX11_notsOpen ndX11_notsOpen (j := 18) rfl
theorem iX11_notsOpen_30 : rx_ins mX11_notsOpen 30 = some (4, 31, 0, 1, 0, []) := rx_at tbX11_notsOpen ndX11_notsOpen (j := 19) rfl
theorem iX11_notsOpen_31 : rx_ins mX11_notsOpen 31 = some (6, 34, 1, 2, 0, []) := rx_at tbX11_notsOpen ndX11_notsOpen (j := 20) rfl
theorem iX11_notsOpen_34 : rx_ins mX11_notsOpen 34 = some (15, 37, (-30), 0, 4, []) := rx_at tbX11_notsOpen ndX11_notsOpen (j := 21) rfl
theorem iX11_notsOpen_24 : rx_ins mX11_notsOpen 24 = some (1, 25, 1, 0, 0, []) := rx_at tbX11_notsOpen ndX11_notsOpen (j := 15) rfl
theorem iX11_notsOpen_25 : rx_ins mX11_notsOpen 25 = some (15, 28, 4, 0, 29, []) := rx_at tbX11_notsOpen ndX11_notsOpen (j := 16) rfl
theorem iX11_text_0 : rx_ins mX11_text 0 = some (3, 1, 0, 0, 0, []) := rx_at tbX11_text ndX11_text (j := 0) rfl
theorem iX11_text_1 : rx_ins mX11_text 1 = some (1, 2, 0, 0, 0, []) := rx_at tbX11_text ndX11_text (j := 1) rfl
theorem iX11_text_2 : rx_ins mX11_text 2 = some (19, 5, 0, 11, 23, [(322, 148)]) := rx_at tbX11_text ndX11_text (j := 2) rfl
theorem iX11_text_5 : rx_ins mX11_text 5 = some (3, 6, 0, 0, 0, []) := rx_at tbX11_text ndX11_text (j := 3) rfl
theorem iX11_text_6 : rx_ins mX11_text 6 = some (1, 7, (-1), 0, 0, []) := rx_at tbX11_text ndX11_text (j := 4) rfl
theorem iX11_text_7 : rx_ins mX11_text 7 = some (19, 10, 0, 11, 27, [(328, 150)]) := rx_at tbX11_text ndX11_text (j := 5) rfl
theorem iX11_text_10 : rx_ins mX11_text 10 = some (3, 11, 0, 0, 0, []) := rx_at tbX11_text ndX11_text (j := 6) rfl
theorem iX11_text_11 : rx_ins mX11_text 11 = some (28, 14, 13, 215, 1, [(346, 255)]) := rx_at tbX11_text ndX11_text (j := 7) rfl
theorem iX11_text_14 : rx_ins mX11_text 14 = some (3, 15, 0, 0, 0, []) := rx_at tbX11_text ndX11_text (j := 8) rfl
theorem iX11_text_15 : rx_ins mX11_text 15 = some (28, 18, 13, 216, 1, [(376, 262)]) := rx_at tbX11_text ndX11_text (j := 9) rfl
theorem iX11_text_18 : rx_ins mX11_text 18 = some (13, 21, 14, 0, 32, []) := rx_at tbX11_text ndX11_text (j := 10) rfl
theorem iX11_text_32 : rx_ins mX11_text 32 = some (1, 33, 0, 0, 0, []) := rx_at tbX11_text ndX11_text (j := 16) rfl
theorem iX11_text_33 : rx_ins mX11_text 33 = some (4, 34, 0, 1, 0, []) := rx_at tbX11_text ndX11_text (j := 17) rfl
theorem iX11_text_34 : rx_ins mX11_text 34 = some (3, 35, 0, 0, 0, []) := rx_at tbX11_text ndX11_text (j := 18) rfl
theorem iX11_text_35 : rx_ins mX11_text 35 = some (1, 36, 0, 0, 0, []) := rx_at tbX11_text ndX11_text (j := 19) rfl
theorem iX11_text_36 : rx_ins mX11_text 36 = some (19, 39, 0, 11, 22, [(319, 146)]) := rx_at tbX11_text ndX11_text (j := 20) rfl
theorem iX11_text_39 : rx_ins mX11_text 39 = some (2, 40, 0, 1, 0, []) := rx_at tbX11_text ndX11_text (j := 21) rfl
theorem iX11_text_40 : rx_ins mX11_text 40 = some (13, 43, 11, 1, 51, []) := rx_at tbX11_text ndX11_text (j := 22) rfl
theorem iX11_text_43 : rx_ins mX11_text 43 = some (1, 45, (-100), 1, 0, []) := rx_at tbX11_text ndX11_text (j := 23) rfl
theorem iX11_text_45 : rx_ins mX11_text 45 = some (3, 46, 0, 0, 0, []) := rx_at tbX11_text ndX11_text (j := 24) rfl
theorem iX11_text_46 : rx_ins mX11_text 46 = some (17, 49, 0, 11, 24, [(325, 149)]) := rx_at tbX11_text ndX11_text (j := 25) rfl
theorem iX11_text_49 : rx_ins mX11_text 49 = some (7, 50, 0, 1, 0, []) := rx_at tbX11_text ndX11_text (j := 26) rfl
theorem iX11_text_50 : rx_ins mX11_text 50 = some (29, 51, 0, 0, 0, []) := rx_at tbX11_text ndX11_text (j := 27) rfl
theorem iX11_text_21 : rx_ins mX11_text 21 = some (3, 22, 0, 0, 0, []) := rx_at tbX11_text ndX11_text (j := 11) rfl
theorem iX11_text_22 : rx_ins mX11_text 22 = some (28, 25, 13, 222, 1, [(379, 263)]) := rx_at tbX11_text ndX11_text (j := 12) rfl
theorem iX11_text_25 : rx_ins mX11_text 25 = some (13, 28, 7, 0, 32, []) := rx_at tbX11_text ndX11_text (j := 13) rfl
theorem iX11_text_28 : rx_ins mX11_text 28 = some (1, 29, 1, 0, 0, []) := rx_at tbX11_text ndX11_text (j := 14) rfl
theorem iX11_text_29 : rx_ins mX11_text 29 = some (15, 32, 4, 0, 33, []) := rx_at tbX11_text ndX11_text (j := 15) rfl
theorem iX11_text_51 : rx_ins mX11_text 51 = some (3, 52, 0, 0, 0, []) := rx_at tbX11_text ndX11_text (j := 28) rfl
theorem iX11_text_52 : rx_ins mX11_text 52 = some (18, 55, 0, 11, 0, [(9, 124)]) := rx_at tbX11_text ndX11_text (j := 29) rfl
theorem iX11_text_55 : rx_ins mX11_text 55 = some (1, 56, 3, 0, 0, []) := rx_at tbX11_text ndX11_text (j := 30) rfl
theorem iX11_text_56 : rx_ins mX11_text 56 = some (20, 57, 0, 0, 0, []) := rx_at tbX11_text ndX11_text (j := 31) rfl
theorem iX11_text_57 : rx_ins mX11_text 57 = some (1, 59, 14, 1, 0, []) := rx_at tbX11_text ndX11_text (j := 32) rfl
theorem iX11_text_59 : rx_ins mX11_text 59 = some (14, 62, 6, 1, 65, []) := rx_at tbX11_text ndX11_text (j := 33) rfl
theorem iX11_text_65 : rx_ins mX11_text 65 = some (3, 66, 0, 0, 0, []) := rx_at tbX11_text ndX11_text (j := 36) rfl
theorem iX11_text_66 : rx_ins mX11_text 66 = some (18, 69, 0, 11, 0, [(9, 124)]) := rx_at tbX11_text ndX11_text (j := 37) rfl
theorem iX11_text_69 : rx_ins mX11_text 69 = some (1, 70, 3, 0, 0, []) := rx_at tbX11_text ndX11_text (j := 38) rfl
theorem iX11_text_70 : rx_ins mX11_text 70 = some (20, 71, 0, 0, 0, []) := rx_at tbX11_text ndX11_text (j := 39) rfl
theorem iX11_text_71 : rx_ins mX11_text 71 = some (4, 72, 0, 2, 0, []) := rx_at tbX11_text ndX11_text (j := 40) rfl
theorem iX11_text_72 : rx_ins mX11_text 72 = some (3, 73, 0, 0, 0, []) := rx_at tbX11_text ndX11_text (j := 41) rfl
theorem iX11_text_73 : rx_ins mX11_text 73 = some (18, 76, 0, 11, 0, [(9, 124)]) := rx_at tbX11_text ndX11_text (j := 42) rfl
theorem iX11_text_76 : rx_ins mX11_text 76 = some (1, 78, 126, 1, 0, []) := rx_at tbX11_text ndX11_text (j := 43) rfl
theorem iX11_text_78 : rx_ins mX11_text 78 = some (1, 79, 2, 0, 0, []) := rx_at tbX11_text ndX11_text (j := 44) rfl
theorem iX11_text_79 : rx_ins mX11_text 79 = some (2, 80, 0, 2, 0, []) := rx_at tbX11_text ndX11_text (j := 45) rfl
theorem iX11_text_80 : rx_ins mX11_text 80 = some (7, 81, 0, 2, 0, []) := rx_at tbX11_text ndX11_text (j := 46) rfl
theorem iX11_text_81 : rx_ins mX11_text 81 = some (7, 82, 0, 0, 0, []) := rx_at tbX11_text ndX11_text (j := 47) rfl
theorem iX11_text_82 : rx_ins mX11_text 82 = some (1, 85, 1000, 2, 0, []) := rx_at tbX11_text ndX11_text (j := 48) rfl
theorem iX11_text_85 : rx_ins mX11_text 85 = some (3, 86, 0, 0, 0, []) := rx_at tbX11_text ndX11_text (j := 49) rfl
theorem iX11_text_86 : rx_ins mX11_text 86 = some (17, 89, 0, 11, 28, [(343, 155)]) := rx_at tbX11_text ndX11_text (j := 50) rfl
theorem iX11_text_89 : rx_ins mX11_text 89 = some (7, 90, 0, 2, 0, []) := rx_at tbX11_text ndX11_text (j := 51) rfl
theorem iX11_text_90 : rx_ins mX11_text 90 = some (3, 91, 0, 0, 0, []) := rx_at tbX11_text ndX11_text (j := 52) rfl
theorem iX11_text_91 : rx_ins mX11_text 91 = some (17, 94, 0, 11, 32, [(355, 159)]) := rx_at tbX11_text ndX11_text (j := 53) rfl
theorem iX11_text_94 : rx_ins mX11_text 94 = some (7, 95, 0, 0, 0, []) := rx_at tbX11_text ndX11_text (j := 54) rfl
theorem iX11_text_95 : rx_ins mX11_text 95 = some (21, 96, 0, 0, 0, []) := rx_at tbX11_text ndX11_text (j := 55) rfl
theorem iX11_text_96 : rx_ins mX11_text 96 = some (3, 97, 0, 0, 0, []) := rx_at tbX11_text ndX11_text (j := 56) rfl
theorem iX11_text_97 : rx_ins mX11_text 97 = some (18, 100, 0, 11, 0, [(9, 124)]) := rx_at tbX11_text ndX11_text (j := 57) rfl
theorem iX11_text_100 : rx_ins mX11_text 100 = some (1, 102, 126, 1, 0, []) := rx_at tbX11_text ndX11_text (j := 58) rfl
theorem iX11_text_102 : rx_ins mX11_text 102 = some (1, 103, 2, 0, 0, []) := rx_at tbX11_text ndX11_text (j := 59) rfl
theorem iX11_text_103 : rx_ins mX11_text 103 = some (2, 104, 0, 2, 0, []) := rx_at tbX11_text ndX11_text (j := 60) rfl
theorem iX11_text_104 : rx_ins mX11_text 104 = some (7, 105, 0, 2, 0, []) := rx_at tbX11_text ndX11_text (j := 61) rfl
theorem iX11_text_105 : rx_ins mX11_text 105 = some (7, 106, 0, 0, 0, []) := rx_at tbX11_text ndX11_text (j := 62) rfl
theorem iX11_text_106 : rx_ins mX11_text 106 = some (1, 107, 1, 0, 0, []) := rx_at tbX11_text ndX11_text (j := 63) rfl
theorem iX11_text_107 : rx_ins mX11_text 107 = some (7, 108, 0, 0, 0, []) := rx_at tbX11_text ndX11_text (j := 64) rfl
theorem iX11_text_108 : rx_ins mX11_text 108 = some (3, 109, 0, 0, 0, []) := rx_at tbX11_text ndX11_text (j := 65) rfl
theorem iX11_text_109 : rx_ins mX11_text 109 = some (17, 112, 0, 11, 33, [(361, 160)]) := rx_at tbX11_text ndX11_text (j := 66) rfl
theorem iX11_text_112 : rx_ins mX11_text 112 = some (21, 113, 0, 0, 0, []) := rx_at tbX11_text ndX11_text (j := 67) rfl
theorem iX11_text_113 : rx_ins mX11_text 113 = some (1, 114, 0, 0, 0, []) := rx_at tbX11_text ndX11_text (j := 68) rfl
theorem iX11_text_114 : rx_ins mX11_text 114 = some (4, 115, 0, 3, 0, []) := rx_at tbX11_text ndX11_text (j := 69) rfl
theorem iX11_text_62 : rx_ins mX11_text 62 = some (1, 64, (-1000000003), 3, 23, [(135, 0)]) := rx_at tbX11_text ndX11_text (j := 34) rfl
theorem iX11_text_64 : rx_ins mX11_text 64 = some (29, 65, 0, 0, 0, []) := rx_at tbX11_text ndX11_text (j := 35) rfl
theorem iX11_text_115 : rx_ins mX11_text 115 = some (2, 116, 0, 3, 0, []) := rx_at tbX11_text ndX11_text (j := 70) rfl
theorem iX11_text_116 : rx_ins mX11_text 116 = some (3, 117, 0, 0, 0, []) := rx_at tbX11_text ndX11_text (j := 71) rfl
theorem iX11_text_117 : rx_ins mX11_text 117 = some (17, 120, 0, 11, 32, [(355, 159)]) := rx_at tbX11_text ndX11_text (j := 72) rfl
theorem iX11_text_120 : rx_ins mX11_text 120 = some (14, 123, 30, 3, 150, []) := rx_at tbX11_text ndX11_text (j := 73) rfl
theorem iX11_text_150 : rx_ins mX11_text 150 = some (3, 151, 0, 0, 0, []) := rx_at tbX11_text ndX11_text (j := 90) rfl
theorem iX11_text_151 : rx_ins mX11_text 151 = some (18, 154, 0, 11, 0, [(9, 124)]) := rx_at tbX11_text ndX11_text (j := 91) rfl
theorem iX11_text_154 : rx_ins mX11_text 154 = some (1, 155, 3, 0, 0, []) := rx_at tbX11_text ndX11_text (j := 92) rfl
theorem iX11_text_155 : rx_ins mX11_text 155 = some (11, 156, 0, 0, 0, []) := rx_at tbX11_text ndX11_text (j := 93) rfl
theorem iX11_text_156 : rx_ins mX11_text 156 = some (20, 157, 0, 0, 0, []) := rx_at tbX11_text ndX11_text (j := 94) rfl
theorem iX11_text_157 : rx_ins mX11_text 157 = some (1, 158, 1, 0, 0, []) := rx_at tbX11_text ndX11_text (j := 95) rfl
theorem iX11_text_158 : rx_ins mX11_text 158 = some (7, 159, 0, 0, 0, []) := rx_at tbX11_text ndX11_text (j := 96) rfl
theorem iX11_text_159 : rx_ins mX11_text 159 = some (21, 160, 0, 0, 0, []) := rx_at tbX11_text ndX11_text (j := 97) rfl
theorem iX11_text_160 : rx_ins mX11_text 160 = some (2, 161, 0, 2, 0, []) := rx_at tbX11_text ndX11_text (j := 98) rfl
theorem iX11_text_161 : rx_ins mX11_text 161 = some (29, 162, 0, 0, 0, []) := rx_at tbX11_text ndX11_text (j := 99) rfl
theorem iX11_text_123 : rx_ins mX11_text 123 = some (3, 124, 0, 0, 0, []) := rx_at tbX11_text ndX11_text (j := 74) rfl
theorem iX11_text_124 : rx_ins mX11_text 124 = some (18, 127, 0, 11, 0, [(9, 124)]) := rx_at tbX11_text ndX11_text (j := 75) rfl
theorem iX11_text_127 : rx_ins mX11_text 127 = some (1, 130, 154, 2, 0, []) := rx_at tbX11_text ndX11_text (j := 76) rfl
theorem iX11_text_130 : rx_ins mX11_text 130 = some (1, 132, 96, 1, 0, []) := rx_at tbX11_text ndX11_text (j := 77) rfl
theorem iX11_text_132 : rx_ins mX11_text 132 = some (2, 133, 0, 2, 0, []) := rx_at tbX11_text ndX11_text (j := 78) rfl
theorem iX11_text_133 : rx_ins mX11_text 133 = some (7, 134, 0, 2, 0, []) := rx_at tbX11_text ndX11_text (j := 79) rfl
theorem iX11_text_134 : rx_ins mX11_text 134 = some (7, 135, 0, 0, 0, []) := rx_at tbX11_text ndX11_text (j := 80) rfl
theorem iX11_text_135 : rx_ins mX11_text 135 = some (2, 136, 0, 3, 0, []) := rx_at tbX11_text ndX11_text (j := 81) rfl
theorem iX11_text_136 : rx_ins mX11_text 136 = some (7, 137, 0, 0, 0, []) := rx_at tbX11_text ndX11_text (j := 82) rfl
theorem iX11_text_137 : rx_ins mX11_text 137 = some (3, 138, 0, 0, 0, []) := rx_at tbX11_text ndX11_text (j := 83) rfl
theorem iX11_text_138 : rx_ins mX11_text 138 = some (18, 141, 0, 11, 31, [(69, 158)]) := rx_at tbX11_text ndX11_text (j := 84) rfl
theorem iX11_text_141 : rx_ins mX11_text 141 = some (2, 142, 0, 3, 0, []) := rx_at tbX11_text ndX11_text (j := 85) rfl
theorem iX11_text_142 : rx_ins mX11_text 142 = some (20, 143, 0, 0, 0, []) := rx_at tbX11_text ndX11_text (j := 86) rfl
theorem iX11_text_143 : rx_ins mX11_text 143 = some (21, 144, 0, 0, 0, []) := rx_at tbX11_text ndX11_text (j := 87) rfl
theorem iX11_text_144 : rx_ins mX11_text 144 = some (6, 147, 1, 3, 0, []) := rx_at tbX11_text ndX11_text (j := 88) rfl
theorem iX11_text_147 : rx_ins mX11_text 147 = some (15, 150, (-32), 0, 115, []) := rx_at tbX11_text ndX11_text (j := 89) rfl
theorem iX11_textTold_0 : rx_ins mX11_textTold 0 = some (2, 1, 0, 1, 0, []) := rx_at tbX11_textTold ndX11_textTold (j := 0) rfl
theorem iX11_textTold_1 : rx_ins mX11_textTold 1 = some (1, 2, 0, 0, 0, []) := rx_at tbX11_textTold ndX11_textTold (j := 1) rfl
theorem iX11_textTold_2 : rx_ins mX11_textTold 2 = some (3, 3, 0, 0, 0, []) := rx_at tbX11_textTold ndX11_textTold (j := 2) rfl
theorem iX11_textTold_3 : rx_ins mX11_textTold 3 = some (18, 6, 0, 11, 0, [(9, 124)]) := rx_at tbX11_textTold ndX11_textTold (j := 3) rfl
theorem iX11_textTold_6 : rx_ins mX11_textTold 6 = some (1, 7, 3, 0, 0, []) := rx_at tbX11_textTold ndX11_textTold (j := 4) rfl
theorem iX11_textTold_7 : rx_ins mX11_textTold 7 = some (20, 8, 0, 0, 0, []) := rx_at tbX11_textTold ndX11_textTold (j := 5) rfl
theorem iX11_textTold_8 : rx_ins mX11_textTold 8 = some (1, 9, 1, 0, 0, []) := rx_at tbX11_textTold ndX11_textTold (j := 6) rfl
theorem iX11_textTold_9 : rx_ins mX11_textTold 9 = some (7, 10, 0, 1, 0, []) := rx_at tbX11_textTold ndX11_textTold (j := 7) rfl
theorem iX11_textTold_10 : rx_ins mX11_textTold 10 = some (28, 13, 0, 133, 3, [(111, 198)]) := rx_at tbX11_textTold ndX11_textTold (j := 8) rfl
theorem iX11_textTold_13 : rx_ins mX11_textTold 13 = some (13, 16, 12, 0, 25, []) := rx_at tbX11_textTold ndX11_textTold (j := 9) rfl
theorem iX11_textTold_25 : rx_ins mX11_textTold 25 = some (1, 27, (-1000000001), 3, 21, [(130, 0)]) := rx_at tbX11_textTold ndX11_textTold (j := 15) rfl
theorem iX11_textTold_27 : rx_ins mX11_textTold 27 = some (29, 28, 0, 0, 0, []) := rx_at tbX11_textTold ndX11_textTold (j := 16) rfl
theorem iX11_textTold_16 : rx_ins mX11_textTold 16 = some (2, 17, 0, 2, 0, []) := rx_at tbX11_textTold ndX11_textTold (j := 10) rfl
theorem iX11_textTold_17 : rx_ins mX11_textTold 17 = some (1, 18, 0, 0, 0, []) := rx_at tbX11_textTold ndX11_textTold (j := 11) rfl
theorem iX11_textTold_18 : rx_ins mX11_textTold 18 = some (1, 19, 1, 0, 0, []) := rx_at tbX11_textTold ndX11_textTold (j := 12) rfl
theorem iX11_textTold_19 : rx_ins mX11_textTold 19 = some (28, 22, 0, 133, 3, [(111, 198)]) := rx_at tbX11_textTold ndX11_textTold (j := 13) rfl
theorem iX11_textTold_22 : rx_ins mX11_textTold 22 = some (13, 25, 6, 1, 28, []) := rx_at tbX11_textTold ndX11_textTold (j := 14) rfl
theorem iX11_textTold_28 : rx_ins mX11_textTold 28 = some (2, 29, 0, 2, 0, []) := rx_at tbX11_textTold ndX11_textTold (j := 17) rfl
theorem iX11_textTold_29 : rx_ins mX11_textTold 29 = some (13, 32, 21, 1, 50, []) := rx_at tbX11_textTold ndX11_textTold (j := 18) rfl
theorem iX11_textTold_50 : rx_ins mX11_textTold 50 = some (3, 51, 0, 0, 0, []) := rx_at tbX11_textTold ndX11_textTold (j := 30) rfl
theorem iX11_textTold_51 : rx_ins mX11_textTold 51 = some (18, 54, 0, 11, 0, [(9, 124)]) := rx_at tbX11_textTold ndX11_textTold (j := 31) rfl
theorem iX11_textTold_54 : rx_ins mX11_textTold 54 = some (1, 56, 126, 1, 0, []) := rx_at tbX11_textTold ndX11_textTold (j := 32) rfl
theorem iX11_textTold_56 : rx_ins mX11_textTold 56 = some (1, 57, 2, 0, 0, []) := rx_at tbX11_textTold ndX11_textTold (j := 33) rfl
theorem iX11_textTold_57 : rx_ins mX11_textTold 57 = some (2, 58, 0, 1, 0, []) := rx_at tbX11_textTold ndX11_textTold (j := 34) rfl
theorem iX11_textTold_58 : rx_ins mX11_textTold 58 = some (7, 59, 0, 2, 0, []) := rx_at tbX11_textTold ndX11_textTold (j := 35) rfl
theorem iX11_textTold_59 : rx_ins mX11_textTold 59 = some (7, 60, 0, 0, 0, []) := rx_at tbX11_textTold ndX11_textTold (j := 36) rfl
theorem iX11_textTold_60 : rx_ins mX11_textTold 60 = some (1, 61, 1, 0, 0, []) := rx_at tbX11_textTold ndX11_textTold (j := 37) rfl
theorem iX11_textTold_61 : rx_ins mX11_textTold 61 = some (7, 62, 0, 0, 0, []) := rx_at tbX11_textTold ndX11_textTold (j := 38) rfl
theorem iX11_textTold_62 : rx_ins mX11_textTold 62 = some (20, 63, 0, 0, 0, []) := rx_at tbX11_textTold ndX11_textTold (j := 39) rfl
theorem iX11_textTold_63 : rx_ins mX11_textTold 63 = some (29, 64, 0, 0, 0, []) := rx_at tbX11_textTold ndX11_textTold (j := 40) rfl
theorem iX11_textTold_32 : rx_ins mX11_textTold 32 = some (3, 33, 0, 0, 0, []) := rx_at tbX11_textTold ndX11_textTold (j := 19) rfl
theorem iX11_textTold_33 : rx_ins mX11_textTold 33 = some (18, 36, 0, 11, 0, [(9, 124)]) := rx_at tbX11_textTold ndX11_textTold (j := 20) rfl
theorem iX11_textTold_36 : rx_ins mX11_textTold 36 = some (1, 38, 126, 1, 0, []) := rx_at tbX11_textTold ndX11_textTold (j := 21) rfl
theorem iX11_textTold_38 : rx_ins mX11_textTold 38 = some (1, 39, 2, 0, 0, []) := rx_at tbX11_textTold ndX11_textTold (j := 22) rfl
theorem iX11_textTold_39 : rx_ins mX11_textTold 39 = some (2, 40, 0, 1, 0, []) := rx_at tbX11_textTold ndX11_textTold (j := 23) rfl
theorem iX11_textTold_40 : rx_ins mX11_textTold 40 = some (7, 41, 0, 2, 0, []) := rx_at tbX11_textTold ndX11_textTold (j := 24) rfl
theorem iX11_textTold_41 : rx_ins mX11_textTold 41 = some (7, 42, 0, 0, 0, []) := rx_at tbX11_textTold ndX11_textTold (j := 25) rfl
theorem iX11_textTold_42 : rx_ins mX11_textTold 42 = some (20, 43, 0, 0, 0, []) := rx_at tbX11_textTold ndX11_textTold (j := 26) rfl
theorem iX11_textTold_43 : rx_ins mX11_textTold 43 = some (1, 46, 1000, 2, 0, []) := rx_at tbX11_textTold ndX11_textTold (j := 27) rfl
theorem iX11_textTold_46 : rx_ins mX11_textTold 46 = some (8, 47, 0, 0, 0, []) := rx_at tbX11_textTold ndX11_textTold (j := 28) rfl
theorem iX11_textTold_47 : rx_ins mX11_textTold 47 = some (15, 50, 16, 0, 63, []) := rx_at tbX11_textTold ndX11_textTold (j := 29) rfl
theorem iX11_counts_0 : rx_ins mX11_counts 0 = some (3, 1, 0, 0, 0, []) := rx_at tbX11_counts ndX11_counts (j := 0) rfl
theorem iX11_counts_1 : rx_ins mX11_counts 1 = some (18, 4, 0, 11, 0, [(9, 124)]) := rx_at tbX11_counts ndX11_counts (j := 1) rfl
theorem iX11_counts_4 : rx_ins mX11_counts 4 = some (1, 5, 3, 0, 0, []) := rx_at tbX11_counts ndX11_counts (j := 2) rfl
theorem iX11_counts_5 : rx_ins mX11_counts 5 = some (20, 6, 0, 0, 0, []) := rx_at tbX11_counts ndX11_counts (j := 3) rfl
theorem iX11_counts_6 : rx_ins mX11_counts 6 = some (1, 7, 1, 0, 0, []) := rx_at tbX11_counts ndX11_counts (j := 4) rfl
theorem iX11_counts_7 : rx_ins mX11_counts 7 = some (7, 8, 0, 1, 0, []) := rx_at tbX11_counts ndX11_counts (j := 5) rfl
theorem iX11_counts_8 : rx_ins mX11_counts 8 = some (4, 9, 0, 2, 0, []) := rx_at tbX11_counts ndX11_counts (j := 6) rfl
theorem iX11_counts_9 : rx_ins mX11_counts 9 = some (2, 10, 0, 2, 0, []) := rx_at tbX11_counts ndX11_counts (j := 7) rfl
theorem iX11_counts_10 : rx_ins mX11_counts 10 = some (13, 13, 30, 2, 40, []) := rx_at tbX11_counts ndX11_counts (j := 8) rfl
theorem iX11_counts_40 : rx_ins mX11_counts 40 = some (1, 41, (-1), 0, 0, []) := rx_at tbX11_counts ndX11_counts (j := 25) rfl
theorem iX11_counts_41 : rx_ins mX11_counts 41 = some (29, 42, 0, 0, 0, []) := rx_at tbX11_counts ndX11_counts (j := 26) rfl
theorem iX11_counts_13 : rx_ins mX11_counts 13 = some (3, 14, 0, 0, 0, []) := rx_at tbX11_counts ndX11_counts (j := 9) rfl
theorem iX11_counts_14 : rx_ins mX11_counts 14 = some (18, 17, 0, 11, 0, [(9, 124)]) := rx_at tbX11_counts ndX11_counts (j := 10) rfl
theorem iX11_counts_17 : rx_ins mX11_counts 17 = some (1, 19, 126, 1, 0, []) := rx_at tbX11_counts ndX11_counts (j := 11) rfl
theorem iX11_counts_19 : rx_ins mX11_counts 19 = some (1, 20, 2, 0, 0, []) := rx_at tbX11_counts ndX11_counts (j := 12) rfl
theorem iX11_counts_20 : rx_ins mX11_counts 20 = some (2, 21, 0, 2, 0, []) := rx_at tbX11_counts ndX11_counts (j := 13) rfl
theorem iX11_counts_21 : rx_ins mX11_counts 21 = some (7, 22, 0, 2, 0, []) := rx_at tbX11_counts ndX11_counts (j := 14) rfl
theorem iX11_counts_22 : rx_ins mX11_counts 22 = some (7, 23, 0, 0, 0, []) := rx_at tbX11_counts ndX11_counts (j := 15) rfl
theorem iX11_counts_23 : rx_ins mX11_counts 23 = some (20, 24, 0, 0, 0, []) := rx_at tbX11_counts ndX11_counts (j := 16) rfl
theorem iX11_counts_24 : rx_ins mX11_counts 24 = some (1, 27, 1000, 2, 0, []) := rx_at tbX11_counts ndX11_counts (j := 17) rfl
theorem iX11_counts_27 : rx_ins mX11_counts 27 = some (8, 28, 0, 0, 0, []) := rx_at tbX11_counts ndX11_counts (j := 18) rfl
theorem iX11_counts_28 : rx_ins mX11_counts 28 = some (2, 29, 0, 1, 0, []) := rx_at tbX11_counts ndX11_counts (j := 19) rfl
theorem iX11_counts_29 : rx_ins mX11_counts 29 = some (14, 32, 5, 1, 34, []) := rx_at tbX11_counts ndX11_counts (j := 20) rfl
theorem iX11_counts_34 : rx_ins mX11_counts 34 = some (6, 37, (-1), 2, 0, []) := rx_at tbX11_counts ndX11_counts (j := 23) rfl
theorem iX11_counts_37 : rx_ins mX11_counts 37 = some (15, 40, (-28), 0, 9, []) := rx_at tbX11_counts ndX11_counts (j := 24) rfl
theorem iX11_counts_32 : rx_ins mX11_counts 32 = some (2, 33, 0, 2, 0, []) := rx_at tbX11_counts ndX11_counts (j := 21) rfl
theorem iX11_counts_33 : rx_ins mX11_counts 33 = some (29, 34, 0, 0, 0, []) := rx_at tbX11_counts ndX11_counts (j := 22) rfl
theorem iX11_why_0 : rx_ins mX11_why 0 = some (2, 1, 0, 1, 0, []) := rx_at tbX11_why ndX11_why (j := 0) rfl
theorem iX11_why_1 : rx_ins mX11_why 1 = some (1, 2, 0, 0, 0, []) := rx_at tbX11_why ndX11_why (j := 1) rfl
theorem iX11_why_2 : rx_ins mX11_why 2 = some (1, 3, 2, 0, 0, []) := rx_at tbX11_why ndX11_why (j := 2) rfl
theorem iX11_why_3 : rx_ins mX11_why 3 = some (28, 6, 0, 133, 3, [(111, 198)]) := rx_at tbX11_why ndX11_why (j := 3) rfl
theorem iX11_why_6 : rx_ins mX11_why 6 = some (13, 9, 6, 1, 12, []) := rx_at tbX11_why ndX11_why (j := 4) rfl
theorem iX11_why_12 : rx_ins mX11_why 12 = some (3, 13, 0, 0, 0, []) := rx_at tbX11_why ndX11_why (j := 7) rfl
theorem iX11_why_13 : rx_ins mX11_why 13 = some (2, 14, 0, 1, 0, []) := rx_at tbX11_why ndX11_why (j := 8) rfl
theorem iX11_why_14 : rx_ins mX11_why 14 = some (28, 17, 13, 226, 2, [(165, 213)]) := rx_at tbX11_why ndX11_why (j := 9) rfl
theorem iX11_why_17 : rx_ins mX11_why 17 = some (4, 18, 0, 2, 0, []) := rx_at tbX11_why ndX11_why (j := 10) rfl
theorem iX11_why_18 : rx_ins mX11_why 18 = some (2, 19, 0, 2, 0, []) := rx_at tbX11_why ndX11_why (j := 11) rfl
theorem iX11_why_19 : rx_ins mX11_why 19 = some (13, 22, 8, 3, 27, []) := rx_at tbX11_why ndX11_why (j := 12) rfl
theorem iX11_why_27 : rx_ins mX11_why 27 = some (2, 28, 0, 2, 0, []) := rx_at tbX11_why ndX11_why (j := 15) rfl
theorem iX11_why_28 : rx_ins mX11_why 28 = some (29, 29, 0, 0, 0, []) := rx_at tbX11_why ndX11_why (j := 16) rfl
theorem iX11_why_22 : rx_ins mX11_why 22 = some (1, 24, (-1000000005), 3, 25, [(222, 0)]) := rx_at tbX11_why ndX11_why (j := 13) rfl
theorem iX11_why_24 : rx_ins mX11_why 24 = some (15, 27, 4, 0, 28, []) := rx_at tbX11_why ndX11_why (j := 14) rfl
theorem iX11_why_9 : rx_ins mX11_why 9 = some (1, 11, (-1000000001), 3, 21, [(130, 0)]) := rx_at tbX11_why ndX11_why (j := 5) rfl
theorem iX11_why_11 : rx_ins mX11_why 11 = some (29, 12, 0, 0, 0, []) := rx_at tbX11_why ndX11_why (j := 6) rfl
theorem iX11_two_0 : rx_ins mX11_two 0 = some (2, 1, 0, 0, 0, []) := rx_at tbX11_two ndX11_two (j := 0) rfl
theorem iX11_two_1 : rx_ins mX11_two 1 = some (16, 48, 0, 0, 121, [((-8), 117), ((-7), 113), ((-6), 109), ((-5), 98), ((-4), 87), ((-3), 76), ((-2), 62), ((-1), 48)]) := rx_at tbX11_two ndX11_two (j := 1) rfl
theorem iX11_two_117 : rx_ins mX11_two 117 = some (2, 118, 0, 1, 0, []) := rx_at tbX11_two ndX11_two (j := 47) rfl
theorem iX11_two_118 : rx_ins mX11_two 118 = some (2, 119, 0, 2, 0, []) := rx_at tbX11_two ndX11_two (j := 48) rfl
theorem iX11_two_119 : rx_ins mX11_two 119 = some (7, 120, 0, 2, 0, []) := rx_at tbX11_two ndX11_two (j := 49) rfl
theorem iX11_two_120 : rx_ins mX11_two 120 = some (29, 121, 0, 0, 0, []) := rx_at tbX11_two ndX11_two (j := 50) rfl
theorem iX11_two_113 : rx_ins mX11_two 113 = some (2, 114, 0, 1, 0, []) := rx_at tbX11_two ndX11_two (j := 43) rfl
theorem iX11_two_114 : rx_ins mX11_two 114 = some (2, 115, 0, 2, 0, []) := rx_at tbX11_two ndX11_two (j := 44) rfl
theorem iX11_two_115 : rx_ins mX11_two 115 = some (7, 116, 0, 1, 0, []) := rx_at tbX11_two ndX11_two (j := 45) rfl
theorem iX11_two_116 : rx_ins mX11_two 116 = some (29, 117, 0, 0, 0, []) := rx_at tbX11_two ndX11_two (j := 46) rfl
theorem iX11_two_109 : rx_ins mX11_two 109 = some (2, 110, 0, 1, 0, []) := rx_at tbX11_two ndX11_two (j := 39) rfl
theorem iX11_two_110 : rx_ins mX11_two 110 = some (2, 111, 0, 2, 0, []) := rx_at tbX11_two ndX11_two (j := 40) rfl
theorem iX11_two_111 : rx_ins mX11_two 111 = some (7, 112, 0, 0, 0, []) := rx_at tbX11_two ndX11_two (j := 41) rfl
theorem iX11_two_112 : rx_ins mX11_two 112 = some (29, 113, 0, 0, 0, []) := rx_at tbX11_two ndX11_two (j := 42) rfl
theorem iX11_two_98 : rx_ins mX11_two 98 = some (2, 99, 0, 1, 0, []) := rx_at tbX11_two ndX11_two (j := 32) rfl
theorem iX11_two_99 : rx_ins mX11_two 99 = some (2, 100, 0, 2, 0, []) := rx_at tbX11_two ndX11_two (j := 33) rfl
theorem iX11_two_100 : rx_ins mX11_two 100 = some (14, 103, 7, 5, 107, []) := rx_at tbX11_two ndX11_two (j := 34) rfl
theorem iX11_two_107 : rx_ins mX11_two 107 = some (1, 108, 0, 0, 0, []) := rx_at tbX11_two ndX11_two (j := 37) rfl
theorem iX11_two_108 : rx_ins mX11_two 108 = some (29, 109, 0, 0, 0, []) := rx_at tbX11_two ndX11_two (j := 38) rfl
theorem iX11_two_103 : rx_ins mX11_two 103 = some (1, 104, 1, 0, 0, []) := rx_at tbX11_two ndX11_two (j := 35) rfl
theorem iX11_two_104 : rx_ins mX11_two 104 = some (15, 107, 4, 0, 108, []) := rx_at tbX11_two ndX11_two (j := 36) rfl
theorem iX11_two_87 : rx_ins mX11_two 87 = some (2, 88, 0, 1, 0, []) := rx_at tbX11_two ndX11_two (j := 25) rfl
theorem iX11_two_88 : rx_ins mX11_two 88 = some (2, 89, 0, 2, 0, []) := rx_at tbX11_two ndX11_two (j := 26) rfl
theorem iX11_two_89 : rx_ins mX11_two 89 = some (14, 92, 7, 1, 96, []) := rx_at tbX11_two ndX11_two (j := 27) rfl
theorem iX11_two_96 : rx_ins mX11_two 96 = some (1, 97, 0, 0, 0, []) := rx_at tbX11_two ndX11_two (j := 30) rfl
theorem iX11_two_97 : rx_ins mX11_two 97 = some (29, 98, 0, 0, 0, []) := rx_at tbX11_two ndX11_two (j := 31) rfl
theorem iX11_two_92 : rx_ins mX11_two 92 = some (1, 93, 1, 0, 0, []) := rx_at tbX11_two ndX11_two (j := 28) rfl
theorem iX11_two_93 : rx_ins mX11_two 93 = some (15, 96, 4, 0, 97, []) := rx_at tbX11_two ndX11_two (j := 29) rfl
theorem iX11_two_76 : rx_ins mX11_two 76 = some (2, 77, 0, 1, 0, []) := rx_at tbX11_two ndX11_two (j := 18) rfl
theorem iX11_two_77 : rx_ins mX11_two 77 = some (2, 78, 0, 2, 0, []) := rx_at tbX11_two ndX11_two (j := 19) rfl
theorem iX11_two_78 : rx_ins mX11_two 78 = some (14, 81, 7, 3, 85, []) := rx_at tbX11_two ndX11_two (j := 20) rfl
theorem iX11_two_85 : rx_ins mX11_two 85 = some (1, 86, 0, 0, 0, []) := rx_at tbX11_two ndX11_two (j := 23) rfl
theorem iX11_two_86 : rx_ins mX11_two 86 = some (29, 87, 0, 0, 0, []) := rx_at tbX11_two ndX11_two (j := 24) rfl
theorem iX11_two_81 : rx_ins mX11_two 81 = some (1, 82, 1, 0, 0, []) := rx_at tbX11_two ndX11_two (j := 21) rfl
theorem iX11_two_82 : rx_ins mX11_two 82 = some (15, 85, 4, 0, 86, []) := rx_at tbX11_two ndX11_two (j := 22) rfl
theorem iX11_two_62 : rx_ins mX11_two 62 = some (2, 63, 0, 1, 0, []) := rx_at tbX11_two ndX11_two (j := 10) rfl
theorem iX11_two_63 : rx_ins mX11_two 63 = some (13, 66, 11, 0, 74, []) := rx_at tbX11_two ndX11_two (j := 11) rfl
theorem iX11_two_74 : rx_ins mX11_two 74 = some (1, 75, 0, 0, 0, []) := rx_at tbX11_two ndX11_two (j := 16) rfl
theorem iX11_two_75 : rx_ins mX11_two 75 = some (29, 76, 0, 0, 0, []) := rx_at tbX11_two ndX11_two (j := 17) rfl
theorem iX11_two_66 : rx_ins mX11_two 66 = some (2, 67, 0, 2, 0, []) := rx_at tbX11_two ndX11_two (j := 12) rfl
theorem iX11_two_67 : rx_ins mX11_two 67 = some (13, 70, 7, 0, 74, []) := rx_at tbX11_two ndX11_two (j := 13) rfl
theorem iX11_two_70 : rx_ins mX11_two 70 = some (1, 71, 1, 0, 0, []) := rx_at tbX11_two ndX11_two (j := 14) rfl
theorem iX11_two_71 : rx_ins mX11_two 71 = some (15, 74, 4, 0, 75, []) := rx_at tbX11_two ndX11_two (j := 15) rfl
theorem iX11_two_48 : rx_ins mX11_two 48 = some (2, 49, 0, 1, 0, []) := rx_at tbX11_two ndX11_two (j := 2) rfl
theorem iX11_two_49 : rx_ins mX11_two 49 = some (13, 52, 7, 1, 56, []) := rx_at tbX11_two ndX11_two (j := 3) rfl
theorem iX11_two_56 : rx_ins mX11_two 56 = some (1, 57, 1, 0, 0, []) := rx_at tbX11_two ndX11_two (j := 6) rfl
theorem iX11_two_57 : rx_ins mX11_two 57 = some (15, 60, 4, 0, 61, []) := rx_at tbX11_two ndX11_two (j := 7) rfl
theorem iX11_two_61 : rx_ins mX11_two 61 = some (29, 62, 0, 0, 0, []) := rx_at tbX11_two ndX11_two (j := 9) rfl
theorem iX11_two_52 : rx_ins mX11_two 52 = some (2, 53, 0, 2, 0, []) := rx_at tbX11_two ndX11_two (j := 4) rfl
theorem iX11_two_53 : rx_ins mX11_two 53 = some (13, 56, 7, 0, 60, []) := rx_at tbX11_two ndX11_two (j := 5) rfl
theorem iX11_two_60 : rx_ins mX11_two 60 = some (1, 61, 0, 0, 0, []) := rx_at tbX11_two ndX11_two (j := 8) rfl
theorem iX11_two_121 : rx_ins mX11_two 121 = some (2, 122, 0, 2, 0, []) := rx_at tbX11_two ndX11_two (j := 51) rfl
theorem iX11_two_122 : rx_ins mX11_two 122 = some (13, 125, 7, 1, 129, []) := rx_at tbX11_two ndX11_two (j := 52) rfl
theorem iX11_two_129 : rx_ins mX11_two 129 = some (2, 130, 0, 1, 0, []) := rx_at tbX11_two ndX11_two (j := 55) rfl
theorem iX11_two_130 : rx_ins mX11_two 130 = some (2, 131, 0, 2, 0, []) := rx_at tbX11_two ndX11_two (j := 56) rfl
theorem iX11_two_131 : rx_ins mX11_two 131 = some (8, 132, 0, 0, 0, []) := rx_at tbX11_two ndX11_two (j := 57) rfl
theorem iX11_two_132 : rx_ins mX11_two 132 = some (29, 133, 0, 0, 0, []) := rx_at tbX11_two ndX11_two (j := 58) rfl
theorem iX11_two_125 : rx_ins mX11_two 125 = some (1, 126, 0, 0, 0, []) := rx_at tbX11_two ndX11_two (j := 53) rfl
theorem iX11_two_126 : rx_ins mX11_two 126 = some (15, 129, 6, 0, 132, []) := rx_at tbX11_two ndX11_two (j := 54) rfl
theorem iX11_worksOut_0 : rx_ins mX11_worksOut 0 = some (1, 1, 0, 0, 0, []) := rx_at tbX11_worksOut ndX11_worksOut (j := 0) rfl
theorem iX11_worksOut_1 : rx_ins mX11_worksOut 1 = some (4, 2, 0, 2, 0, []) := rx_at tbX11_worksOut ndX11_worksOut (j := 1) rfl
theorem iX11_worksOut_2 : rx_ins mX11_worksOut 2 = some (3, 3, 0, 0, 0, []) := rx_at tbX11_worksOut ndX11_worksOut (j := 2) rfl
theorem iX11_worksOut_3 : rx_ins mX11_worksOut 3 = some (18, 6, 0, 11, 0, [(9, 124)]) := rx_at tbX11_worksOut ndX11_worksOut (j := 3) rfl
theorem iX11_worksOut_6 : rx_ins mX11_worksOut 6 = some (1, 8, 126, 1, 0, []) := rx_at tbX11_worksOut ndX11_worksOut (j := 4) rfl
theorem iX11_worksOut_8 : rx_ins mX11_worksOut 8 = some (1, 9, 2, 0, 0, []) := rx_at tbX11_worksOut ndX11_worksOut (j := 5) rfl
theorem iX11_worksOut_9 : rx_ins mX11_worksOut 9 = some (2, 10, 0, 1, 0, []) := rx_at tbX11_worksOut ndX11_worksOut (j := 6) rfl
theorem iX11_worksOut_10 : rx_ins mX11_worksOut 10 = some (7, 11, 0, 2, 0, []) := rx_at tbX11_worksOut ndX11_worksOut (j := 7) rfl
theorem iX11_worksOut_11 : rx_ins mX11_worksOut 11 = some (7, 12, 0, 0, 0, []) := rx_at tbX11_worksOut ndX11_worksOut (j := 8) rfl
theorem iX11_worksOut_12 : rx_ins mX11_worksOut 12 = some (20, 13, 0, 0, 0, []) := rx_at tbX11_worksOut ndX11_worksOut (j := 9) rfl
theorem iX11_worksOut_13 : rx_ins mX11_worksOut 13 = some (1, 16, 1000, 2, 0, []) := rx_at tbX11_worksOut ndX11_worksOut (j := 10) rfl
theorem iX11_worksOut_16 : rx_ins mX11_worksOut 16 = some (8, 17, 0, 1, 0, []) := rx_at tbX11_worksOut ndX11_worksOut (j := 11) rfl
theorem iX11_worksOut_17 : rx_ins mX11_worksOut 17 = some (4, 18, 0, 3, 0, []) := rx_at tbX11_worksOut ndX11_worksOut (j := 12) rfl
theorem iX11_worksOut_18 : rx_ins mX11_worksOut 18 = some (1, 19, 0, 0, 0, []) := rx_at tbX11_worksOut ndX11_worksOut (j := 13) rfl
theorem iX11_worksOut_19 : rx_ins mX11_worksOut 19 = some (4, 21, 1, 4, 0, []) := rx_at tbX11_worksOut ndX11_worksOut (j := 14) rfl
theorem iX11_worksOut_21 : rx_ins mX11_worksOut 21 = some (2, 23, 1, 4, 0, []) := rx_at tbX11_worksOut ndX11_worksOut (j := 15) rfl
theorem iX11_worksOut_23 : rx_ins mX11_worksOut 23 = some (2, 24, 0, 3, 0, []) := rx_at tbX11_worksOut ndX11_worksOut (j := 16) rfl
theorem iX11_worksOut_24 : rx_ins mX11_worksOut 24 = some (14, 27, 132, 3, 156, []) := rx_at tbX11_worksOut ndX11_worksOut (j := 17) rfl
theorem iX11_worksOut_156 : rx_ins mX11_worksOut 156 = some (3, 157, 0, 0, 0, []) := rx_at tbX11_worksOut ndX11_worksOut (j := 89) rfl
theorem iX11_worksOut_157 : rx_ins mX11_worksOut 157 = some (18, 160, 0, 11, 37, [(78, 162)]) := rx_at tbX11_worksOut ndX11_worksOut (j := 90) rfl
theorem iX11_worksOut_160 : rx_ins mX11_worksOut 160 = some (1, 161, 0, 0, 0, []) := rx_at tbX11_worksOut ndX11_worksOut (j := 91) rfl
theorem iX11_worksOut_161 : rx_ins mX11_worksOut 161 = some (20, 162, 0, 0, 0, []) := rx_at tbX11_worksOut ndX11_worksOut (j := 92) rfl
theorem iX11_worksOut_162 : rx_ins mX11_worksOut 162 = some (29, 163, 0, 0, 0, []) := rx_at tbX11_worksOut ndX11_worksOut (j := 93) rfl
theorem iX11_worksOut_27 : rx_ins mX11_worksOut 27 = some (3, 28, 0, 0, 0, []) := rx_at tbX11_worksOut ndX11_worksOut (j := 18) rfl
theorem iX11_worksOut_28 : rx_ins mX11_worksOut 28 = some (18, 31, 0, 11, 0, [(9, 124)]) := rx_at tbX11_worksOut ndX11_worksOut (j := 19) rfl
theorem iX11_worksOut_31 : rx_ins mX11_worksOut 31 = some (1, 34, 154, 2, 0, []) := rx_at tbX11_worksOut ndX11_worksOut (j := 20) rfl
theorem iX11_worksOut_34 : rx_ins mX11_worksOut 34 = some (1, 36, 96, 1, 0, []) := rx_at tbX11_worksOut ndX11_worksOut (j := 21) rfl
theorem iX11_worksOut_36 : rx_ins mX11_worksOut 36 = some (2, 37, 0, 1, 0, []) := rx_at tbX11_worksOut ndX11_worksOut (j := 22) rfl
theorem iX11_worksOut_37 : rx_ins mX11_worksOut 37 = some (7, 38, 0, 2, 0, []) := rx_at tbX11_worksOut ndX11_worksOut (j := 23) rfl
theorem iX11_worksOut_38 : rx_ins mX11_worksOut 38 = some (7, 39, 0, 0, 0, []) := rx_at tbX11_worksOut ndX11_worksOut (j := 24) rfl
theorem iX11_worksOut_39 : rx_ins mX11_worksOut 39 = some (2, 41, 1, 4, 0, []) := rx_at tbX11_worksOut ndX11_worksOut (j := 25) rfl
theorem iX11_worksOut_41 : rx_ins mX11_worksOut 41 = some (7, 42, 0, 0, 0, []) := rx_at tbX11_worksOut ndX11_worksOut (j := 26) rfl
theorem iX11_worksOut_42 : rx_ins mX11_worksOut 42 = some (20, 43, 0, 0, 0, []) := rx_at tbX11_worksOut ndX11_worksOut (j := 27) rfl
theorem iX11_worksOut_43 : rx_ins mX11_worksOut 43 = some (4, 45, 1, 5, 0, []) := rx_at tbX11_worksOut ndX11_worksOut (j := 28) rfl
theorem iX11_worksOut_45 : rx_ins mX11_worksOut 45 = some (2, 47, 1, 5, 0, []) := rx_at tbX11_worksOut ndX11_worksOut (j := 29) rfl
theorem iX11_worksOut_47 : rx_ins mX11_worksOut 47 = some (13, 50, 39, 2, 86, []) := rx_at tbX11_worksOut ndX11_worksOut (j := 30) rfl
theorem iX11_worksOut_86 : rx_ins mX11_worksOut 86 = some (2, 88, 1, 5, 0, []) := rx_at tbX11_worksOut ndX11_worksOut (j := 48) rfl
theorem iX11_worksOut_88 : rx_ins mX11_worksOut 88 = some (1, 90, (-10), 1, 0, []) := rx_at tbX11_worksOut ndX11_worksOut (j := 49) rfl
theorem iX11_worksOut_90 : rx_ins mX11_worksOut 90 = some (14, 93, 30, 1, 120, []) := rx_at tbX11_worksOut ndX11_worksOut (j := 50) rfl
theorem iX11_worksOut_120 : rx_ins mX11_worksOut 120 = some (6, 123, (-1), 2, 0, []) := rx_at tbX11_worksOut ndX11_worksOut (j := 68) rfl
theorem iX11_worksOut_123 : rx_ins mX11_worksOut 123 = some (3, 124, 0, 0, 0, []) := rx_at tbX11_worksOut ndX11_worksOut (j := 69) rfl
theorem iX11_worksOut_124 : rx_ins mX11_worksOut 124 = some (18, 127, 0, 11, 37, [(78, 162)]) := rx_at tbX11_worksOut ndX11_worksOut (j := 70) rfl
theorem iX11_worksOut_127 : rx_ins mX11_worksOut 127 = some (2, 128, 0, 2, 0, []) := rx_at tbX11_worksOut ndX11_worksOut (j := 71) rfl
theorem iX11_worksOut_128 : rx_ins mX11_worksOut 128 = some (1, 129, 1, 0, 0, []) := rx_at tbX11_worksOut ndX11_worksOut (j := 72) rfl
theorem iX11_worksOut_129 : rx_ins mX11_worksOut 129 = some (7, 130, 0, 1, 0, []) := rx_at tbX11_worksOut ndX11_worksOut (j := 73) rfl
theorem iX11_worksOut_130 : rx_ins mX11_worksOut 130 = some (2, 132, 1, 5, 0, []) := rx_at tbX11_worksOut ndX11_worksOut (j := 74) rfl
theorem iX11_worksOut_132 : rx_ins mX11_worksOut 132 = some (3, 133, 0, 0, 0, []) := rx_at tbX11_worksOut ndX11_worksOut (j := 75) rfl
theorem iX11_worksOut_133 : rx_ins mX11_worksOut 133 = some (18, 136, 0, 11, 37, [(78, 162)]) := rx_at tbX11_worksOut ndX11_worksOut (j := 76) rfl
theorem iX11_worksOut_136 : rx_ins mX11_worksOut 136 = some (2, 137, 0, 2, 0, []) := rx_at tbX11_worksOut ndX11_worksOut (j := 77) rfl
theorem iX11_worksOut_137 : rx_ins mX11_worksOut 137 = some (1, 138, 1, 0, 0, []) := rx_at tbX11_worksOut ndX11_worksOut (j := 78) rfl
theorem iX11_worksOut_138 : rx_ins mX11_worksOut 138 = some (7, 139, 0, 1, 0, []) := rx_at tbX11_worksOut ndX11_worksOut (j := 79) rfl
theorem iX11_worksOut_139 : rx_ins mX11_worksOut 139 = some (20, 140, 0, 0, 0, []) := rx_at tbX11_worksOut ndX11_worksOut (j := 80) rfl
theorem iX11_worksOut_140 : rx_ins mX11_worksOut 140 = some (3, 141, 0, 0, 0, []) := rx_at tbX11_worksOut ndX11_worksOut (j := 81) rfl
theorem iX11_worksOut_141 : rx_ins mX11_worksOut 141 = some (18, 144, 0, 11, 37, [(78, 162)]) := rx_at tbX11_worksOut ndX11_worksOut (j := 82) rfl
theorem iX11_worksOut_144 : rx_ins mX11_worksOut 144 = some (2, 145, 0, 2, 0, []) := rx_at tbX11_worksOut ndX11_worksOut (j := 83) rfl
theorem iX11_worksOut_145 : rx_ins mX11_worksOut 145 = some (20, 146, 0, 0, 0, []) := rx_at tbX11_worksOut ndX11_worksOut (j := 84) rfl
theorem iX11_worksOut_146 : rx_ins mX11_worksOut 146 = some (28, 149, 0, 228, 3, [(382, 264)]) := rx_at tbX11_worksOut ndX11_worksOut (j := 85) rfl
theorem iX11_worksOut_149 : rx_ins mX11_worksOut 149 = some (21, 150, 0, 0, 0, []) := rx_at tbX11_worksOut ndX11_worksOut (j := 86) rfl
theorem iX11_worksOut_150 : rx_ins mX11_worksOut 150 = some (6, 153, 1, 4, 0, []) := rx_at tbX11_worksOut ndX11_worksOut (j := 87) rfl
theorem iX11_worksOut_153 : rx_ins mX11_worksOut 153 = some (15, 156, (-132), 0, 21, []) := rx_at tbX11_worksOut ndX11_worksOut (j := 88) rfl
theorem iX11_worksOut_93 : rx_ins mX11_worksOut 93 = some (3, 94, 0, 0, 0, []) := rx_at tbX11_worksOut ndX11_worksOut (j := 51) rfl
theorem iX11_worksOut_94 : rx_ins mX11_worksOut 94 = some (18, 97, 0, 11, 37, [(78, 162)]) := rx_at tbX11_worksOut ndX11_worksOut (j := 52) rfl
theorem iX11_worksOut_97 : rx_ins mX11_worksOut 97 = some (2, 98, 0, 2, 0, []) := rx_at tbX11_worksOut ndX11_worksOut (j := 53) rfl
theorem iX11_worksOut_98 : rx_ins mX11_worksOut 98 = some (1, 99, 1, 0, 0, []) := rx_at tbX11_worksOut ndX11_worksOut (j := 54) rfl
theorem iX11_worksOut_99 : rx_ins mX11_worksOut 99 = some (7, 100, 0, 1, 0, []) := rx_at tbX11_worksOut ndX11_worksOut (j := 55) rfl
theorem iX11_worksOut_100 : rx_ins mX11_worksOut 100 = some (3, 101, 0, 0, 0, []) := rx_at tbX11_worksOut ndX11_worksOut (j := 56) rfl
theorem iX11_worksOut_101 : rx_ins mX11_worksOut 101 = some (18, 104, 0, 11, 37, [(78, 162)]) := rx_at tbX11_worksOut ndX11_worksOut (j := 57) rfl
theorem iX11_worksOut_104 : rx_ins mX11_worksOut 104 = some (2, 105, 0, 2, 0, []) := rx_at tbX11_worksOut ndX11_worksOut (j := 58) rfl
theorem iX11_worksOut_105 : rx_ins mX11_worksOut 105 = some (1, 106, 1, 0, 0, []) := rx_at tbX11_worksOut ndX11_worksOut (j := 59) rfl
theorem iX11_worksOut_106 : rx_ins mX11_worksOut 106 = some (7, 107, 0, 1, 0, []) := rx_at tbX11_worksOut ndX11_worksOut (j := 60) rfl
theorem iX11_worksOut_107 : rx_ins mX11_worksOut 107 = some (20, 108, 0, 0, 0, []) := rx_at tbX11_worksOut ndX11_worksOut (j := 61) rfl
theorem iX11_worksOut_108 : rx_ins mX11_worksOut 108 = some (13, 111, 7, 1, 115, []) := rx_at tbX11_worksOut ndX11_worksOut (j := 62) rfl
theorem iX11_worksOut_115 : rx_ins mX11_worksOut 115 = some (1, 116, 0, 0, 0, []) := rx_at tbX11_worksOut ndX11_worksOut (j := 65) rfl
theorem iX11_worksOut_116 : rx_ins mX11_worksOut 116 = some (21, 117, 0, 0, 0, []) := rx_at tbX11_worksOut ndX11_worksOut (j := 66) rfl
theorem iX11_worksOut_117 : rx_ins mX11_worksOut 117 = some (15, 120, 33, 0, 150, []) := rx_at tbX11_worksOut ndX11_worksOut (j := 67) rfl
theorem iX11_worksOut_111 : rx_ins mX11_worksOut 111 = some (1, 112, 1, 0, 0, []) := rx_at tbX11_worksOut ndX11_worksOut (j := 63) rfl
theorem iX11_worksOut_112 : rx_ins mX11_worksOut 112 = some (15, 115, 4, 0, 116, []) := rx_at tbX11_worksOut ndX11_worksOut (j := 64) rfl
theorem iX11_worksOut_50 : rx_ins mX11_worksOut 50 = some (3, 51, 0, 0, 0, []) := rx_at tbX11_worksOut ndX11_worksOut (j := 31) rfl
theorem iX11_worksOut_51 : rx_ins mX11_worksOut 51 = some (18, 54, 0, 11, 37, [(78, 162)]) := rx_at tbX11_worksOut ndX11_worksOut (j := 32) rfl
theorem iX11_worksOut_54 : rx_ins mX11_worksOut 54 = some (2, 55, 0, 2, 0, []) := rx_at tbX11_worksOut ndX11_worksOut (j := 33) rfl
theorem iX11_worksOut_55 : rx_ins mX11_worksOut 55 = some (2, 57, 1, 5, 0, []) := rx_at tbX11_worksOut ndX11_worksOut (j := 34) rfl
theorem iX11_worksOut_57 : rx_ins mX11_worksOut 57 = some (1, 60, 10000, 2, 0, []) := rx_at tbX11_worksOut ndX11_worksOut (j := 35) rfl
theorem iX11_worksOut_60 : rx_ins mX11_worksOut 60 = some (14, 63, 8, 3, 68, []) := rx_at tbX11_worksOut ndX11_worksOut (j := 36) rfl
theorem iX11_worksOut_68 : rx_ins mX11_worksOut 68 = some (3, 69, 0, 0, 0, []) := rx_at tbX11_worksOut ndX11_worksOut (j := 39) rfl
theorem iX11_worksOut_69 : rx_ins mX11_worksOut 69 = some (18, 72, 0, 11, 38, [(81, 125)]) := rx_at tbX11_worksOut ndX11_worksOut (j := 40) rfl
theorem iX11_worksOut_72 : rx_ins mX11_worksOut 72 = some (2, 74, 1, 5, 0, []) := rx_at tbX11_worksOut ndX11_worksOut (j := 41) rfl
theorem iX11_worksOut_74 : rx_ins mX11_worksOut 74 = some (1, 77, 10000, 2, 0, []) := rx_at tbX11_worksOut ndX11_worksOut (j := 42) rfl
theorem iX11_worksOut_77 : rx_ins mX11_worksOut 77 = some (7, 78, 0, 1, 0, []) := rx_at tbX11_worksOut ndX11_worksOut (j := 43) rfl
theorem iX11_worksOut_78 : rx_ins mX11_worksOut 78 = some (20, 79, 0, 0, 0, []) := rx_at tbX11_worksOut ndX11_worksOut (j := 44) rfl
theorem iX11_worksOut_79 : rx_ins mX11_worksOut 79 = some (21, 80, 0, 0, 0, []) := rx_at tbX11_worksOut ndX11_worksOut (j := 45) rfl
theorem iX11_worksOut_80 : rx_ins mX11_worksOut 80 = some (6, 83, 1, 2, 0, []) := rx_at tbX11_worksOut ndX11_worksOut (j := 46) rfl
theorem iX11_worksOut_83 : rx_ins mX11_worksOut 83 = some (15, 86, 67, 0, 150, []) := rx_at tbX11_worksOut ndX11_worksOut (j := 47) rfl
theorem iX11_worksOut_63 : rx_ins mX11_worksOut 63 = some (2, 65, 1, 5, 0, []) := rx_at tbX11_worksOut ndX11_worksOut (j := 37) rfl
theorem iX11_worksOut_65 : rx_ins mX11_worksOut 65 = some (15, 68, 14, 0, 79, []) := rx_at tbX11_worksOut ndX11_worksOut (j := 38) rfl
theorem iX11_isSheet_0 : rx_ins mX11_isSheet 0 = some (2, 1, 0, 0, 0, []) := rx_at tbX11_isSheet ndX11_isSheet (j := 0) rfl
theorem iX11_isSheet_1 : rx_ins mX11_isSheet 1 = some (1, 2, 0, 0, 0, []) := rx_at tbX11_isSheet ndX11_isSheet (j := 1) rfl
theorem iX11_isSheet_2 : rx_ins mX11_isSheet 2 = some (1, 3, 3, 0, 0, []) := rx_at tbX11_isSheet ndX11_isSheet (j := 2) rfl
theorem iX11_isSheet_3 : rx_ins mX11_isSheet 3 = some (28, 6, 0, 133, 3, [(111, 198)]) := rx_at tbX11_isSheet ndX11_isSheet (j := 3) rfl
theorem iX11_isSheet_6 : rx_ins mX11_isSheet 6 = some (29, 7, 1, 0, 0, []) := rx_at tbX11_isSheet ndX11_isSheet (j := 4) rfl
theorem iX11_isSlot_0 : rx_ins mX11_isSlot 0 = some (2, 1, 0, 0, 0, []) := rx_at tbX11_isSlot ndX11_isSlot (j := 0) rfl
theorem iX11_isSlot_1 : rx_ins mX11_isSlot 1 = some (1, 2, 0, 0, 0, []) := rx_at tbX11_isSlot ndX11_isSlot (j := 1) rfl
theorem iX11_isSlot_2 : rx_ins mX11_isSlot 2 = some (1, 3, 4, 0, 0, []) := rx_at tbX11_isSlot ndX11_isSlot (j := 2) rfl
theorem iX11_isSlot_3 : rx_ins mX11_isSlot 3 = some (28, 6, 0, 133, 3, [(111, 198)]) := rx_at tbX11_isSlot ndX11_isSlot (j := 3) rfl
theorem iX11_isSlot_6 : rx_ins mX11_isSlot 6 = some (29, 7, 1, 0, 0, []) := rx_at tbX11_isSlot ndX11_isSlot (j := 4) rfl
theorem iX11_sheet_0 : rx_ins mX11_sheet 0 = some (2, 1, 0, 1, 0, []) := rx_at tbX11_sheet ndX11_sheet (j := 0) rfl
theorem iX11_sheet_1 : rx_ins mX11_sheet 1 = some (28, 4, 0, 230, 1, [(247, 233)]) := rx_at tbX11_sheet ndX11_sheet (j := 1) rfl
theorem iX11_sheet_4 : rx_ins mX11_sheet 4 = some (13, 7, 22, 0, 26, []) := rx_at tbX11_sheet ndX11_sheet (j := 2) rfl
theorem iX11_sheet_26 : rx_ins mX11_sheet 26 = some (1, 28, (-1000000001), 3, 21, [(130, 0)]) := rx_at tbX11_sheet ndX11_sheet (j := 13) rfl
theorem iX11_sheet_28 : rx_ins mX11_sheet 28 = some (29, 29, 0, 0, 0, []) := rx_at tbX11_sheet ndX11_sheet (j := 14) rfl
theorem iX11_sheet_7 : rx_ins mX11_sheet 7 = some (2, 8, 0, 2, 0, []) := rx_at tbX11_sheet ndX11_sheet (j := 3) rfl
theorem iX11_sheet_8 : rx_ins mX11_sheet 8 = some (1, 9, (-1), 0, 0, []) := rx_at tbX11_sheet ndX11_sheet (j := 4) rfl
theorem iX11_sheet_9 : rx_ins mX11_sheet 9 = some (1, 10, 1, 0, 0, []) := rx_at tbX11_sheet ndX11_sheet (j := 5) rfl
theorem iX11_sheet_10 : rx_ins mX11_sheet 10 = some (28, 13, 0, 133, 3, [(111, 198)]) := rx_at tbX11_sheet ndX11_sheet (j := 6) rfl
theorem iX11_sheet_13 : rx_ins mX11_sheet 13 = some (13, 16, 13, 0, 26, []) := rx_at tbX11_sheet ndX11_sheet (j := 7) rfl
theorem iX11_sheet_16 : rx_ins mX11_sheet 16 = some (2, 17, 0, 2, 0, []) := rx_at tbX11_sheet ndX11_sheet (j := 8) rfl
theorem iX11_sheet_17 : rx_ins mX11_sheet 17 = some (13, 20, 12, 2, 29, []) := rx_at tbX11_sheet ndX11_sheet (j := 9) rfl
theorem iX11_sheet_29 : rx_ins mX11_sheet 29 = some (2, 30, 0, 2, 0, []) := rx_at tbX11_sheet ndX11_sheet (j := 15) rfl
theorem iX11_sheet_30 : rx_ins mX11_sheet 30 = some (13, 33, 10, 2, 40, []) := rx_at tbX11_sheet ndX11_sheet (j := 16) rfl
theorem iX11_sheet_40 : rx_ins mX11_sheet 40 = some (3, 41, 0, 0, 0, []) := rx_at tbX11_sheet ndX11_sheet (j := 21) rfl
theorem iX11_sheet_41 : rx_ins mX11_sheet 41 = some (18, 44, 0, 11, 39, [(84, 131)]) := rx_at tbX11_sheet ndX11_sheet (j := 22) rfl
theorem iX11_sheet_44 : rx_ins mX11_sheet 44 = some (2, 45, 0, 1, 0, []) := rx_at tbX11_sheet ndX11_sheet (j := 23) rfl
theorem iX11_sheet_45 : rx_ins mX11_sheet 45 = some (2, 46, 0, 2, 0, []) := rx_at tbX11_sheet ndX11_sheet (j := 24) rfl
theorem iX11_sheet_46 : rx_ins mX11_sheet 46 = some (21, 47, 0, 0, 0, []) := rx_at tbX11_sheet ndX11_sheet (j := 25) rfl
theorem iX11_sheet_47 : rx_ins mX11_sheet 47 = some (3, 48, 0, 0, 0, []) := rx_at tbX11_sheet ndX11_sheet (j := 26) rfl
theorem iX11_sheet_48 : rx_ins mX11_sheet 48 = some (18, 51, 0, 11, 40, [(87, 132)]) := rx_at tbX11_sheet ndX11_sheet (j := 27) rfl
theorem iX11_sheet_51 : rx_ins mX11_sheet 51 = some (2, 52, 0, 1, 0, []) := rx_at tbX11_sheet ndX11_sheet (j := 28) rfl
theorem iX11_sheet_52 : rx_ins mX11_sheet 52 = some (2, 53, 0, 2, 0, []) := rx_at tbX11_sheet ndX11_sheet (j := 29) rfl
theorem iX11_sheet_53 : rx_ins mX11_sheet 53 = some (13, 56, 7, 3, 60, []) := rx_at tbX11_sheet ndX11_sheet (j := 30) rfl
theorem iX11_sheet_56 : rx_ins mX11_sheet 56 = some (1, 57, 0, 0, 0, []) := rx_at tbX11_sheet ndX11_sheet (j := 31) rfl
theorem iX11_sheet_57 : rx_ins mX11_sheet 57 = some (15, 60, 4, 0, 61, []) := rx_at tbX11_sheet ndX11_sheet (j := 32) rfl
theorem iX11_sheet_61 : rx_ins mX11_sheet 61 = some (21, 62, 0, 0, 0, []) := rx_at tbX11_sheet ndX11_sheet (j := 34) rfl
theorem iX11_sheet_62 : rx_ins mX11_sheet 62 = some (1, 63, 0, 0, 0, []) := rx_at tbX11_sheet ndX11_sheet (j := 35) rfl
theorem iX11_sheet_63 : rx_ins mX11_sheet 63 = some (4, 65, 1, 4, 0, []) := rx_at tbX11_sheet ndX11_sheet (j := 36) rfl
theorem iX11_sheet_20 : rx_ins mX11_sheet 20 = some (2, 21, 0, 3, 0, []) := rx_at tbX11_sheet ndX11_sheet (j := 10) rfl
theorem iX11_sheet_21 : rx_ins mX11_sheet 21 = some (1, 23, 24, 1, 0, []) := rx_at tbX11_sheet ndX11_sheet (j := 11) rfl
theorem iX11_sheet_23 : rx_ins mX11_sheet 23 = some (14, 26, 6, 5, 29, []) := rx_at tbX11_sheet ndX11_sheet (j := 12) rfl
theorem iX11_sheet_33 : rx_ins mX11_sheet 33 = some (2, 34, 0, 3, 0, []) := rx_at tbX11_sheet ndX11_sheet (j := 17) rfl
theorem iX11_sheet_34 : rx_ins mX11_sheet 34 = some (13, 37, 6, 3, 40, []) := rx_at tbX11_sheet ndX11_sheet (j := 18) rfl
theorem iX11_sheet_60 : rx_ins mX11_sheet 60 = some (2, 61, 0, 3, 0, []) := rx_at tbX11_sheet ndX11_sheet (j := 33) rfl
theorem iX11_sheet_37 : rx_ins mX11_sheet 37 = some (1, 39, (-1000000014), 3, 27, [(251, 0)]) := rx_at tbX11_sheet ndX11_sheet (j := 19) rfl
theorem iX11_sheet_39 : rx_ins mX11_sheet 39 = some (29, 40, 0, 0, 0, []) := rx_at tbX11_sheet ndX11_sheet (j := 20) rfl
theorem iX11_sheet_65 : rx_ins mX11_sheet 65 = some (2, 67, 1, 4, 0, []) := rx_at tbX11_sheet ndX11_sheet (j := 37) rfl
theorem iX11_sheet_67 : rx_ins mX11_sheet 67 = some (1, 69, 24, 1, 0, []) := rx_at tbX11_sheet ndX11_sheet (j := 38) rfl
theorem iX11_sheet_69 : rx_ins mX11_sheet 69 = some (14, 72, 22, 3, 91, []) := rx_at tbX11_sheet ndX11_sheet (j := 39) rfl
theorem iX11_sheet_91 : rx_ins mX11_sheet 91 = some (3, 92, 0, 0, 0, []) := rx_at tbX11_sheet ndX11_sheet (j := 51) rfl
theorem iX11_sheet_92 : rx_ins mX11_sheet 92 = some (18, 95, 0, 11, 40, [(87, 132)]) := rx_at tbX11_sheet ndX11_sheet (j := 52) rfl
theorem iX11_sheet_95 : rx_ins mX11_sheet 95 = some (2, 96, 0, 1, 0, []) := rx_at tbX11_sheet ndX11_sheet (j := 53) rfl
theorem iX11_sheet_96 : rx_ins mX11_sheet 96 = some (20, 97, 0, 0, 0, []) := rx_at tbX11_sheet ndX11_sheet (j := 54) rfl
theorem iX11_sheet_97 : rx_ins mX11_sheet 97 = some (29, 98, 0, 0, 0, []) := rx_at tbX11_sheet ndX11_sheet (j := 55) rfl
theorem iX11_sheet_72 : rx_ins mX11_sheet 72 = some (3, 73, 0, 0, 0, []) := rx_at tbX11_sheet ndX11_sheet (j := 40) rfl
theorem iX11_sheet_73 : rx_ins mX11_sheet 73 = some (18, 76, 0, 11, 41, [(90, 134)]) := rx_at tbX11_sheet ndX11_sheet (j := 41) rfl
theorem iX11_sheet_76 : rx_ins mX11_sheet 76 = some (1, 78, 24, 1, 0, []) := rx_at tbX11_sheet ndX11_sheet (j := 42) rfl
theorem iX11_sheet_78 : rx_ins mX11_sheet 78 = some (2, 79, 0, 1, 0, []) := rx_at tbX11_sheet ndX11_sheet (j := 43) rfl
theorem iX11_sheet_79 : rx_ins mX11_sheet 79 = some (7, 80, 0, 2, 0, []) := rx_at tbX11_sheet ndX11_sheet (j := 44) rfl
theorem iX11_sheet_80 : rx_ins mX11_sheet 80 = some (2, 82, 1, 4, 0, []) := rx_at tbX11_sheet ndX11_sheet (j := 45) rfl
theorem iX11_sheet_82 : rx_ins mX11_sheet 82 = some (7, 83, 0, 0, 0, []) := rx_at tbX11_sheet ndX11_sheet (j := 46) rfl
theorem iX11_sheet_83 : rx_ins mX11_sheet 83 = some (1, 84, 0, 0, 0, []) := rx_at tbX11_sheet ndX11_sheet (j := 47) rfl
theorem iX11_sheet_84 : rx_ins mX11_sheet 84 = some (21, 85, 0, 0, 0, []) := rx_at tbX11_sheet ndX11_sheet (j := 48) rfl
theorem iX11_sheet_85 : rx_ins mX11_sheet 85 = some (6, 88, 1, 4, 0, []) := rx_at tbX11_sheet ndX11_sheet (j := 49) rfl
theorem iX11_sheet_88 : rx_ins mX11_sheet 88 = some (15, 91, (-23), 0, 65, []) := rx_at tbX11_sheet ndX11_sheet (j := 50) rfl
theorem iX11_mark_0 : rx_ins mX11_mark 0 = some (2, 1, 0, 1, 0, []) := rx_at tbX11_mark ndX11_mark (j := 0) rfl
theorem iX11_mark_1 : rx_ins mX11_mark 1 = some (28, 4, 0, 230, 1, [(247, 233)]) := rx_at tbX11_mark ndX11_mark (j := 1) rfl
theorem iX11_mark_4 : rx_ins mX11_mark 4 = some (13, 7, 6, 1, 10, []) := rx_at tbX11_mark ndX11_mark (j := 2) rfl
theorem iX11_mark_10 : rx_ins mX11_mark 10 = some (3, 11, 0, 0, 0, []) := rx_at tbX11_mark ndX11_mark (j := 5) rfl
theorem iX11_mark_11 : rx_ins mX11_mark 11 = some (18, 14, 0, 11, 39, [(84, 131)]) := rx_at tbX11_mark ndX11_mark (j := 6) rfl
theorem iX11_mark_14 : rx_ins mX11_mark 14 = some (2, 15, 0, 1, 0, []) := rx_at tbX11_mark ndX11_mark (j := 7) rfl
theorem iX11_mark_15 : rx_ins mX11_mark 15 = some (20, 16, 0, 0, 0, []) := rx_at tbX11_mark ndX11_mark (j := 8) rfl
theorem iX11_mark_16 : rx_ins mX11_mark 16 = some (13, 19, 6, 3, 22, []) := rx_at tbX11_mark ndX11_mark (j := 9) rfl
theorem iX11_mark_22 : rx_ins mX11_mark 22 = some (2, 23, 0, 2, 0, []) := rx_at tbX11_mark ndX11_mark (j := 12) rfl
theorem iX11_mark_23 : rx_ins mX11_mark 23 = some (1, 24, 0, 0, 0, []) := rx_at tbX11_mark ndX11_mark (j := 13) rfl
theorem iX11_mark_24 : rx_ins mX11_mark 24 = some (3, 25, 0, 0, 0, []) := rx_at tbX11_mark ndX11_mark (j := 14) rfl
theorem iX11_mark_25 : rx_ins mX11_mark 25 = some (18, 28, 0, 11, 40, [(87, 132)]) := rx_at tbX11_mark ndX11_mark (j := 15) rfl
theorem iX11_mark_28 : rx_ins mX11_mark 28 = some (2, 29, 0, 1, 0, []) := rx_at tbX11_mark ndX11_mark (j := 16) rfl
theorem iX11_mark_29 : rx_ins mX11_mark 29 = some (20, 30, 0, 0, 0, []) := rx_at tbX11_mark ndX11_mark (j := 17) rfl
theorem iX11_mark_30 : rx_ins mX11_mark 30 = some (1, 31, 1, 0, 0, []) := rx_at tbX11_mark ndX11_mark (j := 18) rfl
theorem iX11_mark_31 : rx_ins mX11_mark 31 = some (7, 32, 0, 1, 0, []) := rx_at tbX11_mark ndX11_mark (j := 19) rfl
theorem iX11_mark_32 : rx_ins mX11_mark 32 = some (28, 35, 0, 133, 3, [(111, 198)]) := rx_at tbX11_mark ndX11_mark (j := 20) rfl
theorem iX11_mark_35 : rx_ins mX11_mark 35 = some (13, 38, 7, 1, 42, []) := rx_at tbX11_mark ndX11_mark (j := 21) rfl
theorem iX11_mark_42 : rx_ins mX11_mark 42 = some (3, 43, 0, 0, 0, []) := rx_at tbX11_mark ndX11_mark (j := 24) rfl
theorem iX11_mark_43 : rx_ins mX11_mark 43 = some (18, 46, 0, 11, 39, [(84, 131)]) := rx_at tbX11_mark ndX11_mark (j := 25) rfl
theorem iX11_mark_46 : rx_ins mX11_mark 46 = some (2, 47, 0, 1, 0, []) := rx_at tbX11_mark ndX11_mark (j := 26) rfl
theorem iX11_mark_47 : rx_ins mX11_mark 47 = some (20, 48, 0, 0, 0, []) := rx_at tbX11_mark ndX11_mark (j := 27) rfl
theorem iX11_mark_48 : rx_ins mX11_mark 48 = some (13, 51, 12, 1, 60, []) := rx_at tbX11_mark ndX11_mark (j := 28) rfl
theorem iX11_mark_51 : rx_ins mX11_mark 51 = some (2, 52, 0, 3, 0, []) := rx_at tbX11_mark ndX11_mark (j := 29) rfl
theorem iX11_mark_52 : rx_ins mX11_mark 52 = some (1, 54, (-1000000005), 3, 25, [(222, 0)]) := rx_at tbX11_mark ndX11_mark (j := 30) rfl
theorem iX11_mark_54 : rx_ins mX11_mark 54 = some (14, 57, 6, 1, 60, []) := rx_at tbX11_mark ndX11_mark (j := 31) rfl
theorem iX11_mark_57 : rx_ins mX11_mark 57 = some (1, 59, (-1000000012), 3, 24, [(187, 0)]) := rx_at tbX11_mark ndX11_mark (j := 32) rfl
theorem iX11_mark_59 : rx_ins mX11_mark 59 = some (29, 60, 0, 0, 0, []) := rx_at tbX11_mark ndX11_mark (j := 33) rfl
theorem iX11_mark_38 : rx_ins mX11_mark 38 = some (1, 41, (-1000000013), 4, 29, [(385, 0)]) := rx_at tbX11_mark ndX11_mark (j := 22) rfl
theorem iX11_mark_41 : rx_ins mX11_mark 41 = some (29, 42, 0, 0, 0, []) := rx_at tbX11_mark ndX11_mark (j := 23) rfl
theorem iX11_mark_19 : rx_ins mX11_mark 19 = some (1, 21, (-1000000011), 3, 26, [(250, 0)]) := rx_at tbX11_mark ndX11_mark (j := 10) rfl
theorem iX11_mark_21 : rx_ins mX11_mark 21 = some (29, 22, 0, 0, 0, []) := rx_at tbX11_mark ndX11_mark (j := 11) rfl
theorem iX11_mark_7 : rx_ins mX11_mark 7 = some (1, 9, (-1000000001), 3, 21, [(130, 0)]) := rx_at tbX11_mark ndX11_mark (j := 3) rfl
theorem iX11_mark_9 : rx_ins mX11_mark 9 = some (29, 10, 0, 0, 0, []) := rx_at tbX11_mark ndX11_mark (j := 4) rfl
theorem iX11_mark_60 : rx_ins mX11_mark 60 = some (3, 61, 0, 0, 0, []) := rx_at tbX11_mark ndX11_mark (j := 34) rfl
theorem iX11_mark_61 : rx_ins mX11_mark 61 = some (18, 64, 0, 11, 39, [(84, 131)]) := rx_at tbX11_mark ndX11_mark (j := 35) rfl
theorem iX11_mark_64 : rx_ins mX11_mark 64 = some (2, 65, 0, 1, 0, []) := rx_at tbX11_mark ndX11_mark (j := 36) rfl
theorem iX11_mark_65 : rx_ins mX11_mark 65 = some (20, 66, 0, 0, 0, []) := rx_at tbX11_mark ndX11_mark (j := 37) rfl
theorem iX11_mark_66 : rx_ins mX11_mark 66 = some (1, 67, 1, 0, 0, []) := rx_at tbX11_mark ndX11_mark (j := 38) rfl
theorem iX11_mark_67 : rx_ins mX11_mark 67 = some (14, 70, 25, 1, 92, []) := rx_at tbX11_mark ndX11_mark (j := 39) rfl
theorem iX11_mark_70 : rx_ins mX11_mark 70 = some (2, 71, 0, 3, 0, []) := rx_at tbX11_mark ndX11_mark (j := 40) rfl
theorem iX11_mark_71 : rx_ins mX11_mark 71 = some (1, 73, (-1000000005), 3, 25, [(222, 0)]) := rx_at tbX11_mark ndX11_mark (j := 41) rfl
theorem iX11_mark_73 : rx_ins mX11_mark 73 = some (14, 76, 19, 0, 92, []) := rx_at tbX11_mark ndX11_mark (j := 42) rfl
theorem iX11_mark_76 : rx_ins mX11_mark 76 = some (2, 77, 0, 3, 0, []) := rx_at tbX11_mark ndX11_mark (j := 43) rfl
theorem iX11_mark_77 : rx_ins mX11_mark 77 = some (1, 80, (-99999), 4, 30, [(386, 0)]) := rx_at tbX11_mark ndX11_mark (j := 44) rfl
theorem iX11_mark_80 : rx_ins mX11_mark 80 = some (1, 83, 99999, 4, 31, [(387, 0)]) := rx_at tbX11_mark ndX11_mark (j := 45) rfl
theorem iX11_mark_83 : rx_ins mX11_mark 83 = some (28, 86, 0, 133, 3, [(111, 198)]) := rx_at tbX11_mark ndX11_mark (j := 46) rfl
theorem iX11_mark_86 : rx_ins mX11_mark 86 = some (13, 89, 6, 1, 92, []) := rx_at tbX11_mark ndX11_mark (j := 47) rfl
theorem iX11_mark_89 : rx_ins mX11_mark 89 = some (1, 91, (-1000000001), 3, 21, [(130, 0)]) := rx_at tbX11_mark ndX11_mark (j := 48) rfl
theorem iX11_mark_91 : rx_ins mX11_mark 91 = some (29, 92, 0, 0, 0, []) := rx_at tbX11_mark ndX11_mark (j := 49) rfl
theorem iX11_mark_92 : rx_ins mX11_mark 92 = some (3, 93, 0, 0, 0, []) := rx_at tbX11_mark ndX11_mark (j := 50) rfl
theorem iX11_mark_93 : rx_ins mX11_mark 93 = some (18, 96, 0, 11, 41, [(90, 134)]) := rx_at tbX11_mark ndX11_mark (j := 51) rfl
theorem iX11_mark_96 : rx_ins mX11_mark 96 = some (1, 98, 24, 1, 0, []) := rx_at tbX11_mark ndX11_mark (j := 52) rfl
theorem iX11_mark_98 : rx_ins mX11_mark 98 = some (2, 99, 0, 1, 0, []) := rx_at tbX11_mark ndX11_mark (j := 53) rfl
theorem iX11_mark_99 : rx_ins mX11_mark 99 = some (7, 100, 0, 2, 0, []) := rx_at tbX11_mark ndX11_mark (j := 54) rfl
theorem iX11_mark_100 : rx_ins mX11_mark 100 = some (2, 101, 0, 2, 0, []) := rx_at tbX11_mark ndX11_mark (j := 55) rfl
theorem iX11_mark_101 : rx_ins mX11_mark 101 = some (7, 102, 0, 0, 0, []) := rx_at tbX11_mark ndX11_mark (j := 56) rfl
theorem iX11_mark_102 : rx_ins mX11_mark 102 = some (3, 103, 0, 0, 0, []) := rx_at tbX11_mark ndX11_mark (j := 57) rfl
theorem iX11_mark_103 : rx_ins mX11_mark 103 = some (18, 106, 0, 11, 39, [(84, 131)]) := rx_at tbX11_mark ndX11_mark (j := 58) rfl
theorem iX11_mark_106 : rx_ins mX11_mark 106 = some (2, 107, 0, 1, 0, []) := rx_at tbX11_mark ndX11_mark (j := 59) rfl
theorem iX11_mark_107 : rx_ins mX11_mark 107 = some (20, 108, 0, 0, 0, []) := rx_at tbX11_mark ndX11_mark (j := 60) rfl
theorem iX11_mark_108 : rx_ins mX11_mark 108 = some (13, 111, 8, 1, 116, []) := rx_at tbX11_mark ndX11_mark (j := 61) rfl
theorem iX11_mark_116 : rx_ins mX11_mark 116 = some (2, 117, 0, 3, 0, []) := rx_at tbX11_mark ndX11_mark (j := 65) rfl
theorem iX11_mark_117 : rx_ins mX11_mark 117 = some (21, 118, 0, 0, 0, []) := rx_at tbX11_mark ndX11_mark (j := 66) rfl
theorem iX11_mark_118 : rx_ins mX11_mark 118 = some (1, 119, 1, 0, 0, []) := rx_at tbX11_mark ndX11_mark (j := 67) rfl
theorem iX11_mark_119 : rx_ins mX11_mark 119 = some (29, 120, 0, 0, 0, []) := rx_at tbX11_mark ndX11_mark (j := 68) rfl
theorem iX11_mark_111 : rx_ins mX11_mark 111 = some (2, 112, 0, 3, 0, []) := rx_at tbX11_mark ndX11_mark (j := 62) rfl
theorem iX11_mark_112 : rx_ins mX11_mark 112 = some (9, 113, 0, 1, 0, []) := rx_at tbX11_mark ndX11_mark (j := 63) rfl
theorem iX11_mark_113 : rx_ins mX11_mark 113 = some (15, 116, 4, 0, 117, []) := rx_at tbX11_mark ndX11_mark (j := 64) rfl
theorem iX11_pour_0 : rx_ins mX11_pour 0 = some (2, 1, 0, 1, 0, []) := rx_at tbX11_pour ndX11_pour (j := 0) rfl
theorem iX11_pour_1 : rx_ins mX11_pour 1 = some (28, 4, 0, 230, 1, [(247, 233)]) := rx_at tbX11_pour ndX11_pour (j := 1) rfl
theorem iX11_pour_4 : rx_ins mX11_pour 4 = some (13, 7, 6, 1, 10, []) := rx_at tbX11_pour ndX11_pour (j := 2) rfl
theorem iX11_pour_10 : rx_ins mX11_pour 10 = some (3, 11, 0, 0, 0, []) := rx_at tbX11_pour ndX11_pour (j := 5) rfl
theorem iX11_pour_11 : rx_ins mX11_pour 11 = some (18, 14, 0, 11, 39, [(84, 131)]) := rx_at tbX11_pour ndX11_pour (j := 6) rfl
theorem iX11_pour_14 : rx_ins mX11_pour 14 = some (2, 15, 0, 1, 0, []) := rx_at tbX11_pour ndX11_pour (j := 7) rfl
theorem iX11_pour_15 : rx_ins mX11_pour 15 = some (20, 16, 0, 0, 0, []) := rx_at tbX11_pour ndX11_pour (j := 8) rfl
theorem iX11_pour_16 : rx_ins mX11_pour 16 = some (13, 19, 6, 3, 22, []) := rx_at tbX11_pour ndX11_pour (j := 9) rfl
theorem iX11_pour_22 : rx_ins mX11_pour 22 = some (1, 23, 0, 0, 0, []) := rx_at tbX11_pour ndX11_pour (j := 12) rfl
theorem iX11_pour_23 : rx_ins mX11_pour 23 = some (4, 24, 0, 2, 0, []) := rx_at tbX11_pour ndX11_pour (j := 13) rfl
theorem iX11_pour_24 : rx_ins mX11_pour 24 = some (1, 25, 1, 0, 0, []) := rx_at tbX11_pour ndX11_pour (j := 14) rfl
theorem iX11_pour_25 : rx_ins mX11_pour 25 = some (4, 26, 0, 3, 0, []) := rx_at tbX11_pour ndX11_pour (j := 15) rfl
theorem iX11_pour_19 : rx_ins mX11_pour 19 = some (1, 21, (-1000000011), 3, 26, [(250, 0)]) := rx_at tbX11_pour ndX11_pour (j := 10) rfl
theorem iX11_pour_21 : rx_ins mX11_pour 21 = some (29, 22, 0, 0, 0, []) := rx_at tbX11_pour ndX11_pour (j := 11) rfl
theorem iX11_pour_7 : rx_ins mX11_pour 7 = some (1, 9, (-1000000001), 3, 21, [(130, 0)]) := rx_at tbX11_pour ndX11_pour (j := 3) rfl
theorem iX11_pour_9 : rx_ins mX11_pour 9 = some (29, 10, 0, 0, 0, []) := rx_at tbX11_pour ndX11_pour (j := 4) rfl
theorem iX11_pour_26 : rx_ins mX11_pour 26 = some (2, 27, 0, 3, 0, []) := rx_at tbX11_pour ndX11_pour (j := 16) rfl
theorem iX11_pour_27 : rx_ins mX11_pour 27 = some (13, 30, 104, 0, 131, []) := rx_at tbX11_pour ndX11_pour (j := 17) rfl
theorem iX11_pour_131 : rx_ins mX11_pour 131 = some (2, 132, 0, 2, 0, []) := rx_at tbX11_pour ndX11_pour (j := 75) rfl
theorem iX11_pour_132 : rx_ins mX11_pour 132 = some (29, 133, 0, 0, 0, []) := rx_at tbX11_pour ndX11_pour (j := 76) rfl
theorem iX11_pour_30 : rx_ins mX11_pour 30 = some (2, 31, 0, 2, 0, []) := rx_at tbX11_pour ndX11_pour (j := 18) rfl
theorem iX11_pour_31 : rx_ins mX11_pour 31 = some (3, 32, 0, 0, 0, []) := rx_at tbX11_pour ndX11_pour (j := 19) rfl
theorem iX11_pour_32 : rx_ins mX11_pour 32 = some (18, 35, 0, 11, 40, [(87, 132)]) := rx_at tbX11_pour ndX11_pour (j := 20) rfl
theorem iX11_pour_35 : rx_ins mX11_pour 35 = some (2, 36, 0, 1, 0, []) := rx_at tbX11_pour ndX11_pour (j := 21) rfl
theorem iX11_pour_36 : rx_ins mX11_pour 36 = some (20, 37, 0, 0, 0, []) := rx_at tbX11_pour ndX11_pour (j := 22) rfl
theorem iX11_pour_37 : rx_ins mX11_pour 37 = some (14, 40, 94, 3, 131, []) := rx_at tbX11_pour ndX11_pour (j := 23) rfl
theorem iX11_pour_40 : rx_ins mX11_pour 40 = some (3, 41, 0, 0, 0, []) := rx_at tbX11_pour ndX11_pour (j := 24) rfl
theorem iX11_pour_41 : rx_ins mX11_pour 41 = some (18, 44, 0, 11, 41, [(90, 134)]) := rx_at tbX11_pour ndX11_pour (j := 25) rfl
theorem iX11_pour_44 : rx_ins mX11_pour 44 = some (1, 46, 24, 1, 0, []) := rx_at tbX11_pour ndX11_pour (j := 26) rfl
theorem iX11_pour_46 : rx_ins mX11_pour 46 = some (2, 47, 0, 1, 0, []) := rx_at tbX11_pour ndX11_pour (j := 27) rfl
theorem iX11_pour_47 : rx_ins mX11_pour 47 = some (7, 48, 0, 2, 0, []) := rx_at tbX11_pour ndX11_pour (j := 28) rfl
theorem iX11_pour_48 : rx_ins mX11_pour 48 = some (2, 49, 0, 2, 0, []) := rx_at tbX11_pour ndX11_pour (j := 29) rfl
theorem iX11_pour_49 : rx_ins mX11_pour 49 = some (7, 50, 0, 0, 0, []) := rx_at tbX11_pour ndX11_pour (j := 30) rfl
theorem iX11_pour_50 : rx_ins mX11_pour 50 = some (20, 51, 0, 0, 0, []) := rx_at tbX11_pour ndX11_pour (j := 31) rfl
theorem iX11_pour_51 : rx_ins mX11_pour 51 = some (4, 53, 1, 4, 0, []) := rx_at tbX11_pour ndX11_pour (j := 32) rfl
theorem iX11_pour_53 : rx_ins mX11_pour 53 = some (2, 55, 1, 4, 0, []) := rx_at tbX11_pour ndX11_pour (j := 33) rfl
theorem iX11_pour_55 : rx_ins mX11_pour 55 = some (1, 56, 0, 0, 0, []) := rx_at tbX11_pour ndX11_pour (j := 34) rfl
theorem iX11_pour_56 : rx_ins mX11_pour 56 = some (1, 59, 9999, 2, 0, []) := rx_at tbX11_pour ndX11_pour (j := 35) rfl
theorem iX11_pour_59 : rx_ins mX11_pour 59 = some (28, 62, 0, 133, 3, [(111, 198)]) := rx_at tbX11_pour ndX11_pour (j := 36) rfl
theorem iX11_pour_62 : rx_ins mX11_pour 62 = some (13, 65, 35, 0, 97, []) := rx_at tbX11_pour ndX11_pour (j := 37) rfl
theorem iX11_pour_97 : rx_ins mX11_pour 97 = some (1, 98, 0, 0, 0, []) := rx_at tbX11_pour ndX11_pour (j := 55) rfl
theorem iX11_pour_98 : rx_ins mX11_pour 98 = some (4, 99, 0, 3, 0, []) := rx_at tbX11_pour ndX11_pour (j := 56) rfl
theorem iX11_pour_99 : rx_ins mX11_pour 99 = some (2, 100, 0, 2, 0, []) := rx_at tbX11_pour ndX11_pour (j := 57) rfl
theorem iX11_pour_100 : rx_ins mX11_pour 100 = some (2, 101, 0, 3, 0, []) := rx_at tbX11_pour ndX11_pour (j := 58) rfl
theorem iX11_pour_101 : rx_ins mX11_pour 101 = some (13, 104, 24, 0, 125, []) := rx_at tbX11_pour ndX11_pour (j := 59) rfl
theorem iX11_pour_125 : rx_ins mX11_pour 125 = some (1, 126, 0, 0, 0, []) := rx_at tbX11_pour ndX11_pour (j := 71) rfl
theorem iX11_pour_126 : rx_ins mX11_pour 126 = some (7, 127, 0, 0, 0, []) := rx_at tbX11_pour ndX11_pour (j := 72) rfl
theorem iX11_pour_127 : rx_ins mX11_pour 127 = some (4, 128, 0, 2, 0, []) := rx_at tbX11_pour ndX11_pour (j := 73) rfl
theorem iX11_pour_128 : rx_ins mX11_pour 128 = some (15, 131, (-102), 0, 26, []) := rx_at tbX11_pour ndX11_pour (j := 74) rfl
theorem iX11_pour_65 : rx_ins mX11_pour 65 = some (3, 66, 0, 0, 0, []) := rx_at tbX11_pour ndX11_pour (j := 38) rfl
theorem iX11_pour_66 : rx_ins mX11_pour 66 = some (2, 68, 1, 4, 0, []) := rx_at tbX11_pour ndX11_pour (j := 39) rfl
theorem iX11_pour_68 : rx_ins mX11_pour 68 = some (1, 70, 100, 1, 0, []) := rx_at tbX11_pour ndX11_pour (j := 40) rfl
theorem iX11_pour_70 : rx_ins mX11_pour 70 = some (8, 71, 0, 0, 0, []) := rx_at tbX11_pour ndX11_pour (j := 41) rfl
theorem iX11_pour_71 : rx_ins mX11_pour 71 = some (2, 73, 1, 4, 0, []) := rx_at tbX11_pour ndX11_pour (j := 42) rfl
theorem iX11_pour_73 : rx_ins mX11_pour 73 = some (1, 75, 100, 1, 0, []) := rx_at tbX11_pour ndX11_pour (j := 43) rfl
theorem iX11_pour_75 : rx_ins mX11_pour 75 = some (8, 76, 0, 1, 0, []) := rx_at tbX11_pour ndX11_pour (j := 44) rfl
theorem iX11_pour_76 : rx_ins mX11_pour 76 = some (28, 79, 13, 144, 3, [(131, 203)]) := rx_at tbX11_pour ndX11_pour (j := 45) rfl
theorem iX11_pour_79 : rx_ins mX11_pour 79 = some (13, 82, 18, 3, 97, []) := rx_at tbX11_pour ndX11_pour (j := 46) rfl
theorem iX11_pour_82 : rx_ins mX11_pour 82 = some (3, 83, 0, 0, 0, []) := rx_at tbX11_pour ndX11_pour (j := 47) rfl
theorem iX11_pour_83 : rx_ins mX11_pour 83 = some (18, 86, 0, 11, 0, [(9, 124)]) := rx_at tbX11_pour ndX11_pour (j := 48) rfl
theorem iX11_pour_86 : rx_ins mX11_pour 86 = some (1, 87, 1, 0, 0, []) := rx_at tbX11_pour ndX11_pour (j := 49) rfl
theorem iX11_pour_87 : rx_ins mX11_pour 87 = some (20, 88, 0, 0, 0, []) := rx_at tbX11_pour ndX11_pour (j := 50) rfl
theorem iX11_pour_88 : rx_ins mX11_pour 88 = some (1, 90, 8, 1, 0, []) := rx_at tbX11_pour ndX11_pour (j := 51) rfl
theorem iX11_pour_90 : rx_ins mX11_pour 90 = some (14, 93, 7, 3, 97, []) := rx_at tbX11_pour ndX11_pour (j := 52) rfl
theorem iX11_pour_93 : rx_ins mX11_pour 93 = some (1, 94, 1, 0, 0, []) := rx_at tbX11_pour ndX11_pour (j := 53) rfl
theorem iX11_pour_94 : rx_ins mX11_pour 94 = some (15, 97, 4, 0, 98, []) := rx_at tbX11_pour ndX11_pour (j := 54) rfl
theorem iX11_pour_104 : rx_ins mX11_pour 104 = some (3, 105, 0, 0, 0, []) := rx_at tbX11_pour ndX11_pour (j := 60) rfl
theorem iX11_pour_105 : rx_ins mX11_pour 105 = some (2, 107, 1, 4, 0, []) := rx_at tbX11_pour ndX11_pour (j := 61) rfl
theorem iX11_pour_107 : rx_ins mX11_pour 107 = some (1, 109, 100, 1, 0, []) := rx_at tbX11_pour ndX11_pour (j := 62) rfl
theorem iX11_pour_109 : rx_ins mX11_pour 109 = some (8, 110, 0, 0, 0, []) := rx_at tbX11_pour ndX11_pour (j := 63) rfl
theorem iX11_pour_110 : rx_ins mX11_pour 110 = some (2, 112, 1, 4, 0, []) := rx_at tbX11_pour ndX11_pour (j := 64) rfl
theorem iX11_pour_112 : rx_ins mX11_pour 112 = some (1, 114, 100, 1, 0, []) := rx_at tbX11_pour ndX11_pour (j := 65) rfl
theorem iX11_pour_114 : rx_ins mX11_pour 114 = some (8, 115, 0, 1, 0, []) := rx_at tbX11_pour ndX11_pour (j := 66) rfl
theorem iX11_pour_115 : rx_ins mX11_pour 115 = some (28, 118, 13, 146, 3, [(136, 204)]) := rx_at tbX11_pour ndX11_pour (j := 67) rfl
theorem iX11_pour_118 : rx_ins mX11_pour 118 = some (13, 121, 7, 2, 125, []) := rx_at tbX11_pour ndX11_pour (j := 68) rfl
theorem iX11_pour_121 : rx_ins mX11_pour 121 = some (1, 122, 1, 0, 0, []) := rx_at tbX11_pour ndX11_pour (j := 69) rfl
theorem iX11_pour_122 : rx_ins mX11_pour 122 = some (15, 125, 4, 0, 126, []) := rx_at tbX11_pour ndX11_pour (j := 70) rfl
theorem iX11_copy_0 : rx_ins mX11_copy 0 = some (2, 1, 0, 1, 0, []) := rx_at tbX11_copy ndX11_copy (j := 0) rfl
theorem iX11_copy_1 : rx_ins mX11_copy 1 = some (28, 4, 0, 230, 1, [(247, 233)]) := rx_at tbX11_copy ndX11_copy (j := 1) rfl
theorem iX11_copy_4 : rx_ins mX11_copy 4 = some (13, 7, 10, 0, 14, []) := rx_at tbX11_copy ndX11_copy (j := 2) rfl
theorem iX11_copy_14 : rx_ins mX11_copy 14 = some (1, 16, (-1000000001), 3, 21, [(130, 0)]) := rx_at tbX11_copy ndX11_copy (j := 6) rfl
theorem iX11_copy_16 : rx_ins mX11_copy 16 = some (29, 17, 0, 0, 0, []) := rx_at tbX11_copy ndX11_copy (j := 7) rfl
theorem iX11_copy_7 : rx_ins mX11_copy 7 = some (2, 8, 0, 3, 0, []) := rx_at tbX11_copy ndX11_copy (j := 3) rfl
theorem iX11_copy_8 : rx_ins mX11_copy 8 = some (28, 11, 0, 230, 1, [(247, 233)]) := rx_at tbX11_copy ndX11_copy (j := 4) rfl
theorem iX11_copy_11 : rx_ins mX11_copy 11 = some (13, 14, 6, 1, 17, []) := rx_at tbX11_copy ndX11_copy (j := 5) rfl
theorem iX11_copy_17 : rx_ins mX11_copy 17 = some (3, 18, 0, 0, 0, []) := rx_at tbX11_copy ndX11_copy (j := 8) rfl
theorem iX11_copy_18 : rx_ins mX11_copy 18 = some (18, 21, 0, 11, 39, [(84, 131)]) := rx_at tbX11_copy ndX11_copy (j := 9) rfl
theorem iX11_copy_21 : rx_ins mX11_copy 21 = some (2, 22, 0, 1, 0, []) := rx_at tbX11_copy ndX11_copy (j := 10) rfl
theorem iX11_copy_22 : rx_ins mX11_copy 22 = some (20, 23, 0, 0, 0, []) := rx_at tbX11_copy ndX11_copy (j := 11) rfl
theorem iX11_copy_23 : rx_ins mX11_copy 23 = some (13, 26, 12, 2, 35, []) := rx_at tbX11_copy ndX11_copy (j := 12) rfl
theorem iX11_copy_35 : rx_ins mX11_copy 35 = some (1, 37, (-1000000011), 3, 26, [(250, 0)]) := rx_at tbX11_copy ndX11_copy (j := 18) rfl
theorem iX11_copy_37 : rx_ins mX11_copy 37 = some (29, 38, 0, 0, 0, []) := rx_at tbX11_copy ndX11_copy (j := 19) rfl
theorem iX11_copy_26 : rx_ins mX11_copy 26 = some (3, 27, 0, 0, 0, []) := rx_at tbX11_copy ndX11_copy (j := 13) rfl
theorem iX11_copy_27 : rx_ins mX11_copy 27 = some (18, 30, 0, 11, 39, [(84, 131)]) := rx_at tbX11_copy ndX11_copy (j := 14) rfl
theorem iX11_copy_30 : rx_ins mX11_copy 30 = some (2, 31, 0, 3, 0, []) := rx_at tbX11_copy ndX11_copy (j := 15) rfl
theorem iX11_copy_31 : rx_ins mX11_copy 31 = some (20, 32, 0, 0, 0, []) := rx_at tbX11_copy ndX11_copy (j := 16) rfl
theorem iX11_copy_32 : rx_ins mX11_copy 32 = some (13, 35, 6, 3, 38, []) := rx_at tbX11_copy ndX11_copy (j := 17) rfl
theorem iX11_copy_38 : rx_ins mX11_copy 38 = some (3, 39, 0, 0, 0, []) := rx_at tbX11_copy ndX11_copy (j := 20) rfl
theorem iX11_copy_39 : rx_ins mX11_copy 39 = some (18, 42, 0, 11, 39, [(84, 131)]) := rx_at tbX11_copy ndX11_copy (j := 21) rfl
theorem iX11_copy_42 : rx_ins mX11_copy 42 = some (2, 43, 0, 1, 0, []) := rx_at tbX11_copy ndX11_copy (j := 22) rfl
theorem iX11_copy_43 : rx_ins mX11_copy 43 = some (20, 44, 0, 0, 0, []) := rx_at tbX11_copy ndX11_copy (j := 23) rfl
theorem iX11_copy_44 : rx_ins mX11_copy 44 = some (3, 45, 0, 0, 0, []) := rx_at tbX11_copy ndX11_copy (j := 24) rfl
theorem iX11_copy_45 : rx_ins mX11_copy 45 = some (18, 48, 0, 11, 39, [(84, 131)]) := rx_at tbX11_copy ndX11_copy (j := 25) rfl
theorem iX11_copy_48 : rx_ins mX11_copy 48 = some (2, 49, 0, 3, 0, []) := rx_at tbX11_copy ndX11_copy (j := 26) rfl
theorem iX11_copy_49 : rx_ins mX11_copy 49 = some (20, 50, 0, 0, 0, []) := rx_at tbX11_copy ndX11_copy (j := 27) rfl
theorem iX11_copy_50 : rx_ins mX11_copy 50 = some (14, 53, 6, 0, 56, []) := rx_at tbX11_copy ndX11_copy (j := 28) rfl
theorem iX11_copy_56 : rx_ins mX11_copy 56 = some (2, 57, 0, 2, 0, []) := rx_at tbX11_copy ndX11_copy (j := 31) rfl
theorem iX11_copy_57 : rx_ins mX11_copy 57 = some (13, 60, 40, 2, 97, []) := rx_at tbX11_copy ndX11_copy (j := 32) rfl
theorem iX11_copy_97 : rx_ins mX11_copy 97 = some (1, 100, (-1000000013), 4, 29, [(385, 0)]) := rx_at tbX11_copy ndX11_copy (j := 53) rfl
theorem iX11_copy_100 : rx_ins mX11_copy 100 = some (29, 101, 0, 0, 0, []) := rx_at tbX11_copy ndX11_copy (j := 54) rfl
theorem iX11_copy_60 : rx_ins mX11_copy 60 = some (2, 62, 1, 4, 0, []) := rx_at tbX11_copy ndX11_copy (j := 33) rfl
theorem iX11_copy_62 : rx_ins mX11_copy 62 = some (13, 65, 35, 2, 97, []) := rx_at tbX11_copy ndX11_copy (j := 34) rfl
theorem iX11_copy_65 : rx_ins mX11_copy 65 = some (2, 67, 1, 5, 0, []) := rx_at tbX11_copy ndX11_copy (j := 35) rfl
theorem iX11_copy_67 : rx_ins mX11_copy 67 = some (13, 70, 30, 2, 97, []) := rx_at tbX11_copy ndX11_copy (j := 36) rfl
theorem iX11_copy_70 : rx_ins mX11_copy 70 = some (2, 71, 0, 2, 0, []) := rx_at tbX11_copy ndX11_copy (j := 37) rfl
theorem iX11_copy_71 : rx_ins mX11_copy 71 = some (3, 72, 0, 0, 0, []) := rx_at tbX11_copy ndX11_copy (j := 38) rfl
theorem iX11_copy_72 : rx_ins mX11_copy 72 = some (18, 75, 0, 11, 40, [(87, 132)]) := rx_at tbX11_copy ndX11_copy (j := 39) rfl
theorem iX11_copy_75 : rx_ins mX11_copy 75 = some (2, 76, 0, 1, 0, []) := rx_at tbX11_copy ndX11_copy (j := 40) rfl
theorem iX11_copy_76 : rx_ins mX11_copy 76 = some (20, 77, 0, 0, 0, []) := rx_at tbX11_copy ndX11_copy (j := 41) rfl
theorem iX11_copy_77 : rx_ins mX11_copy 77 = some (2, 79, 1, 5, 0, []) := rx_at tbX11_copy ndX11_copy (j := 42) rfl
theorem iX11_copy_79 : rx_ins mX11_copy 79 = some (7, 80, 0, 1, 0, []) := rx_at tbX11_copy ndX11_copy (j := 43) rfl
theorem iX11_copy_80 : rx_ins mX11_copy 80 = some (14, 83, 17, 4, 97, []) := rx_at tbX11_copy ndX11_copy (j := 44) rfl
theorem iX11_copy_83 : rx_ins mX11_copy 83 = some (2, 85, 1, 4, 0, []) := rx_at tbX11_copy ndX11_copy (j := 45) rfl
theorem iX11_copy_85 : rx_ins mX11_copy 85 = some (3, 86, 0, 0, 0, []) := rx_at tbX11_copy ndX11_copy (j := 46) rfl
theorem iX11_copy_86 : rx_ins mX11_copy 86 = some (18, 89, 0, 11, 40, [(87, 132)]) := rx_at tbX11_copy ndX11_copy (j := 47) rfl
theorem iX11_copy_89 : rx_ins mX11_copy 89 = some (2, 90, 0, 3, 0, []) := rx_at tbX11_copy ndX11_copy (j := 48) rfl
theorem iX11_copy_90 : rx_ins mX11_copy 90 = some (20, 91, 0, 0, 0, []) := rx_at tbX11_copy ndX11_copy (j := 49) rfl
theorem iX11_copy_91 : rx_ins mX11_copy 91 = some (2, 93, 1, 5, 0, []) := rx_at tbX11_copy ndX11_copy (j := 50) rfl
theorem iX11_copy_93 : rx_ins mX11_copy 93 = some (7, 94, 0, 1, 0, []) := rx_at tbX11_copy ndX11_copy (j := 51) rfl
theorem iX11_copy_94 : rx_ins mX11_copy 94 = some (14, 97, 7, 5, 101, []) := rx_at tbX11_copy ndX11_copy (j := 52) rfl
theorem iX11_copy_101 : rx_ins mX11_copy 101 = some (1, 102, 0, 0, 0, []) := rx_at tbX11_copy ndX11_copy (j := 55) rfl
theorem iX11_copy_102 : rx_ins mX11_copy 102 = some (4, 104, 1, 6, 0, []) := rx_at tbX11_copy ndX11_copy (j := 56) rfl
theorem iX11_copy_53 : rx_ins mX11_copy 53 = some (1, 55, (-1000000012), 3, 24, [(187, 0)]) := rx_at tbX11_copy ndX11_copy (j := 29) rfl
theorem iX11_copy_55 : rx_ins mX11_copy 55 = some (29, 56, 0, 0, 0, []) := rx_at tbX11_copy ndX11_copy (j := 30) rfl
theorem iX11_copy_104 : rx_ins mX11_copy 104 = some (2, 106, 1, 6, 0, []) := rx_at tbX11_copy ndX11_copy (j := 57) rfl
theorem iX11_copy_106 : rx_ins mX11_copy 106 = some (2, 108, 1, 5, 0, []) := rx_at tbX11_copy ndX11_copy (j := 58) rfl
theorem iX11_copy_108 : rx_ins mX11_copy 108 = some (14, 111, 30, 3, 138, []) := rx_at tbX11_copy ndX11_copy (j := 59) rfl
theorem iX11_copy_138 : rx_ins mX11_copy 138 = some (1, 139, 0, 0, 0, []) := rx_at tbX11_copy ndX11_copy (j := 76) rfl
theorem iX11_copy_139 : rx_ins mX11_copy 139 = some (4, 141, 1, 6, 0, []) := rx_at tbX11_copy ndX11_copy (j := 77) rfl
theorem iX11_copy_111 : rx_ins mX11_copy 111 = some (3, 112, 0, 0, 0, []) := rx_at tbX11_copy ndX11_copy (j := 60) rfl
theorem iX11_copy_112 : rx_ins mX11_copy 112 = some (18, 115, 0, 11, 46, [(105, 163)]) := rx_at tbX11_copy ndX11_copy (j := 61) rfl
theorem iX11_copy_115 : rx_ins mX11_copy 115 = some (2, 117, 1, 6, 0, []) := rx_at tbX11_copy ndX11_copy (j := 62) rfl
theorem iX11_copy_117 : rx_ins mX11_copy 117 = some (3, 118, 0, 0, 0, []) := rx_at tbX11_copy ndX11_copy (j := 63) rfl
theorem iX11_copy_118 : rx_ins mX11_copy 118 = some (18, 121, 0, 11, 41, [(90, 134)]) := rx_at tbX11_copy ndX11_copy (j := 64) rfl
theorem iX11_copy_121 : rx_ins mX11_copy 121 = some (1, 123, 24, 1, 0, []) := rx_at tbX11_copy ndX11_copy (j := 65) rfl
theorem iX11_copy_123 : rx_ins mX11_copy 123 = some (2, 124, 0, 1, 0, []) := rx_at tbX11_copy ndX11_copy (j := 66) rfl
theorem iX11_copy_124 : rx_ins mX11_copy 124 = some (7, 125, 0, 2, 0, []) := rx_at tbX11_copy ndX11_copy (j := 67) rfl
theorem iX11_copy_125 : rx_ins mX11_copy 125 = some (2, 126, 0, 2, 0, []) := rx_at tbX11_copy ndX11_copy (j := 68) rfl
theorem iX11_copy_126 : rx_ins mX11_copy 126 = some (7, 127, 0, 0, 0, []) := rx_at tbX11_copy ndX11_copy (j := 69) rfl
theorem iX11_copy_127 : rx_ins mX11_copy 127 = some (2, 129, 1, 6, 0, []) := rx_at tbX11_copy ndX11_copy (j := 70) rfl
theorem iX11_copy_129 : rx_ins mX11_copy 129 = some (7, 130, 0, 0, 0, []) := rx_at tbX11_copy ndX11_copy (j := 71) rfl
theorem iX11_copy_130 : rx_ins mX11_copy 130 = some (20, 131, 0, 0, 0, []) := rx_at tbX11_copy ndX11_copy (j := 72) rfl
theorem iX11_copy_131 : rx_ins mX11_copy 131 = some (21, 132, 0, 0, 0, []) := rx_at tbX11_copy ndX11_copy (j := 73) rfl
theorem iX11_copy_132 : rx_ins mX11_copy 132 = some (6, 135, 1, 6, 0, []) := rx_at tbX11_copy ndX11_copy (j := 74) rfl
theorem iX11_copy_135 : rx_ins mX11_copy 135 = some (15, 138, (-31), 0, 104, []) := rx_at tbX11_copy ndX11_copy (j := 75) rfl
theorem iX11_copy_141 : rx_ins mX11_copy 141 = some (2, 143, 1, 6, 0, []) := rx_at tbX11_copy ndX11_copy (j := 78) rfl
theorem iX11_copy_143 : rx_ins mX11_copy 143 = some (2, 145, 1, 5, 0, []) := rx_at tbX11_copy ndX11_copy (j := 79) rfl
theorem iX11_copy_145 : rx_ins mX11_copy 145 = some (14, 148, 31, 3, 176, []) := rx_at tbX11_copy ndX11_copy (j := 80) rfl
theorem iX11_copy_176 : rx_ins mX11_copy 176 = some (2, 178, 1, 5, 0, []) := rx_at tbX11_copy ndX11_copy (j := 97) rfl
theorem iX11_copy_178 : rx_ins mX11_copy 178 = some (29, 179, 0, 0, 0, []) := rx_at tbX11_copy ndX11_copy (j := 98) rfl
theorem iX11_copy_148 : rx_ins mX11_copy 148 = some (3, 149, 0, 0, 0, []) := rx_at tbX11_copy ndX11_copy (j := 81) rfl
theorem iX11_copy_149 : rx_ins mX11_copy 149 = some (18, 152, 0, 11, 41, [(90, 134)]) := rx_at tbX11_copy ndX11_copy (j := 82) rfl
theorem iX11_copy_152 : rx_ins mX11_copy 152 = some (1, 154, 24, 1, 0, []) := rx_at tbX11_copy ndX11_copy (j := 83) rfl
theorem iX11_copy_154 : rx_ins mX11_copy 154 = some (2, 155, 0, 3, 0, []) := rx_at tbX11_copy ndX11_copy (j := 84) rfl
theorem iX11_copy_155 : rx_ins mX11_copy 155 = some (7, 156, 0, 2, 0, []) := rx_at tbX11_copy ndX11_copy (j := 85) rfl
theorem iX11_copy_156 : rx_ins mX11_copy 156 = some (2, 158, 1, 4, 0, []) := rx_at tbX11_copy ndX11_copy (j := 86) rfl
theorem iX11_copy_158 : rx_ins mX11_copy 158 = some (7, 159, 0, 0, 0, []) := rx_at tbX11_copy ndX11_copy (j := 87) rfl
theorem iX11_copy_159 : rx_ins mX11_copy 159 = some (2, 161, 1, 6, 0, []) := rx_at tbX11_copy ndX11_copy (j := 88) rfl
theorem iX11_copy_161 : rx_ins mX11_copy 161 = some (7, 162, 0, 0, 0, []) := rx_at tbX11_copy ndX11_copy (j := 89) rfl
theorem iX11_copy_162 : rx_ins mX11_copy 162 = some (3, 163, 0, 0, 0, []) := rx_at tbX11_copy ndX11_copy (j := 90) rfl
theorem iX11_copy_163 : rx_ins mX11_copy 163 = some (18, 166, 0, 11, 46, [(105, 163)]) := rx_at tbX11_copy ndX11_copy (j := 91) rfl
theorem iX11_copy_166 : rx_ins mX11_copy 166 = some (2, 168, 1, 6, 0, []) := rx_at tbX11_copy ndX11_copy (j := 92) rfl
theorem iX11_copy_168 : rx_ins mX11_copy 168 = some (20, 169, 0, 0, 0, []) := rx_at tbX11_copy ndX11_copy (j := 93) rfl
theorem iX11_copy_169 : rx_ins mX11_copy 169 = some (21, 170, 0, 0, 0, []) := rx_at tbX11_copy ndX11_copy (j := 94) rfl
theorem iX11_copy_170 : rx_ins mX11_copy 170 = some (6, 173, 1, 6, 0, []) := rx_at tbX11_copy ndX11_copy (j := 95) rfl
theorem iX11_copy_173 : rx_ins mX11_copy 173 = some (15, 176, (-32), 0, 141, []) := rx_at tbX11_copy ndX11_copy (j := 96) rfl
theorem iX11_lay_0 : rx_ins mX11_lay 0 = some (2, 1, 0, 1, 0, []) := rx_at tbX11_lay ndX11_lay (j := 0) rfl
theorem iX11_lay_1 : rx_ins mX11_lay 1 = some (28, 4, 0, 231, 1, [(388, 265)]) := rx_at tbX11_lay ndX11_lay (j := 1) rfl
theorem iX11_lay_4 : rx_ins mX11_lay 4 = some (13, 7, 37, 0, 41, []) := rx_at tbX11_lay ndX11_lay (j := 2) rfl
theorem iX11_lay_41 : rx_ins mX11_lay 41 = some (1, 43, (-1000000001), 3, 21, [(130, 0)]) := rx_at tbX11_lay ndX11_lay (j := 21) rfl
theorem iX11_lay_43 : rx_ins mX11_lay 43 = some (29, 44, 0, 0, 0, []) := rx_at tbX11_lay ndX11_lay (j := 22) rfl
theorem iX11_lay_7 : rx_ins mX11_lay 7 = some (2, 8, 0, 2, 0, []) := rx_at tbX11_lay ndX11_lay (j := 3) rfl
theorem iX11_lay_8 : rx_ins mX11_lay 8 = some (1, 9, 0, 0, 0, []) := rx_at tbX11_lay ndX11_lay (j := 4) rfl
theorem iX11_lay_9 : rx_ins mX11_lay 9 = some (1, 10, 3, 0, 0, []) := rx_at tbX11_lay ndX11_lay (j := 5) rfl
theorem iX11_lay_10 : rx_ins mX11_lay 10 = some (28, 13, 0, 133, 3, [(111, 198)]) := rx_at tbX11_lay ndX11_lay (j := 6) rfl
theorem iX11_lay_13 : rx_ins mX11_lay 13 = some (13, 16, 28, 0, 41, []) := rx_at tbX11_lay ndX11_lay (j := 7) rfl
theorem iX11_lay_16 : rx_ins mX11_lay 16 = some (2, 17, 0, 2, 0, []) := rx_at tbX11_lay ndX11_lay (j := 8) rfl
theorem iX11_lay_17 : rx_ins mX11_lay 17 = some (1, 18, 1, 0, 0, []) := rx_at tbX11_lay ndX11_lay (j := 9) rfl
theorem iX11_lay_18 : rx_ins mX11_lay 18 = some (14, 21, 11, 1, 29, []) := rx_at tbX11_lay ndX11_lay (j := 10) rfl
theorem iX11_lay_21 : rx_ins mX11_lay 21 = some (3, 22, 0, 0, 0, []) := rx_at tbX11_lay ndX11_lay (j := 11) rfl
theorem iX11_lay_22 : rx_ins mX11_lay 22 = some (2, 23, 0, 3, 0, []) := rx_at tbX11_lay ndX11_lay (j := 12) rfl
theorem iX11_lay_23 : rx_ins mX11_lay 23 = some (28, 26, 13, 137, 2, [(175, 216)]) := rx_at tbX11_lay ndX11_lay (j := 13) rfl
theorem iX11_lay_26 : rx_ins mX11_lay 26 = some (13, 29, 15, 0, 41, []) := rx_at tbX11_lay ndX11_lay (j := 14) rfl
theorem iX11_lay_29 : rx_ins mX11_lay 29 = some (2, 30, 0, 2, 0, []) := rx_at tbX11_lay ndX11_lay (j := 15) rfl
theorem iX11_lay_30 : rx_ins mX11_lay 30 = some (1, 31, 2, 0, 0, []) := rx_at tbX11_lay ndX11_lay (j := 16) rfl
theorem iX11_lay_31 : rx_ins mX11_lay 31 = some (14, 34, 13, 1, 44, []) := rx_at tbX11_lay ndX11_lay (j := 17) rfl
theorem iX11_lay_34 : rx_ins mX11_lay 34 = some (2, 35, 0, 3, 0, []) := rx_at tbX11_lay ndX11_lay (j := 18) rfl
theorem iX11_lay_35 : rx_ins mX11_lay 35 = some (28, 38, 0, 230, 1, [(247, 233)]) := rx_at tbX11_lay ndX11_lay (j := 19) rfl
theorem iX11_lay_38 : rx_ins mX11_lay 38 = some (13, 41, 6, 1, 44, []) := rx_at tbX11_lay ndX11_lay (j := 20) rfl
theorem iX11_lay_44 : rx_ins mX11_lay 44 = some (2, 45, 0, 2, 0, []) := rx_at tbX11_lay ndX11_lay (j := 23) rfl
theorem iX11_lay_45 : rx_ins mX11_lay 45 = some (1, 46, 2, 0, 0, []) := rx_at tbX11_lay ndX11_lay (j := 24) rfl
theorem iX11_lay_46 : rx_ins mX11_lay 46 = some (14, 49, 15, 1, 61, []) := rx_at tbX11_lay ndX11_lay (j := 25) rfl
theorem iX11_lay_49 : rx_ins mX11_lay 49 = some (3, 50, 0, 0, 0, []) := rx_at tbX11_lay ndX11_lay (j := 26) rfl
theorem iX11_lay_50 : rx_ins mX11_lay 50 = some (18, 53, 0, 11, 39, [(84, 131)]) := rx_at tbX11_lay ndX11_lay (j := 27) rfl
theorem iX11_lay_53 : rx_ins mX11_lay 53 = some (2, 54, 0, 3, 0, []) := rx_at tbX11_lay ndX11_lay (j := 28) rfl
theorem iX11_lay_54 : rx_ins mX11_lay 54 = some (20, 55, 0, 0, 0, []) := rx_at tbX11_lay ndX11_lay (j := 29) rfl
theorem iX11_lay_55 : rx_ins mX11_lay 55 = some (13, 58, 6, 3, 61, []) := rx_at tbX11_lay ndX11_lay (j := 30) rfl
theorem iX11_lay_58 : rx_ins mX11_lay 58 = some (1, 60, (-1000000011), 3, 26, [(250, 0)]) := rx_at tbX11_lay ndX11_lay (j := 31) rfl
theorem iX11_lay_60 : rx_ins mX11_lay 60 = some (29, 61, 0, 0, 0, []) := rx_at tbX11_lay ndX11_lay (j := 32) rfl
theorem iX11_lay_61 : rx_ins mX11_lay 61 = some (3, 62, 0, 0, 0, []) := rx_at tbX11_lay ndX11_lay (j := 33) rfl
theorem iX11_lay_62 : rx_ins mX11_lay 62 = some (18, 65, 0, 11, 42, [(93, 164)]) := rx_at tbX11_lay ndX11_lay (j := 34) rfl
theorem iX11_lay_65 : rx_ins mX11_lay 65 = some (2, 66, 0, 1, 0, []) := rx_at tbX11_lay ndX11_lay (j := 35) rfl
theorem iX11_lay_66 : rx_ins mX11_lay 66 = some (20, 67, 0, 0, 0, []) := rx_at tbX11_lay ndX11_lay (j := 36) rfl
theorem iX11_lay_67 : rx_ins mX11_lay 67 = some (4, 69, 1, 4, 0, []) := rx_at tbX11_lay ndX11_lay (j := 37) rfl
theorem iX11_lay_69 : rx_ins mX11_lay 69 = some (3, 70, 0, 0, 0, []) := rx_at tbX11_lay ndX11_lay (j := 38) rfl
theorem iX11_lay_70 : rx_ins mX11_lay 70 = some (18, 73, 0, 11, 42, [(93, 164)]) := rx_at tbX11_lay ndX11_lay (j := 39) rfl
theorem iX11_lay_73 : rx_ins mX11_lay 73 = some (2, 74, 0, 1, 0, []) := rx_at tbX11_lay ndX11_lay (j := 40) rfl
theorem iX11_lay_74 : rx_ins mX11_lay 74 = some (2, 75, 0, 2, 0, []) := rx_at tbX11_lay ndX11_lay (j := 41) rfl
theorem iX11_lay_75 : rx_ins mX11_lay 75 = some (21, 76, 0, 0, 0, []) := rx_at tbX11_lay ndX11_lay (j := 42) rfl
theorem iX11_lay_76 : rx_ins mX11_lay 76 = some (3, 77, 0, 0, 0, []) := rx_at tbX11_lay ndX11_lay (j := 43) rfl
theorem iX11_lay_77 : rx_ins mX11_lay 77 = some (18, 80, 0, 11, 43, [(96, 165)]) := rx_at tbX11_lay ndX11_lay (j := 44) rfl
theorem iX11_lay_80 : rx_ins mX11_lay 80 = some (2, 81, 0, 1, 0, []) := rx_at tbX11_lay ndX11_lay (j := 45) rfl
theorem iX11_lay_81 : rx_ins mX11_lay 81 = some (2, 82, 0, 2, 0, []) := rx_at tbX11_lay ndX11_lay (j := 46) rfl
theorem iX11_lay_82 : rx_ins mX11_lay 82 = some (1, 83, 1, 0, 0, []) := rx_at tbX11_lay ndX11_lay (j := 47) rfl
theorem iX11_lay_83 : rx_ins mX11_lay 83 = some (14, 86, 12, 1, 95, []) := rx_at tbX11_lay ndX11_lay (j := 48) rfl
theorem iX11_lay_95 : rx_ins mX11_lay 95 = some (2, 96, 0, 2, 0, []) := rx_at tbX11_lay ndX11_lay (j := 54) rfl
theorem iX11_lay_96 : rx_ins mX11_lay 96 = some (1, 97, 2, 0, 0, []) := rx_at tbX11_lay ndX11_lay (j := 55) rfl
theorem iX11_lay_97 : rx_ins mX11_lay 97 = some (14, 100, 12, 1, 109, []) := rx_at tbX11_lay ndX11_lay (j := 56) rfl
theorem iX11_lay_109 : rx_ins mX11_lay 109 = some (2, 110, 0, 3, 0, []) := rx_at tbX11_lay ndX11_lay (j := 62) rfl
theorem iX11_lay_110 : rx_ins mX11_lay 110 = some (21, 111, 0, 0, 0, []) := rx_at tbX11_lay ndX11_lay (j := 63) rfl
theorem iX11_lay_100 : rx_ins mX11_lay 100 = some (3, 101, 0, 0, 0, []) := rx_at tbX11_lay ndX11_lay (j := 57) rfl
theorem iX11_lay_101 : rx_ins mX11_lay 101 = some (18, 104, 0, 11, 40, [(87, 132)]) := rx_at tbX11_lay ndX11_lay (j := 58) rfl
theorem iX11_lay_104 : rx_ins mX11_lay 104 = some (2, 105, 0, 3, 0, []) := rx_at tbX11_lay ndX11_lay (j := 59) rfl
theorem iX11_lay_105 : rx_ins mX11_lay 105 = some (20, 106, 0, 0, 0, []) := rx_at tbX11_lay ndX11_lay (j := 60) rfl
theorem iX11_lay_106 : rx_ins mX11_lay 106 = some (15, 109, 4, 0, 110, []) := rx_at tbX11_lay ndX11_lay (j := 61) rfl
theorem iX11_lay_86 : rx_ins mX11_lay 86 = some (3, 87, 0, 0, 0, []) := rx_at tbX11_lay ndX11_lay (j := 49) rfl
theorem iX11_lay_87 : rx_ins mX11_lay 87 = some (2, 88, 0, 3, 0, []) := rx_at tbX11_lay ndX11_lay (j := 50) rfl
theorem iX11_lay_88 : rx_ins mX11_lay 88 = some (1, 89, 0, 0, 0, []) := rx_at tbX11_lay ndX11_lay (j := 51) rfl
theorem iX11_lay_89 : rx_ins mX11_lay 89 = some (28, 92, 13, 141, 3, [(115, 199)]) := rx_at tbX11_lay ndX11_lay (j := 52) rfl
theorem iX11_lay_92 : rx_ins mX11_lay 92 = some (15, 95, 18, 0, 110, []) := rx_at tbX11_lay ndX11_lay (j := 53) rfl
theorem iX11_lay_111 : rx_ins mX11_lay 111 = some (3, 112, 0, 0, 0, []) := rx_at tbX11_lay ndX11_lay (j := 64) rfl
theorem iX11_lay_112 : rx_ins mX11_lay 112 = some (18, 115, 0, 11, 44, [(99, 166)]) := rx_at tbX11_lay ndX11_lay (j := 65) rfl
theorem iX11_lay_115 : rx_ins mX11_lay 115 = some (2, 116, 0, 1, 0, []) := rx_at tbX11_lay ndX11_lay (j := 66) rfl
theorem iX11_lay_116 : rx_ins mX11_lay 116 = some (2, 117, 0, 2, 0, []) := rx_at tbX11_lay ndX11_lay (j := 67) rfl
theorem iX11_lay_117 : rx_ins mX11_lay 117 = some (1, 118, 1, 0, 0, []) := rx_at tbX11_lay ndX11_lay (j := 68) rfl
theorem iX11_lay_118 : rx_ins mX11_lay 118 = some (14, 121, 21, 1, 139, []) := rx_at tbX11_lay ndX11_lay (j := 69) rfl
theorem iX11_lay_139 : rx_ins mX11_lay 139 = some (1, 140, 0, 0, 0, []) := rx_at tbX11_lay ndX11_lay (j := 80) rfl
theorem iX11_lay_140 : rx_ins mX11_lay 140 = some (21, 141, 0, 0, 0, []) := rx_at tbX11_lay ndX11_lay (j := 81) rfl
theorem iX11_lay_121 : rx_ins mX11_lay 121 = some (3, 122, 0, 0, 0, []) := rx_at tbX11_lay ndX11_lay (j := 70) rfl
theorem iX11_lay_122 : rx_ins mX11_lay 122 = some (2, 123, 0, 3, 0, []) := rx_at tbX11_lay ndX11_lay (j := 71) rfl
theorem iX11_lay_123 : rx_ins mX11_lay 123 = some (1, 124, 0, 0, 0, []) := rx_at tbX11_lay ndX11_lay (j := 72) rfl
theorem iX11_lay_124 : rx_ins mX11_lay 124 = some (28, 127, 13, 141, 3, [(115, 199)]) := rx_at tbX11_lay ndX11_lay (j := 73) rfl
theorem iX11_lay_127 : rx_ins mX11_lay 127 = some (3, 128, 0, 0, 0, []) := rx_at tbX11_lay ndX11_lay (j := 74) rfl
theorem iX11_lay_128 : rx_ins mX11_lay 128 = some (2, 129, 0, 3, 0, []) := rx_at tbX11_lay ndX11_lay (j := 75) rfl
theorem iX11_lay_129 : rx_ins mX11_lay 129 = some (1, 130, 3, 0, 0, []) := rx_at tbX11_lay ndX11_lay (j := 76) rfl
theorem iX11_lay_130 : rx_ins mX11_lay 130 = some (28, 133, 13, 141, 3, [(115, 199)]) := rx_at tbX11_lay ndX11_lay (j := 77) rfl
theorem iX11_lay_133 : rx_ins mX11_lay 133 = some (28, 136, 0, 157, 2, [(181, 218)]) := rx_at tbX11_lay ndX11_lay (j := 78) rfl
theorem iX11_lay_136 : rx_ins mX11_lay 136 = some (15, 139, 4, 0, 140, []) := rx_at tbX11_lay ndX11_lay (j := 79) rfl
theorem iX11_lay_141 : rx_ins mX11_lay 141 = some (1, 142, 0, 0, 0, []) := rx_at tbX11_lay ndX11_lay (j := 82) rfl
theorem iX11_lay_142 : rx_ins mX11_lay 142 = some (4, 144, 1, 5, 0, []) := rx_at tbX11_lay ndX11_lay (j := 83) rfl
theorem iX11_lay_144 : rx_ins mX11_lay 144 = some (2, 146, 1, 5, 0, []) := rx_at tbX11_lay ndX11_lay (j := 84) rfl
theorem iX11_lay_146 : rx_ins mX11_lay 146 = some (1, 148, 24, 1, 0, []) := rx_at tbX11_lay ndX11_lay (j := 85) rfl
theorem iX11_lay_148 : rx_ins mX11_lay 148 = some (14, 151, 38, 3, 186, []) := rx_at tbX11_lay ndX11_lay (j := 86) rfl
theorem iX11_lay_151 : rx_ins mX11_lay 151 = some (2, 152, 0, 2, 0, []) := rx_at tbX11_lay ndX11_lay (j := 87) rfl
theorem iX11_lay_152 : rx_ins mX11_lay 152 = some (1, 153, 2, 0, 0, []) := rx_at tbX11_lay ndX11_lay (j := 88) rfl
theorem iX11_lay_153 : rx_ins mX11_lay 153 = some (14, 156, 33, 1, 186, []) := rx_at tbX11_lay ndX11_lay (j := 89) rfl
theorem iX11_lay_156 : rx_ins mX11_lay 156 = some (3, 157, 0, 0, 0, []) := rx_at tbX11_lay ndX11_lay (j := 90) rfl
theorem iX11_lay_157 : rx_ins mX11_lay 157 = some (18, 160, 0, 11, 45, [(102, 167)]) := rx_at tbX11_lay ndX11_lay (j := 91) rfl
theorem iX11_lay_160 : rx_ins mX11_lay 160 = some (1, 162, 24, 1, 0, []) := rx_at tbX11_lay ndX11_lay (j := 92) rfl
theorem iX11_lay_162 : rx_ins mX11_lay 162 = some (2, 163, 0, 1, 0, []) := rx_at tbX11_lay ndX11_lay (j := 93) rfl
theorem iX11_lay_163 : rx_ins mX11_lay 163 = some (7, 164, 0, 2, 0, []) := rx_at tbX11_lay ndX11_lay (j := 94) rfl
theorem iX11_lay_164 : rx_ins mX11_lay 164 = some (2, 166, 1, 5, 0, []) := rx_at tbX11_lay ndX11_lay (j := 95) rfl
theorem iX11_lay_166 : rx_ins mX11_lay 166 = some (7, 167, 0, 0, 0, []) := rx_at tbX11_lay ndX11_lay (j := 96) rfl
theorem iX11_lay_167 : rx_ins mX11_lay 167 = some (3, 168, 0, 0, 0, []) := rx_at tbX11_lay ndX11_lay (j := 97) rfl
theorem iX11_lay_168 : rx_ins mX11_lay 168 = some (18, 171, 0, 11, 41, [(90, 134)]) := rx_at tbX11_lay ndX11_lay (j := 98) rfl
theorem iX11_lay_171 : rx_ins mX11_lay 171 = some (1, 173, 24, 1, 0, []) := rx_at tbX11_lay ndX11_lay (j := 99) rfl
theorem iX11_lay_173 : rx_ins mX11_lay 173 = some (2, 174, 0, 3, 0, []) := rx_at tbX11_lay ndX11_lay (j := 100) rfl
theorem iX11_lay_174 : rx_ins mX11_lay 174 = some (7, 175, 0, 2, 0, []) := rx_at tbX11_lay ndX11_lay (j := 101) rfl
theorem iX11_lay_175 : rx_ins mX11_lay 175 = some (2, 177, 1, 5, 0, []) := rx_at tbX11_lay ndX11_lay (j := 102) rfl
theorem iX11_lay_177 : rx_ins mX11_lay 177 = some (7, 178, 0, 0, 0, []) := rx_at tbX11_lay ndX11_lay (j := 103) rfl
theorem iX11_lay_178 : rx_ins mX11_lay 178 = some (20, 179, 0, 0, 0, []) := rx_at tbX11_lay ndX11_lay (j := 104) rfl
theorem iX11_lay_179 : rx_ins mX11_lay 179 = some (21, 180, 0, 0, 0, []) := rx_at tbX11_lay ndX11_lay (j := 105) rfl
theorem iX11_lay_180 : rx_ins mX11_lay 180 = some (6, 183, 1, 5, 0, []) := rx_at tbX11_lay ndX11_lay (j := 106) rfl
theorem iX11_lay_183 : rx_ins mX11_lay 183 = some (15, 186, (-39), 0, 144, []) := rx_at tbX11_lay ndX11_lay (j := 107) rfl
theorem iX11_lay_186 : rx_ins mX11_lay 186 = some (2, 188, 1, 4, 0, []) := rx_at tbX11_lay ndX11_lay (j := 108) rfl
theorem iX11_lay_188 : rx_ins mX11_lay 188 = some (29, 189, 0, 0, 0, []) := rx_at tbX11_lay ndX11_lay (j := 109) rfl
theorem iX11_ask_0 : rx_ins mX11_ask 0 = some (2, 1, 0, 1, 0, []) := rx_at tbX11_ask ndX11_ask (j := 0) rfl
theorem iX11_ask_1 : rx_ins mX11_ask 1 = some (28, 4, 0, 231, 1, [(388, 265)]) := rx_at tbX11_ask ndX11_ask (j := 1) rfl
theorem iX11_ask_4 : rx_ins mX11_ask 4 = some (13, 7, 12, 0, 16, []) := rx_at tbX11_ask ndX11_ask (j := 2) rfl
theorem iX11_ask_16 : rx_ins mX11_ask 16 = some (1, 18, (-1000000001), 3, 21, [(130, 0)]) := rx_at tbX11_ask ndX11_ask (j := 8) rfl
theorem iX11_ask_18 : rx_ins mX11_ask 18 = some (29, 19, 0, 0, 0, []) := rx_at tbX11_ask ndX11_ask (j := 9) rfl
theorem iX11_ask_7 : rx_ins mX11_ask 7 = some (2, 8, 0, 2, 0, []) := rx_at tbX11_ask ndX11_ask (j := 3) rfl
theorem iX11_ask_8 : rx_ins mX11_ask 8 = some (1, 9, 0, 0, 0, []) := rx_at tbX11_ask ndX11_ask (j := 4) rfl
theorem iX11_ask_9 : rx_ins mX11_ask 9 = some (1, 10, 5, 0, 0, []) := rx_at tbX11_ask ndX11_ask (j := 5) rfl
theorem iX11_ask_10 : rx_ins mX11_ask 10 = some (28, 13, 0, 133, 3, [(111, 198)]) := rx_at tbX11_ask ndX11_ask (j := 6) rfl
theorem iX11_ask_13 : rx_ins mX11_ask 13 = some (13, 16, 6, 1, 19, []) := rx_at tbX11_ask ndX11_ask (j := 7) rfl
theorem iX11_ask_19 : rx_ins mX11_ask 19 = some (3, 20, 0, 0, 0, []) := rx_at tbX11_ask ndX11_ask (j := 10) rfl
theorem iX11_ask_20 : rx_ins mX11_ask 20 = some (18, 23, 0, 11, 42, [(93, 164)]) := rx_at tbX11_ask ndX11_ask (j := 11) rfl
theorem iX11_ask_23 : rx_ins mX11_ask 23 = some (2, 24, 0, 1, 0, []) := rx_at tbX11_ask ndX11_ask (j := 12) rfl
theorem iX11_ask_24 : rx_ins mX11_ask 24 = some (20, 25, 0, 0, 0, []) := rx_at tbX11_ask ndX11_ask (j := 13) rfl
theorem iX11_ask_25 : rx_ins mX11_ask 25 = some (13, 28, 6, 1, 31, []) := rx_at tbX11_ask ndX11_ask (j := 14) rfl
theorem iX11_ask_31 : rx_ins mX11_ask 31 = some (3, 32, 0, 0, 0, []) := rx_at tbX11_ask ndX11_ask (j := 17) rfl
theorem iX11_ask_32 : rx_ins mX11_ask 32 = some (18, 35, 0, 11, 42, [(93, 164)]) := rx_at tbX11_ask ndX11_ask (j := 18) rfl
theorem iX11_ask_35 : rx_ins mX11_ask 35 = some (2, 36, 0, 1, 0, []) := rx_at tbX11_ask ndX11_ask (j := 19) rfl
theorem iX11_ask_36 : rx_ins mX11_ask 36 = some (20, 37, 0, 0, 0, []) := rx_at tbX11_ask ndX11_ask (j := 20) rfl
theorem iX11_ask_37 : rx_ins mX11_ask 37 = some (1, 38, 1, 0, 0, []) := rx_at tbX11_ask ndX11_ask (j := 21) rfl
theorem iX11_ask_38 : rx_ins mX11_ask 38 = some (14, 41, 25, 1, 63, []) := rx_at tbX11_ask ndX11_ask (j := 22) rfl
theorem iX11_ask_63 : rx_ins mX11_ask 63 = some (1, 65, (-1000000012), 3, 24, [(187, 0)]) := rx_at tbX11_ask ndX11_ask (j := 35) rfl
theorem iX11_ask_65 : rx_ins mX11_ask 65 = some (29, 66, 0, 0, 0, []) := rx_at tbX11_ask ndX11_ask (j := 36) rfl
theorem iX11_ask_41 : rx_ins mX11_ask 41 = some (3, 42, 0, 0, 0, []) := rx_at tbX11_ask ndX11_ask (j := 23) rfl
theorem iX11_ask_42 : rx_ins mX11_ask 42 = some (18, 45, 0, 11, 43, [(96, 165)]) := rx_at tbX11_ask ndX11_ask (j := 24) rfl
theorem iX11_ask_45 : rx_ins mX11_ask 45 = some (2, 46, 0, 1, 0, []) := rx_at tbX11_ask ndX11_ask (j := 25) rfl
theorem iX11_ask_46 : rx_ins mX11_ask 46 = some (20, 47, 0, 0, 0, []) := rx_at tbX11_ask ndX11_ask (j := 26) rfl
theorem iX11_ask_47 : rx_ins mX11_ask 47 = some (2, 48, 0, 2, 0, []) := rx_at tbX11_ask ndX11_ask (j := 27) rfl
theorem iX11_ask_48 : rx_ins mX11_ask 48 = some (28, 51, 0, 159, 2, [(184, 219)]) := rx_at tbX11_ask ndX11_ask (j := 28) rfl
theorem iX11_ask_51 : rx_ins mX11_ask 51 = some (13, 54, 12, 0, 63, []) := rx_at tbX11_ask ndX11_ask (j := 29) rfl
theorem iX11_ask_54 : rx_ins mX11_ask 54 = some (3, 55, 0, 0, 0, []) := rx_at tbX11_ask ndX11_ask (j := 30) rfl
theorem iX11_ask_55 : rx_ins mX11_ask 55 = some (18, 58, 0, 11, 44, [(99, 166)]) := rx_at tbX11_ask ndX11_ask (j := 31) rfl
theorem iX11_ask_58 : rx_ins mX11_ask 58 = some (2, 59, 0, 1, 0, []) := rx_at tbX11_ask ndX11_ask (j := 32) rfl
theorem iX11_ask_59 : rx_ins mX11_ask 59 = some (20, 60, 0, 0, 0, []) := rx_at tbX11_ask ndX11_ask (j := 33) rfl
theorem iX11_ask_60 : rx_ins mX11_ask 60 = some (15, 63, 5, 0, 65, []) := rx_at tbX11_ask ndX11_ask (j := 34) rfl
theorem iX11_ask_28 : rx_ins mX11_ask 28 = some (1, 30, (-1000000011), 3, 26, [(250, 0)]) := rx_at tbX11_ask ndX11_ask (j := 15) rfl
theorem iX11_ask_30 : rx_ins mX11_ask 30 = some (29, 31, 0, 0, 0, []) := rx_at tbX11_ask ndX11_ask (j := 16) rfl
theorem iX11_item_0 : rx_ins mX11_item 0 = some (2, 1, 0, 1, 0, []) := rx_at tbX11_item ndX11_item (j := 0) rfl
theorem iX11_item_1 : rx_ins mX11_item 1 = some (28, 4, 0, 231, 1, [(388, 265)]) := rx_at tbX11_item ndX11_item (j := 1) rfl
theorem iX11_item_4 : rx_ins mX11_item 4 = some (13, 7, 6, 1, 10, []) := rx_at tbX11_item ndX11_item (j := 2) rfl
theorem iX11_item_10 : rx_ins mX11_item 10 = some (3, 11, 0, 0, 0, []) := rx_at tbX11_item ndX11_item (j := 5) rfl
theorem iX11_item_11 : rx_ins mX11_item 11 = some (18, 14, 0, 11, 42, [(93, 164)]) := rx_at tbX11_item ndX11_item (j := 6) rfl
theorem iX11_item_14 : rx_ins mX11_item 14 = some (2, 15, 0, 1, 0, []) := rx_at tbX11_item ndX11_item (j := 7) rfl
theorem iX11_item_15 : rx_ins mX11_item 15 = some (20, 16, 0, 0, 0, []) := rx_at tbX11_item ndX11_item (j := 8) rfl
theorem iX11_item_16 : rx_ins mX11_item 16 = some (13, 19, 6, 1, 22, []) := rx_at tbX11_item ndX11_item (j := 9) rfl
theorem iX11_item_22 : rx_ins mX11_item 22 = some (3, 23, 0, 0, 0, []) := rx_at tbX11_item ndX11_item (j := 12) rfl
theorem iX11_item_23 : rx_ins mX11_item 23 = some (18, 26, 0, 11, 42, [(93, 164)]) := rx_at tbX11_item ndX11_item (j := 13) rfl
theorem iX11_item_26 : rx_ins mX11_item 26 = some (2, 27, 0, 1, 0, []) := rx_at tbX11_item ndX11_item (j := 14) rfl
theorem iX11_item_27 : rx_ins mX11_item 27 = some (20, 28, 0, 0, 0, []) := rx_at tbX11_item ndX11_item (j := 15) rfl
theorem iX11_item_28 : rx_ins mX11_item 28 = some (1, 29, 2, 0, 0, []) := rx_at tbX11_item ndX11_item (j := 16) rfl
theorem iX11_item_29 : rx_ins mX11_item 29 = some (14, 32, 6, 0, 35, []) := rx_at tbX11_item ndX11_item (j := 17) rfl
theorem iX11_item_35 : rx_ins mX11_item 35 = some (2, 36, 0, 2, 0, []) := rx_at tbX11_item ndX11_item (j := 20) rfl
theorem iX11_item_36 : rx_ins mX11_item 36 = some (1, 37, 0, 0, 0, []) := rx_at tbX11_item ndX11_item (j := 21) rfl
theorem iX11_item_37 : rx_ins mX11_item 37 = some (3, 38, 0, 0, 0, []) := rx_at tbX11_item ndX11_item (j := 22) rfl
theorem iX11_item_38 : rx_ins mX11_item 38 = some (18, 41, 0, 11, 43, [(96, 165)]) := rx_at tbX11_item ndX11_item (j := 23) rfl
theorem iX11_item_41 : rx_ins mX11_item 41 = some (2, 42, 0, 1, 0, []) := rx_at tbX11_item ndX11_item (j := 24) rfl
theorem iX11_item_42 : rx_ins mX11_item 42 = some (20, 43, 0, 0, 0, []) := rx_at tbX11_item ndX11_item (j := 25) rfl
theorem iX11_item_43 : rx_ins mX11_item 43 = some (1, 44, 1, 0, 0, []) := rx_at tbX11_item ndX11_item (j := 26) rfl
theorem iX11_item_44 : rx_ins mX11_item 44 = some (7, 45, 0, 1, 0, []) := rx_at tbX11_item ndX11_item (j := 27) rfl
theorem iX11_item_45 : rx_ins mX11_item 45 = some (28, 48, 0, 133, 3, [(111, 198)]) := rx_at tbX11_item ndX11_item (j := 28) rfl
theorem iX11_item_48 : rx_ins mX11_item 48 = some (13, 51, 7, 1, 55, []) := rx_at tbX11_item ndX11_item (j := 29) rfl
theorem iX11_item_55 : rx_ins mX11_item 55 = some (3, 56, 0, 0, 0, []) := rx_at tbX11_item ndX11_item (j := 32) rfl
theorem iX11_item_56 : rx_ins mX11_item 56 = some (18, 59, 0, 11, 45, [(102, 167)]) := rx_at tbX11_item ndX11_item (j := 33) rfl
theorem iX11_item_59 : rx_ins mX11_item 59 = some (1, 61, 24, 1, 0, []) := rx_at tbX11_item ndX11_item (j := 34) rfl
theorem iX11_item_61 : rx_ins mX11_item 61 = some (2, 62, 0, 1, 0, []) := rx_at tbX11_item ndX11_item (j := 35) rfl
theorem iX11_item_62 : rx_ins mX11_item 62 = some (7, 63, 0, 2, 0, []) := rx_at tbX11_item ndX11_item (j := 36) rfl
theorem iX11_item_63 : rx_ins mX11_item 63 = some (2, 64, 0, 2, 0, []) := rx_at tbX11_item ndX11_item (j := 37) rfl
theorem iX11_item_64 : rx_ins mX11_item 64 = some (7, 65, 0, 0, 0, []) := rx_at tbX11_item ndX11_item (j := 38) rfl
theorem iX11_item_65 : rx_ins mX11_item 65 = some (20, 66, 0, 0, 0, []) := rx_at tbX11_item ndX11_item (j := 39) rfl
theorem iX11_item_66 : rx_ins mX11_item 66 = some (4, 67, 0, 3, 0, []) := rx_at tbX11_item ndX11_item (j := 40) rfl
theorem iX11_item_67 : rx_ins mX11_item 67 = some (2, 68, 0, 3, 0, []) := rx_at tbX11_item ndX11_item (j := 41) rfl
theorem iX11_item_68 : rx_ins mX11_item 68 = some (1, 70, (-1000000005), 3, 25, [(222, 0)]) := rx_at tbX11_item ndX11_item (j := 42) rfl
theorem iX11_item_70 : rx_ins mX11_item 70 = some (14, 73, 8, 1, 78, []) := rx_at tbX11_item ndX11_item (j := 43) rfl
theorem iX11_item_78 : rx_ins mX11_item 78 = some (2, 79, 0, 3, 0, []) := rx_at tbX11_item ndX11_item (j := 46) rfl
theorem iX11_item_79 : rx_ins mX11_item 79 = some (29, 80, 0, 0, 0, []) := rx_at tbX11_item ndX11_item (j := 47) rfl
theorem iX11_item_73 : rx_ins mX11_item 73 = some (1, 75, (-1000000012), 3, 24, [(187, 0)]) := rx_at tbX11_item ndX11_item (j := 44) rfl
theorem iX11_item_75 : rx_ins mX11_item 75 = some (15, 78, 4, 0, 79, []) := rx_at tbX11_item ndX11_item (j := 45) rfl
theorem iX11_item_51 : rx_ins mX11_item 51 = some (1, 54, (-1000000013), 4, 29, [(385, 0)]) := rx_at tbX11_item ndX11_item (j := 30) rfl
theorem iX11_item_54 : rx_ins mX11_item 54 = some (29, 55, 0, 0, 0, []) := rx_at tbX11_item ndX11_item (j := 31) rfl
theorem iX11_item_32 : rx_ins mX11_item 32 = some (1, 34, (-1000000012), 3, 24, [(187, 0)]) := rx_at tbX11_item ndX11_item (j := 18) rfl
theorem iX11_item_34 : rx_ins mX11_item 34 = some (29, 35, 0, 0, 0, []) := rx_at tbX11_item ndX11_item (j := 19) rfl
theorem iX11_item_19 : rx_ins mX11_item 19 = some (1, 21, (-1000000011), 3, 26, [(250, 0)]) := rx_at tbX11_item ndX11_item (j := 10) rfl
theorem iX11_item_21 : rx_ins mX11_item 21 = some (29, 22, 0, 0, 0, []) := rx_at tbX11_item ndX11_item (j := 11) rfl
theorem iX11_item_7 : rx_ins mX11_item 7 = some (1, 9, (-1000000001), 3, 21, [(130, 0)]) := rx_at tbX11_item ndX11_item (j := 3) rfl
theorem iX11_item_9 : rx_ins mX11_item 9 = some (29, 10, 0, 0, 0, []) := rx_at tbX11_item ndX11_item (j := 4) rfl
theorem iX11_rest_0 : rx_ins mX11_rest 0 = some (2, 1, 0, 1, 0, []) := rx_at tbX11_rest ndX11_rest (j := 0) rfl
theorem iX11_rest_1 : rx_ins mX11_rest 1 = some (28, 4, 0, 231, 1, [(388, 265)]) := rx_at tbX11_rest ndX11_rest (j := 1) rfl
theorem iX11_rest_4 : rx_ins mX11_rest 4 = some (13, 7, 6, 1, 10, []) := rx_at tbX11_rest ndX11_rest (j := 2) rfl
theorem iX11_rest_10 : rx_ins mX11_rest 10 = some (3, 11, 0, 0, 0, []) := rx_at tbX11_rest ndX11_rest (j := 5) rfl
theorem iX11_rest_11 : rx_ins mX11_rest 11 = some (18, 14, 0, 11, 42, [(93, 164)]) := rx_at tbX11_rest ndX11_rest (j := 6) rfl
theorem iX11_rest_14 : rx_ins mX11_rest 14 = some (2, 15, 0, 1, 0, []) := rx_at tbX11_rest ndX11_rest (j := 7) rfl
theorem iX11_rest_15 : rx_ins mX11_rest 15 = some (20, 16, 0, 0, 0, []) := rx_at tbX11_rest ndX11_rest (j := 8) rfl
theorem iX11_rest_16 : rx_ins mX11_rest 16 = some (13, 19, 6, 1, 22, []) := rx_at tbX11_rest ndX11_rest (j := 9) rfl
theorem iX11_rest_22 : rx_ins mX11_rest 22 = some (3, 23, 0, 0, 0, []) := rx_at tbX11_rest ndX11_rest (j := 12) rfl
theorem iX11_rest_23 : rx_ins mX11_rest 23 = some (18, 26, 0, 11, 42, [(93, 164)]) := rx_at tbX11_rest ndX11_rest (j := 13) rfl
theorem iX11_rest_26 : rx_ins mX11_rest 26 = some (2, 27, 0, 1, 0, []) := rx_at tbX11_rest ndX11_rest (j := 14) rfl
theorem iX11_rest_27 : rx_ins mX11_rest 27 = some (20, 28, 0, 0, 0, []) := rx_at tbX11_rest ndX11_rest (j := 15) rfl
theorem iX11_rest_28 : rx_ins mX11_rest 28 = some (1, 29, 3, 0, 0, []) := rx_at tbX11_rest ndX11_rest (j := 16) rfl
theorem iX11_rest_29 : rx_ins mX11_rest 29 = some (14, 32, 6, 0, 35, []) := rx_at tbX11_rest ndX11_rest (j := 17) rfl
theorem iX11_rest_35 : rx_ins mX11_rest 35 = some (2, 36, 0, 2, 0, []) := rx_at tbX11_rest ndX11_rest (j := 20) rfl
theorem iX11_rest_36 : rx_ins mX11_rest 36 = some (13, 39, 8, 1, 44, []) := rx_at tbX11_rest ndX11_rest (j := 21) rfl
theorem iX11_rest_44 : rx_ins mX11_rest 44 = some (2, 45, 0, 2, 0, []) := rx_at tbX11_rest ndX11_rest (j := 24) rfl
theorem iX11_rest_45 : rx_ins mX11_rest 45 = some (1, 46, (-1), 0, 0, []) := rx_at tbX11_rest ndX11_rest (j := 25) rfl
theorem iX11_rest_46 : rx_ins mX11_rest 46 = some (14, 49, 7, 1, 53, []) := rx_at tbX11_rest ndX11_rest (j := 26) rfl
theorem iX11_rest_53 : rx_ins mX11_rest 53 = some (3, 54, 0, 0, 0, []) := rx_at tbX11_rest ndX11_rest (j := 29) rfl
theorem iX11_rest_54 : rx_ins mX11_rest 54 = some (18, 57, 0, 11, 43, [(96, 165)]) := rx_at tbX11_rest ndX11_rest (j := 30) rfl
theorem iX11_rest_57 : rx_ins mX11_rest 57 = some (2, 58, 0, 1, 0, []) := rx_at tbX11_rest ndX11_rest (j := 31) rfl
theorem iX11_rest_58 : rx_ins mX11_rest 58 = some (20, 59, 0, 0, 0, []) := rx_at tbX11_rest ndX11_rest (j := 32) rfl
theorem iX11_rest_59 : rx_ins mX11_rest 59 = some (2, 60, 0, 2, 0, []) := rx_at tbX11_rest ndX11_rest (j := 33) rfl
theorem iX11_rest_60 : rx_ins mX11_rest 60 = some (8, 61, 0, 1, 0, []) := rx_at tbX11_rest ndX11_rest (j := 34) rfl
theorem iX11_rest_61 : rx_ins mX11_rest 61 = some (29, 62, 0, 0, 0, []) := rx_at tbX11_rest ndX11_rest (j := 35) rfl
theorem iX11_rest_49 : rx_ins mX11_rest 49 = some (1, 50, 0, 0, 0, []) := rx_at tbX11_rest ndX11_rest (j := 27) rfl
theorem iX11_rest_50 : rx_ins mX11_rest 50 = some (15, 53, 11, 0, 61, []) := rx_at tbX11_rest ndX11_rest (j := 28) rfl
theorem iX11_rest_39 : rx_ins mX11_rest 39 = some (1, 41, (-1000000002), 3, 22, [(134, 0)]) := rx_at tbX11_rest ndX11_rest (j := 22) rfl
theorem iX11_rest_41 : rx_ins mX11_rest 41 = some (15, 44, 20, 0, 61, []) := rx_at tbX11_rest ndX11_rest (j := 23) rfl
theorem iX11_rest_32 : rx_ins mX11_rest 32 = some (1, 34, (-1000000012), 3, 24, [(187, 0)]) := rx_at tbX11_rest ndX11_rest (j := 18) rfl
theorem iX11_rest_34 : rx_ins mX11_rest 34 = some (29, 35, 0, 0, 0, []) := rx_at tbX11_rest ndX11_rest (j := 19) rfl
theorem iX11_rest_19 : rx_ins mX11_rest 19 = some (1, 21, (-1000000011), 3, 26, [(250, 0)]) := rx_at tbX11_rest ndX11_rest (j := 10) rfl
theorem iX11_rest_21 : rx_ins mX11_rest 21 = some (29, 22, 0, 0, 0, []) := rx_at tbX11_rest ndX11_rest (j := 11) rfl
theorem iX11_rest_7 : rx_ins mX11_rest 7 = some (1, 9, (-1000000001), 3, 21, [(130, 0)]) := rx_at tbX11_rest ndX11_rest (j := 3) rfl
theorem iX11_rest_9 : rx_ins mX11_rest 9 = some (29, 10, 0, 0, 0, []) := rx_at tbX11_rest ndX11_rest (j := 4) rfl
theorem iX11_tell_0 : rx_ins mX11_tell 0 = some (3, 1, 0, 0, 0, []) := rx_at tbX11_tell ndX11_tell (j := 0) rfl
theorem iX11_tell_1 : rx_ins mX11_tell 1 = some (17, 4, 0, 11, 48, [(391, 168)]) := rx_at tbX11_tell ndX11_tell (j := 1) rfl
theorem iX11_tell_4 : rx_ins mX11_tell 4 = some (1, 6, 60, 1, 0, []) := rx_at tbX11_tell ndX11_tell (j := 2) rfl
theorem iX11_tell_6 : rx_ins mX11_tell 6 = some (14, 9, 6, 1, 12, []) := rx_at tbX11_tell ndX11_tell (j := 3) rfl
theorem iX11_tell_12 : rx_ins mX11_tell 12 = some (3, 13, 0, 0, 0, []) := rx_at tbX11_tell ndX11_tell (j := 6) rfl
theorem iX11_tell_13 : rx_ins mX11_tell 13 = some (18, 16, 0, 11, 47, [(108, 169)]) := rx_at tbX11_tell ndX11_tell (j := 7) rfl
theorem iX11_tell_16 : rx_ins mX11_tell 16 = some (3, 17, 0, 0, 0, []) := rx_at tbX11_tell ndX11_tell (j := 8) rfl
theorem iX11_tell_17 : rx_ins mX11_tell 17 = some (17, 20, 0, 11, 48, [(391, 168)]) := rx_at tbX11_tell ndX11_tell (j := 9) rfl
theorem iX11_tell_20 : rx_ins mX11_tell 20 = some (2, 21, 0, 1, 0, []) := rx_at tbX11_tell ndX11_tell (j := 10) rfl
theorem iX11_tell_21 : rx_ins mX11_tell 21 = some (21, 22, 0, 0, 0, []) := rx_at tbX11_tell ndX11_tell (j := 11) rfl
theorem iX11_tell_22 : rx_ins mX11_tell 22 = some (3, 23, 0, 0, 0, []) := rx_at tbX11_tell ndX11_tell (j := 12) rfl
theorem iX11_tell_23 : rx_ins mX11_tell 23 = some (10, 24, 0, 0, 0, []) := rx_at tbX11_tell ndX11_tell (j := 13) rfl
theorem iX11_tell_24 : rx_ins mX11_tell 24 = some (17, 27, 0, 11, 48, [(391, 168)]) := rx_at tbX11_tell ndX11_tell (j := 14) rfl
theorem iX11_tell_27 : rx_ins mX11_tell 27 = some (1, 28, 1, 0, 0, []) := rx_at tbX11_tell ndX11_tell (j := 15) rfl
theorem iX11_tell_28 : rx_ins mX11_tell 28 = some (7, 29, 0, 0, 0, []) := rx_at tbX11_tell ndX11_tell (j := 16) rfl
theorem iX11_tell_29 : rx_ins mX11_tell 29 = some (19, 32, 0, 11, 48, [(391, 168)]) := rx_at tbX11_tell ndX11_tell (j := 17) rfl
theorem iX11_tell_32 : rx_ins mX11_tell 32 = some (3, 33, 0, 0, 0, []) := rx_at tbX11_tell ndX11_tell (j := 18) rfl
theorem iX11_tell_33 : rx_ins mX11_tell 33 = some (17, 36, 0, 11, 48, [(391, 168)]) := rx_at tbX11_tell ndX11_tell (j := 19) rfl
theorem iX11_tell_36 : rx_ins mX11_tell 36 = some (29, 37, 0, 0, 0, []) := rx_at tbX11_tell ndX11_tell (j := 20) rfl
theorem iX11_tell_9 : rx_ins mX11_tell 9 = some (1, 11, (-1000000003), 3, 23, [(135, 0)]) := rx_at tbX11_tell ndX11_tell (j := 4) rfl
theorem iX11_tell_11 : rx_ins mX11_tell 11 = some (29, 12, 0, 0, 0, []) := rx_at tbX11_tell ndX11_tell (j := 5) rfl
theorem iX11_rightSwaps_0 : rx_ins mX11_rightSwaps 0 = some (1, 1, 0, 0, 0, []) := rx_at tbX11_rightSwaps ndX11_rightSwaps (j := 0) rfl
theorem iX11_rightSwaps_1 : rx_ins mX11_rightSwaps 1 = some (4, 2, 0, 3, 0, []) := rx_at tbX11_rightSwaps ndX11_rightSwaps (j := 1) rfl
theorem iX11_rightSwaps_2 : rx_ins mX11_rightSwaps 2 = some (1, 3, 0, 0, 0, []) := rx_at tbX11_rightSwaps ndX11_rightSwaps (j := 2) rfl
theorem iX11_rightSwaps_3 : rx_ins mX11_rightSwaps 3 = some (4, 5, 1, 4, 0, []) := rx_at tbX11_rightSwaps ndX11_rightSwaps (j := 3) rfl
theorem iX11_rightSwaps_5 : rx_ins mX11_rightSwaps 5 = some (2, 7, 1, 4, 0, []) := rx_at tbX11_rightSwaps ndX11_rightSwaps (j := 4) rfl
theorem iX11_rightSwaps_7 : rx_ins mX11_rightSwaps 7 = some (2, 8, 0, 1, 0, []) := rx_at tbX11_rightSwaps ndX11_rightSwaps (j := 5) rfl
theorem iX11_rightSwaps_8 : rx_ins mX11_rightSwaps 8 = some (14, 11, 108, 3, 116, []) := rx_at tbX11_rightSwaps ndX11_rightSwaps (j := 6) rfl
theorem iX11_rightSwaps_11 : rx_ins mX11_rightSwaps 11 = some (2, 12, 0, 3, 0, []) := rx_at tbX11_rightSwaps ndX11_rightSwaps (j := 7) rfl
theorem iX11_rightSwaps_12 : rx_ins mX11_rightSwaps 12 = some (1, 13, 2, 0, 0, []) := rx_at tbX11_rightSwaps ndX11_rightSwaps (j := 8) rfl
theorem iX11_rightSwaps_13 : rx_ins mX11_rightSwaps 13 = some (2, 15, 1, 4, 0, []) := rx_at tbX11_rightSwaps ndX11_rightSwaps (j := 9) rfl
theorem iX11_rightSwaps_15 : rx_ins mX11_rightSwaps 15 = some (7, 16, 0, 2, 0, []) := rx_at tbX11_rightSwaps ndX11_rightSwaps (j := 10) rfl
theorem iX11_rightSwaps_16 : rx_ins mX11_rightSwaps 16 = some (14, 19, 100, 1, 116, []) := rx_at tbX11_rightSwaps ndX11_rightSwaps (j := 11) rfl
theorem iX11_rightSwaps_19 : rx_ins mX11_rightSwaps 19 = some (3, 20, 0, 0, 0, []) := rx_at tbX11_rightSwaps ndX11_rightSwaps (j := 12) rfl
theorem iX11_rightSwaps_20 : rx_ins mX11_rightSwaps 20 = some (28, 23, 13, 180, 1, [(244, 232)]) := rx_at tbX11_rightSwaps ndX11_rightSwaps (j := 13) rfl
theorem iX11_rightSwaps_23 : rx_ins mX11_rightSwaps 23 = some (3, 24, 0, 0, 0, []) := rx_at tbX11_rightSwaps ndX11_rightSwaps (j := 14) rfl
theorem iX11_rightSwaps_24 : rx_ins mX11_rightSwaps 24 = some (17, 27, 0, 11, 7, [(234, 129)]) := rx_at tbX11_rightSwaps ndX11_rightSwaps (j := 15) rfl
theorem iX11_rightSwaps_27 : rx_ins mX11_rightSwaps 27 = some (13, 30, 21, 2, 48, []) := rx_at tbX11_rightSwaps ndX11_rightSwaps (j := 16) rfl
theorem iX11_rightSwaps_30 : rx_ins mX11_rightSwaps 30 = some (3, 31, 0, 0, 0, []) := rx_at tbX11_rightSwaps ndX11_rightSwaps (j := 17) rfl
theorem iX11_rightSwaps_31 : rx_ins mX11_rightSwaps 31 = some (3, 32, 0, 0, 0, []) := rx_at tbX11_rightSwaps ndX11_rightSwaps (j := 18) rfl
theorem iX11_rightSwaps_32 : rx_ins mX11_rightSwaps 32 = some (17, 35, 0, 11, 7, [(234, 129)]) := rx_at tbX11_rightSwaps ndX11_rightSwaps (j := 19) rfl
theorem iX11_rightSwaps_35 : rx_ins mX11_rightSwaps 35 = some (1, 37, 10, 1, 0, []) := rx_at tbX11_rightSwaps ndX11_rightSwaps (j := 20) rfl
theorem iX11_rightSwaps_37 : rx_ins mX11_rightSwaps 37 = some (8, 38, 0, 0, 0, []) := rx_at tbX11_rightSwaps ndX11_rightSwaps (j := 21) rfl
theorem iX11_rightSwaps_38 : rx_ins mX11_rightSwaps 38 = some (3, 39, 0, 0, 0, []) := rx_at tbX11_rightSwaps ndX11_rightSwaps (j := 22) rfl
theorem iX11_rightSwaps_39 : rx_ins mX11_rightSwaps 39 = some (17, 42, 0, 11, 7, [(234, 129)]) := rx_at tbX11_rightSwaps ndX11_rightSwaps (j := 23) rfl
theorem iX11_rightSwaps_42 : rx_ins mX11_rightSwaps 42 = some (1, 44, 10, 1, 0, []) := rx_at tbX11_rightSwaps ndX11_rightSwaps (j := 24) rfl
theorem iX11_rightSwaps_44 : rx_ins mX11_rightSwaps 44 = some (8, 45, 0, 1, 0, []) := rx_at tbX11_rightSwaps ndX11_rightSwaps (j := 25) rfl
theorem iX11_rightSwaps_45 : rx_ins mX11_rightSwaps 45 = some (28, 48, 13, 176, 3, [(227, 229)]) := rx_at tbX11_rightSwaps ndX11_rightSwaps (j := 26) rfl
theorem iX11_rightSwaps_116 : rx_ins mX11_rightSwaps 116 = some (2, 117, 0, 3, 0, []) := rx_at tbX11_rightSwaps ndX11_rightSwaps (j := 68) rfl
theorem iX11_rightSwaps_117 : rx_ins mX11_rightSwaps 117 = some (29, 118, 0, 0, 0, []) := rx_at tbX11_rightSwaps ndX11_rightSwaps (j := 69) rfl
theorem iX11_rightSwaps_48 : rx_ins mX11_rightSwaps 48 = some (2, 49, 0, 3, 0, []) := rx_at tbX11_rightSwaps ndX11_rightSwaps (j := 27) rfl
theorem iX11_rightSwaps_49 : rx_ins mX11_rightSwaps 49 = some (2, 50, 0, 3, 0, []) := rx_at tbX11_rightSwaps ndX11_rightSwaps (j := 28) rfl
theorem iX11_rightSwaps_50 : rx_ins mX11_rightSwaps 50 = some (2, 51, 0, 2, 0, []) := rx_at tbX11_rightSwaps ndX11_rightSwaps (j := 29) rfl
theorem iX11_rightSwaps_51 : rx_ins mX11_rightSwaps 51 = some (14, 54, 20, 3, 71, []) := rx_at tbX11_rightSwaps ndX11_rightSwaps (j := 30) rfl
theorem iX11_rightSwaps_71 : rx_ins mX11_rightSwaps 71 = some (1, 72, 0, 0, 0, []) := rx_at tbX11_rightSwaps ndX11_rightSwaps (j := 40) rfl
theorem iX11_rightSwaps_72 : rx_ins mX11_rightSwaps 72 = some (7, 73, 0, 0, 0, []) := rx_at tbX11_rightSwaps ndX11_rightSwaps (j := 41) rfl
theorem iX11_rightSwaps_73 : rx_ins mX11_rightSwaps 73 = some (4, 74, 0, 3, 0, []) := rx_at tbX11_rightSwaps ndX11_rightSwaps (j := 42) rfl
theorem iX11_rightSwaps_74 : rx_ins mX11_rightSwaps 74 = some (2, 75, 0, 3, 0, []) := rx_at tbX11_rightSwaps ndX11_rightSwaps (j := 43) rfl
theorem iX11_rightSwaps_75 : rx_ins mX11_rightSwaps 75 = some (2, 76, 0, 3, 0, []) := rx_at tbX11_rightSwaps ndX11_rightSwaps (j := 44) rfl
theorem iX11_rightSwaps_76 : rx_ins mX11_rightSwaps 76 = some (1, 77, 2, 0, 0, []) := rx_at tbX11_rightSwaps ndX11_rightSwaps (j := 45) rfl
theorem iX11_rightSwaps_77 : rx_ins mX11_rightSwaps 77 = some (2, 79, 1, 4, 0, []) := rx_at tbX11_rightSwaps ndX11_rightSwaps (j := 46) rfl
theorem iX11_rightSwaps_79 : rx_ins mX11_rightSwaps 79 = some (7, 80, 0, 2, 0, []) := rx_at tbX11_rightSwaps ndX11_rightSwaps (j := 47) rfl
theorem iX11_rightSwaps_80 : rx_ins mX11_rightSwaps 80 = some (1, 81, 1, 0, 0, []) := rx_at tbX11_rightSwaps ndX11_rightSwaps (j := 48) rfl
theorem iX11_rightSwaps_81 : rx_ins mX11_rightSwaps 81 = some (7, 82, 0, 0, 0, []) := rx_at tbX11_rightSwaps ndX11_rightSwaps (j := 49) rfl
theorem iX11_rightSwaps_82 : rx_ins mX11_rightSwaps 82 = some (14, 85, 25, 1, 107, []) := rx_at tbX11_rightSwaps ndX11_rightSwaps (j := 50) rfl
theorem iX11_rightSwaps_107 : rx_ins mX11_rightSwaps 107 = some (1, 108, 0, 0, 0, []) := rx_at tbX11_rightSwaps ndX11_rightSwaps (j := 63) rfl
theorem iX11_rightSwaps_108 : rx_ins mX11_rightSwaps 108 = some (7, 109, 0, 0, 0, []) := rx_at tbX11_rightSwaps ndX11_rightSwaps (j := 64) rfl
theorem iX11_rightSwaps_109 : rx_ins mX11_rightSwaps 109 = some (4, 110, 0, 3, 0, []) := rx_at tbX11_rightSwaps ndX11_rightSwaps (j := 65) rfl
theorem iX11_rightSwaps_110 : rx_ins mX11_rightSwaps 110 = some (6, 113, 1, 4, 0, []) := rx_at tbX11_rightSwaps ndX11_rightSwaps (j := 66) rfl
theorem iX11_rightSwaps_113 : rx_ins mX11_rightSwaps 113 = some (15, 116, (-108), 0, 5, []) := rx_at tbX11_rightSwaps ndX11_rightSwaps (j := 67) rfl
theorem iX11_rightSwaps_85 : rx_ins mX11_rightSwaps 85 = some (2, 86, 0, 3, 0, []) := rx_at tbX11_rightSwaps ndX11_rightSwaps (j := 51) rfl
theorem iX11_rightSwaps_86 : rx_ins mX11_rightSwaps 86 = some (2, 87, 0, 2, 0, []) := rx_at tbX11_rightSwaps ndX11_rightSwaps (j := 52) rfl
theorem iX11_rightSwaps_87 : rx_ins mX11_rightSwaps 87 = some (14, 90, 20, 3, 107, []) := rx_at tbX11_rightSwaps ndX11_rightSwaps (j := 53) rfl
theorem iX11_rightSwaps_90 : rx_ins mX11_rightSwaps 90 = some (3, 91, 0, 0, 0, []) := rx_at tbX11_rightSwaps ndX11_rightSwaps (j := 54) rfl
theorem iX11_rightSwaps_91 : rx_ins mX11_rightSwaps 91 = some (18, 94, 0, 11, 47, [(108, 169)]) := rx_at tbX11_rightSwaps ndX11_rightSwaps (j := 55) rfl
theorem iX11_rightSwaps_94 : rx_ins mX11_rightSwaps 94 = some (2, 95, 0, 3, 0, []) := rx_at tbX11_rightSwaps ndX11_rightSwaps (j := 56) rfl
theorem iX11_rightSwaps_95 : rx_ins mX11_rightSwaps 95 = some (20, 96, 0, 0, 0, []) := rx_at tbX11_rightSwaps ndX11_rightSwaps (j := 57) rfl
theorem iX11_rightSwaps_96 : rx_ins mX11_rightSwaps 96 = some (3, 97, 0, 0, 0, []) := rx_at tbX11_rightSwaps ndX11_rightSwaps (j := 58) rfl
theorem iX11_rightSwaps_97 : rx_ins mX11_rightSwaps 97 = some (17, 100, 0, 11, 8, [(238, 130)]) := rx_at tbX11_rightSwaps ndX11_rightSwaps (j := 59) rfl
theorem iX11_rightSwaps_100 : rx_ins mX11_rightSwaps 100 = some (14, 103, 7, 1, 107, []) := rx_at tbX11_rightSwaps ndX11_rightSwaps (j := 60) rfl
theorem iX11_rightSwaps_103 : rx_ins mX11_rightSwaps 103 = some (1, 104, 1, 0, 0, []) := rx_at tbX11_rightSwaps ndX11_rightSwaps (j := 61) rfl
theorem iX11_rightSwaps_104 : rx_ins mX11_rightSwaps 104 = some (15, 107, 4, 0, 108, []) := rx_at tbX11_rightSwaps ndX11_rightSwaps (j := 62) rfl
theorem iX11_rightSwaps_54 : rx_ins mX11_rightSwaps 54 = some (3, 55, 0, 0, 0, []) := rx_at tbX11_rightSwaps ndX11_rightSwaps (j := 31) rfl
theorem iX11_rightSwaps_55 : rx_ins mX11_rightSwaps 55 = some (18, 58, 0, 11, 47, [(108, 169)]) := rx_at tbX11_rightSwaps ndX11_rightSwaps (j := 32) rfl
theorem iX11_rightSwaps_58 : rx_ins mX11_rightSwaps 58 = some (2, 59, 0, 3, 0, []) := rx_at tbX11_rightSwaps ndX11_rightSwaps (j := 33) rfl
theorem iX11_rightSwaps_59 : rx_ins mX11_rightSwaps 59 = some (20, 60, 0, 0, 0, []) := rx_at tbX11_rightSwaps ndX11_rightSwaps (j := 34) rfl
theorem iX11_rightSwaps_60 : rx_ins mX11_rightSwaps 60 = some (3, 61, 0, 0, 0, []) := rx_at tbX11_rightSwaps ndX11_rightSwaps (j := 35) rfl
theorem iX11_rightSwaps_61 : rx_ins mX11_rightSwaps 61 = some (17, 64, 0, 11, 7, [(234, 129)]) := rx_at tbX11_rightSwaps ndX11_rightSwaps (j := 36) rfl
theorem iX11_rightSwaps_64 : rx_ins mX11_rightSwaps 64 = some (14, 67, 7, 1, 71, []) := rx_at tbX11_rightSwaps ndX11_rightSwaps (j := 37) rfl
theorem iX11_rightSwaps_67 : rx_ins mX11_rightSwaps 67 = some (1, 68, 1, 0, 0, []) := rx_at tbX11_rightSwaps ndX11_rightSwaps (j := 38) rfl
theorem iX11_rightSwaps_68 : rx_ins mX11_rightSwaps 68 = some (15, 71, 4, 0, 72, []) := rx_at tbX11_rightSwaps ndX11_rightSwaps (j := 39) rfl
theorem iX11_check_0 : rx_ins mX11_check 0 = some (3, 1, 0, 0, 0, []) := rx_at tbX11_check ndX11_check (j := 0) rfl
theorem iX11_check_1 : rx_ins mX11_check 1 = some (17, 4, 0, 11, 48, [(391, 168)]) := rx_at tbX11_check ndX11_check (j := 1) rfl
theorem iX11_check_4 : rx_ins mX11_check 4 = some (4, 5, 0, 2, 0, []) := rx_at tbX11_check ndX11_check (j := 2) rfl
theorem iX11_check_5 : rx_ins mX11_check 5 = some (3, 6, 0, 0, 0, []) := rx_at tbX11_check ndX11_check (j := 3) rfl
theorem iX11_check_6 : rx_ins mX11_check 6 = some (1, 7, 0, 0, 0, []) := rx_at tbX11_check ndX11_check (j := 4) rfl
theorem iX11_check_7 : rx_ins mX11_check 7 = some (19, 10, 0, 11, 48, [(391, 168)]) := rx_at tbX11_check ndX11_check (j := 5) rfl
theorem iX11_check_10 : rx_ins mX11_check 10 = some (2, 11, 0, 1, 0, []) := rx_at tbX11_check ndX11_check (j := 6) rfl
theorem iX11_check_11 : rx_ins mX11_check 11 = some (1, 12, 1, 0, 0, []) := rx_at tbX11_check ndX11_check (j := 7) rfl
theorem iX11_check_12 : rx_ins mX11_check 12 = some (1, 14, 30, 1, 0, []) := rx_at tbX11_check ndX11_check (j := 8) rfl
theorem iX11_check_14 : rx_ins mX11_check 14 = some (28, 17, 0, 133, 3, [(111, 198)]) := rx_at tbX11_check ndX11_check (j := 9) rfl
theorem iX11_check_17 : rx_ins mX11_check 17 = some (13, 20, 6, 1, 23, []) := rx_at tbX11_check ndX11_check (j := 10) rfl
theorem iX11_check_23 : rx_ins mX11_check 23 = some (3, 24, 0, 0, 0, []) := rx_at tbX11_check ndX11_check (j := 13) rfl
theorem iX11_check_24 : rx_ins mX11_check 24 = some (17, 27, 0, 11, 3, [(394, 170)]) := rx_at tbX11_check ndX11_check (j := 14) rfl
theorem iX11_check_27 : rx_ins mX11_check 27 = some (13, 30, 6, 1, 33, []) := rx_at tbX11_check ndX11_check (j := 15) rfl
theorem iX11_check_33 : rx_ins mX11_check 33 = some (3, 34, 0, 0, 0, []) := rx_at tbX11_check ndX11_check (j := 18) rfl
theorem iX11_check_34 : rx_ins mX11_check 34 = some (18, 37, 0, 11, 0, [(9, 124)]) := rx_at tbX11_check ndX11_check (j := 19) rfl
theorem iX11_check_37 : rx_ins mX11_check 37 = some (3, 38, 0, 0, 0, []) := rx_at tbX11_check ndX11_check (j := 20) rfl
theorem iX11_check_38 : rx_ins mX11_check 38 = some (18, 41, 0, 11, 2, [(16, 171)]) := rx_at tbX11_check ndX11_check (j := 21) rfl
theorem iX11_check_41 : rx_ins mX11_check 41 = some (28, 44, 0, 135, 2, [(398, 266)]) := rx_at tbX11_check ndX11_check (j := 22) rfl
theorem iX11_check_44 : rx_ins mX11_check 44 = some (3, 45, 0, 0, 0, []) := rx_at tbX11_check ndX11_check (j := 23) rfl
theorem iX11_check_45 : rx_ins mX11_check 45 = some (18, 48, 0, 11, 1, [(13, 172)]) := rx_at tbX11_check ndX11_check (j := 24) rfl
theorem iX11_check_48 : rx_ins mX11_check 48 = some (3, 49, 0, 0, 0, []) := rx_at tbX11_check ndX11_check (j := 25) rfl
theorem iX11_check_49 : rx_ins mX11_check 49 = some (18, 52, 0, 11, 0, [(9, 124)]) := rx_at tbX11_check ndX11_check (j := 26) rfl
theorem iX11_check_52 : rx_ins mX11_check 52 = some (28, 55, 0, 135, 2, [(398, 266)]) := rx_at tbX11_check ndX11_check (j := 27) rfl
theorem iX11_check_55 : rx_ins mX11_check 55 = some (3, 56, 0, 0, 0, []) := rx_at tbX11_check ndX11_check (j := 28) rfl
theorem iX11_check_56 : rx_ins mX11_check 56 = some (2, 57, 0, 1, 0, []) := rx_at tbX11_check ndX11_check (j := 29) rfl
theorem iX11_check_57 : rx_ins mX11_check 57 = some (2, 58, 0, 2, 0, []) := rx_at tbX11_check ndX11_check (j := 30) rfl
theorem iX11_check_58 : rx_ins mX11_check 58 = some (28, 61, 13, 241, 3, [(402, 267)]) := rx_at tbX11_check ndX11_check (j := 31) rfl
theorem iX11_check_61 : rx_ins mX11_check 61 = some (4, 62, 0, 3, 0, []) := rx_at tbX11_check ndX11_check (j := 32) rfl
theorem iX11_check_62 : rx_ins mX11_check 62 = some (3, 63, 0, 0, 0, []) := rx_at tbX11_check ndX11_check (j := 33) rfl
theorem iX11_check_63 : rx_ins mX11_check 63 = some (18, 66, 0, 11, 2, [(16, 171)]) := rx_at tbX11_check ndX11_check (j := 34) rfl
theorem iX11_check_66 : rx_ins mX11_check 66 = some (3, 67, 0, 0, 0, []) := rx_at tbX11_check ndX11_check (j := 35) rfl
theorem iX11_check_67 : rx_ins mX11_check 67 = some (18, 70, 0, 11, 0, [(9, 124)]) := rx_at tbX11_check ndX11_check (j := 36) rfl
theorem iX11_check_70 : rx_ins mX11_check 70 = some (28, 73, 0, 135, 2, [(398, 266)]) := rx_at tbX11_check ndX11_check (j := 37) rfl
theorem iX11_check_73 : rx_ins mX11_check 73 = some (2, 74, 0, 3, 0, []) := rx_at tbX11_check ndX11_check (j := 38) rfl
theorem iX11_check_74 : rx_ins mX11_check 74 = some (2, 75, 0, 2, 0, []) := rx_at tbX11_check ndX11_check (j := 39) rfl
theorem iX11_check_75 : rx_ins mX11_check 75 = some (14, 78, 14, 1, 89, []) := rx_at tbX11_check ndX11_check (j := 40) rfl
theorem iX11_check_89 : rx_ins mX11_check 89 = some (1, 90, 1, 0, 0, []) := rx_at tbX11_check ndX11_check (j := 48) rfl
theorem iX11_check_90 : rx_ins mX11_check 90 = some (2, 91, 0, 3, 0, []) := rx_at tbX11_check ndX11_check (j := 49) rfl
theorem iX11_check_91 : rx_ins mX11_check 91 = some (7, 92, 0, 0, 0, []) := rx_at tbX11_check ndX11_check (j := 50) rfl
theorem iX11_check_92 : rx_ins mX11_check 92 = some (29, 93, 0, 0, 0, []) := rx_at tbX11_check ndX11_check (j := 51) rfl
theorem iX11_check_78 : rx_ins mX11_check 78 = some (2, 79, 0, 3, 0, []) := rx_at tbX11_check ndX11_check (j := 41) rfl
theorem iX11_check_79 : rx_ins mX11_check 79 = some (1, 80, 2, 0, 0, []) := rx_at tbX11_check ndX11_check (j := 42) rfl
theorem iX11_check_80 : rx_ins mX11_check 80 = some (2, 81, 0, 1, 0, []) := rx_at tbX11_check ndX11_check (j := 43) rfl
theorem iX11_check_81 : rx_ins mX11_check 81 = some (7, 82, 0, 2, 0, []) := rx_at tbX11_check ndX11_check (j := 44) rfl
theorem iX11_check_82 : rx_ins mX11_check 82 = some (14, 85, 7, 1, 89, []) := rx_at tbX11_check ndX11_check (j := 45) rfl
theorem iX11_check_85 : rx_ins mX11_check 85 = some (1, 86, 0, 0, 0, []) := rx_at tbX11_check ndX11_check (j := 46) rfl
theorem iX11_check_86 : rx_ins mX11_check 86 = some (15, 89, 6, 0, 92, []) := rx_at tbX11_check ndX11_check (j := 47) rfl
theorem iX11_check_30 : rx_ins mX11_check 30 = some (1, 32, (-1000000002), 3, 22, [(134, 0)]) := rx_at tbX11_check ndX11_check (j := 16) rfl
theorem iX11_check_32 : rx_ins mX11_check 32 = some (29, 33, 0, 0, 0, []) := rx_at tbX11_check ndX11_check (j := 17) rfl
theorem iX11_check_20 : rx_ins mX11_check 20 = some (1, 22, (-1000000001), 3, 21, [(130, 0)]) := rx_at tbX11_check ndX11_check (j := 11) rfl
theorem iX11_check_22 : rx_ins mX11_check 22 = some (29, 23, 0, 0, 0, []) := rx_at tbX11_check ndX11_check (j := 12) rfl
theorem iX11_keep_0 : rx_ins mX11_keep 0 = some (3, 1, 0, 0, 0, []) := rx_at tbX11_keep ndX11_keep (j := 0) rfl
theorem iX11_keep_1 : rx_ins mX11_keep 1 = some (18, 4, 0, 11, 0, [(9, 124)]) := rx_at tbX11_keep ndX11_keep (j := 1) rfl
theorem iX11_keep_4 : rx_ins mX11_keep 4 = some (3, 5, 0, 0, 0, []) := rx_at tbX11_keep ndX11_keep (j := 2) rfl
theorem iX11_keep_5 : rx_ins mX11_keep 5 = some (18, 8, 0, 11, 1, [(13, 172)]) := rx_at tbX11_keep ndX11_keep (j := 3) rfl
theorem iX11_keep_8 : rx_ins mX11_keep 8 = some (28, 11, 0, 135, 2, [(398, 266)]) := rx_at tbX11_keep ndX11_keep (j := 4) rfl
theorem iX11_keep_11 : rx_ins mX11_keep 11 = some (3, 12, 0, 0, 0, []) := rx_at tbX11_keep ndX11_keep (j := 5) rfl
theorem iX11_keep_12 : rx_ins mX11_keep 12 = some (1, 13, 1, 0, 0, []) := rx_at tbX11_keep ndX11_keep (j := 6) rfl
theorem iX11_keep_13 : rx_ins mX11_keep 13 = some (19, 16, 1, 11, 3, [(394, 170)]) := rx_at tbX11_keep ndX11_keep (j := 7) rfl
theorem iX11_keep_16 : rx_ins mX11_keep 16 = some (3, 17, 0, 0, 0, []) := rx_at tbX11_keep ndX11_keep (j := 8) rfl
theorem iX11_keep_17 : rx_ins mX11_keep 17 = some (18, 20, 0, 11, 0, [(9, 124)]) := rx_at tbX11_keep ndX11_keep (j := 9) rfl
theorem iX11_keep_20 : rx_ins mX11_keep 20 = some (1, 21, 2, 0, 0, []) := rx_at tbX11_keep ndX11_keep (j := 10) rfl
theorem iX11_keep_21 : rx_ins mX11_keep 21 = some (20, 22, 0, 0, 0, []) := rx_at tbX11_keep ndX11_keep (j := 11) rfl
theorem iX11_keep_22 : rx_ins mX11_keep 22 = some (29, 23, 0, 0, 0, []) := rx_at tbX11_keep ndX11_keep (j := 12) rfl
theorem iX11_back_0 : rx_ins mX11_back 0 = some (3, 1, 0, 0, 0, []) := rx_at tbX11_back ndX11_back (j := 0) rfl
theorem iX11_back_1 : rx_ins mX11_back 1 = some (17, 4, 0, 11, 3, [(394, 170)]) := rx_at tbX11_back ndX11_back (j := 1) rfl
theorem iX11_back_4 : rx_ins mX11_back 4 = some (13, 7, 6, 1, 10, []) := rx_at tbX11_back ndX11_back (j := 2) rfl
theorem iX11_back_10 : rx_ins mX11_back 10 = some (3, 11, 0, 0, 0, []) := rx_at tbX11_back ndX11_back (j := 5) rfl
theorem iX11_back_11 : rx_ins mX11_back 11 = some (18, 14, 0, 11, 1, [(13, 172)]) := rx_at tbX11_back ndX11_back (j := 6) rfl
theorem iX11_back_14 : rx_ins mX11_back 14 = some (3, 15, 0, 0, 0, []) := rx_at tbX11_back ndX11_back (j := 7) rfl
theorem iX11_back_15 : rx_ins mX11_back 15 = some (18, 18, 0, 11, 0, [(9, 124)]) := rx_at tbX11_back ndX11_back (j := 8) rfl
theorem iX11_back_18 : rx_ins mX11_back 18 = some (28, 21, 0, 135, 2, [(398, 266)]) := rx_at tbX11_back ndX11_back (j := 9) rfl
theorem iX11_back_21 : rx_ins mX11_back 21 = some (3, 22, 0, 0, 0, []) := rx_at tbX11_back ndX11_back (j := 10) rfl
theorem iX11_back_22 : rx_ins mX11_back 22 = some (18, 25, 0, 11, 0, [(9, 124)]) := rx_at tbX11_back ndX11_back (j := 11) rfl
theorem iX11_back_25 : rx_ins mX11_back 25 = some (1, 26, 2, 0, 0, []) := rx_at tbX11_back ndX11_back (j := 12) rfl
theorem iX11_back_26 : rx_ins mX11_back 26 = some (20, 27, 0, 0, 0, []) := rx_at tbX11_back ndX11_back (j := 13) rfl
theorem iX11_back_27 : rx_ins mX11_back 27 = some (29, 28, 0, 0, 0, []) := rx_at tbX11_back ndX11_back (j := 14) rfl
theorem iX11_back_7 : rx_ins mX11_back 7 = some (1, 9, (-1000000002), 3, 22, [(134, 0)]) := rx_at tbX11_back ndX11_back (j := 3) rfl
theorem iX11_back_9 : rx_ins mX11_back 9 = some (29, 10, 0, 0, 0, []) := rx_at tbX11_back ndX11_back (j := 4) rfl
theorem iX11_count_0 : rx_ins mX11_count 0 = some (2, 1, 0, 1, 0, []) := rx_at tbX11_count ndX11_count (j := 0) rfl
theorem iX11_count_1 : rx_ins mX11_count 1 = some (16, 40, 0, 0, 78, [(0, 40), (1, 47), (2, 54), (3, 61), (4, 66), (5, 71)]) := rx_at tbX11_count ndX11_count (j := 1) rfl
theorem iX11_count_40 : rx_ins mX11_count 40 = some (3, 41, 0, 0, 0, []) := rx_at tbX11_count ndX11_count (j := 2) rfl
theorem iX11_count_41 : rx_ins mX11_count 41 = some (18, 44, 0, 11, 0, [(9, 124)]) := rx_at tbX11_count ndX11_count (j := 3) rfl
theorem iX11_count_44 : rx_ins mX11_count 44 = some (1, 45, 1, 0, 0, []) := rx_at tbX11_count ndX11_count (j := 4) rfl
theorem iX11_count_45 : rx_ins mX11_count 45 = some (20, 46, 0, 0, 0, []) := rx_at tbX11_count ndX11_count (j := 5) rfl
theorem iX11_count_46 : rx_ins mX11_count 46 = some (29, 47, 0, 0, 0, []) := rx_at tbX11_count ndX11_count (j := 6) rfl
theorem iX11_count_47 : rx_ins mX11_count 47 = some (3, 48, 0, 0, 0, []) := rx_at tbX11_count ndX11_count (j := 7) rfl
theorem iX11_count_48 : rx_ins mX11_count 48 = some (18, 51, 0, 11, 0, [(9, 124)]) := rx_at tbX11_count ndX11_count (j := 8) rfl
theorem iX11_count_51 : rx_ins mX11_count 51 = some (1, 52, 2, 0, 0, []) := rx_at tbX11_count ndX11_count (j := 9) rfl
theorem iX11_count_52 : rx_ins mX11_count 52 = some (20, 53, 0, 0, 0, []) := rx_at tbX11_count ndX11_count (j := 10) rfl
theorem iX11_count_53 : rx_ins mX11_count 53 = some (29, 54, 0, 0, 0, []) := rx_at tbX11_count ndX11_count (j := 11) rfl
theorem iX11_count_54 : rx_ins mX11_count 54 = some (3, 55, 0, 0, 0, []) := rx_at tbX11_count ndX11_count (j := 12) rfl
theorem iX11_count_55 : rx_ins mX11_count 55 = some (18, 58, 0, 11, 0, [(9, 124)]) := rx_at tbX11_count ndX11_count (j := 13) rfl
theorem iX11_count_58 : rx_ins mX11_count 58 = some (1, 59, 3, 0, 0, []) := rx_at tbX11_count ndX11_count (j := 14) rfl
theorem iX11_count_59 : rx_ins mX11_count 59 = some (20, 60, 0, 0, 0, []) := rx_at tbX11_count ndX11_count (j := 15) rfl
theorem iX11_count_60 : rx_ins mX11_count 60 = some (29, 61, 0, 0, 0, []) := rx_at tbX11_count ndX11_count (j := 16) rfl
theorem iX11_count_61 : rx_ins mX11_count 61 = some (3, 62, 0, 0, 0, []) := rx_at tbX11_count ndX11_count (j := 17) rfl
theorem iX11_count_62 : rx_ins mX11_count 62 = some (17, 65, 0, 11, 48, [(391, 168)]) := rx_at tbX11_count ndX11_count (j := 18) rfl
theorem iX11_count_65 : rx_ins mX11_count 65 = some (29, 66, 0, 0, 0, []) := rx_at tbX11_count ndX11_count (j := 19) rfl
theorem iX11_count_66 : rx_ins mX11_count 66 = some (3, 67, 0, 0, 0, []) := rx_at tbX11_count ndX11_count (j := 20) rfl
theorem iX11_count_67 : rx_ins mX11_count 67 = some (17, 70, 0, 11, 22, [(319, 146)]) := rx_at tbX11_count ndX11_count (j := 21) rfl
theorem iX11_count_70 : rx_ins mX11_count 70 = some (29, 71, 0, 0, 0, []) := rx_at tbX11_count ndX11_count (j := 22) rfl
theorem iX11_count_71 : rx_ins mX11_count 71 = some (3, 72, 0, 0, 0, []) := rx_at tbX11_count ndX11_count (j := 23) rfl
theorem iX11_count_72 : rx_ins mX11_count 72 = some (18, 75, 0, 11, 0, [(9, 124)]) := rx_at tbX11_count ndX11_count (j := 24) rfl
theorem iX11_count_75 : rx_ins mX11_count 75 = some (1, 76, 0, 0, 0, []) := rx_at tbX11_count ndX11_count (j := 25) rfl
theorem iX11_count_76 : rx_ins mX11_count 76 = some (20, 77, 0, 0, 0, []) := rx_at tbX11_count ndX11_count (j := 26) rfl
theorem iX11_count_77 : rx_ins mX11_count 77 = some (29, 78, 0, 0, 0, []) := rx_at tbX11_count ndX11_count (j := 27) rfl
theorem iX11_count_78 : rx_ins mX11_count 78 = some (1, 80, (-1000000001), 3, 21, [(130, 0)]) := rx_at tbX11_count ndX11_count (j := 28) rfl
theorem iX11_count_80 : rx_ins mX11_count 80 = some (29, 81, 0, 0, 0, []) := rx_at tbX11_count ndX11_count (j := 29) rfl
set_option maxRecDepth 20000 in
set_option maxHeartbeats 4000000 in
theorem bX11_deal (L d : Nat) (x1 : Int) (x2 : Int) (σ : rx_St) (K : Int → rx_St → Prop)
    (H : rx_CI L d mX11_in [.inl x1, .inl 0, .inl 1] σ (fun v2 σ1 => if v2 = 0 then (K (-1000000001) σ1) else (rx_CI L d mX11_in [.inl x2, .inl 1, .inl 20] σ1 (fun v5 σ4 => if v5 ≠ 0 then (if x1 ≠ 1 then (rx_Go L (d + 1) mX11_deal 44 [some (.inr 125), some (.inl x1), some (.inl x2), some (.inl 0), some (.inl 0)] [] σ4 (rx_PI K)) else (if (σ4 126 1) ≠ 0 then (rx_Go L (d + 1) mX11_deal 44 [some (.inr 125), some (.inl x1), some (.inl x2), some (.inl 0), some (.inl 0)] [] σ4 (rx_PI K)) else (K (-1000000002) σ4))) else (K (-1000000001) σ4))))) :
    rx_CI L (d + 1) mX11_deal [.inr 125, .inl x1, .inl x2] σ K := by
  refine rx_CI.of (la := [some (.inr 125), some (.inl x1), some (.inl x2), none, none]) rfl ?_
  refine g_il iX11_deal_0 rfl ?_
  refine g_c iX11_deal_1 ?_
  refine g_c iX11_deal_2 ?_
  refine g_ci (as := [.inl x1, .inl 0, .inl 1]) (rest := []) iX11_deal_3 rfl rfl (Nat.le_of_ble_eq_true rfl) (Or.inl (by decide)) (rx_CI.imp H (fun v2 σ1 H => ?_))
  by_cases c3 : v2 = 0
  · rw [if_pos c3] at H
    refine g_if0t iX11_deal_6 c3 ?_
    refine g_c iX11_deal_19 ?_
    exact g_ri iX11_deal_21 (Or.inl rfl) H
  · rw [if_neg c3] at H
    refine g_if0f iX11_deal_6 c3 ?_
    refine g_il iX11_deal_9 rfl ?_
    refine g_c iX11_deal_10 ?_
    refine g_c iX11_deal_11 ?_
    refine g_ci (as := [.inl x2, .inl 1, .inl 20]) (rest := []) iX11_deal_13 rfl rfl (Nat.le_of_ble_eq_true rfl) (Or.inl (by decide)) (rx_CI.imp H (fun v5 σ4 H => ?_))
    by_cases c6 : v5 ≠ 0
    · rw [if_pos c6] at H
      refine g_if1t iX11_deal_16 c6 ?_
      refine g_il iX11_deal_22 rfl ?_
      refine g_c iX11_deal_23 ?_
      by_cases c7 : x1 ≠ 1
      · rw [if_pos c7] at H
        refine g_ic1t iX11_deal_24 c7 ?_
        refine g_c iX11_deal_39 ?_
        refine g_is iX11_deal_40 (Nat.le_of_ble_eq_true rfl) ?_
        refine rx_Go.ls (la := [some (.inr 125), some (.inl x1), some (.inl x2), some (.inl 0), none]) rfl ?_
        refine g_c iX11_deal_41 ?_
        refine g_is iX11_deal_42 (Nat.le_of_ble_eq_true rfl) ?_
        refine rx_Go.ls (la := [some (.inr 125), some (.inl x1), some (.inl x2), some (.inl 0), some (.inl 0)]) rfl ?_
        exact H
      · rw [if_neg c7] at H
        refine g_ic1f iX11_deal_24 c7 ?_
        refine g_al iX11_deal_27 rfl ?_
        refine g_gr iX11_deal_28 fr_11_0_125 ?_
        refine g_c iX11_deal_31 ?_
        refine g_ld iX11_deal_32 (ln_126 L) (by decide) ?_
        by_cases c8 : (σ4 126 1) ≠ 0
        · rw [if_pos c8] at H
          refine g_if1t iX11_deal_33 c8 ?_
          refine g_c iX11_deal_39 ?_
          refine g_is iX11_deal_40 (Nat.le_of_ble_eq_true rfl) ?_
          refine rx_Go.ls (la := [some (.inr 125), some (.inl x1), some (.inl x2), some (.inl 0), none]) rfl ?_
          refine g_c iX11_deal_41 ?_
          refine g_is iX11_deal_42 (Nat.le_of_ble_eq_true rfl) ?_
          refine rx_Go.ls (la := [some (.inr 125), some (.inl x1), some (.inl x2), some (.inl 0), some (.inl 0)]) rfl ?_
          exact H
        · rw [if_neg c8] at H
          refine g_if1f iX11_deal_33 c8 ?_
          refine g_c iX11_deal_36 ?_
          exact g_ri iX11_deal_38 (Or.inl rfl) H
    · rw [if_neg c6] at H
      refine g_if1f iX11_deal_16 c6 ?_
      refine g_c iX11_deal_19 ?_
      exact g_ri iX11_deal_21 (Or.inl rfl) H
set_option maxRecDepth 20000 in
set_option maxHeartbeats 4000000 in
theorem bX11_deal_44 (L d : Nat) (x1 : Int) (x2 : Int) (x3 : Int) (x4 : Int) (σ : rx_St) (K : Int → rx_St → Prop)
    (H : if x2 ≤ x4 then (K x3 σ) else (if x1 ≠ 0 then (rx_CI L d mX11_drawsRoad [.inr 125] σ (fun v12 σ11 => rx_Go L (d + 1) mX11_deal 44 [some (.inr 125), some (.inl x1), some (.inl x2), some (.inl (rx_w (x3 + v12))), some (.inl (rx_w (x4 + 1)))] [] σ11 (rx_PI K))) else (rx_CI L d mX11_drawsPost [.inr 125] σ (fun v14 σ13 => rx_Go L (d + 1) mX11_deal 44 [some (.inr 125), some (.inl x1), some (.inl x2), some (.inl (rx_w (x3 + v14))), some (.inl (rx_w (x4 + 1)))] [] σ13 (rx_PI K))))) :
    rx_Go L (d + 1) mX11_deal 44 [some (.inr 125), some (.inl x1), some (.inl x2), some (.inl x3), some (.inl x4)] [] σ (rx_PI K) := by
  refine g_il iX11_deal_44 rfl ?_
  refine g_il iX11_deal_46 rfl ?_
  by_cases c9 : x2 ≤ x4
  · rw [if_pos c9] at H
    refine g_ic3t iX11_deal_47 c9 ?_
    refine g_il iX11_deal_74 rfl ?_
    exact g_ri iX11_deal_75 (Or.inl rfl) H
  · rw [if_neg c9] at H
    refine g_ic3f iX11_deal_47 c9 ?_
    refine g_il iX11_deal_50 rfl ?_
    refine g_il iX11_deal_51 rfl ?_
    by_cases c10 : x1 ≠ 0
    · rw [if_pos c10] at H
      refine g_if1t iX11_deal_52 c10 ?_
      refine g_al iX11_deal_62 rfl ?_
      refine g_ci (as := [.inr 125]) (rest := [.inl x3]) iX11_deal_63 rfl rfl (Nat.le_of_ble_eq_true rfl) (Or.inr ⟨_, _, rfl, oo_11_125⟩) (rx_CI.imp H (fun v12 σ11 H => ?_))
      refine g_add iX11_deal_66 ?_
      refine g_is iX11_deal_67 (Nat.le_of_ble_eq_true rfl) ?_
      refine rx_Go.ls (la := [some (.inr 125), some (.inl x1), some (.inl x2), some (.inl (rx_w (x3 + v12))), some (.inl x4)]) rfl ?_
      refine g_ii iX11_deal_68 rfl ?_
      refine rx_Go.ls (la := [some (.inr 125), some (.inl x1), some (.inl x2), some (.inl (rx_w (x3 + v12))), some (.inl (rx_w (x4 + 1)))]) rfl ?_
      refine g_goto iX11_deal_71 ?_
      exact H
    · rw [if_neg c10] at H
      refine g_if1f iX11_deal_52 c10 ?_
      refine g_al iX11_deal_55 rfl ?_
      refine g_ci (as := [.inr 125]) (rest := [.inl x3]) iX11_deal_56 rfl rfl (Nat.le_of_ble_eq_true rfl) (Or.inr ⟨_, _, rfl, oo_11_125⟩) (rx_CI.imp H (fun v14 σ13 H => ?_))
      refine g_goto iX11_deal_59 ?_
      refine g_add iX11_deal_66 ?_
      refine g_is iX11_deal_67 (Nat.le_of_ble_eq_true rfl) ?_
      refine rx_Go.ls (la := [some (.inr 125), some (.inl x1), some (.inl x2), some (.inl (rx_w (x3 + v14))), some (.inl x4)]) rfl ?_
      refine g_ii iX11_deal_68 rfl ?_
      refine rx_Go.ls (la := [some (.inr 125), some (.inl x1), some (.inl x2), some (.inl (rx_w (x3 + v14))), some (.inl (rx_w (x4 + 1)))]) rfl ?_
      refine g_goto iX11_deal_71 ?_
      exact H
set_option maxRecDepth 20000 in
set_option maxHeartbeats 4000000 in
theorem bX11_seed (L d : Nat) (x1 : Int) (σ : rx_St) (K : Int → rx_St → Prop)
    (H : K (σ 126 0) (rx_up σ 126 0 x1)) :
    rx_CI L d mX11_seed [.inr 125, .inl x1] σ K := by
  refine rx_CI.of (la := [some (.inr 125), some (.inl x1), none]) rfl ?_
  refine g_al iX11_seed_0 rfl ?_
  refine g_gr iX11_seed_1 fr_11_0_125 ?_
  refine g_c iX11_seed_4 ?_
  refine g_ld iX11_seed_5 (ln_126 L) (by decide) ?_
  refine g_is iX11_seed_6 (Nat.le_of_ble_eq_true rfl) ?_
  refine rx_Go.ls (la := [some (.inr 125), some (.inl x1), some (.inl (σ 126 0))]) rfl ?_
  refine g_al iX11_seed_7 rfl ?_
  refine g_gr iX11_seed_8 fr_11_0_125 ?_
  refine g_c iX11_seed_11 ?_
  refine g_il iX11_seed_12 rfl ?_
  refine g_st iX11_seed_13 (ln_126 L) (by decide) (by decide) rfl ?_
  refine g_il iX11_seed_14 rfl ?_
  exact g_ri iX11_seed_15 (Or.inl rfl) H
set_option maxRecDepth 20000 in
set_option maxHeartbeats 4000000 in
theorem bX11_feed (L d : Nat) (x1 : Int) (x2 : Int) (x3 : Int) (σ : rx_St) (K : Int → rx_St → Prop)
    (H : if (rx_w ((σ 125 22) + 12)) ≤ 96 then (rx_Go L d mX11_feed 18 [some (.inr 125), some (.inl x1), some (.inl x2), some (.inl x3), some (.inl 0), none] [] σ (rx_PI K)) else (K (-1000000003) σ)) :
    rx_CI L d mX11_feed [.inr 125, .inl x1, .inl x2, .inl x3] σ K := by
  refine rx_CI.of (la := [some (.inr 125), some (.inl x1), some (.inl x2), some (.inl x3), none, none]) rfl ?_
  refine g_al iX11_feed_0 rfl ?_
  refine g_gf (kI := 22) rfl iX11_feed_1 fi_11_22_125 ?_
  refine g_c iX11_feed_4 ?_
  refine g_add iX11_feed_6 ?_
  refine g_c iX11_feed_7 ?_
  by_cases c1 : (rx_w ((σ 125 22) + 12)) ≤ 96
  · rw [if_pos c1] at H
    refine g_ic5t iX11_feed_9 c1 ?_
    refine g_c iX11_feed_15 ?_
    refine g_is iX11_feed_16 (Nat.le_of_ble_eq_true rfl) ?_
    refine rx_Go.ls (la := [some (.inr 125), some (.inl x1), some (.inl x2), some (.inl x3), some (.inl 0), none]) rfl ?_
    exact H
  · rw [if_neg c1] at H
    refine g_ic5f iX11_feed_9 c1 ?_
    refine g_c iX11_feed_12 ?_
    exact g_ri iX11_feed_14 (Or.inl rfl) H
set_option maxRecDepth 20000 in
set_option maxHeartbeats 4000000 in
theorem bX11_feed_18 (L d : Nat) (x1 : Int) (x2 : Int) (x3 : Int) (x4 : Int) (q5 : Option rx_V) (σ : rx_St) (K : Int → rx_St → Prop)
    (H : if 12 ≤ x4 then (K ((rx_up σ 125 22 (rx_w ((σ 125 22) + 12))) 125 22) (rx_up σ 125 22 (rx_w ((σ 125 22) + 12)))) else (if 4 ≤ x4 then (if 8 ≤ x4 then ((0 ≤ (rx_w ((σ 125 22) + x4)) ∧ (rx_w ((σ 125 22) + x4)) < 96) ∧ (rx_Go L d mX11_feed 18 [some (.inr 125), some (.inl x1), some (.inl x2), some (.inl x3), some (.inl (rx_w (x4 + 1))), some (.inl x3)] [] (rx_up σ 142 (rx_w ((σ 125 22) + x4)) (rx_alu 3 (rx_alu 7 x3 (rx_w (24 - (rx_w (8 * (Int.tmod x4 4)))))) 255)) (rx_PI K))) else ((0 ≤ (rx_w ((σ 125 22) + x4)) ∧ (rx_w ((σ 125 22) + x4)) < 96) ∧ (rx_Go L d mX11_feed 18 [some (.inr 125), some (.inl x1), some (.inl x2), some (.inl x3), some (.inl (rx_w (x4 + 1))), some (.inl x2)] [] (rx_up σ 142 (rx_w ((σ 125 22) + x4)) (rx_alu 3 (rx_alu 7 x2 (rx_w (24 - (rx_w (8 * (Int.tmod x4 4)))))) 255)) (rx_PI K)))) else ((0 ≤ (rx_w ((σ 125 22) + x4)) ∧ (rx_w ((σ 125 22) + x4)) < 96) ∧ (rx_Go L d mX11_feed 18 [some (.inr 125), some (.inl x1), some (.inl x2), some (.inl x3), some (.inl (rx_w (x4 + 1))), some (.inl x1)] [] (rx_up σ 142 (rx_w ((σ 125 22) + x4)) (rx_alu 3 (rx_alu 7 x1 (rx_w (24 - (rx_w (8 * (Int.tmod x4 4)))))) 255)) (rx_PI K))))) :
    rx_Go L d mX11_feed 18 [some (.inr 125), some (.inl x1), some (.inl x2), some (.inl x3), some (.inl x4), q5] [] σ (rx_PI K) := by
  refine g_il iX11_feed_18 rfl ?_
  refine g_c iX11_feed_20 ?_
  by_cases c2 : 12 ≤ x4
  · rw [if_pos c2] at H
    refine g_ic3t iX11_feed_22 c2 ?_
    refine g_al iX11_feed_84 rfl ?_
    refine g_dup iX11_feed_85 ?_
    refine g_gf (kI := 22) rfl iX11_feed_86 fi_11_22_125 ?_
    refine g_c iX11_feed_89 ?_
    refine g_add iX11_feed_91 ?_
    refine g_pf (kI := 22) rfl iX11_feed_92 fi_11_22_125 (Or.inl rfl) ?_
    refine g_al iX11_feed_95 rfl ?_
    refine g_gf (kI := 22) rfl iX11_feed_96 fi_11_22_125 ?_
    exact g_ri iX11_feed_99 (Or.inl rfl) H
  · rw [if_neg c2] at H
    refine g_ic3f iX11_feed_22 c2 ?_
    refine g_il iX11_feed_25 rfl ?_
    refine g_c iX11_feed_27 ?_
    by_cases c3 : 4 ≤ x4
    · rw [if_pos c3] at H
      refine g_ic3t iX11_feed_28 c3 ?_
      refine g_il iX11_feed_35 rfl ?_
      refine g_c iX11_feed_37 ?_
      by_cases c4 : 8 ≤ x4
      · rw [if_pos c4] at H
        refine g_ic3t iX11_feed_39 c4 ?_
        refine g_il iX11_feed_46 rfl ?_
        refine g_is iX11_feed_47 (Nat.le_of_ble_eq_true rfl) ?_
        refine rx_Go.ls (la := [some (.inr 125), some (.inl x1), some (.inl x2), some (.inl x3), some (.inl x4), some (.inl x3)]) rfl ?_
        refine g_al iX11_feed_49 rfl ?_
        refine g_gr iX11_feed_50 fr_11_21_125 ?_
        refine g_al iX11_feed_53 rfl ?_
        refine g_gf (kI := 22) rfl iX11_feed_54 fi_11_22_125 ?_
        refine g_il iX11_feed_57 rfl ?_
        refine g_add iX11_feed_59 ?_
        refine g_il iX11_feed_60 rfl ?_
        refine g_c iX11_feed_62 ?_
        refine g_c iX11_feed_64 ?_
        refine g_il iX11_feed_66 rfl ?_
        refine g_c iX11_feed_68 ?_
        refine g_rem iX11_feed_69 (by decide) ?_
        refine g_mul iX11_feed_70 ?_
        refine g_sub iX11_feed_71 ?_
        refine g_bit iX11_feed_72 ?_
        refine g_c iX11_feed_73 ?_
        refine g_bit iX11_feed_76 ?_
        obtain ⟨o5, H⟩ := H
        refine g_st iX11_feed_77 (ln_142 L) (by decide) o5 rfl ?_
        refine g_ii iX11_feed_78 rfl ?_
        refine rx_Go.ls (la := [some (.inr 125), some (.inl x1), some (.inl x2), some (.inl x3), some (.inl (rx_w (x4 + 1))), some (.inl x3)]) rfl ?_
        refine g_goto iX11_feed_81 ?_
        exact H
      · rw [if_neg c4] at H
        refine g_ic3f iX11_feed_39 c4 ?_
        refine g_il iX11_feed_42 rfl ?_
        refine g_goto iX11_feed_43 ?_
        refine g_is iX11_feed_47 (Nat.le_of_ble_eq_true rfl) ?_
        refine rx_Go.ls (la := [some (.inr 125), some (.inl x1), some (.inl x2), some (.inl x3), some (.inl x4), some (.inl x2)]) rfl ?_
        refine g_al iX11_feed_49 rfl ?_
        refine g_gr iX11_feed_50 fr_11_21_125 ?_
        refine g_al iX11_feed_53 rfl ?_
        refine g_gf (kI := 22) rfl iX11_feed_54 fi_11_22_125 ?_
        refine g_il iX11_feed_57 rfl ?_
        refine g_add iX11_feed_59 ?_
        refine g_il iX11_feed_60 rfl ?_
        refine g_c iX11_feed_62 ?_
        refine g_c iX11_feed_64 ?_
        refine g_il iX11_feed_66 rfl ?_
        refine g_c iX11_feed_68 ?_
        refine g_rem iX11_feed_69 (by decide) ?_
        refine g_mul iX11_feed_70 ?_
        refine g_sub iX11_feed_71 ?_
        refine g_bit iX11_feed_72 ?_
        refine g_c iX11_feed_73 ?_
        refine g_bit iX11_feed_76 ?_
        obtain ⟨o6, H⟩ := H
        refine g_st iX11_feed_77 (ln_142 L) (by decide) o6 rfl ?_
        refine g_ii iX11_feed_78 rfl ?_
        refine rx_Go.ls (la := [some (.inr 125), some (.inl x1), some (.inl x2), some (.inl x3), some (.inl (rx_w (x4 + 1))), some (.inl x2)]) rfl ?_
        refine g_goto iX11_feed_81 ?_
        exact H
    · rw [if_neg c3] at H
      refine g_ic3f iX11_feed_28 c3 ?_
      refine g_il iX11_feed_31 rfl ?_
      refine g_goto iX11_feed_32 ?_
      refine g_is iX11_feed_47 (Nat.le_of_ble_eq_true rfl) ?_
      refine rx_Go.ls (la := [some (.inr 125), some (.inl x1), some (.inl x2), some (.inl x3), some (.inl x4), some (.inl x1)]) rfl ?_
      refine g_al iX11_feed_49 rfl ?_
      refine g_gr iX11_feed_50 fr_11_21_125 ?_
      refine g_al iX11_feed_53 rfl ?_
      refine g_gf (kI := 22) rfl iX11_feed_54 fi_11_22_125 ?_
      refine g_il iX11_feed_57 rfl ?_
      refine g_add iX11_feed_59 ?_
      refine g_il iX11_feed_60 rfl ?_
      refine g_c iX11_feed_62 ?_
      refine g_c iX11_feed_64 ?_
      refine g_il iX11_feed_66 rfl ?_
      refine g_c iX11_feed_68 ?_
      refine g_rem iX11_feed_69 (by decide) ?_
      refine g_mul iX11_feed_70 ?_
      refine g_sub iX11_feed_71 ?_
      refine g_bit iX11_feed_72 ?_
      refine g_c iX11_feed_73 ?_
      refine g_bit iX11_feed_76 ?_
      obtain ⟨o7, H⟩ := H
      refine g_st iX11_feed_77 (ln_142 L) (by decide) o7 rfl ?_
      refine g_ii iX11_feed_78 rfl ?_
      refine rx_Go.ls (la := [some (.inr 125), some (.inl x1), some (.inl x2), some (.inl x3), some (.inl (rx_w (x4 + 1))), some (.inl x1)]) rfl ?_
      refine g_goto iX11_feed_81 ?_
      exact H
set_option maxRecDepth 20000 in
set_option maxHeartbeats 4000000 in
theorem bX11_trim (L d : Nat) (x1 : Int) (σ : rx_St) (K : Int → rx_St → Prop)
    (H : rx_CI L d mX11_in [.inl x1, .inl 0, .inl (σ 125 22)] σ (fun v2 σ1 => if v2 ≠ 0 then (K x1 (rx_up σ1 125 22 x1)) else (K (-1000000001) σ1))) :
    rx_CI L (d + 1) mX11_trim [.inr 125, .inl x1] σ K := by
  refine rx_CI.of (la := [some (.inr 125), some (.inl x1)]) rfl ?_
  refine g_il iX11_trim_0 rfl ?_
  refine g_c iX11_trim_1 ?_
  refine g_al iX11_trim_2 rfl ?_
  refine g_gf (kI := 22) rfl iX11_trim_3 fi_11_22_125 ?_
  refine g_ci (as := [.inl x1, .inl 0, .inl (σ 125 22)]) (rest := []) iX11_trim_6 rfl rfl (Nat.le_of_ble_eq_true rfl) (Or.inl (by decide)) (rx_CI.imp H (fun v2 σ1 H => ?_))
  by_cases c3 : v2 ≠ 0
  · rw [if_pos c3] at H
    refine g_if1t iX11_trim_9 c3 ?_
    refine g_al iX11_trim_15 rfl ?_
    refine g_il iX11_trim_16 rfl ?_
    refine g_pf (kI := 22) rfl iX11_trim_17 fi_11_22_125 (Or.inl rfl) ?_
    refine g_il iX11_trim_20 rfl ?_
    exact g_ri iX11_trim_21 (Or.inl rfl) H
  · rw [if_neg c3] at H
    refine g_if1f iX11_trim_9 c3 ?_
    refine g_c iX11_trim_12 ?_
    exact g_ri iX11_trim_14 (Or.inl rfl) H
set_option maxRecDepth 20000 in
set_option maxHeartbeats 4000000 in
theorem bX11_isLetter (L d : Nat) (x1 : Int) (σ : rx_St) (K : Int → rx_St → Prop)
    (H : if (σ 125 22) ≤ x1 then (K 0 σ) else ((0 ≤ x1 ∧ x1 < 96) ∧ (if (σ 142 x1) < 97 then (K 0 σ) else (if 122 < (σ 142 x1) then (K 0 σ) else (K 1 σ))))) :
    rx_CI L d mX11_isLetter [.inr 125, .inl x1] σ K := by
  refine rx_CI.of (la := [some (.inr 125), some (.inl x1)]) rfl ?_
  refine g_il iX11_isLetter_0 rfl ?_
  refine g_al iX11_isLetter_1 rfl ?_
  refine g_gf (kI := 22) rfl iX11_isLetter_2 fi_11_22_125 ?_
  by_cases c1 : (σ 125 22) ≤ x1
  · rw [if_pos c1] at H
    refine g_ic3t iX11_isLetter_5 c1 ?_
    refine g_c iX11_isLetter_34 ?_
    exact g_ri iX11_isLetter_35 (by decide) H
  · rw [if_neg c1] at H
    refine g_ic3f iX11_isLetter_5 c1 ?_
    refine g_al iX11_isLetter_8 rfl ?_
    refine g_gr iX11_isLetter_9 fr_11_21_125 ?_
    refine g_il iX11_isLetter_12 rfl ?_
    obtain ⟨o2, H⟩ := H
    refine g_ld iX11_isLetter_13 (ln_142 L) o2 ?_
    refine g_c iX11_isLetter_14 ?_
    by_cases c3 : (σ 142 x1) < 97
    · rw [if_pos c3] at H
      refine g_ic2t iX11_isLetter_16 c3 ?_
      refine g_c iX11_isLetter_34 ?_
      exact g_ri iX11_isLetter_35 (by decide) H
    · rw [if_neg c3] at H
      refine g_ic2f iX11_isLetter_16 c3 ?_
      refine g_al iX11_isLetter_19 rfl ?_
      refine g_gr iX11_isLetter_20 fr_11_21_125 ?_
      refine g_il iX11_isLetter_23 rfl ?_
      refine g_ld iX11_isLetter_24 (ln_142 L) o2 ?_
      refine g_c iX11_isLetter_25 ?_
      by_cases c4 : 122 < (σ 142 x1)
      · rw [if_pos c4] at H
        refine g_ic4t iX11_isLetter_27 c4 ?_
        refine g_c iX11_isLetter_34 ?_
        exact g_ri iX11_isLetter_35 (by decide) H
      · rw [if_neg c4] at H
        refine g_ic4f iX11_isLetter_27 c4 ?_
        refine g_c iX11_isLetter_30 ?_
        refine g_goto iX11_isLetter_31 ?_
        exact g_ri iX11_isLetter_35 (by decide) H
set_option maxRecDepth 20000 in
set_option maxHeartbeats 4000000 in
theorem bX11_isFigure (L d : Nat) (x1 : Int) (σ : rx_St) (K : Int → rx_St → Prop)
    (H : if (σ 125 22) ≤ x1 then (K 0 σ) else ((0 ≤ x1 ∧ x1 < 96) ∧ (if (σ 142 x1) < 48 then (K 0 σ) else (if 57 < (σ 142 x1) then (K 0 σ) else (K 1 σ))))) :
    rx_CI L d mX11_isFigure [.inr 125, .inl x1] σ K := by
  refine rx_CI.of (la := [some (.inr 125), some (.inl x1)]) rfl ?_
  refine g_il iX11_isFigure_0 rfl ?_
  refine g_al iX11_isFigure_1 rfl ?_
  refine g_gf (kI := 22) rfl iX11_isFigure_2 fi_11_22_125 ?_
  by_cases c1 : (σ 125 22) ≤ x1
  · rw [if_pos c1] at H
    refine g_ic3t iX11_isFigure_5 c1 ?_
    refine g_c iX11_isFigure_34 ?_
    exact g_ri iX11_isFigure_35 (by decide) H
  · rw [if_neg c1] at H
    refine g_ic3f iX11_isFigure_5 c1 ?_
    refine g_al iX11_isFigure_8 rfl ?_
    refine g_gr iX11_isFigure_9 fr_11_21_125 ?_
    refine g_il iX11_isFigure_12 rfl ?_
    obtain ⟨o2, H⟩ := H
    refine g_ld iX11_isFigure_13 (ln_142 L) o2 ?_
    refine g_c iX11_isFigure_14 ?_
    by_cases c3 : (σ 142 x1) < 48
    · rw [if_pos c3] at H
      refine g_ic2t iX11_isFigure_16 c3 ?_
      refine g_c iX11_isFigure_34 ?_
      exact g_ri iX11_isFigure_35 (by decide) H
    · rw [if_neg c3] at H
      refine g_ic2f iX11_isFigure_16 c3 ?_
      refine g_al iX11_isFigure_19 rfl ?_
      refine g_gr iX11_isFigure_20 fr_11_21_125 ?_
      refine g_il iX11_isFigure_23 rfl ?_
      refine g_ld iX11_isFigure_24 (ln_142 L) o2 ?_
      refine g_c iX11_isFigure_25 ?_
      by_cases c4 : 57 < (σ 142 x1)
      · rw [if_pos c4] at H
        refine g_ic4t iX11_isFigure_27 c4 ?_
        refine g_c iX11_isFigure_34 ?_
        exact g_ri iX11_isFigure_35 (by decide) H
      · rw [if_neg c4] at H
        refine g_ic4f iX11_isFigure_27 c4 ?_
        refine g_c iX11_isFigure_30 ?_
        refine g_goto iX11_isFigure_31 ?_
        exact g_ri iX11_isFigure_35 (by decide) H
set_option maxRecDepth 20000 in
set_option maxHeartbeats 4000000 in
theorem bX11_go (L d : Nat)  (σ : rx_St) (K : rx_St → Prop)
    (H : rx_Go L (d + 1) mX11_go 0 [some (.inr 125), none] [] σ (rx_PV K)) :
    rx_CV L (d + 1) mX11_go [.inr 125] σ K := by
  refine rx_CV.of (la := [some (.inr 125), none]) rfl ?_
  exact H
set_option maxRecDepth 20000 in
set_option maxHeartbeats 4000000 in
theorem bX11_go_0 (L d : Nat) (q1 : Option rx_V) (σ : rx_St) (K : rx_St → Prop)
    (H : if (σ 125 22) ≤ (σ 125 23) then (rx_Go L (d + 1) mX11_go 38 [some (.inr 125), q1] [] σ (rx_PV K)) else ((0 ≤ (σ 125 23) ∧ (σ 125 23) < 96) ∧ (if (σ 142 (σ 125 23)) ≠ 32 then (rx_Go L (d + 1) mX11_go 38 [some (.inr 125), q1] [] σ (rx_PV K)) else (rx_Go L (d + 1) mX11_go 0 [some (.inr 125), q1] [] (rx_up σ 125 23 (rx_w ((σ 125 23) + 1))) (rx_PV K))))) :
    rx_Go L (d + 1) mX11_go 0 [some (.inr 125), q1] [] σ (rx_PV K) := by
  refine g_al iX11_go_0 rfl ?_
  refine g_gf (kI := 23) rfl iX11_go_1 fi_11_23_125 ?_
  refine g_al iX11_go_4 rfl ?_
  refine g_gf (kI := 22) rfl iX11_go_5 fi_11_22_125 ?_
  by_cases c1 : (σ 125 22) ≤ (σ 125 23)
  · rw [if_pos c1] at H
    refine g_ic3t iX11_go_8 c1 ?_
    exact H
  · rw [if_neg c1] at H
    refine g_ic3f iX11_go_8 c1 ?_
    refine g_al iX11_go_11 rfl ?_
    refine g_gr iX11_go_12 fr_11_21_125 ?_
    refine g_al iX11_go_15 rfl ?_
    refine g_gf (kI := 23) rfl iX11_go_16 fi_11_23_125 ?_
    obtain ⟨o2, H⟩ := H
    refine g_ld iX11_go_19 (ln_142 L) o2 ?_
    refine g_c iX11_go_20 ?_
    by_cases c3 : (σ 142 (σ 125 23)) ≠ 32
    · rw [if_pos c3] at H
      refine g_ic1t iX11_go_22 c3 ?_
      exact H
    · rw [if_neg c3] at H
      refine g_ic1f iX11_go_22 c3 ?_
      refine g_al iX11_go_25 rfl ?_
      refine g_dup iX11_go_26 ?_
      refine g_gf (kI := 23) rfl iX11_go_27 fi_11_23_125 ?_
      refine g_c iX11_go_30 ?_
      refine g_add iX11_go_31 ?_
      refine g_pf (kI := 23) rfl iX11_go_32 fi_11_23_125 (Or.inl rfl) ?_
      refine g_goto iX11_go_35 ?_
      exact H
set_option maxRecDepth 20000 in
set_option maxHeartbeats 4000000 in
theorem bX11_go_38 (L d : Nat) (q1 : Option rx_V) (σ : rx_St) (K : rx_St → Prop)
    (H : if ((rx_up σ 125 24 (σ 125 23)) 125 24) ≠ ((rx_up σ 125 24 (σ 125 23)) 125 27) then (rx_Go L (d + 1) mX11_go 63 [some (.inr 125), some (.inl 0)] [] (rx_up σ 125 24 (σ 125 23)) (rx_PV K)) else (rx_Go L (d + 1) mX11_go 63 [some (.inr 125), some (.inl 1)] [] (rx_up σ 125 24 (σ 125 23)) (rx_PV K))) :
    rx_Go L (d + 1) mX11_go 38 [some (.inr 125), q1] [] σ (rx_PV K) := by
  refine g_al iX11_go_38 rfl ?_
  refine g_al iX11_go_39 rfl ?_
  refine g_gf (kI := 23) rfl iX11_go_40 fi_11_23_125 ?_
  refine g_pf (kI := 24) rfl iX11_go_43 fi_11_24_125 (Or.inl rfl) ?_
  refine g_al iX11_go_46 rfl ?_
  refine g_gf (kI := 24) rfl iX11_go_47 fi_11_24_125 ?_
  refine g_al iX11_go_50 rfl ?_
  refine g_gf (kI := 27) rfl iX11_go_51 fi_11_27_125 ?_
  by_cases c4 : ((rx_up σ 125 24 (σ 125 23)) 125 24) ≠ ((rx_up σ 125 24 (σ 125 23)) 125 27)
  · rw [if_pos c4] at H
    refine g_ic1t iX11_go_54 c4 ?_
    refine g_c iX11_go_61 ?_
    refine g_is iX11_go_62 (Nat.le_of_ble_eq_true rfl) ?_
    refine rx_Go.ls (la := [some (.inr 125), some (.inl 0)]) rfl ?_
    exact H
  · rw [if_neg c4] at H
    refine g_ic1f iX11_go_54 c4 ?_
    refine g_c iX11_go_57 ?_
    refine g_goto iX11_go_58 ?_
    refine g_is iX11_go_62 (Nat.le_of_ble_eq_true rfl) ?_
    refine rx_Go.ls (la := [some (.inr 125), some (.inl 1)]) rfl ?_
    exact H
set_option maxRecDepth 20000 in
set_option maxHeartbeats 4000000 in
theorem bX11_go_63 (L d : Nat) (x1 : Int) (σ : rx_St) (K : rx_St → Prop)
    (H : if (σ 125 24) ≠ (σ 125 22) then (rx_CI L d mX11_isLetter [.inr 125, .inl (σ 125 24)] σ (fun v7 σ6 => if v7 = 0 then (rx_CI L d mX11_isFigure [.inr 125, .inl (σ6 125 24)] σ6 (fun v10 σ9 => if v10 = 0 then ((0 ≤ ((rx_up σ9 125 25 3) 125 24) ∧ ((rx_up σ9 125 25 3) 125 24) < 96) ∧ (K (rx_up (rx_up (rx_up σ9 125 25 3) 125 26 ((rx_up σ9 125 25 3) 142 ((rx_up σ9 125 25 3) 125 24))) 125 23 (rx_w (((rx_up (rx_up σ9 125 25 3) 125 26 ((rx_up σ9 125 25 3) 142 ((rx_up σ9 125 25 3) 125 24))) 125 23) + 1))))) else (rx_Go L (d + 1) mX11_go 170 [some (.inr 125), some (.inl x1)] [] (rx_up σ9 125 26 0) (rx_PV K)))) else (rx_Go L (d + 1) mX11_go 93 [some (.inr 125), some (.inl x1)] [] σ6 (rx_PV K)))) else (K (rx_up σ 125 25 0))) :
    rx_Go L (d + 1) mX11_go 63 [some (.inr 125), some (.inl x1)] [] σ (rx_PV K) := by
  refine g_al iX11_go_63 rfl ?_
  refine g_gf (kI := 24) rfl iX11_go_64 fi_11_24_125 ?_
  refine g_al iX11_go_67 rfl ?_
  refine g_gf (kI := 22) rfl iX11_go_68 fi_11_22_125 ?_
  by_cases c5 : (σ 125 24) ≠ (σ 125 22)
  · rw [if_pos c5] at H
    refine g_ic1t iX11_go_71 c5 ?_
    refine g_al iX11_go_82 rfl ?_
    refine g_al iX11_go_83 rfl ?_
    refine g_gf (kI := 24) rfl iX11_go_84 fi_11_24_125 ?_
    refine g_ci (as := [.inr 125, .inl (σ 125 24)]) (rest := []) iX11_go_87 rfl rfl (Nat.le_of_ble_eq_true rfl) (Or.inr ⟨_, _, rfl, oo_11_125⟩) (rx_CI.imp H (fun v7 σ6 H => ?_))
    by_cases c8 : v7 = 0
    · rw [if_pos c8] at H
      refine g_if0t iX11_go_90 c8 ?_
      refine g_al iX11_go_154 rfl ?_
      refine g_al iX11_go_155 rfl ?_
      refine g_gf (kI := 24) rfl iX11_go_156 fi_11_24_125 ?_
      refine g_ci (as := [.inr 125, .inl (σ6 125 24)]) (rest := []) iX11_go_159 rfl rfl (Nat.le_of_ble_eq_true rfl) (Or.inr ⟨_, _, rfl, oo_11_125⟩) (rx_CI.imp H (fun v10 σ9 H => ?_))
      by_cases c11 : v10 = 0
      · rw [if_pos c11] at H
        refine g_if0t iX11_go_162 c11 ?_
        refine g_al iX11_go_275 rfl ?_
        refine g_c iX11_go_276 ?_
        refine g_pf (kI := 25) rfl iX11_go_277 fi_11_25_125 (Or.inl rfl) ?_
        refine g_al iX11_go_280 rfl ?_
        refine g_al iX11_go_281 rfl ?_
        refine g_gr iX11_go_282 fr_11_21_125 ?_
        refine g_al iX11_go_285 rfl ?_
        refine g_gf (kI := 24) rfl iX11_go_286 fi_11_24_125 ?_
        obtain ⟨o12, H⟩ := H
        refine g_ld iX11_go_289 (ln_142 L) o12 ?_
        refine g_pf (kI := 26) rfl iX11_go_290 fi_11_26_125 (Or.inl rfl) ?_
        refine g_al iX11_go_293 rfl ?_
        refine g_dup iX11_go_294 ?_
        refine g_gf (kI := 23) rfl iX11_go_295 fi_11_23_125 ?_
        refine g_c iX11_go_298 ?_
        refine g_add iX11_go_299 ?_
        refine g_pf (kI := 23) rfl iX11_go_300 fi_11_23_125 (Or.inl rfl) ?_
        exact g_rv iX11_go_303 H
      · rw [if_neg c11] at H
        refine g_if0f iX11_go_162 c11 ?_
        refine g_al iX11_go_165 rfl ?_
        refine g_c iX11_go_166 ?_
        refine g_pf (kI := 26) rfl iX11_go_167 fi_11_26_125 (Or.inl rfl) ?_
        exact H
    · rw [if_neg c8] at H
      refine g_if0f iX11_go_90 c8 ?_
      exact H
  · rw [if_neg c5] at H
    refine g_ic1f iX11_go_71 c5 ?_
    refine g_al iX11_go_74 rfl ?_
    refine g_c iX11_go_75 ?_
    refine g_pf (kI := 25) rfl iX11_go_76 fi_11_25_125 (Or.inl rfl) ?_
    refine g_goto iX11_go_79 ?_
    exact g_rv iX11_go_303 H
set_option maxRecDepth 20000 in
set_option maxHeartbeats 4000000 in
theorem bX11_go_170 (L d : Nat) (x1 : Int) (σ : rx_St) (K : rx_St → Prop)
    (H : rx_CI L d mX11_isFigure [.inr 125, .inl (σ 125 23)] σ (fun v14 σ13 => if v14 = 0 then (if x1 ≠ 0 then (rx_Go L (d + 1) mX11_go 264 [some (.inr 125), some (.inl x1)] [] (rx_up σ13 125 25 4) (rx_PV K)) else (if (rx_w ((σ13 125 23) - (σ13 125 24))) ≤ 4 then (rx_Go L (d + 1) mX11_go 264 [some (.inr 125), some (.inl x1)] [] (rx_up σ13 125 25 2) (rx_PV K)) else (rx_Go L (d + 1) mX11_go 264 [some (.inr 125), some (.inl x1)] [] (rx_up σ13 125 25 4) (rx_PV K)))) else (if 4 ≤ (rx_w ((σ13 125 23) - (σ13 125 24))) then (rx_Go L (d + 1) mX11_go 225 [some (.inr 125), some (.inl x1)] [] (rx_up σ13 125 26 (σ13 125 26)) (rx_PV K)) else ((0 ≤ (σ13 125 23) ∧ (σ13 125 23) < 96) ∧ (rx_Go L (d + 1) mX11_go 225 [some (.inr 125), some (.inl x1)] [] (rx_up σ13 125 26 (rx_w ((rx_w ((rx_w (10 * (σ13 125 26))) + (σ13 142 (σ13 125 23)))) - 48))) (rx_PV K)))))) :
    rx_Go L (d + 1) mX11_go 170 [some (.inr 125), some (.inl x1)] [] σ (rx_PV K) := by
  refine g_al iX11_go_170 rfl ?_
  refine g_al iX11_go_171 rfl ?_
  refine g_gf (kI := 23) rfl iX11_go_172 fi_11_23_125 ?_
  refine g_ci (as := [.inr 125, .inl (σ 125 23)]) (rest := []) iX11_go_175 rfl rfl (Nat.le_of_ble_eq_true rfl) (Or.inr ⟨_, _, rfl, oo_11_125⟩) (rx_CI.imp H (fun v14 σ13 H => ?_))
  by_cases c15 : v14 = 0
  · rw [if_pos c15] at H
    refine g_if0t iX11_go_178 c15 ?_
    refine g_al iX11_go_238 rfl ?_
    refine g_il iX11_go_239 rfl ?_
    by_cases c16 : x1 ≠ 0
    · rw [if_pos c16] at H
      refine g_if1t iX11_go_240 c16 ?_
      refine g_c iX11_go_256 ?_
      refine g_goto iX11_go_257 ?_
      refine g_pf (kI := 25) rfl iX11_go_261 fi_11_25_125 (Or.inl rfl) ?_
      exact H
    · rw [if_neg c16] at H
      refine g_if1f iX11_go_240 c16 ?_
      refine g_al iX11_go_243 rfl ?_
      refine g_gf (kI := 23) rfl iX11_go_244 fi_11_23_125 ?_
      refine g_al iX11_go_247 rfl ?_
      refine g_gf (kI := 24) rfl iX11_go_248 fi_11_24_125 ?_
      refine g_sub iX11_go_251 ?_
      refine g_c iX11_go_252 ?_
      by_cases c17 : (rx_w ((σ13 125 23) - (σ13 125 24))) ≤ 4
      · rw [if_pos c17] at H
        refine g_ic5t iX11_go_253 c17 ?_
        refine g_c iX11_go_260 ?_
        refine g_pf (kI := 25) rfl iX11_go_261 fi_11_25_125 (Or.inl rfl) ?_
        exact H
      · rw [if_neg c17] at H
        refine g_ic5f iX11_go_253 c17 ?_
        refine g_c iX11_go_256 ?_
        refine g_goto iX11_go_257 ?_
        refine g_pf (kI := 25) rfl iX11_go_261 fi_11_25_125 (Or.inl rfl) ?_
        exact H
  · rw [if_neg c15] at H
    refine g_if0f iX11_go_178 c15 ?_
    refine g_al iX11_go_181 rfl ?_
    refine g_al iX11_go_182 rfl ?_
    refine g_gf (kI := 23) rfl iX11_go_183 fi_11_23_125 ?_
    refine g_al iX11_go_186 rfl ?_
    refine g_gf (kI := 24) rfl iX11_go_187 fi_11_24_125 ?_
    refine g_sub iX11_go_190 ?_
    refine g_c iX11_go_191 ?_
    by_cases c18 : 4 ≤ (rx_w ((σ13 125 23) - (σ13 125 24)))
    · rw [if_pos c18] at H
      refine g_ic3t iX11_go_192 c18 ?_
      refine g_al iX11_go_218 rfl ?_
      refine g_gf (kI := 26) rfl iX11_go_219 fi_11_26_125 ?_
      refine g_pf (kI := 26) rfl iX11_go_222 fi_11_26_125 (Or.inl rfl) ?_
      exact H
    · rw [if_neg c18] at H
      refine g_ic3f iX11_go_192 c18 ?_
      refine g_c iX11_go_195 ?_
      refine g_al iX11_go_197 rfl ?_
      refine g_gf (kI := 26) rfl iX11_go_198 fi_11_26_125 ?_
      refine g_mul iX11_go_201 ?_
      refine g_al iX11_go_202 rfl ?_
      refine g_gr iX11_go_203 fr_11_21_125 ?_
      refine g_al iX11_go_206 rfl ?_
      refine g_gf (kI := 23) rfl iX11_go_207 fi_11_23_125 ?_
      obtain ⟨o19, H⟩ := H
      refine g_ld iX11_go_210 (ln_142 L) o19 ?_
      refine g_add iX11_go_211 ?_
      refine g_c iX11_go_212 ?_
      refine g_sub iX11_go_214 ?_
      refine g_goto iX11_go_215 ?_
      refine g_pf (kI := 26) rfl iX11_go_222 fi_11_26_125 (Or.inl rfl) ?_
      exact H
set_option maxRecDepth 20000 in
set_option maxHeartbeats 4000000 in
theorem bX11_go_93 (L d : Nat) (x1 : Int) (σ : rx_St) (K : rx_St → Prop)
    (H : rx_CI L d mX11_isLetter [.inr 125, .inl (σ 125 23)] σ (fun v21 σ20 => if v21 = 0 then (if x1 = 0 then (rx_Go L (d + 1) mX11_go 130 [some (.inr 125), some (.inl x1)] [] (rx_up σ20 125 25 1) (rx_PV K)) else (rx_Go L (d + 1) mX11_go 130 [some (.inr 125), some (.inl x1)] [] (rx_up σ20 125 25 4) (rx_PV K))) else (rx_Go L (d + 1) mX11_go 93 [some (.inr 125), some (.inl x1)] [] (rx_up σ20 125 23 (rx_w ((σ20 125 23) + 1))) (rx_PV K)))) :
    rx_Go L (d + 1) mX11_go 93 [some (.inr 125), some (.inl x1)] [] σ (rx_PV K) := by
  refine g_al iX11_go_93 rfl ?_
  refine g_al iX11_go_94 rfl ?_
  refine g_gf (kI := 23) rfl iX11_go_95 fi_11_23_125 ?_
  refine g_ci (as := [.inr 125, .inl (σ 125 23)]) (rest := []) iX11_go_98 rfl rfl (Nat.le_of_ble_eq_true rfl) (Or.inr ⟨_, _, rfl, oo_11_125⟩) (rx_CI.imp H (fun v21 σ20 H => ?_))
  by_cases c22 : v21 = 0
  · rw [if_pos c22] at H
    refine g_if0t iX11_go_101 c22 ?_
    refine g_al iX11_go_117 rfl ?_
    refine g_il iX11_go_118 rfl ?_
    by_cases c23 : x1 = 0
    · rw [if_pos c23] at H
      refine g_if0t iX11_go_119 c23 ?_
      refine g_c iX11_go_126 ?_
      refine g_pf (kI := 25) rfl iX11_go_127 fi_11_25_125 (Or.inl rfl) ?_
      exact H
    · rw [if_neg c23] at H
      refine g_if0f iX11_go_119 c23 ?_
      refine g_c iX11_go_122 ?_
      refine g_goto iX11_go_123 ?_
      refine g_pf (kI := 25) rfl iX11_go_127 fi_11_25_125 (Or.inl rfl) ?_
      exact H
  · rw [if_neg c22] at H
    refine g_if0f iX11_go_101 c22 ?_
    refine g_al iX11_go_104 rfl ?_
    refine g_dup iX11_go_105 ?_
    refine g_gf (kI := 23) rfl iX11_go_106 fi_11_23_125 ?_
    refine g_c iX11_go_109 ?_
    refine g_add iX11_go_110 ?_
    refine g_pf (kI := 23) rfl iX11_go_111 fi_11_23_125 (Or.inl rfl) ?_
    refine g_goto iX11_go_114 ?_
    exact H
set_option maxRecDepth 20000 in
set_option maxHeartbeats 4000000 in
theorem bX11_go_264 (L d : Nat) (q1 : Option rx_V) (σ : rx_St) (K : rx_St → Prop)
    (H : K (rx_up σ 125 27 (σ 125 23))) :
    rx_Go L (d + 1) mX11_go 264 [some (.inr 125), q1] [] σ (rx_PV K) := by
  refine g_al iX11_go_264 rfl ?_
  refine g_al iX11_go_265 rfl ?_
  refine g_gf (kI := 23) rfl iX11_go_266 fi_11_23_125 ?_
  refine g_pf (kI := 27) rfl iX11_go_269 fi_11_27_125 (Or.inl rfl) ?_
  refine g_goto iX11_go_272 ?_
  exact g_rv iX11_go_303 H
set_option maxRecDepth 20000 in
set_option maxHeartbeats 4000000 in
theorem bX11_go_225 (L d : Nat) (x1 : Int) (σ : rx_St) (K : rx_St → Prop)
    (H : rx_Go L (d + 1) mX11_go 170 [some (.inr 125), some (.inl x1)] [] (rx_up σ 125 23 (rx_w ((σ 125 23) + 1))) (rx_PV K)) :
    rx_Go L (d + 1) mX11_go 225 [some (.inr 125), some (.inl x1)] [] σ (rx_PV K) := by
  refine g_al iX11_go_225 rfl ?_
  refine g_dup iX11_go_226 ?_
  refine g_gf (kI := 23) rfl iX11_go_227 fi_11_23_125 ?_
  refine g_c iX11_go_230 ?_
  refine g_add iX11_go_231 ?_
  refine g_pf (kI := 23) rfl iX11_go_232 fi_11_23_125 (Or.inl rfl) ?_
  refine g_goto iX11_go_235 ?_
  exact H
set_option maxRecDepth 20000 in
set_option maxHeartbeats 4000000 in
theorem bX11_go_130 (L d : Nat) (q1 : Option rx_V) (σ : rx_St) (K : rx_St → Prop)
    (H : (0 ≤ (σ 125 24) ∧ (σ 125 24) < 96) ∧ (K (rx_up (rx_up σ 125 26 (σ 142 (σ 125 24))) 125 27 ((rx_up σ 125 26 (σ 142 (σ 125 24))) 125 23)))) :
    rx_Go L (d + 1) mX11_go 130 [some (.inr 125), q1] [] σ (rx_PV K) := by
  refine g_al iX11_go_130 rfl ?_
  refine g_al iX11_go_131 rfl ?_
  refine g_gr iX11_go_132 fr_11_21_125 ?_
  refine g_al iX11_go_135 rfl ?_
  refine g_gf (kI := 24) rfl iX11_go_136 fi_11_24_125 ?_
  obtain ⟨o24, H⟩ := H
  refine g_ld iX11_go_139 (ln_142 L) o24 ?_
  refine g_pf (kI := 26) rfl iX11_go_140 fi_11_26_125 (Or.inl rfl) ?_
  refine g_al iX11_go_143 rfl ?_
  refine g_al iX11_go_144 rfl ?_
  refine g_gf (kI := 23) rfl iX11_go_145 fi_11_23_125 ?_
  refine g_pf (kI := 27) rfl iX11_go_148 fi_11_27_125 (Or.inl rfl) ?_
  refine g_goto iX11_go_151 ?_
  exact g_rv iX11_go_303 H
set_option maxRecDepth 20000 in
set_option maxHeartbeats 4000000 in
theorem bX11_takesKey (L d : Nat)  (σ : rx_St) (K : Int → rx_St → Prop)
    (H : if (σ 125 25) = 1 then (rx_Go L (d + 1) mX11_takesKey 12 [some (.inr 125), some (.inl 0), none, none, none] [] σ (rx_PI K)) else (K 0 σ)) :
    rx_CI L (d + 1) mX11_takesKey [.inr 125] σ K := by
  refine rx_CI.of (la := [some (.inr 125), none, none, none, none]) rfl ?_
  refine g_al iX11_takesKey_0 rfl ?_
  refine g_gf (kI := 25) rfl iX11_takesKey_1 fi_11_25_125 ?_
  refine g_c iX11_takesKey_4 ?_
  by_cases c1 : (σ 125 25) = 1
  · rw [if_pos c1] at H
    refine g_ic0t iX11_takesKey_5 c1 ?_
    refine g_c iX11_takesKey_10 ?_
    refine g_is iX11_takesKey_11 (Nat.le_of_ble_eq_true rfl) ?_
    refine rx_Go.ls (la := [some (.inr 125), some (.inl 0), none, none, none]) rfl ?_
    exact H
  · rw [if_neg c1] at H
    refine g_ic0f iX11_takesKey_5 c1 ?_
    refine g_c iX11_takesKey_8 ?_
    exact g_ri iX11_takesKey_9 (by decide) H
set_option maxRecDepth 20000 in
set_option maxHeartbeats 4000000 in
theorem bX11_takesKey_12 (L d : Nat) (x1 : Int) (q2 : Option rx_V) (q3 : Option rx_V) (q4 : Option rx_V) (σ : rx_St) (K : Int → rx_St → Prop)
    (H : if 3 ≤ x1 then (K 0 σ) else ((0 ≤ (rx_w (x1 + 1)) ∧ (rx_w (x1 + 1)) < 4) ∧ ((0 ≤ x1 ∧ x1 < 4) ∧ (if (rx_w ((σ 144 (rx_w (x1 + 1))) - (σ 144 x1))) ≠ (rx_w ((σ 125 23) - (σ 125 24))) then (rx_Go L (d + 1) mX11_takesKey 55 [some (.inr 125), some (.inl x1), some (.inl (rx_w ((σ 144 (rx_w (x1 + 1))) - (σ 144 x1)))), some (.inl 0), some (.inl 0)] [] σ (rx_PI K)) else (rx_Go L (d + 1) mX11_takesKey 55 [some (.inr 125), some (.inl x1), some (.inl (rx_w ((σ 144 (rx_w (x1 + 1))) - (σ 144 x1)))), some (.inl 1), some (.inl 0)] [] σ (rx_PI K)))))) :
    rx_Go L (d + 1) mX11_takesKey 12 [some (.inr 125), some (.inl x1), q2, q3, q4] [] σ (rx_PI K) := by
  refine g_il iX11_takesKey_12 rfl ?_
  refine g_c iX11_takesKey_13 ?_
  by_cases c2 : 3 ≤ x1
  · rw [if_pos c2] at H
    refine g_ic3t iX11_takesKey_14 c2 ?_
    refine g_c iX11_takesKey_127 ?_
    exact g_ri iX11_takesKey_128 (by decide) H
  · rw [if_neg c2] at H
    refine g_ic3f iX11_takesKey_14 c2 ?_
    refine g_al iX11_takesKey_17 rfl ?_
    refine g_gr iX11_takesKey_18 fr_11_30_125 ?_
    refine g_il iX11_takesKey_21 rfl ?_
    refine g_c iX11_takesKey_22 ?_
    refine g_add iX11_takesKey_23 ?_
    obtain ⟨o3, H⟩ := H
    refine g_ld iX11_takesKey_24 (ln_144 L) o3 ?_
    refine g_al iX11_takesKey_25 rfl ?_
    refine g_gr iX11_takesKey_26 fr_11_30_125 ?_
    refine g_il iX11_takesKey_29 rfl ?_
    obtain ⟨o4, H⟩ := H
    refine g_ld iX11_takesKey_30 (ln_144 L) o4 ?_
    refine g_sub iX11_takesKey_31 ?_
    refine g_is iX11_takesKey_32 (Nat.le_of_ble_eq_true rfl) ?_
    refine rx_Go.ls (la := [some (.inr 125), some (.inl x1), some (.inl (rx_w ((σ 144 (rx_w (x1 + 1))) - (σ 144 x1)))), q3, q4]) rfl ?_
    refine g_il iX11_takesKey_33 rfl ?_
    refine g_al iX11_takesKey_34 rfl ?_
    refine g_gf (kI := 23) rfl iX11_takesKey_35 fi_11_23_125 ?_
    refine g_al iX11_takesKey_38 rfl ?_
    refine g_gf (kI := 24) rfl iX11_takesKey_39 fi_11_24_125 ?_
    refine g_sub iX11_takesKey_42 ?_
    by_cases c5 : (rx_w ((σ 144 (rx_w (x1 + 1))) - (σ 144 x1))) ≠ (rx_w ((σ 125 23) - (σ 125 24)))
    · rw [if_pos c5] at H
      refine g_ic1t iX11_takesKey_43 c5 ?_
      refine g_c iX11_takesKey_50 ?_
      refine g_is iX11_takesKey_51 (Nat.le_of_ble_eq_true rfl) ?_
      refine rx_Go.ls (la := [some (.inr 125), some (.inl x1), some (.inl (rx_w ((σ 144 (rx_w (x1 + 1))) - (σ 144 x1)))), some (.inl 0), q4]) rfl ?_
      refine g_c iX11_takesKey_52 ?_
      refine g_is iX11_takesKey_53 (Nat.le_of_ble_eq_true rfl) ?_
      refine rx_Go.ls (la := [some (.inr 125), some (.inl x1), some (.inl (rx_w ((σ 144 (rx_w (x1 + 1))) - (σ 144 x1)))), some (.inl 0), some (.inl 0)]) rfl ?_
      exact H
    · rw [if_neg c5] at H
      refine g_ic1f iX11_takesKey_43 c5 ?_
      refine g_c iX11_takesKey_46 ?_
      refine g_goto iX11_takesKey_47 ?_
      refine g_is iX11_takesKey_51 (Nat.le_of_ble_eq_true rfl) ?_
      refine rx_Go.ls (la := [some (.inr 125), some (.inl x1), some (.inl (rx_w ((σ 144 (rx_w (x1 + 1))) - (σ 144 x1)))), some (.inl 1), q4]) rfl ?_
      refine g_c iX11_takesKey_52 ?_
      refine g_is iX11_takesKey_53 (Nat.le_of_ble_eq_true rfl) ?_
      refine rx_Go.ls (la := [some (.inr 125), some (.inl x1), some (.inl (rx_w ((σ 144 (rx_w (x1 + 1))) - (σ 144 x1)))), some (.inl 1), some (.inl 0)]) rfl ?_
      exact H
set_option maxRecDepth 20000 in
set_option maxHeartbeats 4000000 in
theorem bX11_takesKey_55 (L d : Nat) (x1 : Int) (x2 : Int) (x3 : Int) (x4 : Int) (σ : rx_St) (K : Int → rx_St → Prop)
    (H : if x2 ≤ x4 then (if x3 = 0 then (rx_Go L (d + 1) mX11_takesKey 12 [some (.inr 125), some (.inl (rx_w (x1 + 1))), some (.inl x2), some (.inl x3), some (.inl x4)] [] σ (rx_PI K)) else (rx_CV L d mX11_go [.inr 125] (rx_up σ 125 28 x1) (fun σ8 => K 1 σ8))) else (if x3 = 0 then (rx_Go L (d + 1) mX11_takesKey 12 [some (.inr 125), some (.inl (rx_w (x1 + 1))), some (.inl x2), some (.inl x3), some (.inl x4)] [] σ (rx_PI K)) else ((0 ≤ (rx_w ((σ 125 24) + x4)) ∧ (rx_w ((σ 125 24) + x4)) < 96) ∧ ((0 ≤ x1 ∧ x1 < 4) ∧ ((0 ≤ (rx_w ((σ 144 x1) + x4)) ∧ (rx_w ((σ 144 x1) + x4)) < 13) ∧ (if (σ 142 (rx_w ((σ 125 24) + x4))) ≠ (σ 143 (rx_w ((σ 144 x1) + x4))) then (rx_Go L (d + 1) mX11_takesKey 55 [some (.inr 125), some (.inl x1), some (.inl x2), some (.inl 0), some (.inl (rx_w (x4 + 1)))] [] σ (rx_PI K)) else (rx_Go L (d + 1) mX11_takesKey 55 [some (.inr 125), some (.inl x1), some (.inl x2), some (.inl 1), some (.inl (rx_w (x4 + 1)))] [] σ (rx_PI K)))))))) :
    rx_Go L (d + 1) mX11_takesKey 55 [some (.inr 125), some (.inl x1), some (.inl x2), some (.inl x3), some (.inl x4)] [] σ (rx_PI K) := by
  refine g_il iX11_takesKey_55 rfl ?_
  refine g_il iX11_takesKey_57 rfl ?_
  by_cases c6 : x2 ≤ x4
  · rw [if_pos c6] at H
    refine g_ic3t iX11_takesKey_58 c6 ?_
    refine g_il iX11_takesKey_106 rfl ?_
    by_cases c7 : x3 = 0
    · rw [if_pos c7] at H
      refine g_if0t iX11_takesKey_107 c7 ?_
      refine g_ii iX11_takesKey_121 rfl ?_
      refine rx_Go.ls (la := [some (.inr 125), some (.inl (rx_w (x1 + 1))), some (.inl x2), some (.inl x3), some (.inl x4)]) rfl ?_
      refine g_goto iX11_takesKey_124 ?_
      exact H
    · rw [if_neg c7] at H
      refine g_if0f iX11_takesKey_107 c7 ?_
      refine g_al iX11_takesKey_110 rfl ?_
      refine g_il iX11_takesKey_111 rfl ?_
      refine g_pf (kI := 28) rfl iX11_takesKey_112 fi_11_28_125 (Or.inl rfl) ?_
      refine g_al iX11_takesKey_115 rfl ?_
      refine g_cv (as := [.inr 125]) (rest := []) iX11_takesKey_116 rfl rfl (Nat.le_of_ble_eq_true rfl) (Or.inr ⟨_, _, rfl, oo_11_125⟩) (rx_CV.imp H (fun σ8 H => ?_))
      refine g_c iX11_takesKey_119 ?_
      exact g_ri iX11_takesKey_120 (by decide) H
  · rw [if_neg c6] at H
    refine g_ic3f iX11_takesKey_58 c6 ?_
    refine g_il iX11_takesKey_61 rfl ?_
    by_cases c9 : x3 = 0
    · rw [if_pos c9] at H
      refine g_if0t iX11_takesKey_62 c9 ?_
      refine g_il iX11_takesKey_106 rfl ?_
      refine g_if0t iX11_takesKey_107 c9 ?_
      refine g_ii iX11_takesKey_121 rfl ?_
      refine rx_Go.ls (la := [some (.inr 125), some (.inl (rx_w (x1 + 1))), some (.inl x2), some (.inl x3), some (.inl x4)]) rfl ?_
      refine g_goto iX11_takesKey_124 ?_
      exact H
    · rw [if_neg c9] at H
      refine g_if0f iX11_takesKey_62 c9 ?_
      refine g_al iX11_takesKey_65 rfl ?_
      refine g_gr iX11_takesKey_66 fr_11_21_125 ?_
      refine g_al iX11_takesKey_69 rfl ?_
      refine g_gf (kI := 24) rfl iX11_takesKey_70 fi_11_24_125 ?_
      refine g_il iX11_takesKey_73 rfl ?_
      refine g_add iX11_takesKey_75 ?_
      obtain ⟨o10, H⟩ := H
      refine g_ld iX11_takesKey_76 (ln_142 L) o10 ?_
      refine g_al iX11_takesKey_77 rfl ?_
      refine g_gr iX11_takesKey_78 fr_11_29_125 ?_
      refine g_al iX11_takesKey_81 rfl ?_
      refine g_gr iX11_takesKey_82 fr_11_30_125 ?_
      refine g_il iX11_takesKey_85 rfl ?_
      obtain ⟨o11, H⟩ := H
      refine g_ld iX11_takesKey_86 (ln_144 L) o11 ?_
      refine g_il iX11_takesKey_87 rfl ?_
      refine g_add iX11_takesKey_89 ?_
      obtain ⟨o12, H⟩ := H
      refine g_ld iX11_takesKey_90 (ln_143 L) o12 ?_
      by_cases c13 : (σ 142 (rx_w ((σ 125 24) + x4))) ≠ (σ 143 (rx_w ((σ 144 x1) + x4)))
      · rw [if_pos c13] at H
        refine g_ic1t iX11_takesKey_91 c13 ?_
        refine g_c iX11_takesKey_98 ?_
        refine g_is iX11_takesKey_99 (Nat.le_of_ble_eq_true rfl) ?_
        refine rx_Go.ls (la := [some (.inr 125), some (.inl x1), some (.inl x2), some (.inl 0), some (.inl x4)]) rfl ?_
        refine g_ii iX11_takesKey_100 rfl ?_
        refine rx_Go.ls (la := [some (.inr 125), some (.inl x1), some (.inl x2), some (.inl 0), some (.inl (rx_w (x4 + 1)))]) rfl ?_
        refine g_goto iX11_takesKey_103 ?_
        exact H
      · rw [if_neg c13] at H
        refine g_ic1f iX11_takesKey_91 c13 ?_
        refine g_c iX11_takesKey_94 ?_
        refine g_goto iX11_takesKey_95 ?_
        refine g_is iX11_takesKey_99 (Nat.le_of_ble_eq_true rfl) ?_
        refine rx_Go.ls (la := [some (.inr 125), some (.inl x1), some (.inl x2), some (.inl 1), some (.inl x4)]) rfl ?_
        refine g_ii iX11_takesKey_100 rfl ?_
        refine rx_Go.ls (la := [some (.inr 125), some (.inl x1), some (.inl x2), some (.inl 1), some (.inl (rx_w (x4 + 1)))]) rfl ?_
        refine g_goto iX11_takesKey_103 ?_
        exact H
set_option maxRecDepth 20000 in
set_option maxHeartbeats 4000000 in
theorem bX11_nameOf (L d : Nat) (x1 : Int) (σ : rx_St) (K : Int → rx_St → Prop)
    (H : if (σ 125 28) = 0 then (if x1 ≠ 119 then (if x1 ≠ 97 then (if x1 ≠ 98 then (K (-1) σ) else (K 2 σ)) else (K 1 σ)) else (K 0 σ)) else (if (σ 125 28) = 1 then (if x1 ≠ 112 then (if x1 ≠ 113 then (K (-1) σ) else (K 1 σ)) else (K 0 σ)) else (if x1 ≠ 97 then (if x1 ≠ 98 then (K (-1) σ) else (K 1 σ)) else (K 0 σ)))) :
    rx_CI L d mX11_nameOf [.inr 125, .inl x1] σ K := by
  refine rx_CI.of (la := [some (.inr 125), some (.inl x1)]) rfl ?_
  refine g_al iX11_nameOf_0 rfl ?_
  refine g_gf (kI := 28) rfl iX11_nameOf_1 fi_11_28_125 ?_
  by_cases c1 : (σ 125 28) = 0
  · rw [if_pos c1] at H
    refine g_sw iX11_nameOf_4 (by simp only [rx_sw]; rw [if_pos c1]) ?_
    refine g_il iX11_nameOf_32 rfl ?_
    refine g_c iX11_nameOf_33 ?_
    by_cases c2 : x1 ≠ 119
    · rw [if_pos c2] at H
      refine g_ic1t iX11_nameOf_35 c2 ?_
      refine g_il iX11_nameOf_42 rfl ?_
      refine g_c iX11_nameOf_43 ?_
      by_cases c3 : x1 ≠ 97
      · rw [if_pos c3] at H
        refine g_ic1t iX11_nameOf_45 c3 ?_
        refine g_il iX11_nameOf_52 rfl ?_
        refine g_c iX11_nameOf_53 ?_
        by_cases c4 : x1 ≠ 98
        · rw [if_pos c4] at H
          refine g_ic1t iX11_nameOf_55 c4 ?_
          refine g_c iX11_nameOf_62 ?_
          exact g_ri iX11_nameOf_63 (Or.inl rfl) H
        · rw [if_neg c4] at H
          refine g_ic1f iX11_nameOf_55 c4 ?_
          refine g_c iX11_nameOf_58 ?_
          refine g_goto iX11_nameOf_59 ?_
          exact g_ri iX11_nameOf_63 (Or.inl rfl) H
      · rw [if_neg c3] at H
        refine g_ic1f iX11_nameOf_45 c3 ?_
        refine g_c iX11_nameOf_48 ?_
        refine g_goto iX11_nameOf_49 ?_
        exact g_ri iX11_nameOf_63 (Or.inl rfl) H
    · rw [if_neg c2] at H
      refine g_ic1f iX11_nameOf_35 c2 ?_
      refine g_c iX11_nameOf_38 ?_
      refine g_goto iX11_nameOf_39 ?_
      exact g_ri iX11_nameOf_63 (Or.inl rfl) H
  · rw [if_neg c1] at H
    by_cases c5 : (σ 125 28) = 1
    · rw [if_pos c5] at H
      refine g_sw iX11_nameOf_4 (by simp only [rx_sw]; rw [if_neg c1, if_pos c5]) ?_
      refine g_il iX11_nameOf_64 rfl ?_
      refine g_c iX11_nameOf_65 ?_
      by_cases c6 : x1 ≠ 112
      · rw [if_pos c6] at H
        refine g_ic1t iX11_nameOf_67 c6 ?_
        refine g_il iX11_nameOf_74 rfl ?_
        refine g_c iX11_nameOf_75 ?_
        by_cases c7 : x1 ≠ 113
        · rw [if_pos c7] at H
          refine g_ic1t iX11_nameOf_77 c7 ?_
          refine g_c iX11_nameOf_84 ?_
          exact g_ri iX11_nameOf_85 (Or.inl rfl) H
        · rw [if_neg c7] at H
          refine g_ic1f iX11_nameOf_77 c7 ?_
          refine g_c iX11_nameOf_80 ?_
          refine g_goto iX11_nameOf_81 ?_
          exact g_ri iX11_nameOf_85 (Or.inl rfl) H
      · rw [if_neg c6] at H
        refine g_ic1f iX11_nameOf_67 c6 ?_
        refine g_c iX11_nameOf_70 ?_
        refine g_goto iX11_nameOf_71 ?_
        exact g_ri iX11_nameOf_85 (Or.inl rfl) H
    · rw [if_neg c5] at H
      refine g_sw (t := 86) iX11_nameOf_4 (by simp only [rx_sw, c1, c5, if_false]) ?_
      refine g_il iX11_nameOf_86 rfl ?_
      refine g_c iX11_nameOf_87 ?_
      by_cases c8 : x1 ≠ 97
      · rw [if_pos c8] at H
        refine g_ic1t iX11_nameOf_89 c8 ?_
        refine g_il iX11_nameOf_96 rfl ?_
        refine g_c iX11_nameOf_97 ?_
        by_cases c9 : x1 ≠ 98
        · rw [if_pos c9] at H
          refine g_ic1t iX11_nameOf_99 c9 ?_
          refine g_c iX11_nameOf_106 ?_
          exact g_ri iX11_nameOf_107 (Or.inl rfl) H
        · rw [if_neg c9] at H
          refine g_ic1f iX11_nameOf_99 c9 ?_
          refine g_c iX11_nameOf_102 ?_
          refine g_goto iX11_nameOf_103 ?_
          exact g_ri iX11_nameOf_107 (Or.inl rfl) H
      · rw [if_neg c8] at H
        refine g_ic1f iX11_nameOf_89 c8 ?_
        refine g_c iX11_nameOf_92 ?_
        refine g_goto iX11_nameOf_93 ?_
        exact g_ri iX11_nameOf_107 (Or.inl rfl) H
set_option maxRecDepth 20000 in
set_option maxHeartbeats 4000000 in
theorem bX11_rank (L d : Nat) (x0 : Int) (σ : rx_St) (K : Int → rx_St → Prop)
    (H : if x0 ≠ (-1) then (if x0 ≠ (-2) then (if x0 < (-5) then (if x0 < (-7) then (if x0 < (-9) then (K 6 σ) else (K 5 σ)) else (K 4 σ)) else (K 3 σ)) else (K 2 σ)) else (K 1 σ)) :
    rx_CI L d mX11_rank [.inl x0] σ K := by
  refine rx_CI.of (la := [some (.inl x0)]) rfl ?_
  refine g_il iX11_rank_0 rfl ?_
  refine g_c iX11_rank_1 ?_
  by_cases c1 : x0 ≠ (-1)
  · rw [if_pos c1] at H
    refine g_ic1t iX11_rank_2 c1 ?_
    refine g_il iX11_rank_9 rfl ?_
    refine g_c iX11_rank_10 ?_
    by_cases c2 : x0 ≠ (-2)
    · rw [if_pos c2] at H
      refine g_ic1t iX11_rank_12 c2 ?_
      refine g_il iX11_rank_19 rfl ?_
      refine g_c iX11_rank_20 ?_
      by_cases c3 : x0 < (-5)
      · rw [if_pos c3] at H
        refine g_ic2t iX11_rank_22 c3 ?_
        refine g_il iX11_rank_29 rfl ?_
        refine g_c iX11_rank_30 ?_
        by_cases c4 : x0 < (-7)
        · rw [if_pos c4] at H
          refine g_ic2t iX11_rank_32 c4 ?_
          refine g_il iX11_rank_39 rfl ?_
          refine g_c iX11_rank_40 ?_
          by_cases c5 : x0 < (-9)
          · rw [if_pos c5] at H
            refine g_ic2t iX11_rank_42 c5 ?_
            refine g_c iX11_rank_49 ?_
            exact g_ri iX11_rank_51 (Or.inl rfl) H
          · rw [if_neg c5] at H
            refine g_ic2f iX11_rank_42 c5 ?_
            refine g_c iX11_rank_45 ?_
            refine g_goto iX11_rank_46 ?_
            exact g_ri iX11_rank_51 (Or.inl rfl) H
        · rw [if_neg c4] at H
          refine g_ic2f iX11_rank_32 c4 ?_
          refine g_c iX11_rank_35 ?_
          refine g_goto iX11_rank_36 ?_
          exact g_ri iX11_rank_51 (Or.inl rfl) H
      · rw [if_neg c3] at H
        refine g_ic2f iX11_rank_22 c3 ?_
        refine g_c iX11_rank_25 ?_
        refine g_goto iX11_rank_26 ?_
        exact g_ri iX11_rank_51 (Or.inl rfl) H
    · rw [if_neg c2] at H
      refine g_ic1f iX11_rank_12 c2 ?_
      refine g_c iX11_rank_15 ?_
      refine g_goto iX11_rank_16 ?_
      exact g_ri iX11_rank_51 (Or.inl rfl) H
  · rw [if_neg c1] at H
    refine g_ic1f iX11_rank_2 c1 ?_
    refine g_c iX11_rank_5 ?_
    refine g_goto iX11_rank_6 ?_
    exact g_ri iX11_rank_51 (Or.inl rfl) H
set_option maxRecDepth 20000 in
set_option maxHeartbeats 4000000 in
theorem bX11_settle (L d : Nat) (x1 : Int) (σ : rx_St) (K : rx_St → Prop)
    (H : rx_Go L (d + 1) mX11_settle 0 [some (.inr 125), some (.inl x1)] [] σ (rx_PV K)) :
    rx_CV L (d + 1) mX11_settle [.inr 125, .inl x1] σ K := by
  refine rx_CV.of (la := [some (.inr 125), some (.inl x1)]) rfl ?_
  exact H
set_option maxRecDepth 20000 in
set_option maxHeartbeats 4000000 in
theorem bX11_settle_0 (L d : Nat) (x1 : Int) (σ : rx_St) (K : rx_St → Prop)
    (H : if (σ 125 35) ≤ 0 then (K σ) else ((0 ≤ (rx_w ((σ 125 35) - 1)) ∧ (rx_w ((σ 125 35) - 1)) < 96) ∧ (if (σ 146 (rx_w ((σ 125 35) - 1))) = (-11) then (K σ) else (rx_CI L d mX11_rank [.inl (σ 146 (rx_w ((σ 125 35) - 1)))] σ (fun v5 σ4 => if v5 < x1 then (K σ4) else ((0 ≤ ((rx_up σ4 125 35 (rx_w ((σ4 125 35) - 1))) 125 35) ∧ ((rx_up σ4 125 35 (rx_w ((σ4 125 35) - 1))) 125 35) < 96) ∧ ((0 ≤ ((rx_up σ4 125 35 (rx_w ((σ4 125 35) - 1))) 125 32) ∧ ((rx_up σ4 125 35 (rx_w ((σ4 125 35) - 1))) 125 32) < 96) ∧ (rx_Go L (d + 1) mX11_settle 0 [some (.inr 125), some (.inl x1)] [] (rx_up (rx_up (rx_up σ4 125 35 (rx_w ((σ4 125 35) - 1))) 145 ((rx_up σ4 125 35 (rx_w ((σ4 125 35) - 1))) 125 32) ((rx_up σ4 125 35 (rx_w ((σ4 125 35) - 1))) 146 ((rx_up σ4 125 35 (rx_w ((σ4 125 35) - 1))) 125 35))) 125 32 (rx_w (((rx_up (rx_up σ4 125 35 (rx_w ((σ4 125 35) - 1))) 145 ((rx_up σ4 125 35 (rx_w ((σ4 125 35) - 1))) 125 32) ((rx_up σ4 125 35 (rx_w ((σ4 125 35) - 1))) 146 ((rx_up σ4 125 35 (rx_w ((σ4 125 35) - 1))) 125 35))) 125 32) + 1))) (rx_PV K))))))))) :
    rx_Go L (d + 1) mX11_settle 0 [some (.inr 125), some (.inl x1)] [] σ (rx_PV K) := by
  refine g_al iX11_settle_0 rfl ?_
  refine g_gf (kI := 35) rfl iX11_settle_1 fi_11_35_125 ?_
  by_cases c1 : (σ 125 35) ≤ 0
  · rw [if_pos c1] at H
    refine g_if5t iX11_settle_4 c1 ?_
    exact g_rv iX11_settle_82 H
  · rw [if_neg c1] at H
    refine g_if5f iX11_settle_4 c1 ?_
    refine g_al iX11_settle_7 rfl ?_
    refine g_gr iX11_settle_8 fr_11_34_125 ?_
    refine g_al iX11_settle_11 rfl ?_
    refine g_gf (kI := 35) rfl iX11_settle_12 fi_11_35_125 ?_
    refine g_c iX11_settle_15 ?_
    refine g_sub iX11_settle_16 ?_
    obtain ⟨o2, H⟩ := H
    refine g_ld iX11_settle_17 (ln_146 L) o2 ?_
    refine g_c iX11_settle_18 ?_
    by_cases c3 : (σ 146 (rx_w ((σ 125 35) - 1))) = (-11)
    · rw [if_pos c3] at H
      refine g_ic0t iX11_settle_20 c3 ?_
      exact g_rv iX11_settle_82 H
    · rw [if_neg c3] at H
      refine g_ic0f iX11_settle_20 c3 ?_
      refine g_al iX11_settle_23 rfl ?_
      refine g_gr iX11_settle_24 fr_11_34_125 ?_
      refine g_al iX11_settle_27 rfl ?_
      refine g_gf (kI := 35) rfl iX11_settle_28 fi_11_35_125 ?_
      refine g_c iX11_settle_31 ?_
      refine g_sub iX11_settle_32 ?_
      refine g_ld iX11_settle_33 (ln_146 L) o2 ?_
      refine g_ci (as := [.inl (σ 146 (rx_w ((σ 125 35) - 1)))]) (rest := []) iX11_settle_34 rfl rfl (Nat.le_of_ble_eq_true rfl) (Or.inl (by decide)) (rx_CI.imp H (fun v5 σ4 H => ?_))
      refine g_il iX11_settle_37 rfl ?_
      by_cases c6 : v5 < x1
      · rw [if_pos c6] at H
        refine g_ic2t iX11_settle_38 c6 ?_
        exact g_rv iX11_settle_82 H
      · rw [if_neg c6] at H
        refine g_ic2f iX11_settle_38 c6 ?_
        refine g_al iX11_settle_41 rfl ?_
        refine g_dup iX11_settle_42 ?_
        refine g_gf (kI := 35) rfl iX11_settle_43 fi_11_35_125 ?_
        refine g_c iX11_settle_46 ?_
        refine g_sub iX11_settle_47 ?_
        refine g_pf (kI := 35) rfl iX11_settle_48 fi_11_35_125 (Or.inl rfl) ?_
        refine g_al iX11_settle_51 rfl ?_
        refine g_gr iX11_settle_52 fr_11_31_125 ?_
        refine g_al iX11_settle_55 rfl ?_
        refine g_gf (kI := 32) rfl iX11_settle_56 fi_11_32_125 ?_
        refine g_al iX11_settle_59 rfl ?_
        refine g_gr iX11_settle_60 fr_11_34_125 ?_
        refine g_al iX11_settle_63 rfl ?_
        refine g_gf (kI := 35) rfl iX11_settle_64 fi_11_35_125 ?_
        obtain ⟨o7, H⟩ := H
        refine g_ld iX11_settle_67 (ln_146 L) o7 ?_
        obtain ⟨o8, H⟩ := H
        refine g_st iX11_settle_68 (ln_145 L) (by decide) o8 rfl ?_
        refine g_al iX11_settle_69 rfl ?_
        refine g_dup iX11_settle_70 ?_
        refine g_gf (kI := 32) rfl iX11_settle_71 fi_11_32_125 ?_
        refine g_c iX11_settle_74 ?_
        refine g_add iX11_settle_75 ?_
        refine g_pf (kI := 32) rfl iX11_settle_76 fi_11_32_125 (Or.inl rfl) ?_
        refine g_goto iX11_settle_79 ?_
        exact H
set_option maxRecDepth 20000 in
set_option maxHeartbeats 4000000 in
theorem bX11_signHere (L d : Nat)  (σ : rx_St) (K : Int → rx_St → Prop)
    (H : if (σ 125 25) = 3 then (if (σ 125 26) = 38 then (K (-2) σ) else (if (σ 125 26) = 42 then (K (-8) σ) else (if (σ 125 26) = 43 then (K (-6) σ) else (if (σ 125 26) = 45 then (K (-7) σ) else (if (σ 125 26) = 47 then (K (-9) σ) else (if (σ 125 26) = 60 then (K (-3) σ) else (if (σ 125 26) = 61 then (K (-4) σ) else (if (σ 125 26) = 62 then (K (-5) σ) else (if (σ 125 26) = 124 then (K (-1) σ) else (K 0 σ)))))))))) else (K 0 σ)) :
    rx_CI L d mX11_signHere [.inr 125] σ K := by
  refine rx_CI.of (la := [some (.inr 125)]) rfl ?_
  refine g_al iX11_signHere_0 rfl ?_
  refine g_gf (kI := 25) rfl iX11_signHere_1 fi_11_25_125 ?_
  refine g_c iX11_signHere_4 ?_
  by_cases c1 : (σ 125 25) = 3
  · rw [if_pos c1] at H
    refine g_ic0t iX11_signHere_5 c1 ?_
    refine g_al iX11_signHere_10 rfl ?_
    refine g_gf (kI := 26) rfl iX11_signHere_11 fi_11_26_125 ?_
    by_cases c2 : (σ 125 26) = 38
    · rw [if_pos c2] at H
      refine g_sw iX11_signHere_14 (by simp only [rx_sw]; rw [if_pos c2]) ?_
      refine g_c iX11_signHere_98 ?_
      exact g_ri iX11_signHere_100 (Or.inl rfl) H
    · rw [if_neg c2] at H
      by_cases c3 : (σ 125 26) = 42
      · rw [if_pos c3] at H
        refine g_sw iX11_signHere_14 (by simp only [rx_sw]; rw [if_neg c2, if_pos c3]) ?_
        refine g_c iX11_signHere_116 ?_
        exact g_ri iX11_signHere_118 (Or.inl rfl) H
      · rw [if_neg c3] at H
        by_cases c4 : (σ 125 26) = 43
        · rw [if_pos c4] at H
          refine g_sw iX11_signHere_14 (by simp only [rx_sw]; rw [if_neg c2, if_neg c3, if_pos c4]) ?_
          refine g_c iX11_signHere_110 ?_
          exact g_ri iX11_signHere_112 (Or.inl rfl) H
        · rw [if_neg c4] at H
          by_cases c5 : (σ 125 26) = 45
          · rw [if_pos c5] at H
            refine g_sw iX11_signHere_14 (by simp only [rx_sw]; rw [if_neg c2, if_neg c3, if_neg c4, if_pos c5]) ?_
            refine g_c iX11_signHere_113 ?_
            exact g_ri iX11_signHere_115 (Or.inl rfl) H
          · rw [if_neg c5] at H
            by_cases c6 : (σ 125 26) = 47
            · rw [if_pos c6] at H
              refine g_sw iX11_signHere_14 (by simp only [rx_sw]; rw [if_neg c2, if_neg c3, if_neg c4, if_neg c5, if_pos c6]) ?_
              refine g_c iX11_signHere_119 ?_
              exact g_ri iX11_signHere_121 (Or.inl rfl) H
            · rw [if_neg c6] at H
              by_cases c7 : (σ 125 26) = 60
              · rw [if_pos c7] at H
                refine g_sw iX11_signHere_14 (by simp only [rx_sw]; rw [if_neg c2, if_neg c3, if_neg c4, if_neg c5, if_neg c6, if_pos c7]) ?_
                refine g_c iX11_signHere_101 ?_
                exact g_ri iX11_signHere_103 (Or.inl rfl) H
              · rw [if_neg c7] at H
                by_cases c8 : (σ 125 26) = 61
                · rw [if_pos c8] at H
                  refine g_sw iX11_signHere_14 (by simp only [rx_sw]; rw [if_neg c2, if_neg c3, if_neg c4, if_neg c5, if_neg c6, if_neg c7, if_pos c8]) ?_
                  refine g_c iX11_signHere_104 ?_
                  exact g_ri iX11_signHere_106 (Or.inl rfl) H
                · rw [if_neg c8] at H
                  by_cases c9 : (σ 125 26) = 62
                  · rw [if_pos c9] at H
                    refine g_sw iX11_signHere_14 (by simp only [rx_sw]; rw [if_neg c2, if_neg c3, if_neg c4, if_neg c5, if_neg c6, if_neg c7, if_neg c8, if_pos c9]) ?_
                    refine g_c iX11_signHere_107 ?_
                    exact g_ri iX11_signHere_109 (Or.inl rfl) H
                  · rw [if_neg c9] at H
                    by_cases c10 : (σ 125 26) = 124
                    · rw [if_pos c10] at H
                      refine g_sw iX11_signHere_14 (by simp only [rx_sw]; rw [if_neg c2, if_neg c3, if_neg c4, if_neg c5, if_neg c6, if_neg c7, if_neg c8, if_neg c9, if_pos c10]) ?_
                      refine g_c iX11_signHere_96 ?_
                      exact g_ri iX11_signHere_97 (Or.inl rfl) H
                    · rw [if_neg c10] at H
                      refine g_sw (t := 122) iX11_signHere_14 (by simp only [rx_sw, c2, c3, c4, c5, c6, c7, c8, c9, c10, if_false]) ?_
                      refine g_c iX11_signHere_122 ?_
                      exact g_ri iX11_signHere_123 (Or.inl rfl) H
  · rw [if_neg c1] at H
    refine g_ic0f iX11_signHere_5 c1 ?_
    refine g_c iX11_signHere_8 ?_
    exact g_ri iX11_signHere_9 (Or.inl rfl) H
set_option maxRecDepth 20000 in
set_option maxHeartbeats 4000000 in
theorem bX11_takesPart (L d : Nat)  (σ : rx_St) (K : Int → rx_St → Prop)
    (H : if (σ 125 25) ≠ 1 then (rx_Go L (d + 1) mX11_takesPart 36 [some (.inr 125), none] [] σ (rx_PI K)) else (if (rx_w ((σ 125 23) - (σ 125 24))) ≠ 1 then (rx_Go L (d + 1) mX11_takesPart 36 [some (.inr 125), none] [] σ (rx_PI K)) else (rx_CI L d mX11_nameOf [.inr 125, .inl (σ 125 26)] σ (fun v4 σ3 => if v4 < 0 then (rx_Go L (d + 1) mX11_takesPart 36 [some (.inr 125), none] [] σ3 (rx_PI K)) else (rx_Go L (d + 1) mX11_takesPart 38 [some (.inr 125), some (.inl 1)] [] σ3 (rx_PI K)))))) :
    rx_CI L (d + 1) mX11_takesPart [.inr 125] σ K := by
  refine rx_CI.of (la := [some (.inr 125), none]) rfl ?_
  refine g_al iX11_takesPart_0 rfl ?_
  refine g_gf (kI := 25) rfl iX11_takesPart_1 fi_11_25_125 ?_
  refine g_c iX11_takesPart_4 ?_
  by_cases c1 : (σ 125 25) ≠ 1
  · rw [if_pos c1] at H
    refine g_ic1t iX11_takesPart_5 c1 ?_
    exact H
  · rw [if_neg c1] at H
    refine g_ic1f iX11_takesPart_5 c1 ?_
    refine g_al iX11_takesPart_8 rfl ?_
    refine g_gf (kI := 23) rfl iX11_takesPart_9 fi_11_23_125 ?_
    refine g_al iX11_takesPart_12 rfl ?_
    refine g_gf (kI := 24) rfl iX11_takesPart_13 fi_11_24_125 ?_
    refine g_sub iX11_takesPart_16 ?_
    refine g_c iX11_takesPart_17 ?_
    by_cases c2 : (rx_w ((σ 125 23) - (σ 125 24))) ≠ 1
    · rw [if_pos c2] at H
      refine g_ic1t iX11_takesPart_18 c2 ?_
      exact H
    · rw [if_neg c2] at H
      refine g_ic1f iX11_takesPart_18 c2 ?_
      refine g_al iX11_takesPart_21 rfl ?_
      refine g_al iX11_takesPart_22 rfl ?_
      refine g_gf (kI := 26) rfl iX11_takesPart_23 fi_11_26_125 ?_
      refine g_ci (as := [.inr 125, .inl (σ 125 26)]) (rest := []) iX11_takesPart_26 rfl rfl (Nat.le_of_ble_eq_true rfl) (Or.inr ⟨_, _, rfl, oo_11_125⟩) (rx_CI.imp H (fun v4 σ3 H => ?_))
      by_cases c5 : v4 < 0
      · rw [if_pos c5] at H
        refine g_if2t iX11_takesPart_29 c5 ?_
        exact H
      · rw [if_neg c5] at H
        refine g_if2f iX11_takesPart_29 c5 ?_
        refine g_c iX11_takesPart_32 ?_
        refine g_goto iX11_takesPart_33 ?_
        refine g_is iX11_takesPart_37 (Nat.le_of_ble_eq_true rfl) ?_
        refine rx_Go.ls (la := [some (.inr 125), some (.inl 1)]) rfl ?_
        exact H
set_option maxRecDepth 20000 in
set_option maxHeartbeats 4000000 in
theorem bX11_takesPart_36 (L d : Nat) (q1 : Option rx_V) (σ : rx_St) (K : Int → rx_St → Prop)
    (H : rx_Go L (d + 1) mX11_takesPart 38 [some (.inr 125), some (.inl 0)] [] σ (rx_PI K)) :
    rx_Go L (d + 1) mX11_takesPart 36 [some (.inr 125), q1] [] σ (rx_PI K) := by
  refine g_c iX11_takesPart_36 ?_
  refine g_is iX11_takesPart_37 (Nat.le_of_ble_eq_true rfl) ?_
  refine rx_Go.ls (la := [some (.inr 125), some (.inl 0)]) rfl ?_
  exact H
set_option maxRecDepth 20000 in
set_option maxHeartbeats 4000000 in
theorem bX11_takesPart_38 (L d : Nat) (x1 : Int) (σ : rx_St) (K : Int → rx_St → Prop)
    (H : if (σ 125 25) = 2 then (rx_Go L (d + 1) mX11_takesPart 52 [some (.inr 125), some (.inl x1)] [] σ (rx_PI K)) else (if x1 ≠ 0 then (rx_Go L (d + 1) mX11_takesPart 52 [some (.inr 125), some (.inl x1)] [] σ (rx_PI K)) else (K 0 σ))) :
    rx_Go L (d + 1) mX11_takesPart 38 [some (.inr 125), some (.inl x1)] [] σ (rx_PI K) := by
  refine g_al iX11_takesPart_38 rfl ?_
  refine g_gf (kI := 25) rfl iX11_takesPart_39 fi_11_25_125 ?_
  refine g_c iX11_takesPart_42 ?_
  by_cases c6 : (σ 125 25) = 2
  · rw [if_pos c6] at H
    refine g_ic0t iX11_takesPart_43 c6 ?_
    exact H
  · rw [if_neg c6] at H
    refine g_ic0f iX11_takesPart_43 c6 ?_
    refine g_il iX11_takesPart_46 rfl ?_
    by_cases c7 : x1 ≠ 0
    · rw [if_pos c7] at H
      refine g_if1t iX11_takesPart_47 c7 ?_
      exact H
    · rw [if_neg c7] at H
      refine g_if1f iX11_takesPart_47 c7 ?_
      refine g_c iX11_takesPart_50 ?_
      exact g_ri iX11_takesPart_51 (by decide) H
set_option maxRecDepth 20000 in
set_option maxHeartbeats 4000000 in
theorem bX11_takesPart_52 (L d : Nat) (q1 : Option rx_V) (σ : rx_St) (K : Int → rx_St → Prop)
    (H : if (σ 125 25) ≠ 2 then (rx_CI L d mX11_nameOf [.inr 125, .inl (σ 125 26)] σ (fun v10 σ9 => (0 ≤ (σ 125 32) ∧ (σ 125 32) < 96) ∧ (rx_Go L (d + 1) mX11_takesPart 88 [some (.inr 125), q1] [] (rx_up σ9 145 (σ 125 32) (rx_w (10000 + v10))) (rx_PI K)))) else ((0 ≤ (σ 125 32) ∧ (σ 125 32) < 96) ∧ (rx_Go L (d + 1) mX11_takesPart 88 [some (.inr 125), q1] [] (rx_up σ 145 (σ 125 32) (σ 125 26)) (rx_PI K)))) :
    rx_Go L (d + 1) mX11_takesPart 52 [some (.inr 125), q1] [] σ (rx_PI K) := by
  refine g_al iX11_takesPart_52 rfl ?_
  refine g_gr iX11_takesPart_53 fr_11_31_125 ?_
  refine g_al iX11_takesPart_56 rfl ?_
  refine g_gf (kI := 32) rfl iX11_takesPart_57 fi_11_32_125 ?_
  refine g_al iX11_takesPart_60 rfl ?_
  refine g_gf (kI := 25) rfl iX11_takesPart_61 fi_11_25_125 ?_
  refine g_c iX11_takesPart_64 ?_
  by_cases c8 : (σ 125 25) ≠ 2
  · rw [if_pos c8] at H
    refine g_ic1t iX11_takesPart_65 c8 ?_
    refine g_c iX11_takesPart_75 ?_
    refine g_al iX11_takesPart_78 rfl ?_
    refine g_al iX11_takesPart_79 rfl ?_
    refine g_gf (kI := 26) rfl iX11_takesPart_80 fi_11_26_125 ?_
    refine g_ci (as := [.inr 125, .inl (σ 125 26)]) (rest := [.inl 10000, .inl (σ 125 32), .inr 145]) iX11_takesPart_83 rfl rfl (Nat.le_of_ble_eq_true rfl) (Or.inr ⟨_, _, rfl, oo_11_125⟩) (rx_CI.imp H (fun v10 σ9 H => ?_))
    refine g_add iX11_takesPart_86 ?_
    obtain ⟨o11, H⟩ := H
    refine g_st iX11_takesPart_87 (ln_145 L) (by decide) o11 rfl ?_
    exact H
  · rw [if_neg c8] at H
    refine g_ic1f iX11_takesPart_65 c8 ?_
    refine g_al iX11_takesPart_68 rfl ?_
    refine g_gf (kI := 26) rfl iX11_takesPart_69 fi_11_26_125 ?_
    refine g_goto iX11_takesPart_72 ?_
    obtain ⟨o12, H⟩ := H
    refine g_st iX11_takesPart_87 (ln_145 L) (by decide) o12 rfl ?_
    exact H
set_option maxRecDepth 20000 in
set_option maxHeartbeats 4000000 in
theorem bX11_takesPart_88 (L d : Nat) (q1 : Option rx_V) (σ : rx_St) (K : Int → rx_St → Prop)
    (H : rx_CV L d mX11_settle [.inr 125, .inl 6] (rx_up (rx_up σ 125 32 (rx_w ((σ 125 32) + 1))) 125 33 (rx_w (((rx_up σ 125 32 (rx_w ((σ 125 32) + 1))) 125 33) + 1))) (fun σ13 => rx_CV L d mX11_go [.inr 125] σ13 (fun σ14 => K 1 σ14))) :
    rx_Go L (d + 1) mX11_takesPart 88 [some (.inr 125), q1] [] σ (rx_PI K) := by
  refine g_al iX11_takesPart_88 rfl ?_
  refine g_dup iX11_takesPart_89 ?_
  refine g_gf (kI := 32) rfl iX11_takesPart_90 fi_11_32_125 ?_
  refine g_c iX11_takesPart_93 ?_
  refine g_add iX11_takesPart_94 ?_
  refine g_pf (kI := 32) rfl iX11_takesPart_95 fi_11_32_125 (Or.inl rfl) ?_
  refine g_al iX11_takesPart_98 rfl ?_
  refine g_dup iX11_takesPart_99 ?_
  refine g_gf (kI := 33) rfl iX11_takesPart_100 fi_11_33_125 ?_
  refine g_c iX11_takesPart_103 ?_
  refine g_add iX11_takesPart_104 ?_
  refine g_pf (kI := 33) rfl iX11_takesPart_105 fi_11_33_125 (Or.inl rfl) ?_
  refine g_al iX11_takesPart_108 rfl ?_
  refine g_c iX11_takesPart_109 ?_
  refine g_cv (as := [.inr 125, .inl 6]) (rest := []) iX11_takesPart_111 rfl rfl (Nat.le_of_ble_eq_true rfl) (Or.inr ⟨_, _, rfl, oo_11_125⟩) (rx_CV.imp H (fun σ13 H => ?_))
  refine g_al iX11_takesPart_114 rfl ?_
  refine g_cv (as := [.inr 125]) (rest := []) iX11_takesPart_115 rfl rfl (Nat.le_of_ble_eq_true rfl) (Or.inr ⟨_, _, rfl, oo_11_125⟩) (rx_CV.imp H (fun σ14 H => ?_))
  refine g_c iX11_takesPart_118 ?_
  exact g_ri iX11_takesPart_119 (by decide) H
set_option maxRecDepth 20000 in
set_option maxHeartbeats 4000000 in
theorem bX11_takesE (L d : Nat)  (σ : rx_St) (K : Int → rx_St → Prop)
    (H : rx_Go L (d + 1) mX11_takesE 28 [some (.inr 125), some (.inl 0), some (.inl 0), some (.inl 1), none] [] (rx_up (rx_up (rx_up (rx_up σ 125 32 0) 125 33 0) 125 35 0) 147 0 0) (rx_PI K)) :
    rx_CI L (d + 1) mX11_takesE [.inr 125] σ K := by
  refine rx_CI.of (la := [some (.inr 125), none, none, none, none]) rfl ?_
  refine g_c iX11_takesE_0 ?_
  refine g_is iX11_takesE_1 (Nat.le_of_ble_eq_true rfl) ?_
  refine rx_Go.ls (la := [some (.inr 125), some (.inl 0), none, none, none]) rfl ?_
  refine g_c iX11_takesE_2 ?_
  refine g_is iX11_takesE_3 (Nat.le_of_ble_eq_true rfl) ?_
  refine rx_Go.ls (la := [some (.inr 125), some (.inl 0), some (.inl 0), none, none]) rfl ?_
  refine g_c iX11_takesE_4 ?_
  refine g_is iX11_takesE_5 (Nat.le_of_ble_eq_true rfl) ?_
  refine rx_Go.ls (la := [some (.inr 125), some (.inl 0), some (.inl 0), some (.inl 1), none]) rfl ?_
  refine g_al iX11_takesE_6 rfl ?_
  refine g_c iX11_takesE_7 ?_
  refine g_pf (kI := 32) rfl iX11_takesE_8 fi_11_32_125 (Or.inl rfl) ?_
  refine g_al iX11_takesE_11 rfl ?_
  refine g_c iX11_takesE_12 ?_
  refine g_pf (kI := 33) rfl iX11_takesE_13 fi_11_33_125 (Or.inl rfl) ?_
  refine g_al iX11_takesE_16 rfl ?_
  refine g_c iX11_takesE_17 ?_
  refine g_pf (kI := 35) rfl iX11_takesE_18 fi_11_35_125 (Or.inl rfl) ?_
  refine g_al iX11_takesE_21 rfl ?_
  refine g_gr iX11_takesE_22 fr_11_36_125 ?_
  refine g_c iX11_takesE_25 ?_
  refine g_c iX11_takesE_26 ?_
  refine g_st iX11_takesE_27 (ln_147 L) (by decide) (by decide) rfl ?_
  exact H
set_option maxRecDepth 20000 in
set_option maxHeartbeats 4000000 in
theorem bX11_takesE_28 (L d : Nat) (x1 : Int) (x2 : Int) (x3 : Int) (q4 : Option rx_V) (σ : rx_St) (K : Int → rx_St → Prop)
    (H : if x3 ≠ 0 then (rx_Go L (d + 1) mX11_takesE 39 [some (.inr 125), some (.inl x1), some (.inl x2), some (.inl x3), q4] [] σ (rx_PI K)) else (if (σ 125 25) = 0 then (rx_CV L d mX11_settle [.inr 125, .inl 0] σ (fun σ3 => if x1 ≠ 0 then (K 0 σ3) else (K 1 σ3))) else (rx_Go L (d + 1) mX11_takesE 39 [some (.inr 125), some (.inl x1), some (.inl x2), some (.inl x3), q4] [] σ (rx_PI K)))) :
    rx_Go L (d + 1) mX11_takesE 28 [some (.inr 125), some (.inl x1), some (.inl x2), some (.inl x3), q4] [] σ (rx_PI K) := by
  refine g_il iX11_takesE_28 rfl ?_
  by_cases c1 : x3 ≠ 0
  · rw [if_pos c1] at H
    refine g_if1t iX11_takesE_29 c1 ?_
    exact H
  · rw [if_neg c1] at H
    refine g_if1f iX11_takesE_29 c1 ?_
    refine g_al iX11_takesE_32 rfl ?_
    refine g_gf (kI := 25) rfl iX11_takesE_33 fi_11_25_125 ?_
    by_cases c2 : (σ 125 25) = 0
    · rw [if_pos c2] at H
      refine g_if0t iX11_takesE_36 c2 ?_
      refine g_al iX11_takesE_345 rfl ?_
      refine g_c iX11_takesE_346 ?_
      refine g_cv (as := [.inr 125, .inl 0]) (rest := []) iX11_takesE_347 rfl rfl (Nat.le_of_ble_eq_true rfl) (Or.inr ⟨_, _, rfl, oo_11_125⟩) (rx_CV.imp H (fun σ3 H => ?_))
      refine g_il iX11_takesE_350 rfl ?_
      by_cases c4 : x1 ≠ 0
      · rw [if_pos c4] at H
        refine g_if1t iX11_takesE_351 c4 ?_
        refine g_c iX11_takesE_358 ?_
        exact g_ri iX11_takesE_359 (by decide) H
      · rw [if_neg c4] at H
        refine g_if1f iX11_takesE_351 c4 ?_
        refine g_c iX11_takesE_354 ?_
        refine g_goto iX11_takesE_355 ?_
        exact g_ri iX11_takesE_359 (by decide) H
    · rw [if_neg c2] at H
      refine g_if0f iX11_takesE_36 c2 ?_
      exact H
set_option maxRecDepth 20000 in
set_option maxHeartbeats 4000000 in
theorem bX11_takesE_39 (L d : Nat) (x1 : Int) (x2 : Int) (x3 : Int) (q4 : Option rx_V) (σ : rx_St) (K : Int → rx_St → Prop)
    (H : if x3 = 0 then (if (σ 125 25) ≠ 3 then (rx_Go L (d + 1) mX11_takesE 237 [some (.inr 125), some (.inl x1), some (.inl x2), some (.inl x3), q4] [] σ (rx_PI K)) else (if (σ 125 26) ≠ 41 then (rx_Go L (d + 1) mX11_takesE 237 [some (.inr 125), some (.inl x1), some (.inl x2), some (.inl x3), q4] [] σ (rx_PI K)) else (if x1 ≤ 0 then (rx_Go L (d + 1) mX11_takesE 237 [some (.inr 125), some (.inl x1), some (.inl x2), some (.inl x3), q4] [] σ (rx_PI K)) else (rx_CV L d mX11_settle [.inr 125, .inl 0] σ (fun σ9 => rx_CV L d mX11_settle [.inr 125, .inl 6] (rx_up σ9 125 35 (rx_w ((σ9 125 35) - 1))) (fun σ10 => rx_CI L d mX11_notsOpen [.inr 125] σ10 (fun v12 σ11 => rx_CV L d mX11_go [.inr 125] σ11 (fun σ13 => rx_Go L (d + 1) mX11_takesE 28 [some (.inr 125), some (.inl (rx_w (x1 + (-1)))), some (.inl v12), some (.inl x3), q4] [] σ13 (rx_PI K))))))))) else (if (σ 125 25) ≠ 3 then (rx_Go L (d + 1) mX11_takesE 97 [some (.inr 125), some (.inl x1), some (.inl x2), some (.inl x3), q4] [] σ (rx_PI K)) else (if (σ 125 26) ≠ 33 then (rx_Go L (d + 1) mX11_takesE 97 [some (.inr 125), some (.inl x1), some (.inl x2), some (.inl x3), q4] [] σ (rx_PI K)) else (if 8 ≤ x2 then (rx_Go L (d + 1) mX11_takesE 97 [some (.inr 125), some (.inl x1), some (.inl x2), some (.inl x3), q4] [] σ (rx_PI K)) else ((0 ≤ (σ 125 35) ∧ (σ 125 35) < 96) ∧ (rx_CV L d mX11_go [.inr 125] (rx_up (rx_up σ 146 (σ 125 35) (-10)) 125 35 (rx_w (((rx_up σ 146 (σ 125 35) (-10)) 125 35) + 1))) (fun σ18 => rx_Go L (d + 1) mX11_takesE 172 [some (.inr 125), some (.inl x1), some (.inl (rx_w (x2 + 1))), some (.inl x3), q4] [] σ18 (rx_PI K)))))))) :
    rx_Go L (d + 1) mX11_takesE 39 [some (.inr 125), some (.inl x1), some (.inl x2), some (.inl x3), q4] [] σ (rx_PI K) := by
  refine g_il iX11_takesE_39 rfl ?_
  by_cases c5 : x3 = 0
  · rw [if_pos c5] at H
    refine g_if0t iX11_takesE_40 c5 ?_
    refine g_al iX11_takesE_180 rfl ?_
    refine g_gf (kI := 25) rfl iX11_takesE_181 fi_11_25_125 ?_
    refine g_c iX11_takesE_184 ?_
    by_cases c6 : (σ 125 25) ≠ 3
    · rw [if_pos c6] at H
      refine g_ic1t iX11_takesE_185 c6 ?_
      exact H
    · rw [if_neg c6] at H
      refine g_ic1f iX11_takesE_185 c6 ?_
      refine g_al iX11_takesE_188 rfl ?_
      refine g_gf (kI := 26) rfl iX11_takesE_189 fi_11_26_125 ?_
      refine g_c iX11_takesE_192 ?_
      by_cases c7 : (σ 125 26) ≠ 41
      · rw [if_pos c7] at H
        refine g_ic1t iX11_takesE_194 c7 ?_
        exact H
      · rw [if_neg c7] at H
        refine g_ic1f iX11_takesE_194 c7 ?_
        refine g_il iX11_takesE_197 rfl ?_
        by_cases c8 : x1 ≤ 0
        · rw [if_pos c8] at H
          refine g_if5t iX11_takesE_198 c8 ?_
          exact H
        · rw [if_neg c8] at H
          refine g_if5f iX11_takesE_198 c8 ?_
          refine g_al iX11_takesE_201 rfl ?_
          refine g_c iX11_takesE_202 ?_
          refine g_cv (as := [.inr 125, .inl 0]) (rest := []) iX11_takesE_203 rfl rfl (Nat.le_of_ble_eq_true rfl) (Or.inr ⟨_, _, rfl, oo_11_125⟩) (rx_CV.imp H (fun σ9 H => ?_))
          refine g_al iX11_takesE_206 rfl ?_
          refine g_dup iX11_takesE_207 ?_
          refine g_gf (kI := 35) rfl iX11_takesE_208 fi_11_35_125 ?_
          refine g_c iX11_takesE_211 ?_
          refine g_sub iX11_takesE_212 ?_
          refine g_pf (kI := 35) rfl iX11_takesE_213 fi_11_35_125 (Or.inl rfl) ?_
          refine g_ii iX11_takesE_216 rfl ?_
          refine rx_Go.ls (la := [some (.inr 125), some (.inl (rx_w (x1 + (-1)))), some (.inl x2), some (.inl x3), q4]) rfl ?_
          refine g_al iX11_takesE_219 rfl ?_
          refine g_c iX11_takesE_220 ?_
          refine g_cv (as := [.inr 125, .inl 6]) (rest := []) iX11_takesE_222 rfl rfl (Nat.le_of_ble_eq_true rfl) (Or.inr ⟨_, _, rfl, oo_11_125⟩) (rx_CV.imp H (fun σ10 H => ?_))
          refine g_al iX11_takesE_225 rfl ?_
          refine g_ci (as := [.inr 125]) (rest := []) iX11_takesE_226 rfl rfl (Nat.le_of_ble_eq_true rfl) (Or.inr ⟨_, _, rfl, oo_11_125⟩) (rx_CI.imp H (fun v12 σ11 H => ?_))
          refine g_is iX11_takesE_229 (Nat.le_of_ble_eq_true rfl) ?_
          refine rx_Go.ls (la := [some (.inr 125), some (.inl (rx_w (x1 + (-1)))), some (.inl v12), some (.inl x3), q4]) rfl ?_
          refine g_al iX11_takesE_230 rfl ?_
          refine g_cv (as := [.inr 125]) (rest := []) iX11_takesE_231 rfl rfl (Nat.le_of_ble_eq_true rfl) (Or.inr ⟨_, _, rfl, oo_11_125⟩) (rx_CV.imp H (fun σ13 H => ?_))
          refine g_goto iX11_takesE_234 ?_
          exact H
  · rw [if_neg c5] at H
    refine g_if0f iX11_takesE_40 c5 ?_
    refine g_al iX11_takesE_43 rfl ?_
    refine g_gf (kI := 25) rfl iX11_takesE_44 fi_11_25_125 ?_
    refine g_c iX11_takesE_47 ?_
    by_cases c14 : (σ 125 25) ≠ 3
    · rw [if_pos c14] at H
      refine g_ic1t iX11_takesE_48 c14 ?_
      exact H
    · rw [if_neg c14] at H
      refine g_ic1f iX11_takesE_48 c14 ?_
      refine g_al iX11_takesE_51 rfl ?_
      refine g_gf (kI := 26) rfl iX11_takesE_52 fi_11_26_125 ?_
      refine g_c iX11_takesE_55 ?_
      by_cases c15 : (σ 125 26) ≠ 33
      · rw [if_pos c15] at H
        refine g_ic1t iX11_takesE_57 c15 ?_
        exact H
      · rw [if_neg c15] at H
        refine g_ic1f iX11_takesE_57 c15 ?_
        refine g_il iX11_takesE_60 rfl ?_
        refine g_c iX11_takesE_61 ?_
        by_cases c16 : 8 ≤ x2
        · rw [if_pos c16] at H
          refine g_ic3t iX11_takesE_63 c16 ?_
          exact H
        · rw [if_neg c16] at H
          refine g_ic3f iX11_takesE_63 c16 ?_
          refine g_al iX11_takesE_66 rfl ?_
          refine g_gr iX11_takesE_67 fr_11_34_125 ?_
          refine g_al iX11_takesE_70 rfl ?_
          refine g_gf (kI := 35) rfl iX11_takesE_71 fi_11_35_125 ?_
          refine g_c iX11_takesE_74 ?_
          obtain ⟨o17, H⟩ := H
          refine g_st iX11_takesE_76 (ln_146 L) (by decide) o17 rfl ?_
          refine g_al iX11_takesE_77 rfl ?_
          refine g_dup iX11_takesE_78 ?_
          refine g_gf (kI := 35) rfl iX11_takesE_79 fi_11_35_125 ?_
          refine g_c iX11_takesE_82 ?_
          refine g_add iX11_takesE_83 ?_
          refine g_pf (kI := 35) rfl iX11_takesE_84 fi_11_35_125 (Or.inl rfl) ?_
          refine g_ii iX11_takesE_87 rfl ?_
          refine rx_Go.ls (la := [some (.inr 125), some (.inl x1), some (.inl (rx_w (x2 + 1))), some (.inl x3), q4]) rfl ?_
          refine g_al iX11_takesE_90 rfl ?_
          refine g_cv (as := [.inr 125]) (rest := []) iX11_takesE_91 rfl rfl (Nat.le_of_ble_eq_true rfl) (Or.inr ⟨_, _, rfl, oo_11_125⟩) (rx_CV.imp H (fun σ18 H => ?_))
          refine g_goto iX11_takesE_94 ?_
          exact H
set_option maxRecDepth 20000 in
set_option maxHeartbeats 4000000 in
theorem bX11_takesE_237 (L d : Nat) (x1 : Int) (x2 : Int) (q3 : Option rx_V) (q4 : Option rx_V) (σ : rx_St) (K : Int → rx_St → Prop)
    (H : rx_CI L d mX11_signHere [.inr 125] σ (fun v20 σ19 => if v20 = 0 then (K 0 σ19) else (rx_CI L d mX11_rank [.inl v20] σ19 (fun v23 σ22 => if v23 ≠ 3 then (rx_Go L (d + 1) mX11_takesE 268 [some (.inr 125), some (.inl x1), some (.inl x2), q3, some (.inl v20)] [] σ22 (rx_PI K)) else ((0 ≤ x1 ∧ x1 < 10) ∧ (if (σ22 147 x1) = 0 then (rx_Go L (d + 1) mX11_takesE 268 [some (.inr 125), some (.inl x1), some (.inl x2), q3, some (.inl v20)] [] σ22 (rx_PI K)) else (K 0 σ22))))))) :
    rx_Go L (d + 1) mX11_takesE 237 [some (.inr 125), some (.inl x1), some (.inl x2), q3, q4] [] σ (rx_PI K) := by
  refine g_al iX11_takesE_237 rfl ?_
  refine g_ci (as := [.inr 125]) (rest := []) iX11_takesE_238 rfl rfl (Nat.le_of_ble_eq_true rfl) (Or.inr ⟨_, _, rfl, oo_11_125⟩) (rx_CI.imp H (fun v20 σ19 H => ?_))
  refine g_is iX11_takesE_241 (Nat.le_of_ble_eq_true rfl) ?_
  refine rx_Go.ls (la := [some (.inr 125), some (.inl x1), some (.inl x2), q3, some (.inl v20)]) rfl ?_
  refine g_il iX11_takesE_243 rfl ?_
  by_cases c21 : v20 = 0
  · rw [if_pos c21] at H
    refine g_if0t iX11_takesE_245 c21 ?_
    refine g_c iX11_takesE_266 ?_
    exact g_ri iX11_takesE_267 (by decide) H
  · rw [if_neg c21] at H
    refine g_if0f iX11_takesE_245 c21 ?_
    refine g_il iX11_takesE_248 rfl ?_
    refine g_ci (as := [.inl v20]) (rest := []) iX11_takesE_250 rfl rfl (Nat.le_of_ble_eq_true rfl) (Or.inl (by decide)) (rx_CI.imp H (fun v23 σ22 H => ?_))
    refine g_c iX11_takesE_253 ?_
    by_cases c24 : v23 ≠ 3
    · rw [if_pos c24] at H
      refine g_ic1t iX11_takesE_254 c24 ?_
      exact H
    · rw [if_neg c24] at H
      refine g_ic1f iX11_takesE_254 c24 ?_
      refine g_al iX11_takesE_257 rfl ?_
      refine g_gr iX11_takesE_258 fr_11_36_125 ?_
      refine g_il iX11_takesE_261 rfl ?_
      obtain ⟨o25, H⟩ := H
      refine g_ld iX11_takesE_262 (ln_147 L) o25 ?_
      by_cases c26 : (σ22 147 x1) = 0
      · rw [if_pos c26] at H
        refine g_if0t iX11_takesE_263 c26 ?_
        exact H
      · rw [if_neg c26] at H
        refine g_if0f iX11_takesE_263 c26 ?_
        refine g_c iX11_takesE_266 ?_
        exact g_ri iX11_takesE_267 (by decide) H
set_option maxRecDepth 20000 in
set_option maxHeartbeats 4000000 in
theorem bX11_takesE_97 (L d : Nat) (x1 : Int) (q2 : Option rx_V) (x3 : Int) (q4 : Option rx_V) (σ : rx_St) (K : Int → rx_St → Prop)
    (H : if (σ 125 25) ≠ 3 then (rx_Go L (d + 1) mX11_takesE 158 [some (.inr 125), some (.inl x1), q2, some (.inl x3), q4] [] σ (rx_PI K)) else (if (σ 125 26) ≠ 40 then (rx_Go L (d + 1) mX11_takesE 158 [some (.inr 125), some (.inl x1), q2, some (.inl x3), q4] [] σ (rx_PI K)) else (if 8 ≤ x1 then (rx_Go L (d + 1) mX11_takesE 158 [some (.inr 125), some (.inl x1), q2, some (.inl x3), q4] [] σ (rx_PI K)) else ((0 ≤ (σ 125 35) ∧ (σ 125 35) < 96) ∧ ((0 ≤ (rx_w (x1 + 1)) ∧ (rx_w (x1 + 1)) < 10) ∧ (rx_CV L d mX11_go [.inr 125] (rx_up (rx_up (rx_up σ 146 (σ 125 35) (-11)) 125 35 (rx_w (((rx_up σ 146 (σ 125 35) (-11)) 125 35) + 1))) 147 (rx_w (x1 + 1)) 0) (fun σ32 => rx_Go L (d + 1) mX11_takesE 172 [some (.inr 125), some (.inl (rx_w (x1 + 1))), q2, some (.inl x3), q4] [] σ32 (rx_PI K)))))))) :
    rx_Go L (d + 1) mX11_takesE 97 [some (.inr 125), some (.inl x1), q2, some (.inl x3), q4] [] σ (rx_PI K) := by
  refine g_al iX11_takesE_97 rfl ?_
  refine g_gf (kI := 25) rfl iX11_takesE_98 fi_11_25_125 ?_
  refine g_c iX11_takesE_101 ?_
  by_cases c27 : (σ 125 25) ≠ 3
  · rw [if_pos c27] at H
    refine g_ic1t iX11_takesE_102 c27 ?_
    exact H
  · rw [if_neg c27] at H
    refine g_ic1f iX11_takesE_102 c27 ?_
    refine g_al iX11_takesE_105 rfl ?_
    refine g_gf (kI := 26) rfl iX11_takesE_106 fi_11_26_125 ?_
    refine g_c iX11_takesE_109 ?_
    by_cases c28 : (σ 125 26) ≠ 40
    · rw [if_pos c28] at H
      refine g_ic1t iX11_takesE_111 c28 ?_
      exact H
    · rw [if_neg c28] at H
      refine g_ic1f iX11_takesE_111 c28 ?_
      refine g_il iX11_takesE_114 rfl ?_
      refine g_c iX11_takesE_115 ?_
      by_cases c29 : 8 ≤ x1
      · rw [if_pos c29] at H
        refine g_ic3t iX11_takesE_117 c29 ?_
        exact H
      · rw [if_neg c29] at H
        refine g_ic3f iX11_takesE_117 c29 ?_
        refine g_al iX11_takesE_120 rfl ?_
        refine g_gr iX11_takesE_121 fr_11_34_125 ?_
        refine g_al iX11_takesE_124 rfl ?_
        refine g_gf (kI := 35) rfl iX11_takesE_125 fi_11_35_125 ?_
        refine g_c iX11_takesE_128 ?_
        obtain ⟨o30, H⟩ := H
        refine g_st iX11_takesE_130 (ln_146 L) (by decide) o30 rfl ?_
        refine g_al iX11_takesE_131 rfl ?_
        refine g_dup iX11_takesE_132 ?_
        refine g_gf (kI := 35) rfl iX11_takesE_133 fi_11_35_125 ?_
        refine g_c iX11_takesE_136 ?_
        refine g_add iX11_takesE_137 ?_
        refine g_pf (kI := 35) rfl iX11_takesE_138 fi_11_35_125 (Or.inl rfl) ?_
        refine g_ii iX11_takesE_141 rfl ?_
        refine rx_Go.ls (la := [some (.inr 125), some (.inl (rx_w (x1 + 1))), q2, some (.inl x3), q4]) rfl ?_
        refine g_al iX11_takesE_144 rfl ?_
        refine g_gr iX11_takesE_145 fr_11_36_125 ?_
        refine g_il iX11_takesE_148 rfl ?_
        refine g_c iX11_takesE_149 ?_
        obtain ⟨o31, H⟩ := H
        refine g_st iX11_takesE_150 (ln_147 L) (by decide) o31 rfl ?_
        refine g_al iX11_takesE_151 rfl ?_
        refine g_cv (as := [.inr 125]) (rest := []) iX11_takesE_152 rfl rfl (Nat.le_of_ble_eq_true rfl) (Or.inr ⟨_, _, rfl, oo_11_125⟩) (rx_CV.imp H (fun σ32 H => ?_))
        refine g_goto iX11_takesE_155 ?_
        exact H
set_option maxRecDepth 20000 in
set_option maxHeartbeats 4000000 in
theorem bX11_takesE_172 (L d : Nat) (x1 : Int) (q2 : Option rx_V) (x3 : Int) (q4 : Option rx_V) (σ : rx_St) (K : Int → rx_St → Prop)
    (H : rx_CI L d mX11_notsOpen [.inr 125] σ (fun v34 σ33 => rx_Go L (d + 1) mX11_takesE 28 [some (.inr 125), some (.inl x1), some (.inl v34), some (.inl x3), q4] [] σ33 (rx_PI K))) :
    rx_Go L (d + 1) mX11_takesE 172 [some (.inr 125), some (.inl x1), q2, some (.inl x3), q4] [] σ (rx_PI K) := by
  refine g_al iX11_takesE_172 rfl ?_
  refine g_ci (as := [.inr 125]) (rest := []) iX11_takesE_173 rfl rfl (Nat.le_of_ble_eq_true rfl) (Or.inr ⟨_, _, rfl, oo_11_125⟩) (rx_CI.imp H (fun v34 σ33 H => ?_))
  refine g_is iX11_takesE_176 (Nat.le_of_ble_eq_true rfl) ?_
  refine rx_Go.ls (la := [some (.inr 125), some (.inl x1), some (.inl v34), some (.inl x3), q4]) rfl ?_
  refine g_goto iX11_takesE_177 ?_
  exact H
set_option maxRecDepth 20000 in
set_option maxHeartbeats 4000000 in
theorem bX11_takesE_268 (L d : Nat) (x1 : Int) (x2 : Int) (q3 : Option rx_V) (x4 : Int) (σ : rx_St) (K : Int → rx_St → Prop)
    (H : rx_CI L d mX11_rank [.inl x4] σ (fun v36 σ35 => if v36 = 3 then ((0 ≤ x1 ∧ x1 < 10) ∧ (rx_Go L (d + 1) mX11_takesE 306 [some (.inr 125), some (.inl x1), some (.inl x2), q3, some (.inl x4)] [] (rx_up σ35 147 x1 1) (rx_PI K))) else (rx_CI L d mX11_rank [.inl x4] σ35 (fun v40 σ39 => if v40 ≤ 3 then ((0 ≤ x1 ∧ x1 < 10) ∧ (rx_Go L (d + 1) mX11_takesE 306 [some (.inr 125), some (.inl x1), some (.inl x2), q3, some (.inl x4)] [] (rx_up σ39 147 x1 0) (rx_PI K))) else ((0 ≤ x1 ∧ x1 < 10) ∧ (if (σ39 147 x1) = 0 then (rx_Go L (d + 1) mX11_takesE 306 [some (.inr 125), some (.inl x1), some (.inl x2), q3, some (.inl x4)] [] (rx_up σ39 147 x1 0) (rx_PI K)) else (rx_Go L (d + 1) mX11_takesE 306 [some (.inr 125), some (.inl x1), some (.inl x2), q3, some (.inl x4)] [] (rx_up σ39 147 x1 1) (rx_PI K)))))))) :
    rx_Go L (d + 1) mX11_takesE 268 [some (.inr 125), some (.inl x1), some (.inl x2), q3, some (.inl x4)] [] σ (rx_PI K) := by
  refine g_al iX11_takesE_268 rfl ?_
  refine g_gr iX11_takesE_269 fr_11_36_125 ?_
  refine g_il iX11_takesE_272 rfl ?_
  refine g_il iX11_takesE_273 rfl ?_
  refine g_ci (as := [.inl x4]) (rest := [.inl x1, .inr 147]) iX11_takesE_275 rfl rfl (Nat.le_of_ble_eq_true rfl) (Or.inl (by decide)) (rx_CI.imp H (fun v36 σ35 H => ?_))
  refine g_c iX11_takesE_278 ?_
  by_cases c37 : v36 = 3
  · rw [if_pos c37] at H
    refine g_ic0t iX11_takesE_279 c37 ?_
    refine g_c iX11_takesE_300 ?_
    refine g_goto iX11_takesE_301 ?_
    obtain ⟨o38, H⟩ := H
    refine g_st iX11_takesE_305 (ln_147 L) (by decide) o38 rfl ?_
    exact H
  · rw [if_neg c37] at H
    refine g_ic0f iX11_takesE_279 c37 ?_
    refine g_il iX11_takesE_282 rfl ?_
    refine g_ci (as := [.inl x4]) (rest := [.inl x1, .inr 147]) iX11_takesE_284 rfl rfl (Nat.le_of_ble_eq_true rfl) (Or.inl (by decide)) (rx_CI.imp H (fun v40 σ39 H => ?_))
    refine g_c iX11_takesE_287 ?_
    by_cases c41 : v40 ≤ 3
    · rw [if_pos c41] at H
      refine g_ic5t iX11_takesE_288 c41 ?_
      refine g_c iX11_takesE_304 ?_
      obtain ⟨o42, H⟩ := H
      refine g_st iX11_takesE_305 (ln_147 L) (by decide) o42 rfl ?_
      exact H
    · rw [if_neg c41] at H
      refine g_ic5f iX11_takesE_288 c41 ?_
      refine g_al iX11_takesE_291 rfl ?_
      refine g_gr iX11_takesE_292 fr_11_36_125 ?_
      refine g_il iX11_takesE_295 rfl ?_
      obtain ⟨o43, H⟩ := H
      refine g_ld iX11_takesE_296 (ln_147 L) o43 ?_
      by_cases c44 : (σ39 147 x1) = 0
      · rw [if_pos c44] at H
        refine g_if0t iX11_takesE_297 c44 ?_
        refine g_c iX11_takesE_304 ?_
        refine g_st iX11_takesE_305 (ln_147 L) (by decide) o43 rfl ?_
        exact H
      · rw [if_neg c44] at H
        refine g_if0f iX11_takesE_297 c44 ?_
        refine g_c iX11_takesE_300 ?_
        refine g_goto iX11_takesE_301 ?_
        refine g_st iX11_takesE_305 (ln_147 L) (by decide) o43 rfl ?_
        exact H
set_option maxRecDepth 20000 in
set_option maxHeartbeats 4000000 in
theorem bX11_takesE_158 (L d : Nat) (x1 : Int) (q2 : Option rx_V) (q3 : Option rx_V) (q4 : Option rx_V) (σ : rx_St) (K : Int → rx_St → Prop)
    (H : rx_CI L d mX11_takesPart [.inr 125] σ (fun v46 σ45 => if v46 = 0 then (K 0 σ45) else (rx_Go L (d + 1) mX11_takesE 172 [some (.inr 125), some (.inl x1), q2, some (.inl 0), q4] [] σ45 (rx_PI K)))) :
    rx_Go L (d + 1) mX11_takesE 158 [some (.inr 125), some (.inl x1), q2, q3, q4] [] σ (rx_PI K) := by
  refine g_al iX11_takesE_158 rfl ?_
  refine g_ci (as := [.inr 125]) (rest := []) iX11_takesE_159 rfl rfl (Nat.le_of_ble_eq_true rfl) (Or.inr ⟨_, _, rfl, oo_11_125⟩) (rx_CI.imp H (fun v46 σ45 H => ?_))
  by_cases c47 : v46 = 0
  · rw [if_pos c47] at H
    refine g_if0t iX11_takesE_162 c47 ?_
    refine g_c iX11_takesE_170 ?_
    exact g_ri iX11_takesE_171 (by decide) H
  · rw [if_neg c47] at H
    refine g_if0f iX11_takesE_162 c47 ?_
    refine g_c iX11_takesE_165 ?_
    refine g_is iX11_takesE_166 (Nat.le_of_ble_eq_true rfl) ?_
    refine rx_Go.ls (la := [some (.inr 125), some (.inl x1), q2, some (.inl 0), q4]) rfl ?_
    refine g_goto iX11_takesE_167 ?_
    exact H
set_option maxRecDepth 20000 in
set_option maxHeartbeats 4000000 in
theorem bX11_takesE_306 (L d : Nat) (x1 : Int) (x2 : Int) (q3 : Option rx_V) (x4 : Int) (σ : rx_St) (K : Int → rx_St → Prop)
    (H : rx_CI L d mX11_rank [.inl x4] σ (fun v49 σ48 => rx_CV L d mX11_settle [.inr 125, .inl v49] σ48 (fun σ50 => (0 ≤ (σ50 125 35) ∧ (σ50 125 35) < 96) ∧ (rx_CV L d mX11_go [.inr 125] (rx_up (rx_up σ50 146 (σ50 125 35) x4) 125 35 (rx_w (((rx_up σ50 146 (σ50 125 35) x4) 125 35) + 1))) (fun σ52 => rx_Go L (d + 1) mX11_takesE 28 [some (.inr 125), some (.inl x1), some (.inl x2), some (.inl 1), some (.inl x4)] [] σ52 (rx_PI K)))))) :
    rx_Go L (d + 1) mX11_takesE 306 [some (.inr 125), some (.inl x1), some (.inl x2), q3, some (.inl x4)] [] σ (rx_PI K) := by
  refine g_al iX11_takesE_306 rfl ?_
  refine g_il iX11_takesE_307 rfl ?_
  refine g_ci (as := [.inl x4]) (rest := [.inr 125]) iX11_takesE_309 rfl rfl (Nat.le_of_ble_eq_true rfl) (Or.inl (by decide)) (rx_CI.imp H (fun v49 σ48 H => ?_))
  refine g_cv (as := [.inr 125, .inl v49]) (rest := []) iX11_takesE_312 rfl rfl (Nat.le_of_ble_eq_true rfl) (Or.inr ⟨_, _, rfl, oo_11_125⟩) (rx_CV.imp H (fun σ50 H => ?_))
  refine g_al iX11_takesE_315 rfl ?_
  refine g_gr iX11_takesE_316 fr_11_34_125 ?_
  refine g_al iX11_takesE_319 rfl ?_
  refine g_gf (kI := 35) rfl iX11_takesE_320 fi_11_35_125 ?_
  refine g_il iX11_takesE_323 rfl ?_
  obtain ⟨o51, H⟩ := H
  refine g_st iX11_takesE_325 (ln_146 L) (by decide) o51 rfl ?_
  refine g_al iX11_takesE_326 rfl ?_
  refine g_dup iX11_takesE_327 ?_
  refine g_gf (kI := 35) rfl iX11_takesE_328 fi_11_35_125 ?_
  refine g_c iX11_takesE_331 ?_
  refine g_add iX11_takesE_332 ?_
  refine g_pf (kI := 35) rfl iX11_takesE_333 fi_11_35_125 (Or.inl rfl) ?_
  refine g_c iX11_takesE_336 ?_
  refine g_is iX11_takesE_337 (Nat.le_of_ble_eq_true rfl) ?_
  refine rx_Go.ls (la := [some (.inr 125), some (.inl x1), some (.inl x2), some (.inl 1), some (.inl x4)]) rfl ?_
  refine g_al iX11_takesE_338 rfl ?_
  refine g_cv (as := [.inr 125]) (rest := []) iX11_takesE_339 rfl rfl (Nat.le_of_ble_eq_true rfl) (Or.inr ⟨_, _, rfl, oo_11_125⟩) (rx_CV.imp H (fun σ52 H => ?_))
  refine g_goto iX11_takesE_342 ?_
  exact H
set_option maxRecDepth 20000 in
set_option maxHeartbeats 4000000 in
theorem bX11_notsOpen (L d : Nat)  (σ : rx_St) (K : Int → rx_St → Prop)
    (H : rx_Go L d mX11_notsOpen 4 [some (.inr 125), some (.inl 0), some (.inl 0)] [] σ (rx_PI K)) :
    rx_CI L d mX11_notsOpen [.inr 125] σ K := by
  refine rx_CI.of (la := [some (.inr 125), none, none]) rfl ?_
  refine g_c iX11_notsOpen_0 ?_
  refine g_is iX11_notsOpen_1 (Nat.le_of_ble_eq_true rfl) ?_
  refine rx_Go.ls (la := [some (.inr 125), some (.inl 0), none]) rfl ?_
  refine g_c iX11_notsOpen_2 ?_
  refine g_is iX11_notsOpen_3 (Nat.le_of_ble_eq_true rfl) ?_
  refine rx_Go.ls (la := [some (.inr 125), some (.inl 0), some (.inl 0)]) rfl ?_
  exact H
set_option maxRecDepth 20000 in
set_option maxHeartbeats 4000000 in
theorem bX11_notsOpen_4 (L d : Nat) (x1 : Int) (x2 : Int) (σ : rx_St) (K : Int → rx_St → Prop)
    (H : if (σ 125 35) ≤ x2 then (K x1 σ) else ((0 ≤ x2 ∧ x2 < 96) ∧ (if (σ 146 x2) ≠ (-10) then (rx_Go L d mX11_notsOpen 4 [some (.inr 125), some (.inl (rx_w (x1 + 0))), some (.inl (rx_w (x2 + 1)))] [] σ (rx_PI K)) else (rx_Go L d mX11_notsOpen 4 [some (.inr 125), some (.inl (rx_w (x1 + 1))), some (.inl (rx_w (x2 + 1)))] [] σ (rx_PI K))))) :
    rx_Go L d mX11_notsOpen 4 [some (.inr 125), some (.inl x1), some (.inl x2)] [] σ (rx_PI K) := by
  refine g_il iX11_notsOpen_4 rfl ?_
  refine g_al iX11_notsOpen_5 rfl ?_
  refine g_gf (kI := 35) rfl iX11_notsOpen_6 fi_11_35_125 ?_
  by_cases c1 : (σ 125 35) ≤ x2
  · rw [if_pos c1] at H
    refine g_ic3t iX11_notsOpen_9 c1 ?_
    refine g_il iX11_notsOpen_37 rfl ?_
    exact g_ri iX11_notsOpen_38 (Or.inl rfl) H
  · rw [if_neg c1] at H
    refine g_ic3f iX11_notsOpen_9 c1 ?_
    refine g_il iX11_notsOpen_12 rfl ?_
    refine g_al iX11_notsOpen_13 rfl ?_
    refine g_gr iX11_notsOpen_14 fr_11_34_125 ?_
    refine g_il iX11_notsOpen_17 rfl ?_
    obtain ⟨o2, H⟩ := H
    refine g_ld iX11_notsOpen_18 (ln_146 L) o2 ?_
    refine g_c iX11_notsOpen_19 ?_
    by_cases c3 : (σ 146 x2) ≠ (-10)
    · rw [if_pos c3] at H
      refine g_ic1t iX11_notsOpen_21 c3 ?_
      refine g_c iX11_notsOpen_28 ?_
      refine g_add iX11_notsOpen_29 ?_
      refine g_is iX11_notsOpen_30 (Nat.le_of_ble_eq_true rfl) ?_
      refine rx_Go.ls (la := [some (.inr 125), some (.inl (rx_w (x1 + 0))), some (.inl x2)]) rfl ?_
      refine g_ii iX11_notsOpen_31 rfl ?_
      refine rx_Go.ls (la := [some (.inr 125), some (.inl (rx_w (x1 + 0))), some (.inl (rx_w (x2 + 1)))]) rfl ?_
      refine g_goto iX11_notsOpen_34 ?_
      exact H
    · rw [if_neg c3] at H
      refine g_ic1f iX11_notsOpen_21 c3 ?_
      refine g_c iX11_notsOpen_24 ?_
      refine g_goto iX11_notsOpen_25 ?_
      refine g_add iX11_notsOpen_29 ?_
      refine g_is iX11_notsOpen_30 (Nat.le_of_ble_eq_true rfl) ?_
      refine rx_Go.ls (la := [some (.inr 125), some (.inl (rx_w (x1 + 1))), some (.inl x2)]) rfl ?_
      refine g_ii iX11_notsOpen_31 rfl ?_
      refine rx_Go.ls (la := [some (.inr 125), some (.inl (rx_w (x1 + 1))), some (.inl (rx_w (x2 + 1)))]) rfl ?_
      refine g_goto iX11_notsOpen_34 ?_
      exact H
set_option maxRecDepth 20000 in
set_option maxHeartbeats 4000000 in
theorem bX11_text (L d : Nat)  (σ : rx_St) (K : Int → rx_St → Prop)
    (H : rx_CV L d mX11_go [.inr 125] (rx_up (rx_up σ 125 23 0) 125 27 (-1)) (fun σ1 => rx_CI L d mX11_takesKey [.inr 125] σ1 (fun v3 σ2 => if v3 = 0 then (K (rx_w ((-100) - ((rx_up σ2 125 22 0) 125 24))) (rx_up σ2 125 22 0)) else (rx_CI L d mX11_takesE [.inr 125] σ2 (fun v6 σ5 => if v6 = 0 then (K (rx_w ((-100) - ((rx_up σ5 125 22 0) 125 24))) (rx_up σ5 125 22 0)) else (if ((rx_up σ5 125 22 0) 126 3) ≠ 14 then ((0 ≤ (rx_w (126 + (rx_w (2 * ((rx_up σ5 125 22 0) 126 3))))) ∧ (rx_w (126 + (rx_w (2 * ((rx_up σ5 125 22 0) 126 3))))) < 1498) ∧ ((0 ≤ (rx_w ((rx_w (126 + (rx_w (2 * ((rx_up σ5 125 22 0) 126 3))))) + 1)) ∧ (rx_w ((rx_w (126 + (rx_w (2 * ((rx_up σ5 125 22 0) 126 3))))) + 1)) < 1498) ∧ (rx_Go L (d + 1) mX11_text 115 [some (.inr 125), some (.inl 1), some (.inl ((rx_up σ5 125 22 0) 126 3)), some (.inl 0)] [] (rx_up (rx_up (rx_up σ5 125 22 0) 126 (rx_w (126 + (rx_w (2 * ((rx_up σ5 125 22 0) 126 3))))) (rx_w ((rx_w (1000 * ((rx_up σ5 125 22 0) 125 28))) + ((rx_up σ5 125 22 0) 125 32)))) 126 (rx_w ((rx_w (126 + (rx_w (2 * ((rx_up σ5 125 22 0) 126 3))))) + 1)) ((rx_up (rx_up σ5 125 22 0) 126 (rx_w (126 + (rx_w (2 * ((rx_up σ5 125 22 0) 126 3))))) (rx_w ((rx_w (1000 * ((rx_up σ5 125 22 0) 125 28))) + ((rx_up σ5 125 22 0) 125 32)))) 125 33)) (rx_PI K)))) else (K (-1000000003) (rx_up σ5 125 22 0)))))))) :
    rx_CI L (d + 1) mX11_text [.inr 125] σ K := by
  refine rx_CI.of (la := [some (.inr 125), none, none, none]) rfl ?_
  refine g_al iX11_text_0 rfl ?_
  refine g_c iX11_text_1 ?_
  refine g_pf (kI := 23) rfl iX11_text_2 fi_11_23_125 (Or.inl rfl) ?_
  refine g_al iX11_text_5 rfl ?_
  refine g_c iX11_text_6 ?_
  refine g_pf (kI := 27) rfl iX11_text_7 fi_11_27_125 (Or.inl rfl) ?_
  refine g_al iX11_text_10 rfl ?_
  refine g_cv (as := [.inr 125]) (rest := []) iX11_text_11 rfl rfl (Nat.le_of_ble_eq_true rfl) (Or.inr ⟨_, _, rfl, oo_11_125⟩) (rx_CV.imp H (fun σ1 H => ?_))
  refine g_al iX11_text_14 rfl ?_
  refine g_ci (as := [.inr 125]) (rest := []) iX11_text_15 rfl rfl (Nat.le_of_ble_eq_true rfl) (Or.inr ⟨_, _, rfl, oo_11_125⟩) (rx_CI.imp H (fun v3 σ2 H => ?_))
  by_cases c4 : v3 = 0
  · rw [if_pos c4] at H
    refine g_if0t iX11_text_18 c4 ?_
    refine g_c iX11_text_32 ?_
    refine g_is iX11_text_33 (Nat.le_of_ble_eq_true rfl) ?_
    refine rx_Go.ls (la := [some (.inr 125), some (.inl 0), none, none]) rfl ?_
    refine g_al iX11_text_34 rfl ?_
    refine g_c iX11_text_35 ?_
    refine g_pf (kI := 22) rfl iX11_text_36 fi_11_22_125 (Or.inl rfl) ?_
    refine g_il iX11_text_39 rfl ?_
    refine g_if1f iX11_text_40 (by decide) ?_
    refine g_c iX11_text_43 ?_
    refine g_al iX11_text_45 rfl ?_
    refine g_gf (kI := 24) rfl iX11_text_46 fi_11_24_125 ?_
    refine g_sub iX11_text_49 ?_
    exact g_ri iX11_text_50 (Or.inl rfl) H
  · rw [if_neg c4] at H
    refine g_if0f iX11_text_18 c4 ?_
    refine g_al iX11_text_21 rfl ?_
    refine g_ci (as := [.inr 125]) (rest := []) iX11_text_22 rfl rfl (Nat.le_of_ble_eq_true rfl) (Or.inr ⟨_, _, rfl, oo_11_125⟩) (rx_CI.imp H (fun v6 σ5 H => ?_))
    by_cases c7 : v6 = 0
    · rw [if_pos c7] at H
      refine g_if0t iX11_text_25 c7 ?_
      refine g_c iX11_text_32 ?_
      refine g_is iX11_text_33 (Nat.le_of_ble_eq_true rfl) ?_
      refine rx_Go.ls (la := [some (.inr 125), some (.inl 0), none, none]) rfl ?_
      refine g_al iX11_text_34 rfl ?_
      refine g_c iX11_text_35 ?_
      refine g_pf (kI := 22) rfl iX11_text_36 fi_11_22_125 (Or.inl rfl) ?_
      refine g_il iX11_text_39 rfl ?_
      refine g_if1f iX11_text_40 (by decide) ?_
      refine g_c iX11_text_43 ?_
      refine g_al iX11_text_45 rfl ?_
      refine g_gf (kI := 24) rfl iX11_text_46 fi_11_24_125 ?_
      refine g_sub iX11_text_49 ?_
      exact g_ri iX11_text_50 (Or.inl rfl) H
    · rw [if_neg c7] at H
      refine g_if0f iX11_text_25 c7 ?_
      refine g_c iX11_text_28 ?_
      refine g_goto iX11_text_29 ?_
      refine g_is iX11_text_33 (Nat.le_of_ble_eq_true rfl) ?_
      refine rx_Go.ls (la := [some (.inr 125), some (.inl 1), none, none]) rfl ?_
      refine g_al iX11_text_34 rfl ?_
      refine g_c iX11_text_35 ?_
      refine g_pf (kI := 22) rfl iX11_text_36 fi_11_22_125 (Or.inl rfl) ?_
      refine g_il iX11_text_39 rfl ?_
      refine g_if1t iX11_text_40 (by decide) ?_
      refine g_al iX11_text_51 rfl ?_
      refine g_gr iX11_text_52 fr_11_0_125 ?_
      refine g_c iX11_text_55 ?_
      refine g_ld iX11_text_56 (ln_126 L) (by decide) ?_
      refine g_c iX11_text_57 ?_
      by_cases c8 : ((rx_up σ5 125 22 0) 126 3) ≠ 14
      · rw [if_pos c8] at H
        refine g_ic1t iX11_text_59 c8 ?_
        refine g_al iX11_text_65 rfl ?_
        refine g_gr iX11_text_66 fr_11_0_125 ?_
        refine g_c iX11_text_69 ?_
        refine g_ld iX11_text_70 (ln_126 L) (by decide) ?_
        refine g_is iX11_text_71 (Nat.le_of_ble_eq_true rfl) ?_
        refine rx_Go.ls (la := [some (.inr 125), some (.inl 1), some (.inl ((rx_up σ5 125 22 0) 126 3)), none]) rfl ?_
        refine g_al iX11_text_72 rfl ?_
        refine g_gr iX11_text_73 fr_11_0_125 ?_
        refine g_c iX11_text_76 ?_
        refine g_c iX11_text_78 ?_
        refine g_il iX11_text_79 rfl ?_
        refine g_mul iX11_text_80 ?_
        refine g_add iX11_text_81 ?_
        refine g_c iX11_text_82 ?_
        refine g_al iX11_text_85 rfl ?_
        refine g_gf (kI := 28) rfl iX11_text_86 fi_11_28_125 ?_
        refine g_mul iX11_text_89 ?_
        refine g_al iX11_text_90 rfl ?_
        refine g_gf (kI := 32) rfl iX11_text_91 fi_11_32_125 ?_
        refine g_add iX11_text_94 ?_
        obtain ⟨o9, H⟩ := H
        refine g_st iX11_text_95 (ln_126 L) (by decide) o9 rfl ?_
        refine g_al iX11_text_96 rfl ?_
        refine g_gr iX11_text_97 fr_11_0_125 ?_
        refine g_c iX11_text_100 ?_
        refine g_c iX11_text_102 ?_
        refine g_il iX11_text_103 rfl ?_
        refine g_mul iX11_text_104 ?_
        refine g_add iX11_text_105 ?_
        refine g_c iX11_text_106 ?_
        refine g_add iX11_text_107 ?_
        refine g_al iX11_text_108 rfl ?_
        refine g_gf (kI := 33) rfl iX11_text_109 fi_11_33_125 ?_
        obtain ⟨o10, H⟩ := H
        refine g_st iX11_text_112 (ln_126 L) (by decide) o10 rfl ?_
        refine g_c iX11_text_113 ?_
        refine g_is iX11_text_114 (Nat.le_of_ble_eq_true rfl) ?_
        refine rx_Go.ls (la := [some (.inr 125), some (.inl 1), some (.inl ((rx_up σ5 125 22 0) 126 3)), some (.inl 0)]) rfl ?_
        exact H
      · rw [if_neg c8] at H
        refine g_ic1f iX11_text_59 c8 ?_
        refine g_c iX11_text_62 ?_
        exact g_ri iX11_text_64 (Or.inl rfl) H
set_option maxRecDepth 20000 in
set_option maxHeartbeats 4000000 in
theorem bX11_text_115 (L d : Nat) (q1 : Option rx_V) (x2 : Int) (x3 : Int) (σ : rx_St) (K : Int → rx_St → Prop)
    (H : if (σ 125 32) ≤ x3 then (K x2 (rx_up σ 126 3 (rx_w ((σ 126 3) + 1)))) else ((0 ≤ x3 ∧ x3 < 96) ∧ ((0 ≤ (rx_w ((rx_w (154 + (rx_w (96 * x2)))) + x3)) ∧ (rx_w ((rx_w (154 + (rx_w (96 * x2)))) + x3)) < 1498) ∧ (rx_Go L (d + 1) mX11_text 115 [some (.inr 125), q1, some (.inl x2), some (.inl (rx_w (x3 + 1)))] [] (rx_up σ 126 (rx_w ((rx_w (154 + (rx_w (96 * x2)))) + x3)) (σ 145 x3)) (rx_PI K))))) :
    rx_Go L (d + 1) mX11_text 115 [some (.inr 125), q1, some (.inl x2), some (.inl x3)] [] σ (rx_PI K) := by
  refine g_il iX11_text_115 rfl ?_
  refine g_al iX11_text_116 rfl ?_
  refine g_gf (kI := 32) rfl iX11_text_117 fi_11_32_125 ?_
  by_cases c11 : (σ 125 32) ≤ x3
  · rw [if_pos c11] at H
    refine g_ic3t iX11_text_120 c11 ?_
    refine g_al iX11_text_150 rfl ?_
    refine g_gr iX11_text_151 fr_11_0_125 ?_
    refine g_c iX11_text_154 ?_
    refine g_dup2 iX11_text_155 ?_
    refine g_ld iX11_text_156 (ln_126 L) (by decide) ?_
    refine g_c iX11_text_157 ?_
    refine g_add iX11_text_158 ?_
    refine g_st iX11_text_159 (ln_126 L) (by decide) (by decide) rfl ?_
    refine g_il iX11_text_160 rfl ?_
    exact g_ri iX11_text_161 (Or.inl rfl) H
  · rw [if_neg c11] at H
    refine g_ic3f iX11_text_120 c11 ?_
    refine g_al iX11_text_123 rfl ?_
    refine g_gr iX11_text_124 fr_11_0_125 ?_
    refine g_c iX11_text_127 ?_
    refine g_c iX11_text_130 ?_
    refine g_il iX11_text_132 rfl ?_
    refine g_mul iX11_text_133 ?_
    refine g_add iX11_text_134 ?_
    refine g_il iX11_text_135 rfl ?_
    refine g_add iX11_text_136 ?_
    refine g_al iX11_text_137 rfl ?_
    refine g_gr iX11_text_138 fr_11_31_125 ?_
    refine g_il iX11_text_141 rfl ?_
    obtain ⟨o12, H⟩ := H
    refine g_ld iX11_text_142 (ln_145 L) o12 ?_
    obtain ⟨o13, H⟩ := H
    refine g_st iX11_text_143 (ln_126 L) (by decide) o13 rfl ?_
    refine g_ii iX11_text_144 rfl ?_
    refine rx_Go.ls (la := [some (.inr 125), q1, some (.inl x2), some (.inl (rx_w (x3 + 1)))]) rfl ?_
    refine g_goto iX11_text_147 ?_
    exact H
set_option maxRecDepth 20000 in
set_option maxHeartbeats 4000000 in
theorem bX11_textTold (L d : Nat) (x1 : Int) (x2 : Int) (σ : rx_St) (K : Int → rx_St → Prop)
    (H : rx_CI L d mX11_in [.inl x1, .inl 0, .inl (rx_w ((σ 126 3) - 1))] σ (fun v2 σ1 => if v2 = 0 then (K (-1000000001) σ1) else (rx_CI L d mX11_in [.inl x2, .inl 0, .inl 1] σ1 (fun v5 σ4 => if v5 ≠ 0 then (if x2 ≠ 0 then ((0 ≤ (rx_w ((rx_w (126 + (rx_w (2 * x1)))) + 1)) ∧ (rx_w ((rx_w (126 + (rx_w (2 * x1)))) + 1)) < 1498) ∧ (K (σ4 126 (rx_w ((rx_w (126 + (rx_w (2 * x1)))) + 1))) σ4)) else ((0 ≤ (rx_w (126 + (rx_w (2 * x1)))) ∧ (rx_w (126 + (rx_w (2 * x1)))) < 1498) ∧ (K (rx_w (Int.tdiv (σ4 126 (rx_w (126 + (rx_w (2 * x1))))) 1000)) σ4))) else (K (-1000000001) σ4))))) :
    rx_CI L (d + 1) mX11_textTold [.inr 125, .inl x1, .inl x2] σ K := by
  refine rx_CI.of (la := [some (.inr 125), some (.inl x1), some (.inl x2)]) rfl ?_
  refine g_il iX11_textTold_0 rfl ?_
  refine g_c iX11_textTold_1 ?_
  refine g_al iX11_textTold_2 rfl ?_
  refine g_gr iX11_textTold_3 fr_11_0_125 ?_
  refine g_c iX11_textTold_6 ?_
  refine g_ld iX11_textTold_7 (ln_126 L) (by decide) ?_
  refine g_c iX11_textTold_8 ?_
  refine g_sub iX11_textTold_9 ?_
  refine g_ci (as := [.inl x1, .inl 0, .inl (rx_w ((σ 126 3) - 1))]) (rest := []) iX11_textTold_10 rfl rfl (Nat.le_of_ble_eq_true rfl) (Or.inl (by decide)) (rx_CI.imp H (fun v2 σ1 H => ?_))
  by_cases c3 : v2 = 0
  · rw [if_pos c3] at H
    refine g_if0t iX11_textTold_13 c3 ?_
    refine g_c iX11_textTold_25 ?_
    exact g_ri iX11_textTold_27 (Or.inl rfl) H
  · rw [if_neg c3] at H
    refine g_if0f iX11_textTold_13 c3 ?_
    refine g_il iX11_textTold_16 rfl ?_
    refine g_c iX11_textTold_17 ?_
    refine g_c iX11_textTold_18 ?_
    refine g_ci (as := [.inl x2, .inl 0, .inl 1]) (rest := []) iX11_textTold_19 rfl rfl (Nat.le_of_ble_eq_true rfl) (Or.inl (by decide)) (rx_CI.imp H (fun v5 σ4 H => ?_))
    by_cases c6 : v5 ≠ 0
    · rw [if_pos c6] at H
      refine g_if1t iX11_textTold_22 c6 ?_
      refine g_il iX11_textTold_28 rfl ?_
      by_cases c7 : x2 ≠ 0
      · rw [if_pos c7] at H
        refine g_if1t iX11_textTold_29 c7 ?_
        refine g_al iX11_textTold_50 rfl ?_
        refine g_gr iX11_textTold_51 fr_11_0_125 ?_
        refine g_c iX11_textTold_54 ?_
        refine g_c iX11_textTold_56 ?_
        refine g_il iX11_textTold_57 rfl ?_
        refine g_mul iX11_textTold_58 ?_
        refine g_add iX11_textTold_59 ?_
        refine g_c iX11_textTold_60 ?_
        refine g_add iX11_textTold_61 ?_
        obtain ⟨o8, H⟩ := H
        refine g_ld iX11_textTold_62 (ln_126 L) o8 ?_
        exact g_ri iX11_textTold_63 (Or.inl rfl) H
      · rw [if_neg c7] at H
        refine g_if1f iX11_textTold_29 c7 ?_
        refine g_al iX11_textTold_32 rfl ?_
        refine g_gr iX11_textTold_33 fr_11_0_125 ?_
        refine g_c iX11_textTold_36 ?_
        refine g_c iX11_textTold_38 ?_
        refine g_il iX11_textTold_39 rfl ?_
        refine g_mul iX11_textTold_40 ?_
        refine g_add iX11_textTold_41 ?_
        obtain ⟨o9, H⟩ := H
        refine g_ld iX11_textTold_42 (ln_126 L) o9 ?_
        refine g_c iX11_textTold_43 ?_
        refine g_div iX11_textTold_46 (by decide) ?_
        refine g_goto iX11_textTold_47 ?_
        exact g_ri iX11_textTold_63 (Or.inl rfl) H
    · rw [if_neg c6] at H
      refine g_if1f iX11_textTold_22 c6 ?_
      refine g_c iX11_textTold_25 ?_
      exact g_ri iX11_textTold_27 (Or.inl rfl) H
set_option maxRecDepth 20000 in
set_option maxHeartbeats 4000000 in
theorem bX11_counts (L d : Nat) (x1 : Int) (σ : rx_St) (K : Int → rx_St → Prop)
    (H : rx_Go L d mX11_counts 9 [some (.inr 125), some (.inl x1), some (.inl (rx_w ((σ 126 3) - 1)))] [] σ (rx_PI K)) :
    rx_CI L d mX11_counts [.inr 125, .inl x1] σ K := by
  refine rx_CI.of (la := [some (.inr 125), some (.inl x1), none]) rfl ?_
  refine g_al iX11_counts_0 rfl ?_
  refine g_gr iX11_counts_1 fr_11_0_125 ?_
  refine g_c iX11_counts_4 ?_
  refine g_ld iX11_counts_5 (ln_126 L) (by decide) ?_
  refine g_c iX11_counts_6 ?_
  refine g_sub iX11_counts_7 ?_
  refine g_is iX11_counts_8 (Nat.le_of_ble_eq_true rfl) ?_
  refine rx_Go.ls (la := [some (.inr 125), some (.inl x1), some (.inl (rx_w ((σ 126 3) - 1)))]) rfl ?_
  exact H
set_option maxRecDepth 20000 in
set_option maxHeartbeats 4000000 in
theorem bX11_counts_9 (L d : Nat) (x1 : Int) (x2 : Int) (σ : rx_St) (K : Int → rx_St → Prop)
    (H : if x2 < 0 then (K (-1) σ) else ((0 ≤ (rx_w (126 + (rx_w (2 * x2)))) ∧ (rx_w (126 + (rx_w (2 * x2)))) < 1498) ∧ (if (rx_w (Int.tdiv (σ 126 (rx_w (126 + (rx_w (2 * x2))))) 1000)) ≠ x1 then (rx_Go L d mX11_counts 9 [some (.inr 125), some (.inl x1), some (.inl (rx_w (x2 + (-1))))] [] σ (rx_PI K)) else (K x2 σ)))) :
    rx_Go L d mX11_counts 9 [some (.inr 125), some (.inl x1), some (.inl x2)] [] σ (rx_PI K) := by
  refine g_il iX11_counts_9 rfl ?_
  by_cases c1 : x2 < 0
  · rw [if_pos c1] at H
    refine g_if2t iX11_counts_10 c1 ?_
    refine g_c iX11_counts_40 ?_
    exact g_ri iX11_counts_41 (Or.inl rfl) H
  · rw [if_neg c1] at H
    refine g_if2f iX11_counts_10 c1 ?_
    refine g_al iX11_counts_13 rfl ?_
    refine g_gr iX11_counts_14 fr_11_0_125 ?_
    refine g_c iX11_counts_17 ?_
    refine g_c iX11_counts_19 ?_
    refine g_il iX11_counts_20 rfl ?_
    refine g_mul iX11_counts_21 ?_
    refine g_add iX11_counts_22 ?_
    obtain ⟨o2, H⟩ := H
    refine g_ld iX11_counts_23 (ln_126 L) o2 ?_
    refine g_c iX11_counts_24 ?_
    refine g_div iX11_counts_27 (by decide) ?_
    refine g_il iX11_counts_28 rfl ?_
    by_cases c3 : (rx_w (Int.tdiv (σ 126 (rx_w (126 + (rx_w (2 * x2))))) 1000)) ≠ x1
    · rw [if_pos c3] at H
      refine g_ic1t iX11_counts_29 c3 ?_
      refine g_ii iX11_counts_34 rfl ?_
      refine rx_Go.ls (la := [some (.inr 125), some (.inl x1), some (.inl (rx_w (x2 + (-1))))]) rfl ?_
      refine g_goto iX11_counts_37 ?_
      exact H
    · rw [if_neg c3] at H
      refine g_ic1f iX11_counts_29 c3 ?_
      refine g_il iX11_counts_32 rfl ?_
      exact g_ri iX11_counts_33 (Or.inl rfl) H
set_option maxRecDepth 20000 in
set_option maxHeartbeats 4000000 in
theorem bX11_why (L d : Nat) (x1 : Int) (σ : rx_St) (K : Int → rx_St → Prop)
    (H : rx_CI L d mX11_in [.inl x1, .inl 0, .inl 2] σ (fun v2 σ1 => if v2 ≠ 0 then (rx_CI L d mX11_counts [.inr 125, .inl x1] σ1 (fun v5 σ4 => if 0 ≤ v5 then (K v5 σ4) else (K (-1000000005) σ4))) else (K (-1000000001) σ1))) :
    rx_CI L (d + 1) mX11_why [.inr 125, .inl x1] σ K := by
  refine rx_CI.of (la := [some (.inr 125), some (.inl x1), none]) rfl ?_
  refine g_il iX11_why_0 rfl ?_
  refine g_c iX11_why_1 ?_
  refine g_c iX11_why_2 ?_
  refine g_ci (as := [.inl x1, .inl 0, .inl 2]) (rest := []) iX11_why_3 rfl rfl (Nat.le_of_ble_eq_true rfl) (Or.inl (by decide)) (rx_CI.imp H (fun v2 σ1 H => ?_))
  by_cases c3 : v2 ≠ 0
  · rw [if_pos c3] at H
    refine g_if1t iX11_why_6 c3 ?_
    refine g_al iX11_why_12 rfl ?_
    refine g_il iX11_why_13 rfl ?_
    refine g_ci (as := [.inr 125, .inl x1]) (rest := []) iX11_why_14 rfl rfl (Nat.le_of_ble_eq_true rfl) (Or.inr ⟨_, _, rfl, oo_11_125⟩) (rx_CI.imp H (fun v5 σ4 H => ?_))
    refine g_is iX11_why_17 (Nat.le_of_ble_eq_true rfl) ?_
    refine rx_Go.ls (la := [some (.inr 125), some (.inl x1), some (.inl v5)]) rfl ?_
    refine g_il iX11_why_18 rfl ?_
    by_cases c6 : 0 ≤ v5
    · rw [if_pos c6] at H
      refine g_if3t iX11_why_19 c6 ?_
      refine g_il iX11_why_27 rfl ?_
      exact g_ri iX11_why_28 (Or.inl rfl) H
    · rw [if_neg c6] at H
      refine g_if3f iX11_why_19 c6 ?_
      refine g_c iX11_why_22 ?_
      refine g_goto iX11_why_24 ?_
      exact g_ri iX11_why_28 (Or.inl rfl) H
  · rw [if_neg c3] at H
    refine g_if1f iX11_why_6 c3 ?_
    refine g_c iX11_why_9 ?_
    exact g_ri iX11_why_11 (Or.inl rfl) H
set_option maxRecDepth 20000 in
set_option maxHeartbeats 4000000 in
theorem bX11_two (L d : Nat) (x0 : Int) (x1 : Int) (x2 : Int) (σ : rx_St) (K : Int → rx_St → Prop)
    (H : if x0 = (-8) then (K (rx_w (x1 * x2)) σ) else (if x0 = (-7) then (K (rx_w (x1 - x2)) σ) else (if x0 = (-6) then (K (rx_w (x1 + x2)) σ) else (if x0 = (-5) then (if x1 ≤ x2 then (K 0 σ) else (K 1 σ)) else (if x0 = (-4) then (if x1 ≠ x2 then (K 0 σ) else (K 1 σ)) else (if x0 = (-3) then (if x2 ≤ x1 then (K 0 σ) else (K 1 σ)) else (if x0 = (-2) then (if x1 = 0 then (K 0 σ) else (if x2 = 0 then (K 0 σ) else (K 1 σ))) else (if x0 = (-1) then (if x1 ≠ 0 then (K 1 σ) else (if x2 = 0 then (K 0 σ) else (K 1 σ))) else (if x2 ≠ 0 then (¬ x2 = 0 ∧ (K (rx_w (Int.tdiv x1 x2)) σ)) else (K 0 σ)))))))))) :
    rx_CI L d mX11_two [.inl x0, .inl x1, .inl x2] σ K := by
  refine rx_CI.of (la := [some (.inl x0), some (.inl x1), some (.inl x2)]) rfl ?_
  refine g_il iX11_two_0 rfl ?_
  by_cases c1 : x0 = (-8)
  · rw [if_pos c1] at H
    refine g_sw iX11_two_1 (by simp only [rx_sw]; rw [if_pos c1]) ?_
    refine g_il iX11_two_117 rfl ?_
    refine g_il iX11_two_118 rfl ?_
    refine g_mul iX11_two_119 ?_
    exact g_ri iX11_two_120 (Or.inl rfl) H
  · rw [if_neg c1] at H
    by_cases c2 : x0 = (-7)
    · rw [if_pos c2] at H
      refine g_sw iX11_two_1 (by simp only [rx_sw]; rw [if_neg c1, if_pos c2]) ?_
      refine g_il iX11_two_113 rfl ?_
      refine g_il iX11_two_114 rfl ?_
      refine g_sub iX11_two_115 ?_
      exact g_ri iX11_two_116 (Or.inl rfl) H
    · rw [if_neg c2] at H
      by_cases c3 : x0 = (-6)
      · rw [if_pos c3] at H
        refine g_sw iX11_two_1 (by simp only [rx_sw]; rw [if_neg c1, if_neg c2, if_pos c3]) ?_
        refine g_il iX11_two_109 rfl ?_
        refine g_il iX11_two_110 rfl ?_
        refine g_add iX11_two_111 ?_
        exact g_ri iX11_two_112 (Or.inl rfl) H
      · rw [if_neg c3] at H
        by_cases c4 : x0 = (-5)
        · rw [if_pos c4] at H
          refine g_sw iX11_two_1 (by simp only [rx_sw]; rw [if_neg c1, if_neg c2, if_neg c3, if_pos c4]) ?_
          refine g_il iX11_two_98 rfl ?_
          refine g_il iX11_two_99 rfl ?_
          by_cases c5 : x1 ≤ x2
          · rw [if_pos c5] at H
            refine g_ic5t iX11_two_100 c5 ?_
            refine g_c iX11_two_107 ?_
            exact g_ri iX11_two_108 (Or.inl rfl) H
          · rw [if_neg c5] at H
            refine g_ic5f iX11_two_100 c5 ?_
            refine g_c iX11_two_103 ?_
            refine g_goto iX11_two_104 ?_
            exact g_ri iX11_two_108 (Or.inl rfl) H
        · rw [if_neg c4] at H
          by_cases c6 : x0 = (-4)
          · rw [if_pos c6] at H
            refine g_sw iX11_two_1 (by simp only [rx_sw]; rw [if_neg c1, if_neg c2, if_neg c3, if_neg c4, if_pos c6]) ?_
            refine g_il iX11_two_87 rfl ?_
            refine g_il iX11_two_88 rfl ?_
            by_cases c7 : x1 ≠ x2
            · rw [if_pos c7] at H
              refine g_ic1t iX11_two_89 c7 ?_
              refine g_c iX11_two_96 ?_
              exact g_ri iX11_two_97 (Or.inl rfl) H
            · rw [if_neg c7] at H
              refine g_ic1f iX11_two_89 c7 ?_
              refine g_c iX11_two_92 ?_
              refine g_goto iX11_two_93 ?_
              exact g_ri iX11_two_97 (Or.inl rfl) H
          · rw [if_neg c6] at H
            by_cases c8 : x0 = (-3)
            · rw [if_pos c8] at H
              refine g_sw iX11_two_1 (by simp only [rx_sw]; rw [if_neg c1, if_neg c2, if_neg c3, if_neg c4, if_neg c6, if_pos c8]) ?_
              refine g_il iX11_two_76 rfl ?_
              refine g_il iX11_two_77 rfl ?_
              by_cases c9 : x2 ≤ x1
              · rw [if_pos c9] at H
                refine g_ic3t iX11_two_78 c9 ?_
                refine g_c iX11_two_85 ?_
                exact g_ri iX11_two_86 (Or.inl rfl) H
              · rw [if_neg c9] at H
                refine g_ic3f iX11_two_78 c9 ?_
                refine g_c iX11_two_81 ?_
                refine g_goto iX11_two_82 ?_
                exact g_ri iX11_two_86 (Or.inl rfl) H
            · rw [if_neg c8] at H
              by_cases c10 : x0 = (-2)
              · rw [if_pos c10] at H
                refine g_sw iX11_two_1 (by simp only [rx_sw]; rw [if_neg c1, if_neg c2, if_neg c3, if_neg c4, if_neg c6, if_neg c8, if_pos c10]) ?_
                refine g_il iX11_two_62 rfl ?_
                by_cases c11 : x1 = 0
                · rw [if_pos c11] at H
                  refine g_if0t iX11_two_63 c11 ?_
                  refine g_c iX11_two_74 ?_
                  exact g_ri iX11_two_75 (Or.inl rfl) H
                · rw [if_neg c11] at H
                  refine g_if0f iX11_two_63 c11 ?_
                  refine g_il iX11_two_66 rfl ?_
                  by_cases c12 : x2 = 0
                  · rw [if_pos c12] at H
                    refine g_if0t iX11_two_67 c12 ?_
                    refine g_c iX11_two_74 ?_
                    exact g_ri iX11_two_75 (Or.inl rfl) H
                  · rw [if_neg c12] at H
                    refine g_if0f iX11_two_67 c12 ?_
                    refine g_c iX11_two_70 ?_
                    refine g_goto iX11_two_71 ?_
                    exact g_ri iX11_two_75 (Or.inl rfl) H
              · rw [if_neg c10] at H
                by_cases c13 : x0 = (-1)
                · rw [if_pos c13] at H
                  refine g_sw iX11_two_1 (by simp only [rx_sw]; rw [if_neg c1, if_neg c2, if_neg c3, if_neg c4, if_neg c6, if_neg c8, if_neg c10, if_pos c13]) ?_
                  refine g_il iX11_two_48 rfl ?_
                  by_cases c14 : x1 ≠ 0
                  · rw [if_pos c14] at H
                    refine g_if1t iX11_two_49 c14 ?_
                    refine g_c iX11_two_56 ?_
                    refine g_goto iX11_two_57 ?_
                    exact g_ri iX11_two_61 (Or.inl rfl) H
                  · rw [if_neg c14] at H
                    refine g_if1f iX11_two_49 c14 ?_
                    refine g_il iX11_two_52 rfl ?_
                    by_cases c15 : x2 = 0
                    · rw [if_pos c15] at H
                      refine g_if0t iX11_two_53 c15 ?_
                      refine g_c iX11_two_60 ?_
                      exact g_ri iX11_two_61 (Or.inl rfl) H
                    · rw [if_neg c15] at H
                      refine g_if0f iX11_two_53 c15 ?_
                      refine g_c iX11_two_56 ?_
                      refine g_goto iX11_two_57 ?_
                      exact g_ri iX11_two_61 (Or.inl rfl) H
                · rw [if_neg c13] at H
                  refine g_sw (t := 121) iX11_two_1 (by simp only [rx_sw, c1, c2, c3, c4, c6, c8, c10, c13, if_false]) ?_
                  refine g_il iX11_two_121 rfl ?_
                  by_cases c16 : x2 ≠ 0
                  · rw [if_pos c16] at H
                    refine g_if1t iX11_two_122 c16 ?_
                    refine g_il iX11_two_129 rfl ?_
                    refine g_il iX11_two_130 rfl ?_
                    obtain ⟨o17, H⟩ := H
                    refine g_div iX11_two_131 o17 ?_
                    exact g_ri iX11_two_132 (Or.inl rfl) H
                  · rw [if_neg c16] at H
                    refine g_if1f iX11_two_122 c16 ?_
                    refine g_c iX11_two_125 ?_
                    refine g_goto iX11_two_126 ?_
                    exact g_ri iX11_two_132 (Or.inl rfl) H
set_option maxRecDepth 20000 in
set_option maxHeartbeats 4000000 in
theorem bX11_worksOut (L d : Nat) (x1 : Int) (σ : rx_St) (K : Int → rx_St → Prop)
    (H : (0 ≤ (rx_w (126 + (rx_w (2 * x1)))) ∧ (rx_w (126 + (rx_w (2 * x1)))) < 1498) ∧ (rx_Go L (d + 1) mX11_worksOut 21 [some (.inr 125), some (.inl x1), some (.inl 0), some (.inl (Int.tmod (σ 126 (rx_w (126 + (rx_w (2 * x1))))) 1000)), some (.inl 0), none] [] σ (rx_PI K))) :
    rx_CI L (d + 1) mX11_worksOut [.inr 125, .inl x1] σ K := by
  refine rx_CI.of (la := [some (.inr 125), some (.inl x1), none, none, none, none]) rfl ?_
  refine g_c iX11_worksOut_0 ?_
  refine g_is iX11_worksOut_1 (Nat.le_of_ble_eq_true rfl) ?_
  refine rx_Go.ls (la := [some (.inr 125), some (.inl x1), some (.inl 0), none, none, none]) rfl ?_
  refine g_al iX11_worksOut_2 rfl ?_
  refine g_gr iX11_worksOut_3 fr_11_0_125 ?_
  refine g_c iX11_worksOut_6 ?_
  refine g_c iX11_worksOut_8 ?_
  refine g_il iX11_worksOut_9 rfl ?_
  refine g_mul iX11_worksOut_10 ?_
  refine g_add iX11_worksOut_11 ?_
  obtain ⟨o1, H⟩ := H
  refine g_ld iX11_worksOut_12 (ln_126 L) o1 ?_
  refine g_c iX11_worksOut_13 ?_
  refine g_rem iX11_worksOut_16 (by decide) ?_
  refine g_is iX11_worksOut_17 (Nat.le_of_ble_eq_true rfl) ?_
  refine rx_Go.ls (la := [some (.inr 125), some (.inl x1), some (.inl 0), some (.inl (Int.tmod (σ 126 (rx_w (126 + (rx_w (2 * x1))))) 1000)), none, none]) rfl ?_
  refine g_c iX11_worksOut_18 ?_
  refine g_is iX11_worksOut_19 (Nat.le_of_ble_eq_true rfl) ?_
  refine rx_Go.ls (la := [some (.inr 125), some (.inl x1), some (.inl 0), some (.inl (Int.tmod (σ 126 (rx_w (126 + (rx_w (2 * x1))))) 1000)), some (.inl 0), none]) rfl ?_
  exact H
set_option maxRecDepth 20000 in
set_option maxHeartbeats 4000000 in
theorem bX11_worksOut_21 (L d : Nat) (x1 : Int) (x2 : Int) (x3 : Int) (x4 : Int) (q5 : Option rx_V) (σ : rx_St) (K : Int → rx_St → Prop)
    (H : if x3 ≤ x4 then (K (σ 148 0) σ) else ((0 ≤ (rx_w ((rx_w (154 + (rx_w (96 * x1)))) + x4)) ∧ (rx_w ((rx_w (154 + (rx_w (96 * x1)))) + x4)) < 1498) ∧ (if (σ 126 (rx_w ((rx_w (154 + (rx_w (96 * x1)))) + x4))) < 0 then (if (σ 126 (rx_w ((rx_w (154 + (rx_w (96 * x1)))) + x4))) ≠ (-10) then ((0 ≤ (rx_w ((rx_w (x2 + (-1))) - 1)) ∧ (rx_w ((rx_w (x2 + (-1))) - 1)) < 96) ∧ ((0 ≤ (rx_w (x2 + (-1))) ∧ (rx_w (x2 + (-1))) < 96) ∧ (rx_CI L d mX11_two [.inl (σ 126 (rx_w ((rx_w (154 + (rx_w (96 * x1)))) + x4))), .inl (σ 148 (rx_w ((rx_w (x2 + (-1))) - 1))), .inl (σ 148 (rx_w (x2 + (-1))))] σ (fun v9 σ8 => rx_Go L (d + 1) mX11_worksOut 21 [some (.inr 125), some (.inl x1), some (.inl (rx_w (x2 + (-1)))), some (.inl x3), some (.inl (rx_w (x4 + 1))), some (.inl (σ 126 (rx_w ((rx_w (154 + (rx_w (96 * x1)))) + x4))))] [] (rx_up σ8 148 (rx_w ((rx_w (x2 + (-1))) - 1)) v9) (rx_PI K))))) else ((0 ≤ (rx_w (x2 - 1)) ∧ (rx_w (x2 - 1)) < 96) ∧ (if (σ 148 (rx_w (x2 - 1))) ≠ 0 then (rx_Go L (d + 1) mX11_worksOut 21 [some (.inr 125), some (.inl x1), some (.inl x2), some (.inl x3), some (.inl (rx_w (x4 + 1))), some (.inl (σ 126 (rx_w ((rx_w (154 + (rx_w (96 * x1)))) + x4))))] [] (rx_up σ 148 (rx_w (x2 - 1)) 0) (rx_PI K)) else (rx_Go L (d + 1) mX11_worksOut 21 [some (.inr 125), some (.inl x1), some (.inl x2), some (.inl x3), some (.inl (rx_w (x4 + 1))), some (.inl (σ 126 (rx_w ((rx_w (154 + (rx_w (96 * x1)))) + x4))))] [] (rx_up σ 148 (rx_w (x2 - 1)) 1) (rx_PI K))))) else (if 10000 ≤ (σ 126 (rx_w ((rx_w (154 + (rx_w (96 * x1)))) + x4))) then ((0 ≤ (rx_w ((σ 126 (rx_w ((rx_w (154 + (rx_w (96 * x1)))) + x4))) - 10000)) ∧ (rx_w ((σ 126 (rx_w ((rx_w (154 + (rx_w (96 * x1)))) + x4))) - 10000)) < 4) ∧ ((0 ≤ x2 ∧ x2 < 96) ∧ (rx_Go L (d + 1) mX11_worksOut 21 [some (.inr 125), some (.inl x1), some (.inl (rx_w (x2 + 1))), some (.inl x3), some (.inl (rx_w (x4 + 1))), some (.inl (σ 126 (rx_w ((rx_w (154 + (rx_w (96 * x1)))) + x4))))] [] (rx_up σ 148 x2 (σ 149 (rx_w ((σ 126 (rx_w ((rx_w (154 + (rx_w (96 * x1)))) + x4))) - 10000)))) (rx_PI K)))) else ((0 ≤ x2 ∧ x2 < 96) ∧ (rx_Go L (d + 1) mX11_worksOut 21 [some (.inr 125), some (.inl x1), some (.inl (rx_w (x2 + 1))), some (.inl x3), some (.inl (rx_w (x4 + 1))), some (.inl (σ 126 (rx_w ((rx_w (154 + (rx_w (96 * x1)))) + x4))))] [] (rx_up σ 148 x2 (σ 126 (rx_w ((rx_w (154 + (rx_w (96 * x1)))) + x4)))) (rx_PI K))))))) :
    rx_Go L (d + 1) mX11_worksOut 21 [some (.inr 125), some (.inl x1), some (.inl x2), some (.inl x3), some (.inl x4), q5] [] σ (rx_PI K) := by
  refine g_il iX11_worksOut_21 rfl ?_
  refine g_il iX11_worksOut_23 rfl ?_
  by_cases c2 : x3 ≤ x4
  · rw [if_pos c2] at H
    refine g_ic3t iX11_worksOut_24 c2 ?_
    refine g_al iX11_worksOut_156 rfl ?_
    refine g_gr iX11_worksOut_157 fr_11_37_125 ?_
    refine g_c iX11_worksOut_160 ?_
    refine g_ld iX11_worksOut_161 (ln_148 L) (by decide) ?_
    exact g_ri iX11_worksOut_162 (Or.inl rfl) H
  · rw [if_neg c2] at H
    refine g_ic3f iX11_worksOut_24 c2 ?_
    refine g_al iX11_worksOut_27 rfl ?_
    refine g_gr iX11_worksOut_28 fr_11_0_125 ?_
    refine g_c iX11_worksOut_31 ?_
    refine g_c iX11_worksOut_34 ?_
    refine g_il iX11_worksOut_36 rfl ?_
    refine g_mul iX11_worksOut_37 ?_
    refine g_add iX11_worksOut_38 ?_
    refine g_il iX11_worksOut_39 rfl ?_
    refine g_add iX11_worksOut_41 ?_
    obtain ⟨o3, H⟩ := H
    refine g_ld iX11_worksOut_42 (ln_126 L) o3 ?_
    refine g_is iX11_worksOut_43 (Nat.le_of_ble_eq_true rfl) ?_
    refine rx_Go.ls (la := [some (.inr 125), some (.inl x1), some (.inl x2), some (.inl x3), some (.inl x4), some (.inl (σ 126 (rx_w ((rx_w (154 + (rx_w (96 * x1)))) + x4))))]) rfl ?_
    refine g_il iX11_worksOut_45 rfl ?_
    by_cases c4 : (σ 126 (rx_w ((rx_w (154 + (rx_w (96 * x1)))) + x4))) < 0
    · rw [if_pos c4] at H
      refine g_if2t iX11_worksOut_47 c4 ?_
      refine g_il iX11_worksOut_86 rfl ?_
      refine g_c iX11_worksOut_88 ?_
      by_cases c5 : (σ 126 (rx_w ((rx_w (154 + (rx_w (96 * x1)))) + x4))) ≠ (-10)
      · rw [if_pos c5] at H
        refine g_ic1t iX11_worksOut_90 c5 ?_
        refine g_ii iX11_worksOut_120 rfl ?_
        refine rx_Go.ls (la := [some (.inr 125), some (.inl x1), some (.inl (rx_w (x2 + (-1)))), some (.inl x3), some (.inl x4), some (.inl (σ 126 (rx_w ((rx_w (154 + (rx_w (96 * x1)))) + x4))))]) rfl ?_
        refine g_al iX11_worksOut_123 rfl ?_
        refine g_gr iX11_worksOut_124 fr_11_37_125 ?_
        refine g_il iX11_worksOut_127 rfl ?_
        refine g_c iX11_worksOut_128 ?_
        refine g_sub iX11_worksOut_129 ?_
        refine g_il iX11_worksOut_130 rfl ?_
        refine g_al iX11_worksOut_132 rfl ?_
        refine g_gr iX11_worksOut_133 fr_11_37_125 ?_
        refine g_il iX11_worksOut_136 rfl ?_
        refine g_c iX11_worksOut_137 ?_
        refine g_sub iX11_worksOut_138 ?_
        obtain ⟨o6, H⟩ := H
        refine g_ld iX11_worksOut_139 (ln_148 L) o6 ?_
        refine g_al iX11_worksOut_140 rfl ?_
        refine g_gr iX11_worksOut_141 fr_11_37_125 ?_
        refine g_il iX11_worksOut_144 rfl ?_
        obtain ⟨o7, H⟩ := H
        refine g_ld iX11_worksOut_145 (ln_148 L) o7 ?_
        refine g_ci (as := [.inl (σ 126 (rx_w ((rx_w (154 + (rx_w (96 * x1)))) + x4))), .inl (σ 148 (rx_w ((rx_w (x2 + (-1))) - 1))), .inl (σ 148 (rx_w (x2 + (-1))))]) (rest := [.inl (rx_w ((rx_w (x2 + (-1))) - 1)), .inr 148]) iX11_worksOut_146 rfl rfl (Nat.le_of_ble_eq_true rfl) (Or.inl (by decide)) (rx_CI.imp H (fun v9 σ8 H => ?_))
        refine g_st iX11_worksOut_149 (ln_148 L) (by decide) o6 rfl ?_
        refine g_ii iX11_worksOut_150 rfl ?_
        refine rx_Go.ls (la := [some (.inr 125), some (.inl x1), some (.inl (rx_w (x2 + (-1)))), some (.inl x3), some (.inl (rx_w (x4 + 1))), some (.inl (σ 126 (rx_w ((rx_w (154 + (rx_w (96 * x1)))) + x4))))]) rfl ?_
        refine g_goto iX11_worksOut_153 ?_
        exact H
      · rw [if_neg c5] at H
        refine g_ic1f iX11_worksOut_90 c5 ?_
        refine g_al iX11_worksOut_93 rfl ?_
        refine g_gr iX11_worksOut_94 fr_11_37_125 ?_
        refine g_il iX11_worksOut_97 rfl ?_
        refine g_c iX11_worksOut_98 ?_
        refine g_sub iX11_worksOut_99 ?_
        refine g_al iX11_worksOut_100 rfl ?_
        refine g_gr iX11_worksOut_101 fr_11_37_125 ?_
        refine g_il iX11_worksOut_104 rfl ?_
        refine g_c iX11_worksOut_105 ?_
        refine g_sub iX11_worksOut_106 ?_
        obtain ⟨o10, H⟩ := H
        refine g_ld iX11_worksOut_107 (ln_148 L) o10 ?_
        by_cases c11 : (σ 148 (rx_w (x2 - 1))) ≠ 0
        · rw [if_pos c11] at H
          refine g_if1t iX11_worksOut_108 c11 ?_
          refine g_c iX11_worksOut_115 ?_
          refine g_st iX11_worksOut_116 (ln_148 L) (by decide) o10 rfl ?_
          refine g_goto iX11_worksOut_117 ?_
          refine g_ii iX11_worksOut_150 rfl ?_
          refine rx_Go.ls (la := [some (.inr 125), some (.inl x1), some (.inl x2), some (.inl x3), some (.inl (rx_w (x4 + 1))), some (.inl (σ 126 (rx_w ((rx_w (154 + (rx_w (96 * x1)))) + x4))))]) rfl ?_
          refine g_goto iX11_worksOut_153 ?_
          exact H
        · rw [if_neg c11] at H
          refine g_if1f iX11_worksOut_108 c11 ?_
          refine g_c iX11_worksOut_111 ?_
          refine g_goto iX11_worksOut_112 ?_
          refine g_st iX11_worksOut_116 (ln_148 L) (by decide) o10 rfl ?_
          refine g_goto iX11_worksOut_117 ?_
          refine g_ii iX11_worksOut_150 rfl ?_
          refine rx_Go.ls (la := [some (.inr 125), some (.inl x1), some (.inl x2), some (.inl x3), some (.inl (rx_w (x4 + 1))), some (.inl (σ 126 (rx_w ((rx_w (154 + (rx_w (96 * x1)))) + x4))))]) rfl ?_
          refine g_goto iX11_worksOut_153 ?_
          exact H
    · rw [if_neg c4] at H
      refine g_if2f iX11_worksOut_47 c4 ?_
      refine g_al iX11_worksOut_50 rfl ?_
      refine g_gr iX11_worksOut_51 fr_11_37_125 ?_
      refine g_il iX11_worksOut_54 rfl ?_
      refine g_il iX11_worksOut_55 rfl ?_
      refine g_c iX11_worksOut_57 ?_
      by_cases c12 : 10000 ≤ (σ 126 (rx_w ((rx_w (154 + (rx_w (96 * x1)))) + x4)))
      · rw [if_pos c12] at H
        refine g_ic3t iX11_worksOut_60 c12 ?_
        refine g_al iX11_worksOut_68 rfl ?_
        refine g_gr iX11_worksOut_69 fr_11_38_125 ?_
        refine g_il iX11_worksOut_72 rfl ?_
        refine g_c iX11_worksOut_74 ?_
        refine g_sub iX11_worksOut_77 ?_
        obtain ⟨o13, H⟩ := H
        refine g_ld iX11_worksOut_78 (ln_149 L) o13 ?_
        obtain ⟨o14, H⟩ := H
        refine g_st iX11_worksOut_79 (ln_148 L) (by decide) o14 rfl ?_
        refine g_ii iX11_worksOut_80 rfl ?_
        refine rx_Go.ls (la := [some (.inr 125), some (.inl x1), some (.inl (rx_w (x2 + 1))), some (.inl x3), some (.inl x4), some (.inl (σ 126 (rx_w ((rx_w (154 + (rx_w (96 * x1)))) + x4))))]) rfl ?_
        refine g_goto iX11_worksOut_83 ?_
        refine g_ii iX11_worksOut_150 rfl ?_
        refine rx_Go.ls (la := [some (.inr 125), some (.inl x1), some (.inl (rx_w (x2 + 1))), some (.inl x3), some (.inl (rx_w (x4 + 1))), some (.inl (σ 126 (rx_w ((rx_w (154 + (rx_w (96 * x1)))) + x4))))]) rfl ?_
        refine g_goto iX11_worksOut_153 ?_
        exact H
      · rw [if_neg c12] at H
        refine g_ic3f iX11_worksOut_60 c12 ?_
        refine g_il iX11_worksOut_63 rfl ?_
        refine g_goto iX11_worksOut_65 ?_
        obtain ⟨o15, H⟩ := H
        refine g_st iX11_worksOut_79 (ln_148 L) (by decide) o15 rfl ?_
        refine g_ii iX11_worksOut_80 rfl ?_
        refine rx_Go.ls (la := [some (.inr 125), some (.inl x1), some (.inl (rx_w (x2 + 1))), some (.inl x3), some (.inl x4), some (.inl (σ 126 (rx_w ((rx_w (154 + (rx_w (96 * x1)))) + x4))))]) rfl ?_
        refine g_goto iX11_worksOut_83 ?_
        refine g_ii iX11_worksOut_150 rfl ?_
        refine rx_Go.ls (la := [some (.inr 125), some (.inl x1), some (.inl (rx_w (x2 + 1))), some (.inl x3), some (.inl (rx_w (x4 + 1))), some (.inl (σ 126 (rx_w ((rx_w (154 + (rx_w (96 * x1)))) + x4))))]) rfl ?_
        refine g_goto iX11_worksOut_153 ?_
        exact H
set_option maxRecDepth 20000 in
set_option maxHeartbeats 4000000 in
theorem bX11_isSheet (L d : Nat) (x0 : Int) (σ : rx_St) (K : Int → rx_St → Prop)
    (H : rx_CI L d mX11_in [.inl x0, .inl 0, .inl 3] σ (fun v2 σ1 => (v2 = 0 ∨ v2 = 1) ∧ K v2 σ1)) :
    rx_CI L (d + 1) mX11_isSheet [.inl x0] σ K := by
  refine rx_CI.of (la := [some (.inl x0)]) rfl ?_
  refine g_il iX11_isSheet_0 rfl ?_
  refine g_c iX11_isSheet_1 ?_
  refine g_c iX11_isSheet_2 ?_
  refine g_ci (as := [.inl x0, .inl 0, .inl 3]) (rest := []) iX11_isSheet_3 rfl rfl (Nat.le_of_ble_eq_true rfl) (Or.inl (by decide)) (rx_CI.imp H (fun v2 σ1 H => ?_))
  exact g_ri iX11_isSheet_6 (Or.inr H.1) H.2
set_option maxRecDepth 20000 in
set_option maxHeartbeats 4000000 in
theorem bX11_isSlot (L d : Nat) (x0 : Int) (σ : rx_St) (K : Int → rx_St → Prop)
    (H : rx_CI L d mX11_in [.inl x0, .inl 0, .inl 4] σ (fun v2 σ1 => (v2 = 0 ∨ v2 = 1) ∧ K v2 σ1)) :
    rx_CI L (d + 1) mX11_isSlot [.inl x0] σ K := by
  refine rx_CI.of (la := [some (.inl x0)]) rfl ?_
  refine g_il iX11_isSlot_0 rfl ?_
  refine g_c iX11_isSlot_1 ?_
  refine g_c iX11_isSlot_2 ?_
  refine g_ci (as := [.inl x0, .inl 0, .inl 4]) (rest := []) iX11_isSlot_3 rfl rfl (Nat.le_of_ble_eq_true rfl) (Or.inl (by decide)) (rx_CI.imp H (fun v2 σ1 H => ?_))
  exact g_ri iX11_isSlot_6 (Or.inr H.1) H.2
set_option maxRecDepth 20000 in
set_option maxHeartbeats 4000000 in
theorem bX11_sheet (L d : Nat) (x1 : Int) (x2 : Int) (x3 : Int) (σ : rx_St) (K : Int → rx_St → Prop)
    (H : rx_CI L d mX11_isSheet [.inl x1] σ (fun v2 σ1 => if v2 = 0 then (K (-1000000001) σ1) else (rx_CI L d mX11_in [.inl x2, .inl (-1), .inl 1] σ1 (fun v5 σ4 => if v5 = 0 then (K (-1000000001) σ4) else (if x2 < 0 then ((0 ≤ x1 ∧ x1 < 4) ∧ (rx_Go L (d + 1) mX11_sheet 65 [some (.inr 125), some (.inl x1), some (.inl x2), some (.inl x3), some (.inl 0)] [] (rx_up (rx_up σ4 150 x1 x2) 151 x1 0) (rx_PI K))) else (if x3 ≤ 24 then (if 0 ≤ x3 then ((0 ≤ x1 ∧ x1 < 4) ∧ (rx_Go L (d + 1) mX11_sheet 65 [some (.inr 125), some (.inl x1), some (.inl x2), some (.inl x3), some (.inl 0)] [] (rx_up (rx_up σ4 150 x1 x2) 151 x1 x3) (rx_PI K))) else (K (-1000000014) σ4)) else (K (-1000000001) σ4))))))) :
    rx_CI L (d + 1) mX11_sheet [.inr 125, .inl x1, .inl x2, .inl x3] σ K := by
  refine rx_CI.of (la := [some (.inr 125), some (.inl x1), some (.inl x2), some (.inl x3), none]) rfl ?_
  refine g_il iX11_sheet_0 rfl ?_
  refine g_ci (as := [.inl x1]) (rest := []) iX11_sheet_1 rfl rfl (Nat.le_of_ble_eq_true rfl) (Or.inl (by decide)) (rx_CI.imp H (fun v2 σ1 H => ?_))
  by_cases c3 : v2 = 0
  · rw [if_pos c3] at H
    refine g_if0t iX11_sheet_4 c3 ?_
    refine g_c iX11_sheet_26 ?_
    exact g_ri iX11_sheet_28 (Or.inl rfl) H
  · rw [if_neg c3] at H
    refine g_if0f iX11_sheet_4 c3 ?_
    refine g_il iX11_sheet_7 rfl ?_
    refine g_c iX11_sheet_8 ?_
    refine g_c iX11_sheet_9 ?_
    refine g_ci (as := [.inl x2, .inl (-1), .inl 1]) (rest := []) iX11_sheet_10 rfl rfl (Nat.le_of_ble_eq_true rfl) (Or.inl (by decide)) (rx_CI.imp H (fun v5 σ4 H => ?_))
    by_cases c6 : v5 = 0
    · rw [if_pos c6] at H
      refine g_if0t iX11_sheet_13 c6 ?_
      refine g_c iX11_sheet_26 ?_
      exact g_ri iX11_sheet_28 (Or.inl rfl) H
    · rw [if_neg c6] at H
      refine g_if0f iX11_sheet_13 c6 ?_
      refine g_il iX11_sheet_16 rfl ?_
      by_cases c7 : x2 < 0
      · rw [if_pos c7] at H
        refine g_if2t iX11_sheet_17 c7 ?_
        refine g_il iX11_sheet_29 rfl ?_
        refine g_if2t iX11_sheet_30 c7 ?_
        refine g_al iX11_sheet_40 rfl ?_
        refine g_gr iX11_sheet_41 fr_11_39_125 ?_
        refine g_il iX11_sheet_44 rfl ?_
        refine g_il iX11_sheet_45 rfl ?_
        obtain ⟨o8, H⟩ := H
        refine g_st iX11_sheet_46 (ln_150 L) (by decide) o8 rfl ?_
        refine g_al iX11_sheet_47 rfl ?_
        refine g_gr iX11_sheet_48 fr_11_40_125 ?_
        refine g_il iX11_sheet_51 rfl ?_
        refine g_il iX11_sheet_52 rfl ?_
        refine g_if3f iX11_sheet_53 (Int.not_le.mpr c7) ?_
        refine g_c iX11_sheet_56 ?_
        refine g_goto iX11_sheet_57 ?_
        refine g_st iX11_sheet_61 (ln_151 L) (by decide) o8 rfl ?_
        refine g_c iX11_sheet_62 ?_
        refine g_is iX11_sheet_63 (Nat.le_of_ble_eq_true rfl) ?_
        refine rx_Go.ls (la := [some (.inr 125), some (.inl x1), some (.inl x2), some (.inl x3), some (.inl 0)]) rfl ?_
        exact H
      · rw [if_neg c7] at H
        refine g_if2f iX11_sheet_17 c7 ?_
        refine g_il iX11_sheet_20 rfl ?_
        refine g_c iX11_sheet_21 ?_
        by_cases c9 : x3 ≤ 24
        · rw [if_pos c9] at H
          refine g_ic5t iX11_sheet_23 c9 ?_
          refine g_il iX11_sheet_29 rfl ?_
          refine g_if2f iX11_sheet_30 c7 ?_
          refine g_il iX11_sheet_33 rfl ?_
          by_cases c10 : 0 ≤ x3
          · rw [if_pos c10] at H
            refine g_if3t iX11_sheet_34 c10 ?_
            refine g_al iX11_sheet_40 rfl ?_
            refine g_gr iX11_sheet_41 fr_11_39_125 ?_
            refine g_il iX11_sheet_44 rfl ?_
            refine g_il iX11_sheet_45 rfl ?_
            obtain ⟨o11, H⟩ := H
            refine g_st iX11_sheet_46 (ln_150 L) (by decide) o11 rfl ?_
            refine g_al iX11_sheet_47 rfl ?_
            refine g_gr iX11_sheet_48 fr_11_40_125 ?_
            refine g_il iX11_sheet_51 rfl ?_
            refine g_il iX11_sheet_52 rfl ?_
            refine g_if3t iX11_sheet_53 (Int.not_lt.mp c7) ?_
            refine g_il iX11_sheet_60 rfl ?_
            refine g_st iX11_sheet_61 (ln_151 L) (by decide) o11 rfl ?_
            refine g_c iX11_sheet_62 ?_
            refine g_is iX11_sheet_63 (Nat.le_of_ble_eq_true rfl) ?_
            refine rx_Go.ls (la := [some (.inr 125), some (.inl x1), some (.inl x2), some (.inl x3), some (.inl 0)]) rfl ?_
            exact H
          · rw [if_neg c10] at H
            refine g_if3f iX11_sheet_34 c10 ?_
            refine g_c iX11_sheet_37 ?_
            exact g_ri iX11_sheet_39 (Or.inl rfl) H
        · rw [if_neg c9] at H
          refine g_ic5f iX11_sheet_23 c9 ?_
          refine g_c iX11_sheet_26 ?_
          exact g_ri iX11_sheet_28 (Or.inl rfl) H
set_option maxRecDepth 20000 in
set_option maxHeartbeats 4000000 in
theorem bX11_sheet_65 (L d : Nat) (x1 : Int) (q2 : Option rx_V) (q3 : Option rx_V) (x4 : Int) (σ : rx_St) (K : Int → rx_St → Prop)
    (H : if 24 ≤ x4 then ((0 ≤ x1 ∧ x1 < 4) ∧ (K (σ 151 x1) σ)) else ((0 ≤ (rx_w ((rx_w (24 * x1)) + x4)) ∧ (rx_w ((rx_w (24 * x1)) + x4)) < 96) ∧ (rx_Go L (d + 1) mX11_sheet 65 [some (.inr 125), some (.inl x1), q2, q3, some (.inl (rx_w (x4 + 1)))] [] (rx_up σ 152 (rx_w ((rx_w (24 * x1)) + x4)) 0) (rx_PI K)))) :
    rx_Go L (d + 1) mX11_sheet 65 [some (.inr 125), some (.inl x1), q2, q3, some (.inl x4)] [] σ (rx_PI K) := by
  refine g_il iX11_sheet_65 rfl ?_
  refine g_c iX11_sheet_67 ?_
  by_cases c12 : 24 ≤ x4
  · rw [if_pos c12] at H
    refine g_ic3t iX11_sheet_69 c12 ?_
    refine g_al iX11_sheet_91 rfl ?_
    refine g_gr iX11_sheet_92 fr_11_40_125 ?_
    refine g_il iX11_sheet_95 rfl ?_
    obtain ⟨o13, H⟩ := H
    refine g_ld iX11_sheet_96 (ln_151 L) o13 ?_
    exact g_ri iX11_sheet_97 (Or.inl rfl) H
  · rw [if_neg c12] at H
    refine g_ic3f iX11_sheet_69 c12 ?_
    refine g_al iX11_sheet_72 rfl ?_
    refine g_gr iX11_sheet_73 fr_11_41_125 ?_
    refine g_c iX11_sheet_76 ?_
    refine g_il iX11_sheet_78 rfl ?_
    refine g_mul iX11_sheet_79 ?_
    refine g_il iX11_sheet_80 rfl ?_
    refine g_add iX11_sheet_82 ?_
    refine g_c iX11_sheet_83 ?_
    obtain ⟨o14, H⟩ := H
    refine g_st iX11_sheet_84 (ln_152 L) (by decide) o14 rfl ?_
    refine g_ii iX11_sheet_85 rfl ?_
    refine rx_Go.ls (la := [some (.inr 125), some (.inl x1), q2, q3, some (.inl (rx_w (x4 + 1)))]) rfl ?_
    refine g_goto iX11_sheet_88 ?_
    exact H
set_option maxRecDepth 20000 in
set_option maxHeartbeats 4000000 in
theorem bX11_mark (L d : Nat) (x1 : Int) (x2 : Int) (x3 : Int) (σ : rx_St) (K : Int → rx_St → Prop)
    (H : rx_CI L d mX11_isSheet [.inl x1] σ (fun v2 σ1 => if v2 ≠ 0 then ((0 ≤ x1 ∧ x1 < 4) ∧ (if 0 ≤ (σ1 150 x1) then (rx_CI L d mX11_in [.inl x2, .inl 0, .inl (rx_w ((σ1 151 x1) - 1))] σ1 (fun v7 σ6 => if v7 ≠ 0 then (if (σ6 150 x1) ≠ 0 then (rx_Go L (d + 1) mX11_mark 60 [some (.inr 125), some (.inl x1), some (.inl x2), some (.inl x3)] [] σ6 (rx_PI K)) else (if x3 ≠ (-1000000005) then (rx_Go L (d + 1) mX11_mark 60 [some (.inr 125), some (.inl x1), some (.inl x2), some (.inl x3)] [] σ6 (rx_PI K)) else (K (-1000000012) σ6))) else (K (-1000000013) σ6))) else (K (-1000000011) σ1))) else (K (-1000000001) σ1))) :
    rx_CI L (d + 1) mX11_mark [.inr 125, .inl x1, .inl x2, .inl x3] σ K := by
  refine rx_CI.of (la := [some (.inr 125), some (.inl x1), some (.inl x2), some (.inl x3)]) rfl ?_
  refine g_il iX11_mark_0 rfl ?_
  refine g_ci (as := [.inl x1]) (rest := []) iX11_mark_1 rfl rfl (Nat.le_of_ble_eq_true rfl) (Or.inl (by decide)) (rx_CI.imp H (fun v2 σ1 H => ?_))
  by_cases c3 : v2 ≠ 0
  · rw [if_pos c3] at H
    refine g_if1t iX11_mark_4 c3 ?_
    refine g_al iX11_mark_10 rfl ?_
    refine g_gr iX11_mark_11 fr_11_39_125 ?_
    refine g_il iX11_mark_14 rfl ?_
    obtain ⟨o4, H⟩ := H
    refine g_ld iX11_mark_15 (ln_150 L) o4 ?_
    by_cases c5 : 0 ≤ (σ1 150 x1)
    · rw [if_pos c5] at H
      refine g_if3t iX11_mark_16 c5 ?_
      refine g_il iX11_mark_22 rfl ?_
      refine g_c iX11_mark_23 ?_
      refine g_al iX11_mark_24 rfl ?_
      refine g_gr iX11_mark_25 fr_11_40_125 ?_
      refine g_il iX11_mark_28 rfl ?_
      refine g_ld iX11_mark_29 (ln_151 L) o4 ?_
      refine g_c iX11_mark_30 ?_
      refine g_sub iX11_mark_31 ?_
      refine g_ci (as := [.inl x2, .inl 0, .inl (rx_w ((σ1 151 x1) - 1))]) (rest := []) iX11_mark_32 rfl rfl (Nat.le_of_ble_eq_true rfl) (Or.inl (by decide)) (rx_CI.imp H (fun v7 σ6 H => ?_))
      by_cases c8 : v7 ≠ 0
      · rw [if_pos c8] at H
        refine g_if1t iX11_mark_35 c8 ?_
        refine g_al iX11_mark_42 rfl ?_
        refine g_gr iX11_mark_43 fr_11_39_125 ?_
        refine g_il iX11_mark_46 rfl ?_
        refine g_ld iX11_mark_47 (ln_150 L) o4 ?_
        by_cases c9 : (σ6 150 x1) ≠ 0
        · rw [if_pos c9] at H
          refine g_if1t iX11_mark_48 c9 ?_
          exact H
        · rw [if_neg c9] at H
          refine g_if1f iX11_mark_48 c9 ?_
          refine g_il iX11_mark_51 rfl ?_
          refine g_c iX11_mark_52 ?_
          by_cases c10 : x3 ≠ (-1000000005)
          · rw [if_pos c10] at H
            refine g_ic1t iX11_mark_54 c10 ?_
            exact H
          · rw [if_neg c10] at H
            refine g_ic1f iX11_mark_54 c10 ?_
            refine g_c iX11_mark_57 ?_
            exact g_ri iX11_mark_59 (Or.inl rfl) H
      · rw [if_neg c8] at H
        refine g_if1f iX11_mark_35 c8 ?_
        refine g_c iX11_mark_38 ?_
        exact g_ri iX11_mark_41 (Or.inl rfl) H
    · rw [if_neg c5] at H
      refine g_if3f iX11_mark_16 c5 ?_
      refine g_c iX11_mark_19 ?_
      exact g_ri iX11_mark_21 (Or.inl rfl) H
  · rw [if_neg c3] at H
    refine g_if1f iX11_mark_4 c3 ?_
    refine g_c iX11_mark_7 ?_
    exact g_ri iX11_mark_9 (Or.inl rfl) H
set_option maxRecDepth 20000 in
set_option maxHeartbeats 4000000 in
theorem bX11_mark_60 (L d : Nat) (x1 : Int) (x2 : Int) (x3 : Int) (σ : rx_St) (K : Int → rx_St → Prop)
    (H : (0 ≤ x1 ∧ x1 < 4) ∧ (if (σ 150 x1) ≠ 1 then (rx_Go L (d + 1) mX11_mark 92 [some (.inr 125), some (.inl x1), some (.inl x2), some (.inl x3)] [] σ (rx_PI K)) else (if x3 = (-1000000005) then (rx_Go L (d + 1) mX11_mark 92 [some (.inr 125), some (.inl x1), some (.inl x2), some (.inl x3)] [] σ (rx_PI K)) else (rx_CI L d mX11_in [.inl x3, .inl (-99999), .inl 99999] σ (fun v15 σ14 => if v15 ≠ 0 then (rx_Go L (d + 1) mX11_mark 92 [some (.inr 125), some (.inl x1), some (.inl x2), some (.inl x3)] [] σ14 (rx_PI K)) else (K (-1000000001) σ14)))))) :
    rx_Go L (d + 1) mX11_mark 60 [some (.inr 125), some (.inl x1), some (.inl x2), some (.inl x3)] [] σ (rx_PI K) := by
  refine g_al iX11_mark_60 rfl ?_
  refine g_gr iX11_mark_61 fr_11_39_125 ?_
  refine g_il iX11_mark_64 rfl ?_
  obtain ⟨o11, H⟩ := H
  refine g_ld iX11_mark_65 (ln_150 L) o11 ?_
  refine g_c iX11_mark_66 ?_
  by_cases c12 : (σ 150 x1) ≠ 1
  · rw [if_pos c12] at H
    refine g_ic1t iX11_mark_67 c12 ?_
    exact H
  · rw [if_neg c12] at H
    refine g_ic1f iX11_mark_67 c12 ?_
    refine g_il iX11_mark_70 rfl ?_
    refine g_c iX11_mark_71 ?_
    by_cases c13 : x3 = (-1000000005)
    · rw [if_pos c13] at H
      refine g_ic0t iX11_mark_73 c13 ?_
      exact H
    · rw [if_neg c13] at H
      refine g_ic0f iX11_mark_73 c13 ?_
      refine g_il iX11_mark_76 rfl ?_
      refine g_c iX11_mark_77 ?_
      refine g_c iX11_mark_80 ?_
      refine g_ci (as := [.inl x3, .inl (-99999), .inl 99999]) (rest := []) iX11_mark_83 rfl rfl (Nat.le_of_ble_eq_true rfl) (Or.inl (by decide)) (rx_CI.imp H (fun v15 σ14 H => ?_))
      by_cases c16 : v15 ≠ 0
      · rw [if_pos c16] at H
        refine g_if1t iX11_mark_86 c16 ?_
        exact H
      · rw [if_neg c16] at H
        refine g_if1f iX11_mark_86 c16 ?_
        refine g_c iX11_mark_89 ?_
        exact g_ri iX11_mark_91 (Or.inl rfl) H
set_option maxRecDepth 20000 in
set_option maxHeartbeats 4000000 in
theorem bX11_mark_92 (L d : Nat) (x1 : Int) (x2 : Int) (x3 : Int) (σ : rx_St) (K : Int → rx_St → Prop)
    (H : (0 ≤ x1 ∧ x1 < 4) ∧ (if (σ 150 x1) ≠ 0 then ((0 ≤ (rx_w ((rx_w (24 * x1)) + x2)) ∧ (rx_w ((rx_w (24 * x1)) + x2)) < 96) ∧ (K 1 (rx_up σ 152 (rx_w ((rx_w (24 * x1)) + x2)) x3))) else ((0 ≤ (rx_w ((rx_w (24 * x1)) + x2)) ∧ (rx_w ((rx_w (24 * x1)) + x2)) < 96) ∧ (K 1 (rx_up σ 152 (rx_w ((rx_w (24 * x1)) + x2)) (rx_un 1 x3)))))) :
    rx_Go L (d + 1) mX11_mark 92 [some (.inr 125), some (.inl x1), some (.inl x2), some (.inl x3)] [] σ (rx_PI K) := by
  refine g_al iX11_mark_92 rfl ?_
  refine g_gr iX11_mark_93 fr_11_41_125 ?_
  refine g_c iX11_mark_96 ?_
  refine g_il iX11_mark_98 rfl ?_
  refine g_mul iX11_mark_99 ?_
  refine g_il iX11_mark_100 rfl ?_
  refine g_add iX11_mark_101 ?_
  refine g_al iX11_mark_102 rfl ?_
  refine g_gr iX11_mark_103 fr_11_39_125 ?_
  refine g_il iX11_mark_106 rfl ?_
  obtain ⟨o17, H⟩ := H
  refine g_ld iX11_mark_107 (ln_150 L) o17 ?_
  by_cases c18 : (σ 150 x1) ≠ 0
  · rw [if_pos c18] at H
    refine g_if1t iX11_mark_108 c18 ?_
    refine g_il iX11_mark_116 rfl ?_
    obtain ⟨o19, H⟩ := H
    refine g_st iX11_mark_117 (ln_152 L) (by decide) o19 rfl ?_
    refine g_c iX11_mark_118 ?_
    exact g_ri iX11_mark_119 (Or.inl rfl) H
  · rw [if_neg c18] at H
    refine g_if1f iX11_mark_108 c18 ?_
    refine g_il iX11_mark_111 rfl ?_
    refine g_i2s iX11_mark_112 ?_
    refine g_goto iX11_mark_113 ?_
    obtain ⟨o20, H⟩ := H
    refine g_st iX11_mark_117 (ln_152 L) (by decide) o20 rfl ?_
    refine g_c iX11_mark_118 ?_
    exact g_ri iX11_mark_119 (Or.inl rfl) H
set_option maxRecDepth 20000 in
set_option maxHeartbeats 4000000 in
theorem bX11_pour (L d : Nat) (x1 : Int) (σ : rx_St) (K : Int → rx_St → Prop)
    (H : rx_CI L d mX11_isSheet [.inl x1] σ (fun v2 σ1 => if v2 ≠ 0 then ((0 ≤ x1 ∧ x1 < 4) ∧ (if 0 ≤ (σ1 150 x1) then (rx_Go L (d + 1) mX11_pour 26 [some (.inr 125), some (.inl x1), some (.inl 0), some (.inl 1), none] [] σ1 (rx_PI K)) else (K (-1000000011) σ1))) else (K (-1000000001) σ1))) :
    rx_CI L (d + 1) mX11_pour [.inr 125, .inl x1] σ K := by
  refine rx_CI.of (la := [some (.inr 125), some (.inl x1), none, none, none]) rfl ?_
  refine g_il iX11_pour_0 rfl ?_
  refine g_ci (as := [.inl x1]) (rest := []) iX11_pour_1 rfl rfl (Nat.le_of_ble_eq_true rfl) (Or.inl (by decide)) (rx_CI.imp H (fun v2 σ1 H => ?_))
  by_cases c3 : v2 ≠ 0
  · rw [if_pos c3] at H
    refine g_if1t iX11_pour_4 c3 ?_
    refine g_al iX11_pour_10 rfl ?_
    refine g_gr iX11_pour_11 fr_11_39_125 ?_
    refine g_il iX11_pour_14 rfl ?_
    obtain ⟨o4, H⟩ := H
    refine g_ld iX11_pour_15 (ln_150 L) o4 ?_
    by_cases c5 : 0 ≤ (σ1 150 x1)
    · rw [if_pos c5] at H
      refine g_if3t iX11_pour_16 c5 ?_
      refine g_c iX11_pour_22 ?_
      refine g_is iX11_pour_23 (Nat.le_of_ble_eq_true rfl) ?_
      refine rx_Go.ls (la := [some (.inr 125), some (.inl x1), some (.inl 0), none, none]) rfl ?_
      refine g_c iX11_pour_24 ?_
      refine g_is iX11_pour_25 (Nat.le_of_ble_eq_true rfl) ?_
      refine rx_Go.ls (la := [some (.inr 125), some (.inl x1), some (.inl 0), some (.inl 1), none]) rfl ?_
      exact H
    · rw [if_neg c5] at H
      refine g_if3f iX11_pour_16 c5 ?_
      refine g_c iX11_pour_19 ?_
      exact g_ri iX11_pour_21 (Or.inl rfl) H
  · rw [if_neg c3] at H
    refine g_if1f iX11_pour_4 c3 ?_
    refine g_c iX11_pour_7 ?_
    exact g_ri iX11_pour_9 (Or.inl rfl) H
set_option maxRecDepth 20000 in
set_option maxHeartbeats 4000000 in
theorem bX11_pour_26 (L d : Nat) (x1 : Int) (x2 : Int) (x3 : Int) (q4 : Option rx_V) (σ : rx_St) (K : Int → rx_St → Prop)
    (H : if x3 = 0 then (K x2 σ) else ((0 ≤ x1 ∧ x1 < 4) ∧ (if (σ 151 x1) ≤ x2 then (K x2 σ) else ((0 ≤ (rx_w ((rx_w (24 * x1)) + x2)) ∧ (rx_w ((rx_w (24 * x1)) + x2)) < 96) ∧ (rx_CI L d mX11_in [.inl (σ 152 (rx_w ((rx_w (24 * x1)) + x2))), .inl 0, .inl 9999] σ (fun v11 σ10 => if v11 = 0 then (rx_Go L (d + 1) mX11_pour 26 [some (.inr 125), some (.inl x1), some (.inl (rx_w (x2 + 0))), some (.inl 0), some (.inl (σ 152 (rx_w ((rx_w (24 * x1)) + x2))))] [] σ10 (rx_PI K)) else (rx_CI L d mX11_postAt [.inr 125, .inl (rx_w (Int.tdiv (σ 152 (rx_w ((rx_w (24 * x1)) + x2))) 100)), .inl (Int.tmod (σ 152 (rx_w ((rx_w (24 * x1)) + x2))) 100)] σ10 (fun v14 σ13 => if 0 ≤ v14 then (rx_Go L (d + 1) mX11_pour 26 [some (.inr 125), some (.inl x1), some (.inl (rx_w (x2 + 0))), some (.inl 0), some (.inl (σ 152 (rx_w ((rx_w (24 * x1)) + x2))))] [] σ13 (rx_PI K)) else (if 8 ≤ (σ13 126 1) then (rx_Go L (d + 1) mX11_pour 26 [some (.inr 125), some (.inl x1), some (.inl (rx_w (x2 + 0))), some (.inl 0), some (.inl (σ 152 (rx_w ((rx_w (24 * x1)) + x2))))] [] σ13 (rx_PI K)) else (rx_CI L d mX11_comes [.inr 125, .inl (rx_w (Int.tdiv (σ 152 (rx_w ((rx_w (24 * x1)) + x2))) 100)), .inl (Int.tmod (σ 152 (rx_w ((rx_w (24 * x1)) + x2))) 100)] σ13 (fun v18 σ17 => if v18 < 0 then (rx_Go L (d + 1) mX11_pour 26 [some (.inr 125), some (.inl x1), some (.inl (rx_w (x2 + 0))), some (.inl 1), some (.inl (σ 152 (rx_w ((rx_w (24 * x1)) + x2))))] [] σ17 (rx_PI K)) else (rx_Go L (d + 1) mX11_pour 26 [some (.inr 125), some (.inl x1), some (.inl (rx_w (x2 + 1))), some (.inl 1), some (.inl (σ 152 (rx_w ((rx_w (24 * x1)) + x2))))] [] σ17 (rx_PI K))))))))))))) :
    rx_Go L (d + 1) mX11_pour 26 [some (.inr 125), some (.inl x1), some (.inl x2), some (.inl x3), q4] [] σ (rx_PI K) := by
  refine g_il iX11_pour_26 rfl ?_
  by_cases c6 : x3 = 0
  · rw [if_pos c6] at H
    refine g_if0t iX11_pour_27 c6 ?_
    refine g_il iX11_pour_131 rfl ?_
    exact g_ri iX11_pour_132 (Or.inl rfl) H
  · rw [if_neg c6] at H
    refine g_if0f iX11_pour_27 c6 ?_
    refine g_il iX11_pour_30 rfl ?_
    refine g_al iX11_pour_31 rfl ?_
    refine g_gr iX11_pour_32 fr_11_40_125 ?_
    refine g_il iX11_pour_35 rfl ?_
    obtain ⟨o7, H⟩ := H
    refine g_ld iX11_pour_36 (ln_151 L) o7 ?_
    by_cases c8 : (σ 151 x1) ≤ x2
    · rw [if_pos c8] at H
      refine g_ic3t iX11_pour_37 c8 ?_
      refine g_il iX11_pour_131 rfl ?_
      exact g_ri iX11_pour_132 (Or.inl rfl) H
    · rw [if_neg c8] at H
      refine g_ic3f iX11_pour_37 c8 ?_
      refine g_al iX11_pour_40 rfl ?_
      refine g_gr iX11_pour_41 fr_11_41_125 ?_
      refine g_c iX11_pour_44 ?_
      refine g_il iX11_pour_46 rfl ?_
      refine g_mul iX11_pour_47 ?_
      refine g_il iX11_pour_48 rfl ?_
      refine g_add iX11_pour_49 ?_
      obtain ⟨o9, H⟩ := H
      refine g_ld iX11_pour_50 (ln_152 L) o9 ?_
      refine g_is iX11_pour_51 (Nat.le_of_ble_eq_true rfl) ?_
      refine rx_Go.ls (la := [some (.inr 125), some (.inl x1), some (.inl x2), some (.inl x3), some (.inl (σ 152 (rx_w ((rx_w (24 * x1)) + x2))))]) rfl ?_
      refine g_il iX11_pour_53 rfl ?_
      refine g_c iX11_pour_55 ?_
      refine g_c iX11_pour_56 ?_
      refine g_ci (as := [.inl (σ 152 (rx_w ((rx_w (24 * x1)) + x2))), .inl 0, .inl 9999]) (rest := []) iX11_pour_59 rfl rfl (Nat.le_of_ble_eq_true rfl) (Or.inl (by decide)) (rx_CI.imp H (fun v11 σ10 H => ?_))
      by_cases c12 : v11 = 0
      · rw [if_pos c12] at H
        refine g_if0t iX11_pour_62 c12 ?_
        refine g_c iX11_pour_97 ?_
        refine g_is iX11_pour_98 (Nat.le_of_ble_eq_true rfl) ?_
        refine rx_Go.ls (la := [some (.inr 125), some (.inl x1), some (.inl x2), some (.inl 0), some (.inl (σ 152 (rx_w ((rx_w (24 * x1)) + x2))))]) rfl ?_
        refine g_il iX11_pour_99 rfl ?_
        refine g_il iX11_pour_100 rfl ?_
        refine g_if0t iX11_pour_101 (by decide) ?_
        refine g_c iX11_pour_125 ?_
        refine g_add iX11_pour_126 ?_
        refine g_is iX11_pour_127 (Nat.le_of_ble_eq_true rfl) ?_
        refine rx_Go.ls (la := [some (.inr 125), some (.inl x1), some (.inl (rx_w (x2 + 0))), some (.inl 0), some (.inl (σ 152 (rx_w ((rx_w (24 * x1)) + x2))))]) rfl ?_
        refine g_goto iX11_pour_128 ?_
        exact H
      · rw [if_neg c12] at H
        refine g_if0f iX11_pour_62 c12 ?_
        refine g_al iX11_pour_65 rfl ?_
        refine g_il iX11_pour_66 rfl ?_
        refine g_c iX11_pour_68 ?_
        refine g_div iX11_pour_70 (by decide) ?_
        refine g_il iX11_pour_71 rfl ?_
        refine g_c iX11_pour_73 ?_
        refine g_rem iX11_pour_75 (by decide) ?_
        refine g_ci (as := [.inr 125, .inl (rx_w (Int.tdiv (σ 152 (rx_w ((rx_w (24 * x1)) + x2))) 100)), .inl (Int.tmod (σ 152 (rx_w ((rx_w (24 * x1)) + x2))) 100)]) (rest := []) iX11_pour_76 rfl rfl (Nat.le_of_ble_eq_true rfl) (Or.inr ⟨_, _, rfl, oo_11_125⟩) (rx_CI.imp H (fun v14 σ13 H => ?_))
        by_cases c15 : 0 ≤ v14
        · rw [if_pos c15] at H
          refine g_if3t iX11_pour_79 c15 ?_
          refine g_c iX11_pour_97 ?_
          refine g_is iX11_pour_98 (Nat.le_of_ble_eq_true rfl) ?_
          refine rx_Go.ls (la := [some (.inr 125), some (.inl x1), some (.inl x2), some (.inl 0), some (.inl (σ 152 (rx_w ((rx_w (24 * x1)) + x2))))]) rfl ?_
          refine g_il iX11_pour_99 rfl ?_
          refine g_il iX11_pour_100 rfl ?_
          refine g_if0t iX11_pour_101 (by decide) ?_
          refine g_c iX11_pour_125 ?_
          refine g_add iX11_pour_126 ?_
          refine g_is iX11_pour_127 (Nat.le_of_ble_eq_true rfl) ?_
          refine rx_Go.ls (la := [some (.inr 125), some (.inl x1), some (.inl (rx_w (x2 + 0))), some (.inl 0), some (.inl (σ 152 (rx_w ((rx_w (24 * x1)) + x2))))]) rfl ?_
          refine g_goto iX11_pour_128 ?_
          exact H
        · rw [if_neg c15] at H
          refine g_if3f iX11_pour_79 c15 ?_
          refine g_al iX11_pour_82 rfl ?_
          refine g_gr iX11_pour_83 fr_11_0_125 ?_
          refine g_c iX11_pour_86 ?_
          refine g_ld iX11_pour_87 (ln_126 L) (by decide) ?_
          refine g_c iX11_pour_88 ?_
          by_cases c16 : 8 ≤ (σ13 126 1)
          · rw [if_pos c16] at H
            refine g_ic3t iX11_pour_90 c16 ?_
            refine g_c iX11_pour_97 ?_
            refine g_is iX11_pour_98 (Nat.le_of_ble_eq_true rfl) ?_
            refine rx_Go.ls (la := [some (.inr 125), some (.inl x1), some (.inl x2), some (.inl 0), some (.inl (σ 152 (rx_w ((rx_w (24 * x1)) + x2))))]) rfl ?_
            refine g_il iX11_pour_99 rfl ?_
            refine g_il iX11_pour_100 rfl ?_
            refine g_if0t iX11_pour_101 (by decide) ?_
            refine g_c iX11_pour_125 ?_
            refine g_add iX11_pour_126 ?_
            refine g_is iX11_pour_127 (Nat.le_of_ble_eq_true rfl) ?_
            refine rx_Go.ls (la := [some (.inr 125), some (.inl x1), some (.inl (rx_w (x2 + 0))), some (.inl 0), some (.inl (σ 152 (rx_w ((rx_w (24 * x1)) + x2))))]) rfl ?_
            refine g_goto iX11_pour_128 ?_
            exact H
          · rw [if_neg c16] at H
            refine g_ic3f iX11_pour_90 c16 ?_
            refine g_c iX11_pour_93 ?_
            refine g_goto iX11_pour_94 ?_
            refine g_is iX11_pour_98 (Nat.le_of_ble_eq_true rfl) ?_
            refine rx_Go.ls (la := [some (.inr 125), some (.inl x1), some (.inl x2), some (.inl 1), some (.inl (σ 152 (rx_w ((rx_w (24 * x1)) + x2))))]) rfl ?_
            refine g_il iX11_pour_99 rfl ?_
            refine g_il iX11_pour_100 rfl ?_
            refine g_if0f iX11_pour_101 (by decide) ?_
            refine g_al iX11_pour_104 rfl ?_
            refine g_il iX11_pour_105 rfl ?_
            refine g_c iX11_pour_107 ?_
            refine g_div iX11_pour_109 (by decide) ?_
            refine g_il iX11_pour_110 rfl ?_
            refine g_c iX11_pour_112 ?_
            refine g_rem iX11_pour_114 (by decide) ?_
            refine g_ci (as := [.inr 125, .inl (rx_w (Int.tdiv (σ 152 (rx_w ((rx_w (24 * x1)) + x2))) 100)), .inl (Int.tmod (σ 152 (rx_w ((rx_w (24 * x1)) + x2))) 100)]) (rest := [.inl x2]) iX11_pour_115 rfl rfl (Nat.le_of_ble_eq_true rfl) (Or.inr ⟨_, _, rfl, oo_11_125⟩) (rx_CI.imp H (fun v18 σ17 H => ?_))
            by_cases c19 : v18 < 0
            · rw [if_pos c19] at H
              refine g_if2t iX11_pour_118 c19 ?_
              refine g_c iX11_pour_125 ?_
              refine g_add iX11_pour_126 ?_
              refine g_is iX11_pour_127 (Nat.le_of_ble_eq_true rfl) ?_
              refine rx_Go.ls (la := [some (.inr 125), some (.inl x1), some (.inl (rx_w (x2 + 0))), some (.inl 1), some (.inl (σ 152 (rx_w ((rx_w (24 * x1)) + x2))))]) rfl ?_
              refine g_goto iX11_pour_128 ?_
              exact H
            · rw [if_neg c19] at H
              refine g_if2f iX11_pour_118 c19 ?_
              refine g_c iX11_pour_121 ?_
              refine g_goto iX11_pour_122 ?_
              refine g_add iX11_pour_126 ?_
              refine g_is iX11_pour_127 (Nat.le_of_ble_eq_true rfl) ?_
              refine rx_Go.ls (la := [some (.inr 125), some (.inl x1), some (.inl (rx_w (x2 + 1))), some (.inl 1), some (.inl (σ 152 (rx_w ((rx_w (24 * x1)) + x2))))]) rfl ?_
              refine g_goto iX11_pour_128 ?_
              exact H
set_option maxRecDepth 20000 in
set_option maxHeartbeats 4000000 in
theorem bX11_copy (L d : Nat) (x1 : Int) (x2 : Int) (x3 : Int) (x4 : Int) (x5 : Int) (σ : rx_St) (K : Int → rx_St → Prop)
    (H : rx_CI L d mX11_isSheet [.inl x1] σ (fun v2 σ1 => if v2 = 0 then (K (-1000000001) σ1) else (rx_CI L d mX11_isSheet [.inl x3] σ1 (fun v5 σ4 => if v5 ≠ 0 then ((0 ≤ x1 ∧ x1 < 4) ∧ (if (σ4 150 x1) < 0 then (K (-1000000011) σ4) else ((0 ≤ x3 ∧ x3 < 4) ∧ (if 0 ≤ (σ4 150 x3) then (if (σ4 150 x1) = (σ4 150 x3) then (if x2 < 0 then (K (-1000000013) σ4) else (if x4 < 0 then (K (-1000000013) σ4) else (if x5 < 0 then (K (-1000000013) σ4) else (if (rx_w ((σ4 151 x1) - x5)) < x2 then (K (-1000000013) σ4) else (if x4 ≤ (rx_w ((σ4 151 x3) - x5)) then (rx_Go L (d + 1) mX11_copy 104 [some (.inr 125), some (.inl x1), some (.inl x2), some (.inl x3), some (.inl x4), some (.inl x5), some (.inl 0)] [] σ4 (rx_PI K)) else (K (-1000000013) σ4)))))) else (K (-1000000012) σ4)) else (K (-1000000011) σ4))))) else (K (-1000000001) σ4))))) :
    rx_CI L (d + 1) mX11_copy [.inr 125, .inl x1, .inl x2, .inl x3, .inl x4, .inl x5] σ K := by
  refine rx_CI.of (la := [some (.inr 125), some (.inl x1), some (.inl x2), some (.inl x3), some (.inl x4), some (.inl x5), none]) rfl ?_
  refine g_il iX11_copy_0 rfl ?_
  refine g_ci (as := [.inl x1]) (rest := []) iX11_copy_1 rfl rfl (Nat.le_of_ble_eq_true rfl) (Or.inl (by decide)) (rx_CI.imp H (fun v2 σ1 H => ?_))
  by_cases c3 : v2 = 0
  · rw [if_pos c3] at H
    refine g_if0t iX11_copy_4 c3 ?_
    refine g_c iX11_copy_14 ?_
    exact g_ri iX11_copy_16 (Or.inl rfl) H
  · rw [if_neg c3] at H
    refine g_if0f iX11_copy_4 c3 ?_
    refine g_il iX11_copy_7 rfl ?_
    refine g_ci (as := [.inl x3]) (rest := []) iX11_copy_8 rfl rfl (Nat.le_of_ble_eq_true rfl) (Or.inl (by decide)) (rx_CI.imp H (fun v5 σ4 H => ?_))
    by_cases c6 : v5 ≠ 0
    · rw [if_pos c6] at H
      refine g_if1t iX11_copy_11 c6 ?_
      refine g_al iX11_copy_17 rfl ?_
      refine g_gr iX11_copy_18 fr_11_39_125 ?_
      refine g_il iX11_copy_21 rfl ?_
      obtain ⟨o7, H⟩ := H
      refine g_ld iX11_copy_22 (ln_150 L) o7 ?_
      by_cases c8 : (σ4 150 x1) < 0
      · rw [if_pos c8] at H
        refine g_if2t iX11_copy_23 c8 ?_
        refine g_c iX11_copy_35 ?_
        exact g_ri iX11_copy_37 (Or.inl rfl) H
      · rw [if_neg c8] at H
        refine g_if2f iX11_copy_23 c8 ?_
        refine g_al iX11_copy_26 rfl ?_
        refine g_gr iX11_copy_27 fr_11_39_125 ?_
        refine g_il iX11_copy_30 rfl ?_
        obtain ⟨o9, H⟩ := H
        refine g_ld iX11_copy_31 (ln_150 L) o9 ?_
        by_cases c10 : 0 ≤ (σ4 150 x3)
        · rw [if_pos c10] at H
          refine g_if3t iX11_copy_32 c10 ?_
          refine g_al iX11_copy_38 rfl ?_
          refine g_gr iX11_copy_39 fr_11_39_125 ?_
          refine g_il iX11_copy_42 rfl ?_
          refine g_ld iX11_copy_43 (ln_150 L) o7 ?_
          refine g_al iX11_copy_44 rfl ?_
          refine g_gr iX11_copy_45 fr_11_39_125 ?_
          refine g_il iX11_copy_48 rfl ?_
          refine g_ld iX11_copy_49 (ln_150 L) o9 ?_
          by_cases c11 : (σ4 150 x1) = (σ4 150 x3)
          · rw [if_pos c11] at H
            refine g_ic0t iX11_copy_50 c11 ?_
            refine g_il iX11_copy_56 rfl ?_
            by_cases c12 : x2 < 0
            · rw [if_pos c12] at H
              refine g_if2t iX11_copy_57 c12 ?_
              refine g_c iX11_copy_97 ?_
              exact g_ri iX11_copy_100 (Or.inl rfl) H
            · rw [if_neg c12] at H
              refine g_if2f iX11_copy_57 c12 ?_
              refine g_il iX11_copy_60 rfl ?_
              by_cases c13 : x4 < 0
              · rw [if_pos c13] at H
                refine g_if2t iX11_copy_62 c13 ?_
                refine g_c iX11_copy_97 ?_
                exact g_ri iX11_copy_100 (Or.inl rfl) H
              · rw [if_neg c13] at H
                refine g_if2f iX11_copy_62 c13 ?_
                refine g_il iX11_copy_65 rfl ?_
                by_cases c14 : x5 < 0
                · rw [if_pos c14] at H
                  refine g_if2t iX11_copy_67 c14 ?_
                  refine g_c iX11_copy_97 ?_
                  exact g_ri iX11_copy_100 (Or.inl rfl) H
                · rw [if_neg c14] at H
                  refine g_if2f iX11_copy_67 c14 ?_
                  refine g_il iX11_copy_70 rfl ?_
                  refine g_al iX11_copy_71 rfl ?_
                  refine g_gr iX11_copy_72 fr_11_40_125 ?_
                  refine g_il iX11_copy_75 rfl ?_
                  refine g_ld iX11_copy_76 (ln_151 L) o7 ?_
                  refine g_il iX11_copy_77 rfl ?_
                  refine g_sub iX11_copy_79 ?_
                  by_cases c15 : (rx_w ((σ4 151 x1) - x5)) < x2
                  · rw [if_pos c15] at H
                    refine g_ic4t iX11_copy_80 c15 ?_
                    refine g_c iX11_copy_97 ?_
                    exact g_ri iX11_copy_100 (Or.inl rfl) H
                  · rw [if_neg c15] at H
                    refine g_ic4f iX11_copy_80 c15 ?_
                    refine g_il iX11_copy_83 rfl ?_
                    refine g_al iX11_copy_85 rfl ?_
                    refine g_gr iX11_copy_86 fr_11_40_125 ?_
                    refine g_il iX11_copy_89 rfl ?_
                    refine g_ld iX11_copy_90 (ln_151 L) o9 ?_
                    refine g_il iX11_copy_91 rfl ?_
                    refine g_sub iX11_copy_93 ?_
                    by_cases c16 : x4 ≤ (rx_w ((σ4 151 x3) - x5))
                    · rw [if_pos c16] at H
                      refine g_ic5t iX11_copy_94 c16 ?_
                      refine g_c iX11_copy_101 ?_
                      refine g_is iX11_copy_102 (Nat.le_of_ble_eq_true rfl) ?_
                      refine rx_Go.ls (la := [some (.inr 125), some (.inl x1), some (.inl x2), some (.inl x3), some (.inl x4), some (.inl x5), some (.inl 0)]) rfl ?_
                      exact H
                    · rw [if_neg c16] at H
                      refine g_ic5f iX11_copy_94 c16 ?_
                      refine g_c iX11_copy_97 ?_
                      exact g_ri iX11_copy_100 (Or.inl rfl) H
          · rw [if_neg c11] at H
            refine g_ic0f iX11_copy_50 c11 ?_
            refine g_c iX11_copy_53 ?_
            exact g_ri iX11_copy_55 (Or.inl rfl) H
        · rw [if_neg c10] at H
          refine g_if3f iX11_copy_32 c10 ?_
          refine g_c iX11_copy_35 ?_
          exact g_ri iX11_copy_37 (Or.inl rfl) H
    · rw [if_neg c6] at H
      refine g_if1f iX11_copy_11 c6 ?_
      refine g_c iX11_copy_14 ?_
      exact g_ri iX11_copy_16 (Or.inl rfl) H
set_option maxRecDepth 20000 in
set_option maxHeartbeats 4000000 in
theorem bX11_copy_104 (L d : Nat) (x1 : Int) (x2 : Int) (x3 : Int) (x4 : Int) (x5 : Int) (x6 : Int) (σ : rx_St) (K : Int → rx_St → Prop)
    (H : if x5 ≤ x6 then (rx_Go L (d + 1) mX11_copy 141 [some (.inr 125), some (.inl x1), some (.inl x2), some (.inl x3), some (.inl x4), some (.inl x5), some (.inl 0)] [] σ (rx_PI K)) else ((0 ≤ (rx_w ((rx_w ((rx_w (24 * x1)) + x2)) + x6)) ∧ (rx_w ((rx_w ((rx_w (24 * x1)) + x2)) + x6)) < 96) ∧ ((0 ≤ x6 ∧ x6 < 24) ∧ (rx_Go L (d + 1) mX11_copy 104 [some (.inr 125), some (.inl x1), some (.inl x2), some (.inl x3), some (.inl x4), some (.inl x5), some (.inl (rx_w (x6 + 1)))] [] (rx_up σ 157 x6 (σ 152 (rx_w ((rx_w ((rx_w (24 * x1)) + x2)) + x6)))) (rx_PI K))))) :
    rx_Go L (d + 1) mX11_copy 104 [some (.inr 125), some (.inl x1), some (.inl x2), some (.inl x3), some (.inl x4), some (.inl x5), some (.inl x6)] [] σ (rx_PI K) := by
  refine g_il iX11_copy_104 rfl ?_
  refine g_il iX11_copy_106 rfl ?_
  by_cases c17 : x5 ≤ x6
  · rw [if_pos c17] at H
    refine g_ic3t iX11_copy_108 c17 ?_
    refine g_c iX11_copy_138 ?_
    refine g_is iX11_copy_139 (Nat.le_of_ble_eq_true rfl) ?_
    refine rx_Go.ls (la := [some (.inr 125), some (.inl x1), some (.inl x2), some (.inl x3), some (.inl x4), some (.inl x5), some (.inl 0)]) rfl ?_
    exact H
  · rw [if_neg c17] at H
    refine g_ic3f iX11_copy_108 c17 ?_
    refine g_al iX11_copy_111 rfl ?_
    refine g_gr iX11_copy_112 fr_11_46_125 ?_
    refine g_il iX11_copy_115 rfl ?_
    refine g_al iX11_copy_117 rfl ?_
    refine g_gr iX11_copy_118 fr_11_41_125 ?_
    refine g_c iX11_copy_121 ?_
    refine g_il iX11_copy_123 rfl ?_
    refine g_mul iX11_copy_124 ?_
    refine g_il iX11_copy_125 rfl ?_
    refine g_add iX11_copy_126 ?_
    refine g_il iX11_copy_127 rfl ?_
    refine g_add iX11_copy_129 ?_
    obtain ⟨o18, H⟩ := H
    refine g_ld iX11_copy_130 (ln_152 L) o18 ?_
    obtain ⟨o19, H⟩ := H
    refine g_st iX11_copy_131 (ln_157 L) (by decide) o19 rfl ?_
    refine g_ii iX11_copy_132 rfl ?_
    refine rx_Go.ls (la := [some (.inr 125), some (.inl x1), some (.inl x2), some (.inl x3), some (.inl x4), some (.inl x5), some (.inl (rx_w (x6 + 1)))]) rfl ?_
    refine g_goto iX11_copy_135 ?_
    exact H
set_option maxRecDepth 20000 in
set_option maxHeartbeats 4000000 in
theorem bX11_copy_141 (L d : Nat) (q1 : Option rx_V) (q2 : Option rx_V) (x3 : Int) (x4 : Int) (x5 : Int) (x6 : Int) (σ : rx_St) (K : Int → rx_St → Prop)
    (H : if x5 ≤ x6 then (K x5 σ) else ((0 ≤ x6 ∧ x6 < 24) ∧ ((0 ≤ (rx_w ((rx_w ((rx_w (24 * x3)) + x4)) + x6)) ∧ (rx_w ((rx_w ((rx_w (24 * x3)) + x4)) + x6)) < 96) ∧ (rx_Go L (d + 1) mX11_copy 141 [some (.inr 125), q1, q2, some (.inl x3), some (.inl x4), some (.inl x5), some (.inl (rx_w (x6 + 1)))] [] (rx_up σ 152 (rx_w ((rx_w ((rx_w (24 * x3)) + x4)) + x6)) (σ 157 x6)) (rx_PI K))))) :
    rx_Go L (d + 1) mX11_copy 141 [some (.inr 125), q1, q2, some (.inl x3), some (.inl x4), some (.inl x5), some (.inl x6)] [] σ (rx_PI K) := by
  refine g_il iX11_copy_141 rfl ?_
  refine g_il iX11_copy_143 rfl ?_
  by_cases c20 : x5 ≤ x6
  · rw [if_pos c20] at H
    refine g_ic3t iX11_copy_145 c20 ?_
    refine g_il iX11_copy_176 rfl ?_
    exact g_ri iX11_copy_178 (Or.inl rfl) H
  · rw [if_neg c20] at H
    refine g_ic3f iX11_copy_145 c20 ?_
    refine g_al iX11_copy_148 rfl ?_
    refine g_gr iX11_copy_149 fr_11_41_125 ?_
    refine g_c iX11_copy_152 ?_
    refine g_il iX11_copy_154 rfl ?_
    refine g_mul iX11_copy_155 ?_
    refine g_il iX11_copy_156 rfl ?_
    refine g_add iX11_copy_158 ?_
    refine g_il iX11_copy_159 rfl ?_
    refine g_add iX11_copy_161 ?_
    refine g_al iX11_copy_162 rfl ?_
    refine g_gr iX11_copy_163 fr_11_46_125 ?_
    refine g_il iX11_copy_166 rfl ?_
    obtain ⟨o21, H⟩ := H
    refine g_ld iX11_copy_168 (ln_157 L) o21 ?_
    obtain ⟨o22, H⟩ := H
    refine g_st iX11_copy_169 (ln_152 L) (by decide) o22 rfl ?_
    refine g_ii iX11_copy_170 rfl ?_
    refine rx_Go.ls (la := [some (.inr 125), q1, q2, some (.inl x3), some (.inl x4), some (.inl x5), some (.inl (rx_w (x6 + 1)))]) rfl ?_
    refine g_goto iX11_copy_173 ?_
    exact H
set_option maxRecDepth 20000 in
set_option maxHeartbeats 4000000 in
theorem bX11_lay (L d : Nat) (x1 : Int) (x2 : Int) (x3 : Int) (σ : rx_St) (K : Int → rx_St → Prop)
    (H : rx_CI L d mX11_isSlot [.inl x1] σ (fun v2 σ1 => if v2 = 0 then (K (-1000000001) σ1) else (rx_CI L d mX11_in [.inl x2, .inl 0, .inl 3] σ1 (fun v5 σ4 => if v5 = 0 then (K (-1000000001) σ4) else (if x2 ≠ 1 then (rx_Go L (d + 1) mX11_lay 29 [some (.inr 125), some (.inl x1), some (.inl x2), some (.inl x3), none, none] [] σ4 (rx_PI K)) else (rx_CI L d mX11_isRoad [.inr 125, .inl x3] σ4 (fun v9 σ8 => if v9 = 0 then (K (-1000000001) σ8) else (rx_Go L (d + 1) mX11_lay 29 [some (.inr 125), some (.inl x1), some (.inl x2), some (.inl x3), none, none] [] σ8 (rx_PI K))))))))) :
    rx_CI L (d + 1) mX11_lay [.inr 125, .inl x1, .inl x2, .inl x3] σ K := by
  refine rx_CI.of (la := [some (.inr 125), some (.inl x1), some (.inl x2), some (.inl x3), none, none]) rfl ?_
  refine g_il iX11_lay_0 rfl ?_
  refine g_ci (as := [.inl x1]) (rest := []) iX11_lay_1 rfl rfl (Nat.le_of_ble_eq_true rfl) (Or.inl (by decide)) (rx_CI.imp H (fun v2 σ1 H => ?_))
  by_cases c3 : v2 = 0
  · rw [if_pos c3] at H
    refine g_if0t iX11_lay_4 c3 ?_
    refine g_c iX11_lay_41 ?_
    exact g_ri iX11_lay_43 (Or.inl rfl) H
  · rw [if_neg c3] at H
    refine g_if0f iX11_lay_4 c3 ?_
    refine g_il iX11_lay_7 rfl ?_
    refine g_c iX11_lay_8 ?_
    refine g_c iX11_lay_9 ?_
    refine g_ci (as := [.inl x2, .inl 0, .inl 3]) (rest := []) iX11_lay_10 rfl rfl (Nat.le_of_ble_eq_true rfl) (Or.inl (by decide)) (rx_CI.imp H (fun v5 σ4 H => ?_))
    by_cases c6 : v5 = 0
    · rw [if_pos c6] at H
      refine g_if0t iX11_lay_13 c6 ?_
      refine g_c iX11_lay_41 ?_
      exact g_ri iX11_lay_43 (Or.inl rfl) H
    · rw [if_neg c6] at H
      refine g_if0f iX11_lay_13 c6 ?_
      refine g_il iX11_lay_16 rfl ?_
      refine g_c iX11_lay_17 ?_
      by_cases c7 : x2 ≠ 1
      · rw [if_pos c7] at H
        refine g_ic1t iX11_lay_18 c7 ?_
        exact H
      · rw [if_neg c7] at H
        refine g_ic1f iX11_lay_18 c7 ?_
        refine g_al iX11_lay_21 rfl ?_
        refine g_il iX11_lay_22 rfl ?_
        refine g_ci (as := [.inr 125, .inl x3]) (rest := []) iX11_lay_23 rfl rfl (Nat.le_of_ble_eq_true rfl) (Or.inr ⟨_, _, rfl, oo_11_125⟩) (rx_CI.imp H (fun v9 σ8 H => ?_))
        by_cases c10 : v9 = 0
        · rw [if_pos c10] at H
          refine g_if0t iX11_lay_26 c10 ?_
          refine g_c iX11_lay_41 ?_
          exact g_ri iX11_lay_43 (Or.inl rfl) H
        · rw [if_neg c10] at H
          refine g_if0f iX11_lay_26 c10 ?_
          exact H
set_option maxRecDepth 20000 in
set_option maxHeartbeats 4000000 in
theorem bX11_lay_29 (L d : Nat) (x1 : Int) (x2 : Int) (x3 : Int) (q4 : Option rx_V) (q5 : Option rx_V) (σ : rx_St) (K : Int → rx_St → Prop)
    (H : if x2 ≠ 2 then (rx_Go L (d + 1) mX11_lay 44 [some (.inr 125), some (.inl x1), some (.inl x2), some (.inl x3), q4, q5] [] σ (rx_PI K)) else (rx_CI L d mX11_isSheet [.inl x3] σ (fun v13 σ12 => if v13 ≠ 0 then (rx_Go L (d + 1) mX11_lay 44 [some (.inr 125), some (.inl x1), some (.inl x2), some (.inl x3), q4, q5] [] σ12 (rx_PI K)) else (K (-1000000001) σ12)))) :
    rx_Go L (d + 1) mX11_lay 29 [some (.inr 125), some (.inl x1), some (.inl x2), some (.inl x3), q4, q5] [] σ (rx_PI K) := by
  refine g_il iX11_lay_29 rfl ?_
  refine g_c iX11_lay_30 ?_
  by_cases c11 : x2 ≠ 2
  · rw [if_pos c11] at H
    refine g_ic1t iX11_lay_31 c11 ?_
    exact H
  · rw [if_neg c11] at H
    refine g_ic1f iX11_lay_31 c11 ?_
    refine g_il iX11_lay_34 rfl ?_
    refine g_ci (as := [.inl x3]) (rest := []) iX11_lay_35 rfl rfl (Nat.le_of_ble_eq_true rfl) (Or.inl (by decide)) (rx_CI.imp H (fun v13 σ12 H => ?_))
    by_cases c14 : v13 ≠ 0
    · rw [if_pos c14] at H
      refine g_if1t iX11_lay_38 c14 ?_
      exact H
    · rw [if_neg c14] at H
      refine g_if1f iX11_lay_38 c14 ?_
      refine g_c iX11_lay_41 ?_
      exact g_ri iX11_lay_43 (Or.inl rfl) H
set_option maxRecDepth 20000 in
set_option maxHeartbeats 4000000 in
theorem bX11_lay_44 (L d : Nat) (x1 : Int) (x2 : Int) (x3 : Int) (q4 : Option rx_V) (q5 : Option rx_V) (σ : rx_St) (K : Int → rx_St → Prop)
    (H : if x2 ≠ 2 then (rx_Go L (d + 1) mX11_lay 61 [some (.inr 125), some (.inl x1), some (.inl x2), some (.inl x3), q4, q5] [] σ (rx_PI K)) else ((0 ≤ x3 ∧ x3 < 4) ∧ (if 0 ≤ (σ 150 x3) then (rx_Go L (d + 1) mX11_lay 61 [some (.inr 125), some (.inl x1), some (.inl x2), some (.inl x3), q4, q5] [] σ (rx_PI K)) else (K (-1000000011) σ)))) :
    rx_Go L (d + 1) mX11_lay 44 [some (.inr 125), some (.inl x1), some (.inl x2), some (.inl x3), q4, q5] [] σ (rx_PI K) := by
  refine g_il iX11_lay_44 rfl ?_
  refine g_c iX11_lay_45 ?_
  by_cases c15 : x2 ≠ 2
  · rw [if_pos c15] at H
    refine g_ic1t iX11_lay_46 c15 ?_
    exact H
  · rw [if_neg c15] at H
    refine g_ic1f iX11_lay_46 c15 ?_
    refine g_al iX11_lay_49 rfl ?_
    refine g_gr iX11_lay_50 fr_11_39_125 ?_
    refine g_il iX11_lay_53 rfl ?_
    obtain ⟨o16, H⟩ := H
    refine g_ld iX11_lay_54 (ln_150 L) o16 ?_
    by_cases c17 : 0 ≤ (σ 150 x3)
    · rw [if_pos c17] at H
      refine g_if3t iX11_lay_55 c17 ?_
      exact H
    · rw [if_neg c17] at H
      refine g_if3f iX11_lay_55 c17 ?_
      refine g_c iX11_lay_58 ?_
      exact g_ri iX11_lay_60 (Or.inl rfl) H
set_option maxRecDepth 20000 in
set_option maxHeartbeats 4000000 in
theorem bX11_lay_61 (L d : Nat) (x1 : Int) (x2 : Int) (x3 : Int) (q4 : Option rx_V) (q5 : Option rx_V) (σ : rx_St) (K : Int → rx_St → Prop)
    (H : (0 ≤ x1 ∧ x1 < 5) ∧ (if x2 ≠ 1 then (if x2 ≠ 2 then (rx_Go L (d + 1) mX11_lay 111 [some (.inr 125), some (.inl x1), some (.inl x2), some (.inl x3), some (.inl (σ 153 x1)), q5] [] (rx_up (rx_up σ 153 x1 x2) 154 x1 x3) (rx_PI K)) else ((0 ≤ x3 ∧ x3 < 4) ∧ (rx_Go L (d + 1) mX11_lay 111 [some (.inr 125), some (.inl x1), some (.inl x2), some (.inl x3), some (.inl (σ 153 x1)), q5] [] (rx_up (rx_up σ 153 x1 x2) 154 x1 ((rx_up σ 153 x1 x2) 151 x3)) (rx_PI K)))) else (rx_CI L d mX11_of [.inr 125, .inl x3, .inl 0] (rx_up σ 153 x1 x2) (fun v23 σ22 => rx_Go L (d + 1) mX11_lay 111 [some (.inr 125), some (.inl x1), some (.inl x2), some (.inl x3), some (.inl (σ 153 x1)), q5] [] (rx_up σ22 154 x1 v23) (rx_PI K))))) :
    rx_Go L (d + 1) mX11_lay 61 [some (.inr 125), some (.inl x1), some (.inl x2), some (.inl x3), q4, q5] [] σ (rx_PI K) := by
  refine g_al iX11_lay_61 rfl ?_
  refine g_gr iX11_lay_62 fr_11_42_125 ?_
  refine g_il iX11_lay_65 rfl ?_
  obtain ⟨o18, H⟩ := H
  refine g_ld iX11_lay_66 (ln_153 L) o18 ?_
  refine g_is iX11_lay_67 (Nat.le_of_ble_eq_true rfl) ?_
  refine rx_Go.ls (la := [some (.inr 125), some (.inl x1), some (.inl x2), some (.inl x3), some (.inl (σ 153 x1)), q5]) rfl ?_
  refine g_al iX11_lay_69 rfl ?_
  refine g_gr iX11_lay_70 fr_11_42_125 ?_
  refine g_il iX11_lay_73 rfl ?_
  refine g_il iX11_lay_74 rfl ?_
  refine g_st iX11_lay_75 (ln_153 L) (by decide) o18 rfl ?_
  refine g_al iX11_lay_76 rfl ?_
  refine g_gr iX11_lay_77 fr_11_43_125 ?_
  refine g_il iX11_lay_80 rfl ?_
  refine g_il iX11_lay_81 rfl ?_
  refine g_c iX11_lay_82 ?_
  by_cases c19 : x2 ≠ 1
  · rw [if_pos c19] at H
    refine g_ic1t iX11_lay_83 c19 ?_
    refine g_il iX11_lay_95 rfl ?_
    refine g_c iX11_lay_96 ?_
    by_cases c20 : x2 ≠ 2
    · rw [if_pos c20] at H
      refine g_ic1t iX11_lay_97 c20 ?_
      refine g_il iX11_lay_109 rfl ?_
      refine g_st iX11_lay_110 (ln_154 L) (by decide) o18 rfl ?_
      exact H
    · rw [if_neg c20] at H
      refine g_ic1f iX11_lay_97 c20 ?_
      refine g_al iX11_lay_100 rfl ?_
      refine g_gr iX11_lay_101 fr_11_40_125 ?_
      refine g_il iX11_lay_104 rfl ?_
      obtain ⟨o21, H⟩ := H
      refine g_ld iX11_lay_105 (ln_151 L) o21 ?_
      refine g_goto iX11_lay_106 ?_
      refine g_st iX11_lay_110 (ln_154 L) (by decide) o18 rfl ?_
      exact H
  · rw [if_neg c19] at H
    refine g_ic1f iX11_lay_83 c19 ?_
    refine g_al iX11_lay_86 rfl ?_
    refine g_il iX11_lay_87 rfl ?_
    refine g_c iX11_lay_88 ?_
    refine g_ci (as := [.inr 125, .inl x3, .inl 0]) (rest := [.inl x1, .inr 154]) iX11_lay_89 rfl rfl (Nat.le_of_ble_eq_true rfl) (Or.inr ⟨_, _, rfl, oo_11_125⟩) (rx_CI.imp H (fun v23 σ22 H => ?_))
    refine g_goto iX11_lay_92 ?_
    refine g_st iX11_lay_110 (ln_154 L) (by decide) o18 rfl ?_
    exact H
set_option maxRecDepth 20000 in
set_option maxHeartbeats 4000000 in
theorem bX11_lay_111 (L d : Nat) (x1 : Int) (x2 : Int) (x3 : Int) (x4 : Int) (q5 : Option rx_V) (σ : rx_St) (K : Int → rx_St → Prop)
    (H : if x2 ≠ 1 then ((0 ≤ x1 ∧ x1 < 5) ∧ (rx_Go L (d + 1) mX11_lay 141 [some (.inr 125), some (.inl x1), some (.inl x2), some (.inl x3), some (.inl x4), q5] [] (rx_up σ 155 x1 0) (rx_PI K))) else (rx_CI L d mX11_of [.inr 125, .inl x3, .inl 0] σ (fun v27 σ26 => rx_CI L d mX11_of [.inr 125, .inl x3, .inl 3] σ26 (fun v29 σ28 => rx_CI L d mX11_worthBy [.inl v27, .inl v29] σ28 (fun v31 σ30 => (0 ≤ x1 ∧ x1 < 5) ∧ (rx_Go L (d + 1) mX11_lay 141 [some (.inr 125), some (.inl x1), some (.inl x2), some (.inl x3), some (.inl x4), q5] [] (rx_up σ30 155 x1 v31) (rx_PI K))))))) :
    rx_Go L (d + 1) mX11_lay 111 [some (.inr 125), some (.inl x1), some (.inl x2), some (.inl x3), some (.inl x4), q5] [] σ (rx_PI K) := by
  refine g_al iX11_lay_111 rfl ?_
  refine g_gr iX11_lay_112 fr_11_44_125 ?_
  refine g_il iX11_lay_115 rfl ?_
  refine g_il iX11_lay_116 rfl ?_
  refine g_c iX11_lay_117 ?_
  by_cases c24 : x2 ≠ 1
  · rw [if_pos c24] at H
    refine g_ic1t iX11_lay_118 c24 ?_
    refine g_c iX11_lay_139 ?_
    obtain ⟨o25, H⟩ := H
    refine g_st iX11_lay_140 (ln_155 L) (by decide) o25 rfl ?_
    exact H
  · rw [if_neg c24] at H
    refine g_ic1f iX11_lay_118 c24 ?_
    refine g_al iX11_lay_121 rfl ?_
    refine g_il iX11_lay_122 rfl ?_
    refine g_c iX11_lay_123 ?_
    refine g_ci (as := [.inr 125, .inl x3, .inl 0]) (rest := [.inl x1, .inr 155]) iX11_lay_124 rfl rfl (Nat.le_of_ble_eq_true rfl) (Or.inr ⟨_, _, rfl, oo_11_125⟩) (rx_CI.imp H (fun v27 σ26 H => ?_))
    refine g_al iX11_lay_127 rfl ?_
    refine g_il iX11_lay_128 rfl ?_
    refine g_c iX11_lay_129 ?_
    refine g_ci (as := [.inr 125, .inl x3, .inl 3]) (rest := [.inl v27, .inl x1, .inr 155]) iX11_lay_130 rfl rfl (Nat.le_of_ble_eq_true rfl) (Or.inr ⟨_, _, rfl, oo_11_125⟩) (rx_CI.imp H (fun v29 σ28 H => ?_))
    refine g_ci (as := [.inl v27, .inl v29]) (rest := [.inl x1, .inr 155]) iX11_lay_133 rfl rfl (Nat.le_of_ble_eq_true rfl) (Or.inl (by decide)) (rx_CI.imp H (fun v31 σ30 H => ?_))
    refine g_goto iX11_lay_136 ?_
    obtain ⟨o32, H⟩ := H
    refine g_st iX11_lay_140 (ln_155 L) (by decide) o32 rfl ?_
    exact H
set_option maxRecDepth 20000 in
set_option maxHeartbeats 4000000 in
theorem bX11_lay_141 (L d : Nat) (x1 : Int) (x2 : Int) (x3 : Int) (x4 : Int) (q5 : Option rx_V) (σ : rx_St) (K : Int → rx_St → Prop)
    (H : rx_Go L (d + 1) mX11_lay 144 [some (.inr 125), some (.inl x1), some (.inl x2), some (.inl x3), some (.inl x4), some (.inl 0)] [] σ (rx_PI K)) :
    rx_Go L (d + 1) mX11_lay 141 [some (.inr 125), some (.inl x1), some (.inl x2), some (.inl x3), some (.inl x4), q5] [] σ (rx_PI K) := by
  refine g_c iX11_lay_141 ?_
  refine g_is iX11_lay_142 (Nat.le_of_ble_eq_true rfl) ?_
  refine rx_Go.ls (la := [some (.inr 125), some (.inl x1), some (.inl x2), some (.inl x3), some (.inl x4), some (.inl 0)]) rfl ?_
  exact H
set_option maxRecDepth 20000 in
set_option maxHeartbeats 4000000 in
theorem bX11_lay_144 (L d : Nat) (x1 : Int) (x2 : Int) (x3 : Int) (x4 : Int) (x5 : Int) (σ : rx_St) (K : Int → rx_St → Prop)
    (H : if 24 ≤ x5 then (rx_Go L (d + 1) mX11_lay 186 [some (.inr 125), some (.inl x1), some (.inl x2), some (.inl x3), some (.inl x4), some (.inl x5)] [] σ (rx_PI K)) else (if x2 ≠ 2 then (rx_Go L (d + 1) mX11_lay 186 [some (.inr 125), some (.inl x1), some (.inl x2), some (.inl x3), some (.inl x4), some (.inl x5)] [] σ (rx_PI K)) else ((0 ≤ (rx_w ((rx_w (24 * x3)) + x5)) ∧ (rx_w ((rx_w (24 * x3)) + x5)) < 96) ∧ ((0 ≤ (rx_w ((rx_w (24 * x1)) + x5)) ∧ (rx_w ((rx_w (24 * x1)) + x5)) < 120) ∧ (rx_Go L (d + 1) mX11_lay 144 [some (.inr 125), some (.inl x1), some (.inl x2), some (.inl x3), some (.inl x4), some (.inl (rx_w (x5 + 1)))] [] (rx_up σ 156 (rx_w ((rx_w (24 * x1)) + x5)) (σ 152 (rx_w ((rx_w (24 * x3)) + x5)))) (rx_PI K)))))) :
    rx_Go L (d + 1) mX11_lay 144 [some (.inr 125), some (.inl x1), some (.inl x2), some (.inl x3), some (.inl x4), some (.inl x5)] [] σ (rx_PI K) := by
  refine g_il iX11_lay_144 rfl ?_
  refine g_c iX11_lay_146 ?_
  by_cases c33 : 24 ≤ x5
  · rw [if_pos c33] at H
    refine g_ic3t iX11_lay_148 c33 ?_
    exact H
  · rw [if_neg c33] at H
    refine g_ic3f iX11_lay_148 c33 ?_
    refine g_il iX11_lay_151 rfl ?_
    refine g_c iX11_lay_152 ?_
    by_cases c34 : x2 ≠ 2
    · rw [if_pos c34] at H
      refine g_ic1t iX11_lay_153 c34 ?_
      exact H
    · rw [if_neg c34] at H
      refine g_ic1f iX11_lay_153 c34 ?_
      refine g_al iX11_lay_156 rfl ?_
      refine g_gr iX11_lay_157 fr_11_45_125 ?_
      refine g_c iX11_lay_160 ?_
      refine g_il iX11_lay_162 rfl ?_
      refine g_mul iX11_lay_163 ?_
      refine g_il iX11_lay_164 rfl ?_
      refine g_add iX11_lay_166 ?_
      refine g_al iX11_lay_167 rfl ?_
      refine g_gr iX11_lay_168 fr_11_41_125 ?_
      refine g_c iX11_lay_171 ?_
      refine g_il iX11_lay_173 rfl ?_
      refine g_mul iX11_lay_174 ?_
      refine g_il iX11_lay_175 rfl ?_
      refine g_add iX11_lay_177 ?_
      obtain ⟨o35, H⟩ := H
      refine g_ld iX11_lay_178 (ln_152 L) o35 ?_
      obtain ⟨o36, H⟩ := H
      refine g_st iX11_lay_179 (ln_156 L) (by decide) o36 rfl ?_
      refine g_ii iX11_lay_180 rfl ?_
      refine rx_Go.ls (la := [some (.inr 125), some (.inl x1), some (.inl x2), some (.inl x3), some (.inl x4), some (.inl (rx_w (x5 + 1)))]) rfl ?_
      refine g_goto iX11_lay_183 ?_
      exact H
set_option maxRecDepth 20000 in
set_option maxHeartbeats 4000000 in
theorem bX11_lay_186 (L d : Nat) (q0 : Option rx_V) (q1 : Option rx_V) (q2 : Option rx_V) (q3 : Option rx_V) (x4 : Int) (q5 : Option rx_V) (σ : rx_St) (K : Int → rx_St → Prop)
    (H : K x4 σ) :
    rx_Go L (d + 1) mX11_lay 186 [q0, q1, q2, q3, some (.inl x4), q5] [] σ (rx_PI K) := by
  refine g_il iX11_lay_186 rfl ?_
  exact g_ri iX11_lay_188 (Or.inl rfl) H
set_option maxRecDepth 20000 in
set_option maxHeartbeats 4000000 in
theorem bX11_ask (L d : Nat) (x1 : Int) (x2 : Int) (σ : rx_St) (K : Int → rx_St → Prop)
    (H : rx_CI L d mX11_isSlot [.inl x1] σ (fun v2 σ1 => if v2 = 0 then (K (-1000000001) σ1) else (rx_CI L d mX11_in [.inl x2, .inl 0, .inl 5] σ1 (fun v5 σ4 => if v5 ≠ 0 then ((0 ≤ x1 ∧ x1 < 5) ∧ (if (σ4 153 x1) ≠ 0 then (if (σ4 153 x1) ≠ 1 then (K (-1000000012) σ4) else (rx_CI L d mX11_isUnder [.inl (σ4 154 x1), .inl x2] σ4 (fun v11 σ10 => if v11 = 0 then (K (-1000000012) σ10) else (K (σ10 155 x1) σ10)))) else (K (-1000000011) σ4))) else (K (-1000000001) σ4))))) :
    rx_CI L (d + 1) mX11_ask [.inr 125, .inl x1, .inl x2] σ K := by
  refine rx_CI.of (la := [some (.inr 125), some (.inl x1), some (.inl x2)]) rfl ?_
  refine g_il iX11_ask_0 rfl ?_
  refine g_ci (as := [.inl x1]) (rest := []) iX11_ask_1 rfl rfl (Nat.le_of_ble_eq_true rfl) (Or.inl (by decide)) (rx_CI.imp H (fun v2 σ1 H => ?_))
  by_cases c3 : v2 = 0
  · rw [if_pos c3] at H
    refine g_if0t iX11_ask_4 c3 ?_
    refine g_c iX11_ask_16 ?_
    exact g_ri iX11_ask_18 (Or.inl rfl) H
  · rw [if_neg c3] at H
    refine g_if0f iX11_ask_4 c3 ?_
    refine g_il iX11_ask_7 rfl ?_
    refine g_c iX11_ask_8 ?_
    refine g_c iX11_ask_9 ?_
    refine g_ci (as := [.inl x2, .inl 0, .inl 5]) (rest := []) iX11_ask_10 rfl rfl (Nat.le_of_ble_eq_true rfl) (Or.inl (by decide)) (rx_CI.imp H (fun v5 σ4 H => ?_))
    by_cases c6 : v5 ≠ 0
    · rw [if_pos c6] at H
      refine g_if1t iX11_ask_13 c6 ?_
      refine g_al iX11_ask_19 rfl ?_
      refine g_gr iX11_ask_20 fr_11_42_125 ?_
      refine g_il iX11_ask_23 rfl ?_
      obtain ⟨o7, H⟩ := H
      refine g_ld iX11_ask_24 (ln_153 L) o7 ?_
      by_cases c8 : (σ4 153 x1) ≠ 0
      · rw [if_pos c8] at H
        refine g_if1t iX11_ask_25 c8 ?_
        refine g_al iX11_ask_31 rfl ?_
        refine g_gr iX11_ask_32 fr_11_42_125 ?_
        refine g_il iX11_ask_35 rfl ?_
        refine g_ld iX11_ask_36 (ln_153 L) o7 ?_
        refine g_c iX11_ask_37 ?_
        by_cases c9 : (σ4 153 x1) ≠ 1
        · rw [if_pos c9] at H
          refine g_ic1t iX11_ask_38 c9 ?_
          refine g_c iX11_ask_63 ?_
          exact g_ri iX11_ask_65 (Or.inl rfl) H
        · rw [if_neg c9] at H
          refine g_ic1f iX11_ask_38 c9 ?_
          refine g_al iX11_ask_41 rfl ?_
          refine g_gr iX11_ask_42 fr_11_43_125 ?_
          refine g_il iX11_ask_45 rfl ?_
          refine g_ld iX11_ask_46 (ln_154 L) o7 ?_
          refine g_il iX11_ask_47 rfl ?_
          refine g_ci (as := [.inl (σ4 154 x1), .inl x2]) (rest := []) iX11_ask_48 rfl rfl (Nat.le_of_ble_eq_true rfl) (Or.inl (by decide)) (rx_CI.imp H (fun v11 σ10 H => ?_))
          by_cases c12 : v11 = 0
          · rw [if_pos c12] at H
            refine g_if0t iX11_ask_51 c12 ?_
            refine g_c iX11_ask_63 ?_
            exact g_ri iX11_ask_65 (Or.inl rfl) H
          · rw [if_neg c12] at H
            refine g_if0f iX11_ask_51 c12 ?_
            refine g_al iX11_ask_54 rfl ?_
            refine g_gr iX11_ask_55 fr_11_44_125 ?_
            refine g_il iX11_ask_58 rfl ?_
            refine g_ld iX11_ask_59 (ln_155 L) o7 ?_
            refine g_goto iX11_ask_60 ?_
            exact g_ri iX11_ask_65 (Or.inl rfl) H
      · rw [if_neg c8] at H
        refine g_if1f iX11_ask_25 c8 ?_
        refine g_c iX11_ask_28 ?_
        exact g_ri iX11_ask_30 (Or.inl rfl) H
    · rw [if_neg c6] at H
      refine g_if1f iX11_ask_13 c6 ?_
      refine g_c iX11_ask_16 ?_
      exact g_ri iX11_ask_18 (Or.inl rfl) H
set_option maxRecDepth 20000 in
set_option maxHeartbeats 4000000 in
theorem bX11_item (L d : Nat) (x1 : Int) (x2 : Int) (σ : rx_St) (K : Int → rx_St → Prop)
    (H : rx_CI L d mX11_isSlot [.inl x1] σ (fun v2 σ1 => if v2 ≠ 0 then ((0 ≤ x1 ∧ x1 < 5) ∧ (if (σ1 153 x1) ≠ 0 then (if (σ1 153 x1) = 2 then (rx_CI L d mX11_in [.inl x2, .inl 0, .inl (rx_w ((σ1 154 x1) - 1))] σ1 (fun v8 σ7 => if v8 ≠ 0 then ((0 ≤ (rx_w ((rx_w (24 * x1)) + x2)) ∧ (rx_w ((rx_w (24 * x1)) + x2)) < 120) ∧ (if (σ7 156 (rx_w ((rx_w (24 * x1)) + x2))) ≠ (-1000000005) then (K (σ7 156 (rx_w ((rx_w (24 * x1)) + x2))) σ7) else (K (-1000000012) σ7))) else (K (-1000000013) σ7))) else (K (-1000000012) σ1)) else (K (-1000000011) σ1))) else (K (-1000000001) σ1))) :
    rx_CI L (d + 1) mX11_item [.inr 125, .inl x1, .inl x2] σ K := by
  refine rx_CI.of (la := [some (.inr 125), some (.inl x1), some (.inl x2), none]) rfl ?_
  refine g_il iX11_item_0 rfl ?_
  refine g_ci (as := [.inl x1]) (rest := []) iX11_item_1 rfl rfl (Nat.le_of_ble_eq_true rfl) (Or.inl (by decide)) (rx_CI.imp H (fun v2 σ1 H => ?_))
  by_cases c3 : v2 ≠ 0
  · rw [if_pos c3] at H
    refine g_if1t iX11_item_4 c3 ?_
    refine g_al iX11_item_10 rfl ?_
    refine g_gr iX11_item_11 fr_11_42_125 ?_
    refine g_il iX11_item_14 rfl ?_
    obtain ⟨o4, H⟩ := H
    refine g_ld iX11_item_15 (ln_153 L) o4 ?_
    by_cases c5 : (σ1 153 x1) ≠ 0
    · rw [if_pos c5] at H
      refine g_if1t iX11_item_16 c5 ?_
      refine g_al iX11_item_22 rfl ?_
      refine g_gr iX11_item_23 fr_11_42_125 ?_
      refine g_il iX11_item_26 rfl ?_
      refine g_ld iX11_item_27 (ln_153 L) o4 ?_
      refine g_c iX11_item_28 ?_
      by_cases c6 : (σ1 153 x1) = 2
      · rw [if_pos c6] at H
        refine g_ic0t iX11_item_29 c6 ?_
        refine g_il iX11_item_35 rfl ?_
        refine g_c iX11_item_36 ?_
        refine g_al iX11_item_37 rfl ?_
        refine g_gr iX11_item_38 fr_11_43_125 ?_
        refine g_il iX11_item_41 rfl ?_
        refine g_ld iX11_item_42 (ln_154 L) o4 ?_
        refine g_c iX11_item_43 ?_
        refine g_sub iX11_item_44 ?_
        refine g_ci (as := [.inl x2, .inl 0, .inl (rx_w ((σ1 154 x1) - 1))]) (rest := []) iX11_item_45 rfl rfl (Nat.le_of_ble_eq_true rfl) (Or.inl (by decide)) (rx_CI.imp H (fun v8 σ7 H => ?_))
        by_cases c9 : v8 ≠ 0
        · rw [if_pos c9] at H
          refine g_if1t iX11_item_48 c9 ?_
          refine g_al iX11_item_55 rfl ?_
          refine g_gr iX11_item_56 fr_11_45_125 ?_
          refine g_c iX11_item_59 ?_
          refine g_il iX11_item_61 rfl ?_
          refine g_mul iX11_item_62 ?_
          refine g_il iX11_item_63 rfl ?_
          refine g_add iX11_item_64 ?_
          obtain ⟨o10, H⟩ := H
          refine g_ld iX11_item_65 (ln_156 L) o10 ?_
          refine g_is iX11_item_66 (Nat.le_of_ble_eq_true rfl) ?_
          refine rx_Go.ls (la := [some (.inr 125), some (.inl x1), some (.inl x2), some (.inl (σ7 156 (rx_w ((rx_w (24 * x1)) + x2))))]) rfl ?_
          refine g_il iX11_item_67 rfl ?_
          refine g_c iX11_item_68 ?_
          by_cases c11 : (σ7 156 (rx_w ((rx_w (24 * x1)) + x2))) ≠ (-1000000005)
          · rw [if_pos c11] at H
            refine g_ic1t iX11_item_70 c11 ?_
            refine g_il iX11_item_78 rfl ?_
            exact g_ri iX11_item_79 (Or.inl rfl) H
          · rw [if_neg c11] at H
            refine g_ic1f iX11_item_70 c11 ?_
            refine g_c iX11_item_73 ?_
            refine g_goto iX11_item_75 ?_
            exact g_ri iX11_item_79 (Or.inl rfl) H
        · rw [if_neg c9] at H
          refine g_if1f iX11_item_48 c9 ?_
          refine g_c iX11_item_51 ?_
          exact g_ri iX11_item_54 (Or.inl rfl) H
      · rw [if_neg c6] at H
        refine g_ic0f iX11_item_29 c6 ?_
        refine g_c iX11_item_32 ?_
        exact g_ri iX11_item_34 (Or.inl rfl) H
    · rw [if_neg c5] at H
      refine g_if1f iX11_item_16 c5 ?_
      refine g_c iX11_item_19 ?_
      exact g_ri iX11_item_21 (Or.inl rfl) H
  · rw [if_neg c3] at H
    refine g_if1f iX11_item_4 c3 ?_
    refine g_c iX11_item_7 ?_
    exact g_ri iX11_item_9 (Or.inl rfl) H
set_option maxRecDepth 20000 in
set_option maxHeartbeats 4000000 in
theorem bX11_rest (L d : Nat) (x1 : Int) (x2 : Int) (σ : rx_St) (K : Int → rx_St → Prop)
    (H : rx_CI L d mX11_isSlot [.inl x1] σ (fun v2 σ1 => if v2 ≠ 0 then ((0 ≤ x1 ∧ x1 < 5) ∧ (if (σ1 153 x1) ≠ 0 then (if (σ1 153 x1) = 3 then (if x2 ≠ 0 then (if x2 ≠ (-1) then (¬ x2 = 0 ∧ (K (Int.tmod (σ1 154 x1) x2) σ1)) else (K 0 σ1)) else (K (-1000000002) σ1)) else (K (-1000000012) σ1)) else (K (-1000000011) σ1))) else (K (-1000000001) σ1))) :
    rx_CI L (d + 1) mX11_rest [.inr 125, .inl x1, .inl x2] σ K := by
  refine rx_CI.of (la := [some (.inr 125), some (.inl x1), some (.inl x2)]) rfl ?_
  refine g_il iX11_rest_0 rfl ?_
  refine g_ci (as := [.inl x1]) (rest := []) iX11_rest_1 rfl rfl (Nat.le_of_ble_eq_true rfl) (Or.inl (by decide)) (rx_CI.imp H (fun v2 σ1 H => ?_))
  by_cases c3 : v2 ≠ 0
  · rw [if_pos c3] at H
    refine g_if1t iX11_rest_4 c3 ?_
    refine g_al iX11_rest_10 rfl ?_
    refine g_gr iX11_rest_11 fr_11_42_125 ?_
    refine g_il iX11_rest_14 rfl ?_
    obtain ⟨o4, H⟩ := H
    refine g_ld iX11_rest_15 (ln_153 L) o4 ?_
    by_cases c5 : (σ1 153 x1) ≠ 0
    · rw [if_pos c5] at H
      refine g_if1t iX11_rest_16 c5 ?_
      refine g_al iX11_rest_22 rfl ?_
      refine g_gr iX11_rest_23 fr_11_42_125 ?_
      refine g_il iX11_rest_26 rfl ?_
      refine g_ld iX11_rest_27 (ln_153 L) o4 ?_
      refine g_c iX11_rest_28 ?_
      by_cases c6 : (σ1 153 x1) = 3
      · rw [if_pos c6] at H
        refine g_ic0t iX11_rest_29 c6 ?_
        refine g_il iX11_rest_35 rfl ?_
        by_cases c7 : x2 ≠ 0
        · rw [if_pos c7] at H
          refine g_if1t iX11_rest_36 c7 ?_
          refine g_il iX11_rest_44 rfl ?_
          refine g_c iX11_rest_45 ?_
          by_cases c8 : x2 ≠ (-1)
          · rw [if_pos c8] at H
            refine g_ic1t iX11_rest_46 c8 ?_
            refine g_al iX11_rest_53 rfl ?_
            refine g_gr iX11_rest_54 fr_11_43_125 ?_
            refine g_il iX11_rest_57 rfl ?_
            refine g_ld iX11_rest_58 (ln_154 L) o4 ?_
            refine g_il iX11_rest_59 rfl ?_
            obtain ⟨o9, H⟩ := H
            refine g_rem iX11_rest_60 o9 ?_
            exact g_ri iX11_rest_61 (Or.inl rfl) H
          · rw [if_neg c8] at H
            refine g_ic1f iX11_rest_46 c8 ?_
            refine g_c iX11_rest_49 ?_
            refine g_goto iX11_rest_50 ?_
            exact g_ri iX11_rest_61 (Or.inl rfl) H
        · rw [if_neg c7] at H
          refine g_if1f iX11_rest_36 c7 ?_
          refine g_c iX11_rest_39 ?_
          refine g_goto iX11_rest_41 ?_
          exact g_ri iX11_rest_61 (Or.inl rfl) H
      · rw [if_neg c6] at H
        refine g_ic0f iX11_rest_29 c6 ?_
        refine g_c iX11_rest_32 ?_
        exact g_ri iX11_rest_34 (Or.inl rfl) H
    · rw [if_neg c5] at H
      refine g_if1f iX11_rest_16 c5 ?_
      refine g_c iX11_rest_19 ?_
      exact g_ri iX11_rest_21 (Or.inl rfl) H
  · rw [if_neg c3] at H
    refine g_if1f iX11_rest_4 c3 ?_
    refine g_c iX11_rest_7 ?_
    exact g_ri iX11_rest_9 (Or.inl rfl) H
set_option maxRecDepth 20000 in
set_option maxHeartbeats 4000000 in
theorem bX11_tell (L d : Nat) (x1 : Int) (σ : rx_St) (K : Int → rx_St → Prop)
    (H : if (σ 125 48) ≠ 60 then ((0 ≤ (σ 125 48) ∧ (σ 125 48) < 60) ∧ (K ((rx_up (rx_up σ 158 (σ 125 48) x1) 125 48 (rx_w (((rx_up σ 158 (σ 125 48) x1) 125 48) + 1))) 125 48) (rx_up (rx_up σ 158 (σ 125 48) x1) 125 48 (rx_w (((rx_up σ 158 (σ 125 48) x1) 125 48) + 1))))) else (K (-1000000003) σ)) :
    rx_CI L d mX11_tell [.inr 125, .inl x1] σ K := by
  refine rx_CI.of (la := [some (.inr 125), some (.inl x1)]) rfl ?_
  refine g_al iX11_tell_0 rfl ?_
  refine g_gf (kI := 48) rfl iX11_tell_1 fi_11_48_125 ?_
  refine g_c iX11_tell_4 ?_
  by_cases c1 : (σ 125 48) ≠ 60
  · rw [if_pos c1] at H
    refine g_ic1t iX11_tell_6 c1 ?_
    refine g_al iX11_tell_12 rfl ?_
    refine g_gr iX11_tell_13 fr_11_47_125 ?_
    refine g_al iX11_tell_16 rfl ?_
    refine g_gf (kI := 48) rfl iX11_tell_17 fi_11_48_125 ?_
    refine g_il iX11_tell_20 rfl ?_
    obtain ⟨o2, H⟩ := H
    refine g_st iX11_tell_21 (ln_158 L) (by decide) o2 rfl ?_
    refine g_al iX11_tell_22 rfl ?_
    refine g_dup iX11_tell_23 ?_
    refine g_gf (kI := 48) rfl iX11_tell_24 fi_11_48_125 ?_
    refine g_c iX11_tell_27 ?_
    refine g_add iX11_tell_28 ?_
    refine g_pf (kI := 48) rfl iX11_tell_29 fi_11_48_125 (Or.inl rfl) ?_
    refine g_al iX11_tell_32 rfl ?_
    refine g_gf (kI := 48) rfl iX11_tell_33 fi_11_48_125 ?_
    exact g_ri iX11_tell_36 (Or.inl rfl) H
  · rw [if_neg c1] at H
    refine g_ic1f iX11_tell_6 c1 ?_
    refine g_c iX11_tell_9 ?_
    exact g_ri iX11_tell_11 (Or.inl rfl) H
set_option maxRecDepth 20000 in
set_option maxHeartbeats 4000000 in
theorem bX11_rightSwaps (L d : Nat) (x1 : Int) (x2 : Int) (σ : rx_St) (K : Int → rx_St → Prop)
    (H : rx_Go L (d + 1) mX11_rightSwaps 5 [some (.inr 125), some (.inl x1), some (.inl x2), some (.inl 0), some (.inl 0)] [] σ (rx_PI K)) :
    rx_CI L (d + 1) mX11_rightSwaps [.inr 125, .inl x1, .inl x2] σ K := by
  refine rx_CI.of (la := [some (.inr 125), some (.inl x1), some (.inl x2), none, none]) rfl ?_
  refine g_c iX11_rightSwaps_0 ?_
  refine g_is iX11_rightSwaps_1 (Nat.le_of_ble_eq_true rfl) ?_
  refine rx_Go.ls (la := [some (.inr 125), some (.inl x1), some (.inl x2), some (.inl 0), none]) rfl ?_
  refine g_c iX11_rightSwaps_2 ?_
  refine g_is iX11_rightSwaps_3 (Nat.le_of_ble_eq_true rfl) ?_
  refine rx_Go.ls (la := [some (.inr 125), some (.inl x1), some (.inl x2), some (.inl 0), some (.inl 0)]) rfl ?_
  exact H
set_option maxRecDepth 20000 in
set_option maxHeartbeats 4000000 in
theorem bX11_rightSwaps_5 (L d : Nat) (x1 : Int) (x2 : Int) (x3 : Int) (x4 : Int) (σ : rx_St) (K : Int → rx_St → Prop)
    (H : if x1 ≤ x4 then (rx_Go L (d + 1) mX11_rightSwaps 116 [some (.inr 125), some (.inl x1), some (.inl x2), some (.inl x3), some (.inl x4)] [] σ (rx_PI K)) else (if x3 ≠ (rx_w (2 * x4)) then (rx_Go L (d + 1) mX11_rightSwaps 116 [some (.inr 125), some (.inl x1), some (.inl x2), some (.inl x3), some (.inl x4)] [] σ (rx_PI K)) else (rx_CV L d mX11_findSwap [.inr 125] σ (fun σ3 => if (σ3 125 7) < 0 then (rx_Go L (d + 1) mX11_rightSwaps 48 [some (.inr 125), some (.inl x1), some (.inl x2), some (.inl x3), some (.inl x4)] [] σ3 (rx_PI K)) else (rx_CV L d mX11_swap [.inr 125, .inl (rx_w (Int.tdiv (σ3 125 7) 10)), .inl (Int.tmod (σ3 125 7) 10)] σ3 (fun σ5 => rx_Go L (d + 1) mX11_rightSwaps 48 [some (.inr 125), some (.inl x1), some (.inl x2), some (.inl x3), some (.inl x4)] [] σ5 (rx_PI K))))))) :
    rx_Go L (d + 1) mX11_rightSwaps 5 [some (.inr 125), some (.inl x1), some (.inl x2), some (.inl x3), some (.inl x4)] [] σ (rx_PI K) := by
  refine g_il iX11_rightSwaps_5 rfl ?_
  refine g_il iX11_rightSwaps_7 rfl ?_
  by_cases c1 : x1 ≤ x4
  · rw [if_pos c1] at H
    refine g_ic3t iX11_rightSwaps_8 c1 ?_
    exact H
  · rw [if_neg c1] at H
    refine g_ic3f iX11_rightSwaps_8 c1 ?_
    refine g_il iX11_rightSwaps_11 rfl ?_
    refine g_c iX11_rightSwaps_12 ?_
    refine g_il iX11_rightSwaps_13 rfl ?_
    refine g_mul iX11_rightSwaps_15 ?_
    by_cases c2 : x3 ≠ (rx_w (2 * x4))
    · rw [if_pos c2] at H
      refine g_ic1t iX11_rightSwaps_16 c2 ?_
      exact H
    · rw [if_neg c2] at H
      refine g_ic1f iX11_rightSwaps_16 c2 ?_
      refine g_al iX11_rightSwaps_19 rfl ?_
      refine g_cv (as := [.inr 125]) (rest := []) iX11_rightSwaps_20 rfl rfl (Nat.le_of_ble_eq_true rfl) (Or.inr ⟨_, _, rfl, oo_11_125⟩) (rx_CV.imp H (fun σ3 H => ?_))
      refine g_al iX11_rightSwaps_23 rfl ?_
      refine g_gf (kI := 7) rfl iX11_rightSwaps_24 fi_11_7_125 ?_
      by_cases c4 : (σ3 125 7) < 0
      · rw [if_pos c4] at H
        refine g_if2t iX11_rightSwaps_27 c4 ?_
        exact H
      · rw [if_neg c4] at H
        refine g_if2f iX11_rightSwaps_27 c4 ?_
        refine g_al iX11_rightSwaps_30 rfl ?_
        refine g_al iX11_rightSwaps_31 rfl ?_
        refine g_gf (kI := 7) rfl iX11_rightSwaps_32 fi_11_7_125 ?_
        refine g_c iX11_rightSwaps_35 ?_
        refine g_div iX11_rightSwaps_37 (by decide) ?_
        refine g_al iX11_rightSwaps_38 rfl ?_
        refine g_gf (kI := 7) rfl iX11_rightSwaps_39 fi_11_7_125 ?_
        refine g_c iX11_rightSwaps_42 ?_
        refine g_rem iX11_rightSwaps_44 (by decide) ?_
        refine g_cv (as := [.inr 125, .inl (rx_w (Int.tdiv (σ3 125 7) 10)), .inl (Int.tmod (σ3 125 7) 10)]) (rest := []) iX11_rightSwaps_45 rfl rfl (Nat.le_of_ble_eq_true rfl) (Or.inr ⟨_, _, rfl, oo_11_125⟩) (rx_CV.imp H (fun σ5 H => ?_))
        exact H
set_option maxRecDepth 20000 in
set_option maxHeartbeats 4000000 in
theorem bX11_rightSwaps_116 (L d : Nat) (q0 : Option rx_V) (q1 : Option rx_V) (q2 : Option rx_V) (x3 : Int) (q4 : Option rx_V) (σ : rx_St) (K : Int → rx_St → Prop)
    (H : K x3 σ) :
    rx_Go L (d + 1) mX11_rightSwaps 116 [q0, q1, q2, some (.inl x3), q4] [] σ (rx_PI K) := by
  refine g_il iX11_rightSwaps_116 rfl ?_
  exact g_ri iX11_rightSwaps_117 (Or.inl rfl) H
set_option maxRecDepth 20000 in
set_option maxHeartbeats 4000000 in
theorem bX11_rightSwaps_48 (L d : Nat) (x1 : Int) (x2 : Int) (x3 : Int) (x4 : Int) (σ : rx_St) (K : Int → rx_St → Prop)
    (H : if x2 ≤ x3 then (if (rx_w (x3 + 0)) ≠ (rx_w ((rx_w (2 * x4)) + 1)) then (rx_Go L (d + 1) mX11_rightSwaps 5 [some (.inr 125), some (.inl x1), some (.inl x2), some (.inl (rx_w ((rx_w (x3 + 0)) + 0))), some (.inl (rx_w (x4 + 1)))] [] σ (rx_PI K)) else (if x2 ≤ (rx_w (x3 + 0)) then (rx_Go L (d + 1) mX11_rightSwaps 5 [some (.inr 125), some (.inl x1), some (.inl x2), some (.inl (rx_w ((rx_w (x3 + 0)) + 0))), some (.inl (rx_w (x4 + 1)))] [] σ (rx_PI K)) else ((0 ≤ (rx_w (x3 + 0)) ∧ (rx_w (x3 + 0)) < 60) ∧ (if (σ 158 (rx_w (x3 + 0))) ≠ (σ 125 8) then (rx_Go L (d + 1) mX11_rightSwaps 5 [some (.inr 125), some (.inl x1), some (.inl x2), some (.inl (rx_w ((rx_w (x3 + 0)) + 0))), some (.inl (rx_w (x4 + 1)))] [] σ (rx_PI K)) else (rx_Go L (d + 1) mX11_rightSwaps 5 [some (.inr 125), some (.inl x1), some (.inl x2), some (.inl (rx_w ((rx_w (x3 + 0)) + 1))), some (.inl (rx_w (x4 + 1)))] [] σ (rx_PI K)))))) else ((0 ≤ x3 ∧ x3 < 60) ∧ (if (σ 158 x3) ≠ (σ 125 7) then (if (rx_w (x3 + 0)) ≠ (rx_w ((rx_w (2 * x4)) + 1)) then (rx_Go L (d + 1) mX11_rightSwaps 5 [some (.inr 125), some (.inl x1), some (.inl x2), some (.inl (rx_w ((rx_w (x3 + 0)) + 0))), some (.inl (rx_w (x4 + 1)))] [] σ (rx_PI K)) else (if x2 ≤ (rx_w (x3 + 0)) then (rx_Go L (d + 1) mX11_rightSwaps 5 [some (.inr 125), some (.inl x1), some (.inl x2), some (.inl (rx_w ((rx_w (x3 + 0)) + 0))), some (.inl (rx_w (x4 + 1)))] [] σ (rx_PI K)) else ((0 ≤ (rx_w (x3 + 0)) ∧ (rx_w (x3 + 0)) < 60) ∧ (if (σ 158 (rx_w (x3 + 0))) ≠ (σ 125 8) then (rx_Go L (d + 1) mX11_rightSwaps 5 [some (.inr 125), some (.inl x1), some (.inl x2), some (.inl (rx_w ((rx_w (x3 + 0)) + 0))), some (.inl (rx_w (x4 + 1)))] [] σ (rx_PI K)) else (rx_Go L (d + 1) mX11_rightSwaps 5 [some (.inr 125), some (.inl x1), some (.inl x2), some (.inl (rx_w ((rx_w (x3 + 0)) + 1))), some (.inl (rx_w (x4 + 1)))] [] σ (rx_PI K)))))) else (if (rx_w (x3 + 1)) ≠ (rx_w ((rx_w (2 * x4)) + 1)) then (rx_Go L (d + 1) mX11_rightSwaps 5 [some (.inr 125), some (.inl x1), some (.inl x2), some (.inl (rx_w ((rx_w (x3 + 1)) + 0))), some (.inl (rx_w (x4 + 1)))] [] σ (rx_PI K)) else (if x2 ≤ (rx_w (x3 + 1)) then (rx_Go L (d + 1) mX11_rightSwaps 5 [some (.inr 125), some (.inl x1), some (.inl x2), some (.inl (rx_w ((rx_w (x3 + 1)) + 0))), some (.inl (rx_w (x4 + 1)))] [] σ (rx_PI K)) else ((0 ≤ (rx_w (x3 + 1)) ∧ (rx_w (x3 + 1)) < 60) ∧ (if (σ 158 (rx_w (x3 + 1))) ≠ (σ 125 8) then (rx_Go L (d + 1) mX11_rightSwaps 5 [some (.inr 125), some (.inl x1), some (.inl x2), some (.inl (rx_w ((rx_w (x3 + 1)) + 0))), some (.inl (rx_w (x4 + 1)))] [] σ (rx_PI K)) else (rx_Go L (d + 1) mX11_rightSwaps 5 [some (.inr 125), some (.inl x1), some (.inl x2), some (.inl (rx_w ((rx_w (x3 + 1)) + 1))), some (.inl (rx_w (x4 + 1)))] [] σ (rx_PI K))))))))) :
    rx_Go L (d + 1) mX11_rightSwaps 48 [some (.inr 125), some (.inl x1), some (.inl x2), some (.inl x3), some (.inl x4)] [] σ (rx_PI K) := by
  refine g_il iX11_rightSwaps_48 rfl ?_
  refine g_il iX11_rightSwaps_49 rfl ?_
  refine g_il iX11_rightSwaps_50 rfl ?_
  by_cases c6 : x2 ≤ x3
  · rw [if_pos c6] at H
    refine g_ic3t iX11_rightSwaps_51 c6 ?_
    refine g_c iX11_rightSwaps_71 ?_
    refine g_add iX11_rightSwaps_72 ?_
    refine g_is iX11_rightSwaps_73 (Nat.le_of_ble_eq_true rfl) ?_
    refine rx_Go.ls (la := [some (.inr 125), some (.inl x1), some (.inl x2), some (.inl (rx_w (x3 + 0))), some (.inl x4)]) rfl ?_
    refine g_il iX11_rightSwaps_74 rfl ?_
    refine g_il iX11_rightSwaps_75 rfl ?_
    refine g_c iX11_rightSwaps_76 ?_
    refine g_il iX11_rightSwaps_77 rfl ?_
    refine g_mul iX11_rightSwaps_79 ?_
    refine g_c iX11_rightSwaps_80 ?_
    refine g_add iX11_rightSwaps_81 ?_
    by_cases c7 : (rx_w (x3 + 0)) ≠ (rx_w ((rx_w (2 * x4)) + 1))
    · rw [if_pos c7] at H
      refine g_ic1t iX11_rightSwaps_82 c7 ?_
      refine g_c iX11_rightSwaps_107 ?_
      refine g_add iX11_rightSwaps_108 ?_
      refine g_is iX11_rightSwaps_109 (Nat.le_of_ble_eq_true rfl) ?_
      refine rx_Go.ls (la := [some (.inr 125), some (.inl x1), some (.inl x2), some (.inl (rx_w ((rx_w (x3 + 0)) + 0))), some (.inl x4)]) rfl ?_
      refine g_ii iX11_rightSwaps_110 rfl ?_
      refine rx_Go.ls (la := [some (.inr 125), some (.inl x1), some (.inl x2), some (.inl (rx_w ((rx_w (x3 + 0)) + 0))), some (.inl (rx_w (x4 + 1)))]) rfl ?_
      refine g_goto iX11_rightSwaps_113 ?_
      exact H
    · rw [if_neg c7] at H
      refine g_ic1f iX11_rightSwaps_82 c7 ?_
      refine g_il iX11_rightSwaps_85 rfl ?_
      refine g_il iX11_rightSwaps_86 rfl ?_
      by_cases c8 : x2 ≤ (rx_w (x3 + 0))
      · rw [if_pos c8] at H
        refine g_ic3t iX11_rightSwaps_87 c8 ?_
        refine g_c iX11_rightSwaps_107 ?_
        refine g_add iX11_rightSwaps_108 ?_
        refine g_is iX11_rightSwaps_109 (Nat.le_of_ble_eq_true rfl) ?_
        refine rx_Go.ls (la := [some (.inr 125), some (.inl x1), some (.inl x2), some (.inl (rx_w ((rx_w (x3 + 0)) + 0))), some (.inl x4)]) rfl ?_
        refine g_ii iX11_rightSwaps_110 rfl ?_
        refine rx_Go.ls (la := [some (.inr 125), some (.inl x1), some (.inl x2), some (.inl (rx_w ((rx_w (x3 + 0)) + 0))), some (.inl (rx_w (x4 + 1)))]) rfl ?_
        refine g_goto iX11_rightSwaps_113 ?_
        exact H
      · rw [if_neg c8] at H
        refine g_ic3f iX11_rightSwaps_87 c8 ?_
        refine g_al iX11_rightSwaps_90 rfl ?_
        refine g_gr iX11_rightSwaps_91 fr_11_47_125 ?_
        refine g_il iX11_rightSwaps_94 rfl ?_
        obtain ⟨o9, H⟩ := H
        refine g_ld iX11_rightSwaps_95 (ln_158 L) o9 ?_
        refine g_al iX11_rightSwaps_96 rfl ?_
        refine g_gf (kI := 8) rfl iX11_rightSwaps_97 fi_11_8_125 ?_
        by_cases c10 : (σ 158 (rx_w (x3 + 0))) ≠ (σ 125 8)
        · rw [if_pos c10] at H
          refine g_ic1t iX11_rightSwaps_100 c10 ?_
          refine g_c iX11_rightSwaps_107 ?_
          refine g_add iX11_rightSwaps_108 ?_
          refine g_is iX11_rightSwaps_109 (Nat.le_of_ble_eq_true rfl) ?_
          refine rx_Go.ls (la := [some (.inr 125), some (.inl x1), some (.inl x2), some (.inl (rx_w ((rx_w (x3 + 0)) + 0))), some (.inl x4)]) rfl ?_
          refine g_ii iX11_rightSwaps_110 rfl ?_
          refine rx_Go.ls (la := [some (.inr 125), some (.inl x1), some (.inl x2), some (.inl (rx_w ((rx_w (x3 + 0)) + 0))), some (.inl (rx_w (x4 + 1)))]) rfl ?_
          refine g_goto iX11_rightSwaps_113 ?_
          exact H
        · rw [if_neg c10] at H
          refine g_ic1f iX11_rightSwaps_100 c10 ?_
          refine g_c iX11_rightSwaps_103 ?_
          refine g_goto iX11_rightSwaps_104 ?_
          refine g_add iX11_rightSwaps_108 ?_
          refine g_is iX11_rightSwaps_109 (Nat.le_of_ble_eq_true rfl) ?_
          refine rx_Go.ls (la := [some (.inr 125), some (.inl x1), some (.inl x2), some (.inl (rx_w ((rx_w (x3 + 0)) + 1))), some (.inl x4)]) rfl ?_
          refine g_ii iX11_rightSwaps_110 rfl ?_
          refine rx_Go.ls (la := [some (.inr 125), some (.inl x1), some (.inl x2), some (.inl (rx_w ((rx_w (x3 + 0)) + 1))), some (.inl (rx_w (x4 + 1)))]) rfl ?_
          refine g_goto iX11_rightSwaps_113 ?_
          exact H
  · rw [if_neg c6] at H
    refine g_ic3f iX11_rightSwaps_51 c6 ?_
    refine g_al iX11_rightSwaps_54 rfl ?_
    refine g_gr iX11_rightSwaps_55 fr_11_47_125 ?_
    refine g_il iX11_rightSwaps_58 rfl ?_
    obtain ⟨o11, H⟩ := H
    refine g_ld iX11_rightSwaps_59 (ln_158 L) o11 ?_
    refine g_al iX11_rightSwaps_60 rfl ?_
    refine g_gf (kI := 7) rfl iX11_rightSwaps_61 fi_11_7_125 ?_
    by_cases c12 : (σ 158 x3) ≠ (σ 125 7)
    · rw [if_pos c12] at H
      refine g_ic1t iX11_rightSwaps_64 c12 ?_
      refine g_c iX11_rightSwaps_71 ?_
      refine g_add iX11_rightSwaps_72 ?_
      refine g_is iX11_rightSwaps_73 (Nat.le_of_ble_eq_true rfl) ?_
      refine rx_Go.ls (la := [some (.inr 125), some (.inl x1), some (.inl x2), some (.inl (rx_w (x3 + 0))), some (.inl x4)]) rfl ?_
      refine g_il iX11_rightSwaps_74 rfl ?_
      refine g_il iX11_rightSwaps_75 rfl ?_
      refine g_c iX11_rightSwaps_76 ?_
      refine g_il iX11_rightSwaps_77 rfl ?_
      refine g_mul iX11_rightSwaps_79 ?_
      refine g_c iX11_rightSwaps_80 ?_
      refine g_add iX11_rightSwaps_81 ?_
      by_cases c13 : (rx_w (x3 + 0)) ≠ (rx_w ((rx_w (2 * x4)) + 1))
      · rw [if_pos c13] at H
        refine g_ic1t iX11_rightSwaps_82 c13 ?_
        refine g_c iX11_rightSwaps_107 ?_
        refine g_add iX11_rightSwaps_108 ?_
        refine g_is iX11_rightSwaps_109 (Nat.le_of_ble_eq_true rfl) ?_
        refine rx_Go.ls (la := [some (.inr 125), some (.inl x1), some (.inl x2), some (.inl (rx_w ((rx_w (x3 + 0)) + 0))), some (.inl x4)]) rfl ?_
        refine g_ii iX11_rightSwaps_110 rfl ?_
        refine rx_Go.ls (la := [some (.inr 125), some (.inl x1), some (.inl x2), some (.inl (rx_w ((rx_w (x3 + 0)) + 0))), some (.inl (rx_w (x4 + 1)))]) rfl ?_
        refine g_goto iX11_rightSwaps_113 ?_
        exact H
      · rw [if_neg c13] at H
        refine g_ic1f iX11_rightSwaps_82 c13 ?_
        refine g_il iX11_rightSwaps_85 rfl ?_
        refine g_il iX11_rightSwaps_86 rfl ?_
        by_cases c14 : x2 ≤ (rx_w (x3 + 0))
        · rw [if_pos c14] at H
          refine g_ic3t iX11_rightSwaps_87 c14 ?_
          refine g_c iX11_rightSwaps_107 ?_
          refine g_add iX11_rightSwaps_108 ?_
          refine g_is iX11_rightSwaps_109 (Nat.le_of_ble_eq_true rfl) ?_
          refine rx_Go.ls (la := [some (.inr 125), some (.inl x1), some (.inl x2), some (.inl (rx_w ((rx_w (x3 + 0)) + 0))), some (.inl x4)]) rfl ?_
          refine g_ii iX11_rightSwaps_110 rfl ?_
          refine rx_Go.ls (la := [some (.inr 125), some (.inl x1), some (.inl x2), some (.inl (rx_w ((rx_w (x3 + 0)) + 0))), some (.inl (rx_w (x4 + 1)))]) rfl ?_
          refine g_goto iX11_rightSwaps_113 ?_
          exact H
        · rw [if_neg c14] at H
          refine g_ic3f iX11_rightSwaps_87 c14 ?_
          refine g_al iX11_rightSwaps_90 rfl ?_
          refine g_gr iX11_rightSwaps_91 fr_11_47_125 ?_
          refine g_il iX11_rightSwaps_94 rfl ?_
          obtain ⟨o15, H⟩ := H
          refine g_ld iX11_rightSwaps_95 (ln_158 L) o15 ?_
          refine g_al iX11_rightSwaps_96 rfl ?_
          refine g_gf (kI := 8) rfl iX11_rightSwaps_97 fi_11_8_125 ?_
          by_cases c16 : (σ 158 (rx_w (x3 + 0))) ≠ (σ 125 8)
          · rw [if_pos c16] at H
            refine g_ic1t iX11_rightSwaps_100 c16 ?_
            refine g_c iX11_rightSwaps_107 ?_
            refine g_add iX11_rightSwaps_108 ?_
            refine g_is iX11_rightSwaps_109 (Nat.le_of_ble_eq_true rfl) ?_
            refine rx_Go.ls (la := [some (.inr 125), some (.inl x1), some (.inl x2), some (.inl (rx_w ((rx_w (x3 + 0)) + 0))), some (.inl x4)]) rfl ?_
            refine g_ii iX11_rightSwaps_110 rfl ?_
            refine rx_Go.ls (la := [some (.inr 125), some (.inl x1), some (.inl x2), some (.inl (rx_w ((rx_w (x3 + 0)) + 0))), some (.inl (rx_w (x4 + 1)))]) rfl ?_
            refine g_goto iX11_rightSwaps_113 ?_
            exact H
          · rw [if_neg c16] at H
            refine g_ic1f iX11_rightSwaps_100 c16 ?_
            refine g_c iX11_rightSwaps_103 ?_
            refine g_goto iX11_rightSwaps_104 ?_
            refine g_add iX11_rightSwaps_108 ?_
            refine g_is iX11_rightSwaps_109 (Nat.le_of_ble_eq_true rfl) ?_
            refine rx_Go.ls (la := [some (.inr 125), some (.inl x1), some (.inl x2), some (.inl (rx_w ((rx_w (x3 + 0)) + 1))), some (.inl x4)]) rfl ?_
            refine g_ii iX11_rightSwaps_110 rfl ?_
            refine rx_Go.ls (la := [some (.inr 125), some (.inl x1), some (.inl x2), some (.inl (rx_w ((rx_w (x3 + 0)) + 1))), some (.inl (rx_w (x4 + 1)))]) rfl ?_
            refine g_goto iX11_rightSwaps_113 ?_
            exact H
    · rw [if_neg c12] at H
      refine g_ic1f iX11_rightSwaps_64 c12 ?_
      refine g_c iX11_rightSwaps_67 ?_
      refine g_goto iX11_rightSwaps_68 ?_
      refine g_add iX11_rightSwaps_72 ?_
      refine g_is iX11_rightSwaps_73 (Nat.le_of_ble_eq_true rfl) ?_
      refine rx_Go.ls (la := [some (.inr 125), some (.inl x1), some (.inl x2), some (.inl (rx_w (x3 + 1))), some (.inl x4)]) rfl ?_
      refine g_il iX11_rightSwaps_74 rfl ?_
      refine g_il iX11_rightSwaps_75 rfl ?_
      refine g_c iX11_rightSwaps_76 ?_
      refine g_il iX11_rightSwaps_77 rfl ?_
      refine g_mul iX11_rightSwaps_79 ?_
      refine g_c iX11_rightSwaps_80 ?_
      refine g_add iX11_rightSwaps_81 ?_
      by_cases c17 : (rx_w (x3 + 1)) ≠ (rx_w ((rx_w (2 * x4)) + 1))
      · rw [if_pos c17] at H
        refine g_ic1t iX11_rightSwaps_82 c17 ?_
        refine g_c iX11_rightSwaps_107 ?_
        refine g_add iX11_rightSwaps_108 ?_
        refine g_is iX11_rightSwaps_109 (Nat.le_of_ble_eq_true rfl) ?_
        refine rx_Go.ls (la := [some (.inr 125), some (.inl x1), some (.inl x2), some (.inl (rx_w ((rx_w (x3 + 1)) + 0))), some (.inl x4)]) rfl ?_
        refine g_ii iX11_rightSwaps_110 rfl ?_
        refine rx_Go.ls (la := [some (.inr 125), some (.inl x1), some (.inl x2), some (.inl (rx_w ((rx_w (x3 + 1)) + 0))), some (.inl (rx_w (x4 + 1)))]) rfl ?_
        refine g_goto iX11_rightSwaps_113 ?_
        exact H
      · rw [if_neg c17] at H
        refine g_ic1f iX11_rightSwaps_82 c17 ?_
        refine g_il iX11_rightSwaps_85 rfl ?_
        refine g_il iX11_rightSwaps_86 rfl ?_
        by_cases c18 : x2 ≤ (rx_w (x3 + 1))
        · rw [if_pos c18] at H
          refine g_ic3t iX11_rightSwaps_87 c18 ?_
          refine g_c iX11_rightSwaps_107 ?_
          refine g_add iX11_rightSwaps_108 ?_
          refine g_is iX11_rightSwaps_109 (Nat.le_of_ble_eq_true rfl) ?_
          refine rx_Go.ls (la := [some (.inr 125), some (.inl x1), some (.inl x2), some (.inl (rx_w ((rx_w (x3 + 1)) + 0))), some (.inl x4)]) rfl ?_
          refine g_ii iX11_rightSwaps_110 rfl ?_
          refine rx_Go.ls (la := [some (.inr 125), some (.inl x1), some (.inl x2), some (.inl (rx_w ((rx_w (x3 + 1)) + 0))), some (.inl (rx_w (x4 + 1)))]) rfl ?_
          refine g_goto iX11_rightSwaps_113 ?_
          exact H
        · rw [if_neg c18] at H
          refine g_ic3f iX11_rightSwaps_87 c18 ?_
          refine g_al iX11_rightSwaps_90 rfl ?_
          refine g_gr iX11_rightSwaps_91 fr_11_47_125 ?_
          refine g_il iX11_rightSwaps_94 rfl ?_
          obtain ⟨o19, H⟩ := H
          refine g_ld iX11_rightSwaps_95 (ln_158 L) o19 ?_
          refine g_al iX11_rightSwaps_96 rfl ?_
          refine g_gf (kI := 8) rfl iX11_rightSwaps_97 fi_11_8_125 ?_
          by_cases c20 : (σ 158 (rx_w (x3 + 1))) ≠ (σ 125 8)
          · rw [if_pos c20] at H
            refine g_ic1t iX11_rightSwaps_100 c20 ?_
            refine g_c iX11_rightSwaps_107 ?_
            refine g_add iX11_rightSwaps_108 ?_
            refine g_is iX11_rightSwaps_109 (Nat.le_of_ble_eq_true rfl) ?_
            refine rx_Go.ls (la := [some (.inr 125), some (.inl x1), some (.inl x2), some (.inl (rx_w ((rx_w (x3 + 1)) + 0))), some (.inl x4)]) rfl ?_
            refine g_ii iX11_rightSwaps_110 rfl ?_
            refine rx_Go.ls (la := [some (.inr 125), some (.inl x1), some (.inl x2), some (.inl (rx_w ((rx_w (x3 + 1)) + 0))), some (.inl (rx_w (x4 + 1)))]) rfl ?_
            refine g_goto iX11_rightSwaps_113 ?_
            exact H
          · rw [if_neg c20] at H
            refine g_ic1f iX11_rightSwaps_100 c20 ?_
            refine g_c iX11_rightSwaps_103 ?_
            refine g_goto iX11_rightSwaps_104 ?_
            refine g_add iX11_rightSwaps_108 ?_
            refine g_is iX11_rightSwaps_109 (Nat.le_of_ble_eq_true rfl) ?_
            refine rx_Go.ls (la := [some (.inr 125), some (.inl x1), some (.inl x2), some (.inl (rx_w ((rx_w (x3 + 1)) + 1))), some (.inl x4)]) rfl ?_
            refine g_ii iX11_rightSwaps_110 rfl ?_
            refine rx_Go.ls (la := [some (.inr 125), some (.inl x1), some (.inl x2), some (.inl (rx_w ((rx_w (x3 + 1)) + 1))), some (.inl (rx_w (x4 + 1)))]) rfl ?_
            refine g_goto iX11_rightSwaps_113 ?_
            exact H
set_option maxRecDepth 20000 in
set_option maxHeartbeats 4000000 in
theorem bX11_check (L d : Nat) (x1 : Int) (σ : rx_St) (K : Int → rx_St → Prop)
    (H : rx_CI L d mX11_in [.inl x1, .inl 1, .inl 30] (rx_up σ 125 48 0) (fun v2 σ1 => if v2 ≠ 0 then (if (σ1 125 3) ≠ 0 then (rx_CV L d mX11_copyAll [.inr 126, .inr 128] σ1 (fun σ5 => rx_CV L d mX11_copyAll [.inr 127, .inr 126] σ5 (fun σ6 => rx_CI L d mX11_rightSwaps [.inr 125, .inl x1, .inl (σ 125 48)] σ6 (fun v8 σ7 => rx_CV L d mX11_copyAll [.inr 128, .inr 126] σ7 (fun σ9 => if v8 ≠ (σ 125 48) then (K (rx_w (1 + v8)) σ9) else (if v8 ≠ (rx_w (2 * x1)) then (K (rx_w (1 + v8)) σ9) else (K 0 σ9))))))) else (K (-1000000002) σ1)) else (K (-1000000001) σ1))) :
    rx_CI L (d + 1) mX11_check [.inr 125, .inl x1] σ K := by
  refine rx_CI.of (la := [some (.inr 125), some (.inl x1), none, none]) rfl ?_
  refine g_al iX11_check_0 rfl ?_
  refine g_gf (kI := 48) rfl iX11_check_1 fi_11_48_125 ?_
  refine g_is iX11_check_4 (Nat.le_of_ble_eq_true rfl) ?_
  refine rx_Go.ls (la := [some (.inr 125), some (.inl x1), some (.inl (σ 125 48)), none]) rfl ?_
  refine g_al iX11_check_5 rfl ?_
  refine g_c iX11_check_6 ?_
  refine g_pf (kI := 48) rfl iX11_check_7 fi_11_48_125 (Or.inl rfl) ?_
  refine g_il iX11_check_10 rfl ?_
  refine g_c iX11_check_11 ?_
  refine g_c iX11_check_12 ?_
  refine g_ci (as := [.inl x1, .inl 1, .inl 30]) (rest := []) iX11_check_14 rfl rfl (Nat.le_of_ble_eq_true rfl) (Or.inl (by decide)) (rx_CI.imp H (fun v2 σ1 H => ?_))
  by_cases c3 : v2 ≠ 0
  · rw [if_pos c3] at H
    refine g_if1t iX11_check_17 c3 ?_
    refine g_al iX11_check_23 rfl ?_
    refine g_gf (kI := 3) rfl iX11_check_24 fi_11_3_125 ?_
    by_cases c4 : (σ1 125 3) ≠ 0
    · rw [if_pos c4] at H
      refine g_if1t iX11_check_27 c4 ?_
      refine g_al iX11_check_33 rfl ?_
      refine g_gr iX11_check_34 fr_11_0_125 ?_
      refine g_al iX11_check_37 rfl ?_
      refine g_gr iX11_check_38 fr_11_2_125 ?_
      refine g_cv (as := [.inr 126, .inr 128]) (rest := []) iX11_check_41 rfl rfl (Nat.le_of_ble_eq_true rfl) (Or.inl (by decide)) (rx_CV.imp H (fun σ5 H => ?_))
      refine g_al iX11_check_44 rfl ?_
      refine g_gr iX11_check_45 fr_11_1_125 ?_
      refine g_al iX11_check_48 rfl ?_
      refine g_gr iX11_check_49 fr_11_0_125 ?_
      refine g_cv (as := [.inr 127, .inr 126]) (rest := []) iX11_check_52 rfl rfl (Nat.le_of_ble_eq_true rfl) (Or.inl (by decide)) (rx_CV.imp H (fun σ6 H => ?_))
      refine g_al iX11_check_55 rfl ?_
      refine g_il iX11_check_56 rfl ?_
      refine g_il iX11_check_57 rfl ?_
      refine g_ci (as := [.inr 125, .inl x1, .inl (σ 125 48)]) (rest := []) iX11_check_58 rfl rfl (Nat.le_of_ble_eq_true rfl) (Or.inr ⟨_, _, rfl, oo_11_125⟩) (rx_CI.imp H (fun v8 σ7 H => ?_))
      refine g_is iX11_check_61 (Nat.le_of_ble_eq_true rfl) ?_
      refine rx_Go.ls (la := [some (.inr 125), some (.inl x1), some (.inl (σ 125 48)), some (.inl v8)]) rfl ?_
      refine g_al iX11_check_62 rfl ?_
      refine g_gr iX11_check_63 fr_11_2_125 ?_
      refine g_al iX11_check_66 rfl ?_
      refine g_gr iX11_check_67 fr_11_0_125 ?_
      refine g_cv (as := [.inr 128, .inr 126]) (rest := []) iX11_check_70 rfl rfl (Nat.le_of_ble_eq_true rfl) (Or.inl (by decide)) (rx_CV.imp H (fun σ9 H => ?_))
      refine g_il iX11_check_73 rfl ?_
      refine g_il iX11_check_74 rfl ?_
      by_cases c10 : v8 ≠ (σ 125 48)
      · rw [if_pos c10] at H
        refine g_ic1t iX11_check_75 c10 ?_
        refine g_c iX11_check_89 ?_
        refine g_il iX11_check_90 rfl ?_
        refine g_add iX11_check_91 ?_
        exact g_ri iX11_check_92 (Or.inl rfl) H
      · rw [if_neg c10] at H
        refine g_ic1f iX11_check_75 c10 ?_
        refine g_il iX11_check_78 rfl ?_
        refine g_c iX11_check_79 ?_
        refine g_il iX11_check_80 rfl ?_
        refine g_mul iX11_check_81 ?_
        by_cases c11 : v8 ≠ (rx_w (2 * x1))
        · rw [if_pos c11] at H
          refine g_ic1t iX11_check_82 c11 ?_
          refine g_c iX11_check_89 ?_
          refine g_il iX11_check_90 rfl ?_
          refine g_add iX11_check_91 ?_
          exact g_ri iX11_check_92 (Or.inl rfl) H
        · rw [if_neg c11] at H
          refine g_ic1f iX11_check_82 c11 ?_
          refine g_c iX11_check_85 ?_
          refine g_goto iX11_check_86 ?_
          exact g_ri iX11_check_92 (Or.inl rfl) H
    · rw [if_neg c4] at H
      refine g_if1f iX11_check_27 c4 ?_
      refine g_c iX11_check_30 ?_
      exact g_ri iX11_check_32 (Or.inl rfl) H
  · rw [if_neg c3] at H
    refine g_if1f iX11_check_17 c3 ?_
    refine g_c iX11_check_20 ?_
    exact g_ri iX11_check_22 (Or.inl rfl) H
set_option maxRecDepth 20000 in
set_option maxHeartbeats 4000000 in
theorem bX11_keep (L d : Nat)  (σ : rx_St) (K : Int → rx_St → Prop)
    (H : rx_CV L d mX11_copyAll [.inr 126, .inr 127] σ (fun σ1 => K ((rx_up σ1 125 3 1) 126 2) (rx_up σ1 125 3 1))) :
    rx_CI L (d + 1) mX11_keep [.inr 125] σ K := by
  refine rx_CI.of (la := [some (.inr 125)]) rfl ?_
  refine g_al iX11_keep_0 rfl ?_
  refine g_gr iX11_keep_1 fr_11_0_125 ?_
  refine g_al iX11_keep_4 rfl ?_
  refine g_gr iX11_keep_5 fr_11_1_125 ?_
  refine g_cv (as := [.inr 126, .inr 127]) (rest := []) iX11_keep_8 rfl rfl (Nat.le_of_ble_eq_true rfl) (Or.inl (by decide)) (rx_CV.imp H (fun σ1 H => ?_))
  refine g_al iX11_keep_11 rfl ?_
  refine g_c iX11_keep_12 ?_
  refine g_pf (kI := 3) rfl iX11_keep_13 fi_11_3_125 (by decide) ?_
  refine g_al iX11_keep_16 rfl ?_
  refine g_gr iX11_keep_17 fr_11_0_125 ?_
  refine g_c iX11_keep_20 ?_
  refine g_ld iX11_keep_21 (ln_126 L) (by decide) ?_
  exact g_ri iX11_keep_22 (Or.inl rfl) H
set_option maxRecDepth 20000 in
set_option maxHeartbeats 4000000 in
theorem bX11_back (L d : Nat)  (σ : rx_St) (K : Int → rx_St → Prop)
    (H : if (σ 125 3) ≠ 0 then (rx_CV L d mX11_copyAll [.inr 127, .inr 126] σ (fun σ2 => K (σ2 126 2) σ2)) else (K (-1000000002) σ)) :
    rx_CI L (d + 1) mX11_back [.inr 125] σ K := by
  refine rx_CI.of (la := [some (.inr 125)]) rfl ?_
  refine g_al iX11_back_0 rfl ?_
  refine g_gf (kI := 3) rfl iX11_back_1 fi_11_3_125 ?_
  by_cases c1 : (σ 125 3) ≠ 0
  · rw [if_pos c1] at H
    refine g_if1t iX11_back_4 c1 ?_
    refine g_al iX11_back_10 rfl ?_
    refine g_gr iX11_back_11 fr_11_1_125 ?_
    refine g_al iX11_back_14 rfl ?_
    refine g_gr iX11_back_15 fr_11_0_125 ?_
    refine g_cv (as := [.inr 127, .inr 126]) (rest := []) iX11_back_18 rfl rfl (Nat.le_of_ble_eq_true rfl) (Or.inl (by decide)) (rx_CV.imp H (fun σ2 H => ?_))
    refine g_al iX11_back_21 rfl ?_
    refine g_gr iX11_back_22 fr_11_0_125 ?_
    refine g_c iX11_back_25 ?_
    refine g_ld iX11_back_26 (ln_126 L) (by decide) ?_
    exact g_ri iX11_back_27 (Or.inl rfl) H
  · rw [if_neg c1] at H
    refine g_if1f iX11_back_4 c1 ?_
    refine g_c iX11_back_7 ?_
    exact g_ri iX11_back_9 (Or.inl rfl) H
set_option maxRecDepth 20000 in
set_option maxHeartbeats 4000000 in
theorem bX11_count (L d : Nat) (x1 : Int) (σ : rx_St) (K : Int → rx_St → Prop)
    (H : if x1 = 0 then (K (σ 126 1) σ) else (if x1 = 1 then (K (σ 126 2) σ) else (if x1 = 2 then (K (σ 126 3) σ) else (if x1 = 3 then (K (σ 125 48) σ) else (if x1 = 4 then (K (σ 125 22) σ) else (if x1 = 5 then (K (σ 126 0) σ) else (K (-1000000001) σ))))))) :
    rx_CI L d mX11_count [.inr 125, .inl x1] σ K := by
  refine rx_CI.of (la := [some (.inr 125), some (.inl x1)]) rfl ?_
  refine g_il iX11_count_0 rfl ?_
  by_cases c1 : x1 = 0
  · rw [if_pos c1] at H
    refine g_sw iX11_count_1 (by simp only [rx_sw]; rw [if_pos c1]) ?_
    refine g_al iX11_count_40 rfl ?_
    refine g_gr iX11_count_41 fr_11_0_125 ?_
    refine g_c iX11_count_44 ?_
    refine g_ld iX11_count_45 (ln_126 L) (by decide) ?_
    exact g_ri iX11_count_46 (Or.inl rfl) H
  · rw [if_neg c1] at H
    by_cases c2 : x1 = 1
    · rw [if_pos c2] at H
      refine g_sw iX11_count_1 (by simp only [rx_sw]; rw [if_neg c1, if_pos c2]) ?_
      refine g_al iX11_count_47 rfl ?_
      refine g_gr iX11_count_48 fr_11_0_125 ?_
      refine g_c iX11_count_51 ?_
      refine g_ld iX11_count_52 (ln_126 L) (by decide) ?_
      exact g_ri iX11_count_53 (Or.inl rfl) H
    · rw [if_neg c2] at H
      by_cases c3 : x1 = 2
      · rw [if_pos c3] at H
        refine g_sw iX11_count_1 (by simp only [rx_sw]; rw [if_neg c1, if_neg c2, if_pos c3]) ?_
        refine g_al iX11_count_54 rfl ?_
        refine g_gr iX11_count_55 fr_11_0_125 ?_
        refine g_c iX11_count_58 ?_
        refine g_ld iX11_count_59 (ln_126 L) (by decide) ?_
        exact g_ri iX11_count_60 (Or.inl rfl) H
      · rw [if_neg c3] at H
        by_cases c4 : x1 = 3
        · rw [if_pos c4] at H
          refine g_sw iX11_count_1 (by simp only [rx_sw]; rw [if_neg c1, if_neg c2, if_neg c3, if_pos c4]) ?_
          refine g_al iX11_count_61 rfl ?_
          refine g_gf (kI := 48) rfl iX11_count_62 fi_11_48_125 ?_
          exact g_ri iX11_count_65 (Or.inl rfl) H
        · rw [if_neg c4] at H
          by_cases c5 : x1 = 4
          · rw [if_pos c5] at H
            refine g_sw iX11_count_1 (by simp only [rx_sw]; rw [if_neg c1, if_neg c2, if_neg c3, if_neg c4, if_pos c5]) ?_
            refine g_al iX11_count_66 rfl ?_
            refine g_gf (kI := 22) rfl iX11_count_67 fi_11_22_125 ?_
            exact g_ri iX11_count_70 (Or.inl rfl) H
          · rw [if_neg c5] at H
            by_cases c6 : x1 = 5
            · rw [if_pos c6] at H
              refine g_sw iX11_count_1 (by simp only [rx_sw]; rw [if_neg c1, if_neg c2, if_neg c3, if_neg c4, if_neg c5, if_pos c6]) ?_
              refine g_al iX11_count_71 rfl ?_
              refine g_gr iX11_count_72 fr_11_0_125 ?_
              refine g_c iX11_count_75 ?_
              refine g_ld iX11_count_76 (ln_126 L) (by decide) ?_
              exact g_ri iX11_count_77 (Or.inl rfl) H
            · rw [if_neg c6] at H
              refine g_sw (t := 78) iX11_count_1 (by simp only [rx_sw, c1, c2, c3, c4, c5, c6, if_false]) ?_
              refine g_c iX11_count_78 ?_
              exact g_ri iX11_count_80 (Or.inl rfl) H
