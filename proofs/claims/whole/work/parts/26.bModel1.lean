theorem tbX11_findPlaces : rx_tab.getD mX11_findPlaces [] = rt_X11_findPlaces := rfl
theorem ndX11_findPlaces : rx_inc rt_X11_findPlaces = true := by decide +kernel
theorem tbX11_bound : rx_tab.getD mX11_bound [] = rt_X11_bound := rfl
theorem ndX11_bound : rx_inc rt_X11_bound = true := by decide +kernel
theorem tbX11_fitsPage : rx_tab.getD mX11_fitsPage [] = rt_X11_fitsPage := rfl
theorem ndX11_fitsPage : rx_inc rt_X11_fitsPage = true := by decide +kernel
theorem tbX11_doPass : rx_tab.getD mX11_doPass [] = rt_X11_doPass := rfl
theorem ndX11_doPass : rx_inc rt_X11_doPass = true := by decide +kernel
theorem tbX11_costBehind : rx_tab.getD mX11_costBehind [] = rt_X11_costBehind := rfl
theorem ndX11_costBehind : rx_inc rt_X11_costBehind = true := by decide +kernel
theorem tbX11_findMembers : rx_tab.getD mX11_findMembers [] = rt_X11_findMembers := rfl
theorem ndX11_findMembers : rx_inc rt_X11_findMembers = true := by decide +kernel
theorem tbX11_swaps : rx_tab.getD mX11_swaps [] = rt_X11_swaps := rfl
theorem ndX11_swaps : rx_inc rt_X11_swaps = true := by decide +kernel
theorem tbX11_swap : rx_tab.getD mX11_swap [] = rt_X11_swap := rfl
theorem ndX11_swap : rx_inc rt_X11_swap = true := by decide +kernel
theorem tbX11_findPasses : rx_tab.getD mX11_findPasses [] = rt_X11_findPasses := rfl
theorem ndX11_findPasses : rx_inc rt_X11_findPasses = true := by decide +kernel
theorem tbX11_best : rx_tab.getD mX11_best [] = rt_X11_best := rfl
theorem ndX11_best : rx_inc rt_X11_best = true := by decide +kernel
theorem tbX11_findBestLine : rx_tab.getD mX11_findBestLine [] = rt_X11_findBestLine := rfl
theorem ndX11_findBestLine : rx_inc rt_X11_findBestLine = true := by decide +kernel
theorem lmX11_findBestLine_0 {x : Nat × rx_I} (h : x ∈ rt_X11_findBestLine_0) : x ∈ rt_X11_findBestLine := List.mem_append_left _ h
theorem lmX11_findBestLine_1 {x : Nat × rx_I} (h : x ∈ rt_X11_findBestLine_1) : x ∈ rt_X11_findBestLine := List.mem_append_right _ (List.mem_append_left _ h)
theorem lmX11_findBestLine_2 {x : Nat × rx_I} (h : x ∈ rt_X11_findBestLine_2) : x ∈ rt_X11_findBestLine := List.mem_append_right _ (List.mem_append_right _ (List.mem_append_left _ h))
theorem lmX11_findBestLine_3 {x : Nat × rx_I} (h : x ∈ rt_X11_findBestLine_3) : x ∈ rt_X11_findBestLine := List.mem_append_right _ (List.mem_append_right _ (List.mem_append_right _ (List.mem_append_left _ h)))
theorem lmX11_findBestLine_4 {x : Nat × rx_I} (h : x ∈ rt_X11_findBestLine_4) : x ∈ rt_X11_findBestLine := List.mem_append_right _ (List.mem_append_right _ (List.mem_append_right _ (List.mem_append_right _ (h))))
theorem tbX11_endIn : rx_tab.getD mX11_endIn [] = rt_X11_endIn := rfl
theorem ndX11_endIn : rx_inc rt_X11_endIn = true := by decide +kernel
theorem tbX11_straightly : rx_tab.getD mX11_straightly [] = rt_X11_straightly := rfl
theorem ndX11_straightly : rx_inc rt_X11_straightly = true := by decide +kernel
theorem tbX11_cross : rx_tab.getD mX11_cross [] = rt_X11_cross := rfl
theorem ndX11_cross : rx_inc rt_X11_cross = true := by decide +kernel
theorem tbX11_mutual : rx_tab.getD mX11_mutual [] = rt_X11_mutual := rfl
theorem ndX11_mutual : rx_inc rt_X11_mutual = true := by decide +kernel
theorem tbX11_straight : rx_tab.getD mX11_straight [] = rt_X11_straight := rfl
theorem ndX11_straight : rx_inc rt_X11_straight = true := by decide +kernel
theorem tbX11_sits : rx_tab.getD mX11_sits [] = rt_X11_sits := rfl
theorem ndX11_sits : rx_inc rt_X11_sits = true := by decide +kernel
theorem tbX11_closes : rx_tab.getD mX11_closes [] = rt_X11_closes := rfl
theorem ndX11_closes : rx_inc rt_X11_closes = true := by decide +kernel
theorem tbX11_layered : rx_tab.getD mX11_layered [] = rt_X11_layered := rfl
theorem ndX11_layered : rx_inc rt_X11_layered = true := by decide +kernel
theorem tbX11_bestRow : rx_tab.getD mX11_bestRow [] = rt_X11_bestRow := rfl
theorem ndX11_bestRow : rx_inc rt_X11_bestRow = true := by decide +kernel
theorem tbX11_layerFrom : rx_tab.getD mX11_layerFrom [] = rt_X11_layerFrom := rfl
theorem ndX11_layerFrom : rx_inc rt_X11_layerFrom = true := by decide +kernel
theorem tbX11_isParted : rx_tab.getD mX11_isParted [] = rt_X11_isParted := rfl
theorem ndX11_isParted : rx_inc rt_X11_isParted = true := by decide +kernel
theorem lmX11_isParted_0 {x : Nat × rx_I} (h : x ∈ rt_X11_isParted_0) : x ∈ rt_X11_isParted := List.mem_append_left _ h
theorem lmX11_isParted_1 {x : Nat × rx_I} (h : x ∈ rt_X11_isParted_1) : x ∈ rt_X11_isParted := List.mem_append_right _ (List.mem_append_left _ h)
theorem lmX11_isParted_2 {x : Nat × rx_I} (h : x ∈ rt_X11_isParted_2) : x ∈ rt_X11_isParted := List.mem_append_right _ (List.mem_append_right _ (List.mem_append_left _ h))
theorem lmX11_isParted_3 {x : Nat × rx_I} (h : x ∈ rt_X11_isParted_3) : x ∈ rt_X11_isParted := List.mem_append_right _ (List.mem_append_right _ (List.mem_append_right _ (h)))
theorem tbX11_drawsPost : rx_tab.getD mX11_drawsPost [] = rt_X11_drawsPost := rfl
theorem ndX11_drawsPost : rx_inc rt_X11_drawsPost = true := by decide +kernel
theorem tbX11_lastPage : rx_tab.getD mX11_lastPage [] = rt_X11_lastPage := rfl
theorem ndX11_lastPage : rx_inc rt_X11_lastPage = true := by decide +kernel
theorem tbX11_line : rx_tab.getD mX11_line [] = rt_X11_line := rfl
theorem ndX11_line : rx_inc rt_X11_line = true := by decide +kernel
theorem lmX11_line_0 {x : Nat × rx_I} (h : x ∈ rt_X11_line_0) : x ∈ rt_X11_line := List.mem_append_left _ h
theorem lmX11_line_1 {x : Nat × rx_I} (h : x ∈ rt_X11_line_1) : x ∈ rt_X11_line := List.mem_append_right _ (List.mem_append_left _ h)
theorem lmX11_line_2 {x : Nat × rx_I} (h : x ∈ rt_X11_line_2) : x ∈ rt_X11_line := List.mem_append_right _ (List.mem_append_right _ (List.mem_append_left _ h))
theorem lmX11_line_3 {x : Nat × rx_I} (h : x ∈ rt_X11_line_3) : x ∈ rt_X11_line := List.mem_append_right _ (List.mem_append_right _ (List.mem_append_right _ (h)))
theorem tbX11_maySwap : rx_tab.getD mX11_maySwap [] = rt_X11_maySwap := rfl
theorem ndX11_maySwap : rx_inc rt_X11_maySwap = true := by decide +kernel
theorem tbX11_layers : rx_tab.getD mX11_layers [] = rt_X11_layers := rfl
theorem ndX11_layers : rx_inc rt_X11_layers = true := by decide +kernel
theorem tbX11_findSwap : rx_tab.getD mX11_findSwap [] = rt_X11_findSwap := rfl
theorem ndX11_findSwap : rx_inc rt_X11_findSwap = true := by decide +kernel
theorem tbX11_book : rx_tab.getD mX11_book [] = rt_X11_book := rfl
theorem ndX11_book : rx_inc rt_X11_book = true := by decide +kernel
theorem tbX11_hasTwo : rx_tab.getD mX11_hasTwo [] = rt_X11_hasTwo := rfl
theorem ndX11_hasTwo : rx_inc rt_X11_hasTwo = true := by decide +kernel
theorem tbX11_fillsPages : rx_tab.getD mX11_fillsPages [] = rt_X11_fillsPages := rfl
theorem ndX11_fillsPages : rx_inc rt_X11_fillsPages = true := by decide +kernel
theorem tbX11_drawsRoad : rx_tab.getD mX11_drawsRoad [] = rt_X11_drawsRoad := rfl
theorem ndX11_drawsRoad : rx_inc rt_X11_drawsRoad = true := by decide +kernel
theorem tbX11_pages : rx_tab.getD mX11_pages [] = rt_X11_pages := rfl
theorem ndX11_pages : rx_inc rt_X11_pages = true := by decide +kernel
theorem tbX11_isWithin : rx_tab.getD mX11_isWithin [] = rt_X11_isWithin := rfl
theorem ndX11_isWithin : rx_inc rt_X11_isWithin = true := by decide +kernel
theorem tbX11_at : rx_tab.getD mX11_at [] = rt_X11_at := rfl
theorem ndX11_at : rx_inc rt_X11_at = true := by decide +kernel
theorem tbX11_would : rx_tab.getD mX11_would [] = rt_X11_would := rfl
theorem ndX11_would : rx_inc rt_X11_would = true := by decide +kernel
theorem tbX11_bestLine : rx_tab.getD mX11_bestLine [] = rt_X11_bestLine := rfl
theorem ndX11_bestLine : rx_inc rt_X11_bestLine = true := by decide +kernel
theorem tbX11_draw : rx_tab.getD mX11_draw [] = rt_X11_draw := rfl
theorem ndX11_draw : rx_inc rt_X11_draw = true := by decide +kernel
theorem iX11_cross_0 : rx_ins mX11_cross 0 = some (3, 1, 0, 0, 0, []) := rx_at tbX11_cross ndX11_cross (j := 0) rfl
theorem iX11_cross_1 : rx_ins mX11_cross 1 = some (2, 2, 0, 1, 0, []) := rx_at tbX11_cross ndX11_cross (j := 1) rfl
theorem iX11_cross_2 : rx_ins mX11_cross 2 = some (28, 5, 13, 137, 2, [(175, 216)]) := rx_at tbX11_cross ndX11_cross (j := 2) rfl
theorem iX11_cross_5 : rx_ins mX11_cross 5 = some (13, 8, 16, 0, 21, []) := rx_at tbX11_cross ndX11_cross (j := 3) rfl
theorem iX11_cross_21 : rx_ins mX11_cross 21 = some (1, 23, (-1000000001), 3, 21, [(130, 0)]) := rx_at tbX11_cross ndX11_cross (j := 11) rfl
theorem iX11_cross_23 : rx_ins mX11_cross 23 = some (29, 24, 0, 0, 0, []) := rx_at tbX11_cross ndX11_cross (j := 12) rfl
theorem iX11_cross_8 : rx_ins mX11_cross 8 = some (3, 9, 0, 0, 0, []) := rx_at tbX11_cross ndX11_cross (j := 4) rfl
theorem iX11_cross_9 : rx_ins mX11_cross 9 = some (2, 10, 0, 2, 0, []) := rx_at tbX11_cross ndX11_cross (j := 5) rfl
theorem iX11_cross_10 : rx_ins mX11_cross 10 = some (28, 13, 13, 137, 2, [(175, 216)]) := rx_at tbX11_cross ndX11_cross (j := 6) rfl
theorem iX11_cross_13 : rx_ins mX11_cross 13 = some (13, 16, 8, 0, 21, []) := rx_at tbX11_cross ndX11_cross (j := 7) rfl
theorem iX11_cross_16 : rx_ins mX11_cross 16 = some (2, 17, 0, 1, 0, []) := rx_at tbX11_cross ndX11_cross (j := 8) rfl
theorem iX11_cross_17 : rx_ins mX11_cross 17 = some (2, 18, 0, 2, 0, []) := rx_at tbX11_cross ndX11_cross (j := 9) rfl
theorem iX11_cross_18 : rx_ins mX11_cross 18 = some (14, 21, 6, 1, 24, []) := rx_at tbX11_cross ndX11_cross (j := 10) rfl
theorem iX11_cross_24 : rx_ins mX11_cross 24 = some (3, 25, 0, 0, 0, []) := rx_at tbX11_cross ndX11_cross (j := 13) rfl
theorem iX11_cross_25 : rx_ins mX11_cross 25 = some (2, 26, 0, 1, 0, []) := rx_at tbX11_cross ndX11_cross (j := 14) rfl
theorem iX11_cross_26 : rx_ins mX11_cross 26 = some (2, 27, 0, 2, 0, []) := rx_at tbX11_cross ndX11_cross (j := 15) rfl
theorem iX11_cross_27 : rx_ins mX11_cross 27 = some (28, 30, 13, 170, 3, [(212, 225)]) := rx_at tbX11_cross ndX11_cross (j := 16) rfl
theorem iX11_cross_30 : rx_ins mX11_cross 30 = some (13, 33, 7, 0, 37, []) := rx_at tbX11_cross ndX11_cross (j := 17) rfl
theorem iX11_cross_37 : rx_ins mX11_cross 37 = some (1, 38, 0, 0, 0, []) := rx_at tbX11_cross ndX11_cross (j := 20) rfl
theorem iX11_cross_38 : rx_ins mX11_cross 38 = some (29, 39, 0, 0, 0, []) := rx_at tbX11_cross ndX11_cross (j := 21) rfl
theorem iX11_cross_33 : rx_ins mX11_cross 33 = some (1, 34, 1, 0, 0, []) := rx_at tbX11_cross ndX11_cross (j := 18) rfl
theorem iX11_cross_34 : rx_ins mX11_cross 34 = some (15, 37, 4, 0, 38, []) := rx_at tbX11_cross ndX11_cross (j := 19) rfl
theorem iX11_straightly_0 : rx_ins mX11_straightly 0 = some (1, 1, 0, 0, 0, []) := rx_at tbX11_straightly ndX11_straightly (j := 0) rfl
theorem iX11_straightly_1 : rx_ins mX11_straightly 1 = some (4, 2, 0, 3, 0, []) := rx_at tbX11_straightly ndX11_straightly (j := 1) rfl
theorem iX11_straightly_2 : rx_ins mX11_straightly 2 = some (1, 3, 0, 0, 0, []) := rx_at tbX11_straightly ndX11_straightly (j := 2) rfl
theorem iX11_straightly_3 : rx_ins mX11_straightly 3 = some (4, 5, 1, 4, 0, []) := rx_at tbX11_straightly ndX11_straightly (j := 3) rfl
theorem iX11_straightly_5 : rx_ins mX11_straightly 5 = some (2, 7, 1, 4, 0, []) := rx_at tbX11_straightly ndX11_straightly (j := 4) rfl
theorem iX11_straightly_7 : rx_ins mX11_straightly 7 = some (3, 8, 0, 0, 0, []) := rx_at tbX11_straightly ndX11_straightly (j := 5) rfl
theorem iX11_straightly_8 : rx_ins mX11_straightly 8 = some (18, 11, 0, 11, 0, [(9, 124)]) := rx_at tbX11_straightly ndX11_straightly (j := 6) rfl
theorem iX11_straightly_11 : rx_ins mX11_straightly 11 = some (1, 12, 2, 0, 0, []) := rx_at tbX11_straightly ndX11_straightly (j := 7) rfl
theorem iX11_straightly_12 : rx_ins mX11_straightly 12 = some (20, 13, 0, 0, 0, []) := rx_at tbX11_straightly ndX11_straightly (j := 8) rfl
theorem iX11_straightly_13 : rx_ins mX11_straightly 13 = some (14, 16, 99, 3, 112, []) := rx_at tbX11_straightly ndX11_straightly (j := 9) rfl
theorem iX11_straightly_112 : rx_ins mX11_straightly 112 = some (2, 113, 0, 3, 0, []) := rx_at tbX11_straightly ndX11_straightly (j := 60) rfl
theorem iX11_straightly_113 : rx_ins mX11_straightly 113 = some (29, 114, 0, 0, 0, []) := rx_at tbX11_straightly ndX11_straightly (j := 61) rfl
theorem iX11_straightly_16 : rx_ins mX11_straightly 16 = some (2, 18, 1, 4, 0, []) := rx_at tbX11_straightly ndX11_straightly (j := 10) rfl
theorem iX11_straightly_18 : rx_ins mX11_straightly 18 = some (1, 19, 1, 0, 0, []) := rx_at tbX11_straightly ndX11_straightly (j := 11) rfl
theorem iX11_straightly_19 : rx_ins mX11_straightly 19 = some (7, 20, 0, 0, 0, []) := rx_at tbX11_straightly ndX11_straightly (j := 12) rfl
theorem iX11_straightly_20 : rx_ins mX11_straightly 20 = some (4, 22, 1, 5, 0, []) := rx_at tbX11_straightly ndX11_straightly (j := 13) rfl
theorem iX11_straightly_22 : rx_ins mX11_straightly 22 = some (2, 24, 1, 5, 0, []) := rx_at tbX11_straightly ndX11_straightly (j := 14) rfl
theorem iX11_straightly_24 : rx_ins mX11_straightly 24 = some (3, 25, 0, 0, 0, []) := rx_at tbX11_straightly ndX11_straightly (j := 15) rfl
theorem iX11_straightly_25 : rx_ins mX11_straightly 25 = some (18, 28, 0, 11, 0, [(9, 124)]) := rx_at tbX11_straightly ndX11_straightly (j := 16) rfl
theorem iX11_straightly_28 : rx_ins mX11_straightly 28 = some (1, 29, 2, 0, 0, []) := rx_at tbX11_straightly ndX11_straightly (j := 17) rfl
theorem iX11_straightly_29 : rx_ins mX11_straightly 29 = some (20, 30, 0, 0, 0, []) := rx_at tbX11_straightly ndX11_straightly (j := 18) rfl
theorem iX11_straightly_30 : rx_ins mX11_straightly 30 = some (14, 33, 76, 3, 106, []) := rx_at tbX11_straightly ndX11_straightly (j := 19) rfl
theorem iX11_straightly_106 : rx_ins mX11_straightly 106 = some (6, 109, 1, 4, 0, []) := rx_at tbX11_straightly ndX11_straightly (j := 58) rfl
theorem iX11_straightly_109 : rx_ins mX11_straightly 109 = some (15, 112, (-104), 0, 5, []) := rx_at tbX11_straightly ndX11_straightly (j := 59) rfl
theorem iX11_straightly_33 : rx_ins mX11_straightly 33 = some (2, 34, 0, 2, 0, []) := rx_at tbX11_straightly ndX11_straightly (j := 20) rfl
theorem iX11_straightly_34 : rx_ins mX11_straightly 34 = some (13, 37, 15, 2, 49, []) := rx_at tbX11_straightly ndX11_straightly (j := 21) rfl
theorem iX11_straightly_37 : rx_ins mX11_straightly 37 = some (2, 38, 0, 2, 0, []) := rx_at tbX11_straightly ndX11_straightly (j := 22) rfl
theorem iX11_straightly_38 : rx_ins mX11_straightly 38 = some (2, 40, 1, 4, 0, []) := rx_at tbX11_straightly ndX11_straightly (j := 23) rfl
theorem iX11_straightly_40 : rx_ins mX11_straightly 40 = some (14, 43, 9, 0, 49, []) := rx_at tbX11_straightly ndX11_straightly (j := 24) rfl
theorem iX11_straightly_43 : rx_ins mX11_straightly 43 = some (2, 44, 0, 2, 0, []) := rx_at tbX11_straightly ndX11_straightly (j := 25) rfl
theorem iX11_straightly_44 : rx_ins mX11_straightly 44 = some (2, 46, 1, 5, 0, []) := rx_at tbX11_straightly ndX11_straightly (j := 26) rfl
theorem iX11_straightly_46 : rx_ins mX11_straightly 46 = some (14, 49, 7, 1, 53, []) := rx_at tbX11_straightly ndX11_straightly (j := 27) rfl
theorem iX11_straightly_53 : rx_ins mX11_straightly 53 = some (1, 54, 0, 0, 0, []) := rx_at tbX11_straightly ndX11_straightly (j := 30) rfl
theorem iX11_straightly_54 : rx_ins mX11_straightly 54 = some (4, 56, 1, 6, 0, []) := rx_at tbX11_straightly ndX11_straightly (j := 31) rfl
theorem iX11_straightly_49 : rx_ins mX11_straightly 49 = some (1, 50, 1, 0, 0, []) := rx_at tbX11_straightly ndX11_straightly (j := 28) rfl
theorem iX11_straightly_50 : rx_ins mX11_straightly 50 = some (15, 53, 4, 0, 54, []) := rx_at tbX11_straightly ndX11_straightly (j := 29) rfl
theorem iX11_straightly_56 : rx_ins mX11_straightly 56 = some (2, 57, 0, 3, 0, []) := rx_at tbX11_straightly ndX11_straightly (j := 32) rfl
theorem iX11_straightly_57 : rx_ins mX11_straightly 57 = some (2, 59, 1, 6, 0, []) := rx_at tbX11_straightly ndX11_straightly (j := 33) rfl
theorem iX11_straightly_59 : rx_ins mX11_straightly 59 = some (13, 62, 38, 0, 97, []) := rx_at tbX11_straightly ndX11_straightly (j := 34) rfl
theorem iX11_straightly_97 : rx_ins mX11_straightly 97 = some (1, 98, 0, 0, 0, []) := rx_at tbX11_straightly ndX11_straightly (j := 53) rfl
theorem iX11_straightly_98 : rx_ins mX11_straightly 98 = some (7, 99, 0, 0, 0, []) := rx_at tbX11_straightly ndX11_straightly (j := 54) rfl
theorem iX11_straightly_99 : rx_ins mX11_straightly 99 = some (4, 100, 0, 3, 0, []) := rx_at tbX11_straightly ndX11_straightly (j := 55) rfl
theorem iX11_straightly_100 : rx_ins mX11_straightly 100 = some (6, 103, 1, 5, 0, []) := rx_at tbX11_straightly ndX11_straightly (j := 56) rfl
theorem iX11_straightly_103 : rx_ins mX11_straightly 103 = some (15, 106, (-81), 0, 22, []) := rx_at tbX11_straightly ndX11_straightly (j := 57) rfl
theorem iX11_straightly_62 : rx_ins mX11_straightly 62 = some (3, 63, 0, 0, 0, []) := rx_at tbX11_straightly ndX11_straightly (j := 35) rfl
theorem iX11_straightly_63 : rx_ins mX11_straightly 63 = some (2, 65, 1, 4, 0, []) := rx_at tbX11_straightly ndX11_straightly (j := 36) rfl
theorem iX11_straightly_65 : rx_ins mX11_straightly 65 = some (2, 67, 1, 5, 0, []) := rx_at tbX11_straightly ndX11_straightly (j := 37) rfl
theorem iX11_straightly_67 : rx_ins mX11_straightly 67 = some (28, 70, 13, 170, 3, [(212, 225)]) := rx_at tbX11_straightly ndX11_straightly (j := 38) rfl
theorem iX11_straightly_70 : rx_ins mX11_straightly 70 = some (13, 73, 27, 0, 97, []) := rx_at tbX11_straightly ndX11_straightly (j := 39) rfl
theorem iX11_straightly_73 : rx_ins mX11_straightly 73 = some (2, 74, 0, 1, 0, []) := rx_at tbX11_straightly ndX11_straightly (j := 40) rfl
theorem iX11_straightly_74 : rx_ins mX11_straightly 74 = some (13, 77, 19, 0, 93, []) := rx_at tbX11_straightly ndX11_straightly (j := 41) rfl
theorem iX11_straightly_93 : rx_ins mX11_straightly 93 = some (1, 94, 1, 0, 0, []) := rx_at tbX11_straightly ndX11_straightly (j := 51) rfl
theorem iX11_straightly_94 : rx_ins mX11_straightly 94 = some (15, 97, 4, 0, 98, []) := rx_at tbX11_straightly ndX11_straightly (j := 52) rfl
theorem iX11_straightly_77 : rx_ins mX11_straightly 77 = some (3, 78, 0, 0, 0, []) := rx_at tbX11_straightly ndX11_straightly (j := 42) rfl
theorem iX11_straightly_78 : rx_ins mX11_straightly 78 = some (18, 81, 0, 11, 5, [(22, 127)]) := rx_at tbX11_straightly ndX11_straightly (j := 43) rfl
theorem iX11_straightly_81 : rx_ins mX11_straightly 81 = some (1, 83, 18, 1, 0, []) := rx_at tbX11_straightly ndX11_straightly (j := 44) rfl
theorem iX11_straightly_83 : rx_ins mX11_straightly 83 = some (2, 85, 1, 4, 0, []) := rx_at tbX11_straightly ndX11_straightly (j := 45) rfl
theorem iX11_straightly_85 : rx_ins mX11_straightly 85 = some (7, 86, 0, 2, 0, []) := rx_at tbX11_straightly ndX11_straightly (j := 46) rfl
theorem iX11_straightly_86 : rx_ins mX11_straightly 86 = some (2, 88, 1, 5, 0, []) := rx_at tbX11_straightly ndX11_straightly (j := 47) rfl
theorem iX11_straightly_88 : rx_ins mX11_straightly 88 = some (7, 89, 0, 0, 0, []) := rx_at tbX11_straightly ndX11_straightly (j := 48) rfl
theorem iX11_straightly_89 : rx_ins mX11_straightly 89 = some (20, 90, 0, 0, 0, []) := rx_at tbX11_straightly ndX11_straightly (j := 49) rfl
theorem iX11_straightly_90 : rx_ins mX11_straightly 90 = some (15, 93, 8, 0, 98, []) := rx_at tbX11_straightly ndX11_straightly (j := 50) rfl
theorem iX11_straight_0 : rx_ins mX11_straight 0 = some (2, 1, 0, 1, 0, []) := rx_at tbX11_straight ndX11_straight (j := 0) rfl
theorem iX11_straight_1 : rx_ins mX11_straight 1 = some (1, 2, 0, 0, 0, []) := rx_at tbX11_straight ndX11_straight (j := 1) rfl
theorem iX11_straight_2 : rx_ins mX11_straight 2 = some (1, 3, 2, 0, 0, []) := rx_at tbX11_straight ndX11_straight (j := 2) rfl
theorem iX11_straight_3 : rx_ins mX11_straight 3 = some (28, 6, 0, 133, 3, [(111, 198)]) := rx_at tbX11_straight ndX11_straight (j := 3) rfl
theorem iX11_straight_6 : rx_ins mX11_straight 6 = some (13, 9, 6, 1, 12, []) := rx_at tbX11_straight ndX11_straight (j := 4) rfl
theorem iX11_straight_12 : rx_ins mX11_straight 12 = some (3, 13, 0, 0, 0, []) := rx_at tbX11_straight ndX11_straight (j := 7) rfl
theorem iX11_straight_13 : rx_ins mX11_straight 13 = some (28, 16, 13, 166, 1, [(215, 226)]) := rx_at tbX11_straight ndX11_straight (j := 8) rfl
theorem iX11_straight_16 : rx_ins mX11_straight 16 = some (2, 17, 0, 1, 0, []) := rx_at tbX11_straight ndX11_straight (j := 9) rfl
theorem iX11_straight_17 : rx_ins mX11_straight 17 = some (1, 18, 2, 0, 0, []) := rx_at tbX11_straight ndX11_straight (j := 10) rfl
theorem iX11_straight_18 : rx_ins mX11_straight 18 = some (14, 21, 19, 3, 37, []) := rx_at tbX11_straight ndX11_straight (j := 11) rfl
theorem iX11_straight_37 : rx_ins mX11_straight 37 = some (3, 38, 0, 0, 0, []) := rx_at tbX11_straight ndX11_straight (j := 22) rfl
theorem iX11_straight_38 : rx_ins mX11_straight 38 = some (1, 39, 0, 0, 0, []) := rx_at tbX11_straight ndX11_straight (j := 23) rfl
theorem iX11_straight_39 : rx_ins mX11_straight 39 = some (1, 40, (-1), 0, 0, []) := rx_at tbX11_straight ndX11_straight (j := 24) rfl
theorem iX11_straight_40 : rx_ins mX11_straight 40 = some (28, 43, 13, 172, 3, [(218, 227)]) := rx_at tbX11_straight ndX11_straight (j := 25) rfl
theorem iX11_straight_43 : rx_ins mX11_straight 43 = some (13, 46, 6, 1, 49, []) := rx_at tbX11_straight ndX11_straight (j := 26) rfl
theorem iX11_straight_49 : rx_ins mX11_straight 49 = some (1, 50, 0, 0, 0, []) := rx_at tbX11_straight ndX11_straight (j := 29) rfl
theorem iX11_straight_50 : rx_ins mX11_straight 50 = some (4, 51, 0, 2, 0, []) := rx_at tbX11_straight ndX11_straight (j := 30) rfl
theorem iX11_straight_51 : rx_ins mX11_straight 51 = some (1, 52, (-1), 0, 0, []) := rx_at tbX11_straight ndX11_straight (j := 31) rfl
theorem iX11_straight_52 : rx_ins mX11_straight 52 = some (4, 53, 0, 3, 0, []) := rx_at tbX11_straight ndX11_straight (j := 32) rfl
theorem iX11_straight_53 : rx_ins mX11_straight 53 = some (1, 54, 0, 0, 0, []) := rx_at tbX11_straight ndX11_straight (j := 33) rfl
theorem iX11_straight_54 : rx_ins mX11_straight 54 = some (4, 56, 1, 4, 0, []) := rx_at tbX11_straight ndX11_straight (j := 34) rfl
theorem iX11_straight_46 : rx_ins mX11_straight 46 = some (1, 48, (-1000000005), 3, 25, [(222, 0)]) := rx_at tbX11_straight ndX11_straight (j := 27) rfl
theorem iX11_straight_48 : rx_ins mX11_straight 48 = some (29, 49, 0, 0, 0, []) := rx_at tbX11_straight ndX11_straight (j := 28) rfl
theorem iX11_straight_21 : rx_ins mX11_straight 21 = some (3, 22, 0, 0, 0, []) := rx_at tbX11_straight ndX11_straight (j := 12) rfl
theorem iX11_straight_22 : rx_ins mX11_straight 22 = some (2, 23, 0, 1, 0, []) := rx_at tbX11_straight ndX11_straight (j := 13) rfl
theorem iX11_straight_23 : rx_ins mX11_straight 23 = some (1, 24, 1, 0, 0, []) := rx_at tbX11_straight ndX11_straight (j := 14) rfl
theorem iX11_straight_24 : rx_ins mX11_straight 24 = some (14, 27, 7, 1, 31, []) := rx_at tbX11_straight ndX11_straight (j := 15) rfl
theorem iX11_straight_31 : rx_ins mX11_straight 31 = some (1, 32, 0, 0, 0, []) := rx_at tbX11_straight ndX11_straight (j := 18) rfl
theorem iX11_straight_32 : rx_ins mX11_straight 32 = some (1, 33, (-1), 0, 0, []) := rx_at tbX11_straight ndX11_straight (j := 19) rfl
theorem iX11_straight_33 : rx_ins mX11_straight 33 = some (28, 36, 13, 172, 3, [(218, 227)]) := rx_at tbX11_straight ndX11_straight (j := 20) rfl
theorem iX11_straight_36 : rx_ins mX11_straight 36 = some (29, 37, 0, 0, 0, []) := rx_at tbX11_straight ndX11_straight (j := 21) rfl
theorem iX11_straight_27 : rx_ins mX11_straight 27 = some (1, 28, 1, 0, 0, []) := rx_at tbX11_straight ndX11_straight (j := 16) rfl
theorem iX11_straight_28 : rx_ins mX11_straight 28 = some (15, 31, 4, 0, 32, []) := rx_at tbX11_straight ndX11_straight (j := 17) rfl
theorem iX11_straight_9 : rx_ins mX11_straight 9 = some (1, 11, (-1000000001), 3, 21, [(130, 0)]) := rx_at tbX11_straight ndX11_straight (j := 5) rfl
theorem iX11_straight_11 : rx_ins mX11_straight 11 = some (29, 12, 0, 0, 0, []) := rx_at tbX11_straight ndX11_straight (j := 6) rfl
theorem iX11_straight_56 : rx_ins mX11_straight 56 = some (2, 58, 1, 4, 0, []) := rx_at tbX11_straight ndX11_straight (j := 35) rfl
theorem iX11_straight_58 : rx_ins mX11_straight 58 = some (3, 59, 0, 0, 0, []) := rx_at tbX11_straight ndX11_straight (j := 36) rfl
theorem iX11_straight_59 : rx_ins mX11_straight 59 = some (18, 62, 0, 11, 0, [(9, 124)]) := rx_at tbX11_straight ndX11_straight (j := 37) rfl
theorem iX11_straight_62 : rx_ins mX11_straight 62 = some (1, 63, 2, 0, 0, []) := rx_at tbX11_straight ndX11_straight (j := 38) rfl
theorem iX11_straight_63 : rx_ins mX11_straight 63 = some (20, 64, 0, 0, 0, []) := rx_at tbX11_straight ndX11_straight (j := 39) rfl
theorem iX11_straight_64 : rx_ins mX11_straight 64 = some (14, 67, 44, 3, 108, []) := rx_at tbX11_straight ndX11_straight (j := 40) rfl
theorem iX11_straight_108 : rx_ins mX11_straight 108 = some (2, 109, 0, 2, 0, []) := rx_at tbX11_straight ndX11_straight (j := 62) rfl
theorem iX11_straight_109 : rx_ins mX11_straight 109 = some (29, 110, 0, 0, 0, []) := rx_at tbX11_straight ndX11_straight (j := 63) rfl
theorem iX11_straight_67 : rx_ins mX11_straight 67 = some (3, 68, 0, 0, 0, []) := rx_at tbX11_straight ndX11_straight (j := 41) rfl
theorem iX11_straight_68 : rx_ins mX11_straight 68 = some (1, 69, 1, 0, 0, []) := rx_at tbX11_straight ndX11_straight (j := 42) rfl
theorem iX11_straight_69 : rx_ins mX11_straight 69 = some (2, 71, 1, 4, 0, []) := rx_at tbX11_straight ndX11_straight (j := 43) rfl
theorem iX11_straight_71 : rx_ins mX11_straight 71 = some (28, 74, 13, 172, 3, [(218, 227)]) := rx_at tbX11_straight ndX11_straight (j := 44) rfl
theorem iX11_straight_74 : rx_ins mX11_straight 74 = some (4, 76, 1, 5, 0, []) := rx_at tbX11_straight ndX11_straight (j := 45) rfl
theorem iX11_straight_76 : rx_ins mX11_straight 76 = some (2, 78, 1, 5, 0, []) := rx_at tbX11_straight ndX11_straight (j := 46) rfl
theorem iX11_straight_78 : rx_ins mX11_straight 78 = some (2, 79, 0, 3, 0, []) := rx_at tbX11_straight ndX11_straight (j := 47) rfl
theorem iX11_straight_79 : rx_ins mX11_straight 79 = some (14, 82, 8, 5, 87, []) := rx_at tbX11_straight ndX11_straight (j := 48) rfl
theorem iX11_straight_87 : rx_ins mX11_straight 87 = some (2, 88, 0, 2, 0, []) := rx_at tbX11_straight ndX11_straight (j := 51) rfl
theorem iX11_straight_88 : rx_ins mX11_straight 88 = some (4, 89, 0, 2, 0, []) := rx_at tbX11_straight ndX11_straight (j := 52) rfl
theorem iX11_straight_89 : rx_ins mX11_straight 89 = some (2, 91, 1, 5, 0, []) := rx_at tbX11_straight ndX11_straight (j := 53) rfl
theorem iX11_straight_91 : rx_ins mX11_straight 91 = some (2, 92, 0, 3, 0, []) := rx_at tbX11_straight ndX11_straight (j := 54) rfl
theorem iX11_straight_92 : rx_ins mX11_straight 92 = some (14, 95, 8, 5, 100, []) := rx_at tbX11_straight ndX11_straight (j := 55) rfl
theorem iX11_straight_100 : rx_ins mX11_straight 100 = some (2, 101, 0, 3, 0, []) := rx_at tbX11_straight ndX11_straight (j := 58) rfl
theorem iX11_straight_101 : rx_ins mX11_straight 101 = some (4, 102, 0, 3, 0, []) := rx_at tbX11_straight ndX11_straight (j := 59) rfl
theorem iX11_straight_102 : rx_ins mX11_straight 102 = some (6, 105, 1, 4, 0, []) := rx_at tbX11_straight ndX11_straight (j := 60) rfl
theorem iX11_straight_105 : rx_ins mX11_straight 105 = some (15, 108, (-49), 0, 56, []) := rx_at tbX11_straight ndX11_straight (j := 61) rfl
theorem iX11_straight_82 : rx_ins mX11_straight 82 = some (2, 84, 1, 4, 0, []) := rx_at tbX11_straight ndX11_straight (j := 49) rfl
theorem iX11_straight_84 : rx_ins mX11_straight 84 = some (15, 87, 4, 0, 88, []) := rx_at tbX11_straight ndX11_straight (j := 50) rfl
theorem iX11_straight_95 : rx_ins mX11_straight 95 = some (2, 97, 1, 5, 0, []) := rx_at tbX11_straight ndX11_straight (j := 56) rfl
theorem iX11_straight_97 : rx_ins mX11_straight 97 = some (15, 100, 4, 0, 101, []) := rx_at tbX11_straight ndX11_straight (j := 57) rfl
theorem iX11_isParted_0 : rx_ins mX11_isParted 0 = some (1, 1, 0, 0, 0, []) := rx_atm tbX11_isParted ndX11_isParted (lmX11_isParted_0 (List.mem_of_getElem? (i := 0) rfl))
theorem iX11_isParted_1 : rx_ins mX11_isParted 1 = some (4, 2, 0, 1, 0, []) := rx_atm tbX11_isParted ndX11_isParted (lmX11_isParted_0 (List.mem_of_getElem? (i := 1) rfl))
theorem iX11_isParted_2 : rx_ins mX11_isParted 2 = some (2, 3, 0, 1, 0, []) := rx_atm tbX11_isParted ndX11_isParted (lmX11_isParted_0 (List.mem_of_getElem? (i := 2) rfl))
theorem iX11_isParted_3 : rx_ins mX11_isParted 3 = some (1, 5, 8, 1, 0, []) := rx_atm tbX11_isParted ndX11_isParted (lmX11_isParted_0 (List.mem_of_getElem? (i := 3) rfl))
theorem iX11_isParted_5 : rx_ins mX11_isParted 5 = some (14, 8, 16, 3, 21, []) := rx_atm tbX11_isParted ndX11_isParted (lmX11_isParted_0 (List.mem_of_getElem? (i := 4) rfl))
theorem iX11_isParted_21 : rx_ins mX11_isParted 21 = some (1, 22, 1, 0, 0, []) := rx_atm tbX11_isParted ndX11_isParted (lmX11_isParted_0 (List.mem_of_getElem? (i := 12) rfl))
theorem iX11_isParted_22 : rx_ins mX11_isParted 22 = some (4, 23, 0, 1, 0, []) := rx_atm tbX11_isParted ndX11_isParted (lmX11_isParted_0 (List.mem_of_getElem? (i := 13) rfl))
theorem iX11_isParted_23 : rx_ins mX11_isParted 23 = some (1, 24, 0, 0, 0, []) := rx_atm tbX11_isParted ndX11_isParted (lmX11_isParted_0 (List.mem_of_getElem? (i := 14) rfl))
theorem iX11_isParted_24 : rx_ins mX11_isParted 24 = some (4, 25, 0, 2, 0, []) := rx_atm tbX11_isParted ndX11_isParted (lmX11_isParted_0 (List.mem_of_getElem? (i := 15) rfl))
theorem iX11_isParted_8 : rx_ins mX11_isParted 8 = some (3, 9, 0, 0, 0, []) := rx_atm tbX11_isParted ndX11_isParted (lmX11_isParted_0 (List.mem_of_getElem? (i := 5) rfl))
theorem iX11_isParted_9 : rx_ins mX11_isParted 9 = some (18, 12, 0, 11, 6, [(25, 128)]) := rx_atm tbX11_isParted ndX11_isParted (lmX11_isParted_0 (List.mem_of_getElem? (i := 6) rfl))
theorem iX11_isParted_12 : rx_ins mX11_isParted 12 = some (2, 13, 0, 1, 0, []) := rx_atm tbX11_isParted ndX11_isParted (lmX11_isParted_0 (List.mem_of_getElem? (i := 7) rfl))
theorem iX11_isParted_13 : rx_ins mX11_isParted 13 = some (1, 14, 0, 0, 0, []) := rx_atm tbX11_isParted ndX11_isParted (lmX11_isParted_0 (List.mem_of_getElem? (i := 8) rfl))
theorem iX11_isParted_14 : rx_ins mX11_isParted 14 = some (21, 15, 0, 0, 0, []) := rx_atm tbX11_isParted ndX11_isParted (lmX11_isParted_0 (List.mem_of_getElem? (i := 9) rfl))
theorem iX11_isParted_15 : rx_ins mX11_isParted 15 = some (6, 18, 1, 1, 0, []) := rx_atm tbX11_isParted ndX11_isParted (lmX11_isParted_0 (List.mem_of_getElem? (i := 10) rfl))
theorem iX11_isParted_18 : rx_ins mX11_isParted 18 = some (15, 21, (-16), 0, 2, []) := rx_atm tbX11_isParted ndX11_isParted (lmX11_isParted_0 (List.mem_of_getElem? (i := 11) rfl))
theorem iX11_isParted_25 : rx_ins mX11_isParted 25 = some (2, 26, 0, 2, 0, []) := rx_atm tbX11_isParted ndX11_isParted (lmX11_isParted_0 (List.mem_of_getElem? (i := 16) rfl))
theorem iX11_isParted_26 : rx_ins mX11_isParted 26 = some (3, 27, 0, 0, 0, []) := rx_atm tbX11_isParted ndX11_isParted (lmX11_isParted_0 (List.mem_of_getElem? (i := 17) rfl))
theorem iX11_isParted_27 : rx_ins mX11_isParted 27 = some (18, 30, 0, 11, 0, [(9, 124)]) := rx_atm tbX11_isParted ndX11_isParted (lmX11_isParted_0 (List.mem_of_getElem? (i := 18) rfl))
theorem iX11_isParted_30 : rx_ins mX11_isParted 30 = some (1, 31, 1, 0, 0, []) := rx_atm tbX11_isParted ndX11_isParted (lmX11_isParted_0 (List.mem_of_getElem? (i := 19) rfl))
theorem iX11_isParted_31 : rx_ins mX11_isParted 31 = some (20, 32, 0, 0, 0, []) := rx_atm tbX11_isParted ndX11_isParted (lmX11_isParted_0 (List.mem_of_getElem? (i := 20) rfl))
theorem iX11_isParted_32 : rx_ins mX11_isParted 32 = some (14, 35, 204, 3, 236, []) := rx_atm tbX11_isParted ndX11_isParted (lmX11_isParted_0 (List.mem_of_getElem? (i := 21) rfl))
theorem iX11_isParted_236 : rx_ins mX11_isParted 236 = some (2, 237, 0, 1, 0, []) := rx_atm tbX11_isParted ndX11_isParted (lmX11_isParted_3 (List.mem_of_getElem? (i := 6) rfl))
theorem iX11_isParted_237 : rx_ins mX11_isParted 237 = some (29, 238, 1, 0, 0, []) := rx_atm tbX11_isParted ndX11_isParted (lmX11_isParted_3 (List.mem_of_getElem? (i := 7) rfl))
theorem iX11_isParted_35 : rx_ins mX11_isParted 35 = some (3, 36, 0, 0, 0, []) := rx_atm tbX11_isParted ndX11_isParted (lmX11_isParted_0 (List.mem_of_getElem? (i := 22) rfl))
theorem iX11_isParted_36 : rx_ins mX11_isParted 36 = some (18, 39, 0, 11, 6, [(25, 128)]) := rx_atm tbX11_isParted ndX11_isParted (lmX11_isParted_0 (List.mem_of_getElem? (i := 23) rfl))
theorem iX11_isParted_39 : rx_ins mX11_isParted 39 = some (2, 40, 0, 2, 0, []) := rx_atm tbX11_isParted ndX11_isParted (lmX11_isParted_0 (List.mem_of_getElem? (i := 24) rfl))
theorem iX11_isParted_40 : rx_ins mX11_isParted 40 = some (3, 41, 0, 0, 0, []) := rx_atm tbX11_isParted ndX11_isParted (lmX11_isParted_0 (List.mem_of_getElem? (i := 25) rfl))
theorem iX11_isParted_41 : rx_ins mX11_isParted 41 = some (18, 44, 0, 11, 6, [(25, 128)]) := rx_atm tbX11_isParted ndX11_isParted (lmX11_isParted_0 (List.mem_of_getElem? (i := 26) rfl))
theorem iX11_isParted_44 : rx_ins mX11_isParted 44 = some (2, 45, 0, 2, 0, []) := rx_atm tbX11_isParted ndX11_isParted (lmX11_isParted_0 (List.mem_of_getElem? (i := 27) rfl))
theorem iX11_isParted_45 : rx_ins mX11_isParted 45 = some (20, 46, 0, 0, 0, []) := rx_atm tbX11_isParted ndX11_isParted (lmX11_isParted_0 (List.mem_of_getElem? (i := 28) rfl))
theorem iX11_isParted_46 : rx_ins mX11_isParted 46 = some (13, 49, 7, 1, 53, []) := rx_atm tbX11_isParted ndX11_isParted (lmX11_isParted_0 (List.mem_of_getElem? (i := 29) rfl))
theorem iX11_isParted_53 : rx_ins mX11_isParted 53 = some (3, 54, 0, 0, 0, []) := rx_atm tbX11_isParted ndX11_isParted (lmX11_isParted_0 (List.mem_of_getElem? (i := 32) rfl))
theorem iX11_isParted_54 : rx_ins mX11_isParted 54 = some (18, 57, 0, 11, 6, [(25, 128)]) := rx_atm tbX11_isParted ndX11_isParted (lmX11_isParted_0 (List.mem_of_getElem? (i := 33) rfl))
theorem iX11_isParted_57 : rx_ins mX11_isParted 57 = some (2, 58, 0, 2, 0, []) := rx_atm tbX11_isParted ndX11_isParted (lmX11_isParted_0 (List.mem_of_getElem? (i := 34) rfl))
theorem iX11_isParted_58 : rx_ins mX11_isParted 58 = some (20, 59, 0, 0, 0, []) := rx_atm tbX11_isParted ndX11_isParted (lmX11_isParted_0 (List.mem_of_getElem? (i := 35) rfl))
theorem iX11_isParted_59 : rx_ins mX11_isParted 59 = some (21, 60, 0, 0, 0, []) := rx_atm tbX11_isParted ndX11_isParted (lmX11_isParted_0 (List.mem_of_getElem? (i := 36) rfl))
theorem iX11_isParted_49 : rx_ins mX11_isParted 49 = some (1, 50, 1, 0, 0, []) := rx_atm tbX11_isParted ndX11_isParted (lmX11_isParted_0 (List.mem_of_getElem? (i := 30) rfl))
theorem iX11_isParted_50 : rx_ins mX11_isParted 50 = some (15, 53, 9, 0, 59, []) := rx_atm tbX11_isParted ndX11_isParted (lmX11_isParted_0 (List.mem_of_getElem? (i := 31) rfl))
theorem iX11_isParted_60 : rx_ins mX11_isParted 60 = some (1, 61, 1, 0, 0, []) := rx_atm tbX11_isParted ndX11_isParted (lmX11_isParted_0 (List.mem_of_getElem? (i := 37) rfl))
theorem iX11_isParted_61 : rx_ins mX11_isParted 61 = some (4, 62, 0, 3, 0, []) := rx_atm tbX11_isParted ndX11_isParted (lmX11_isParted_0 (List.mem_of_getElem? (i := 38) rfl))
theorem iX11_isParted_62 : rx_ins mX11_isParted 62 = some (2, 63, 0, 3, 0, []) := rx_atm tbX11_isParted ndX11_isParted (lmX11_isParted_0 (List.mem_of_getElem? (i := 39) rfl))
theorem iX11_isParted_63 : rx_ins mX11_isParted 63 = some (13, 66, 167, 0, 230, []) := rx_atm tbX11_isParted ndX11_isParted (lmX11_isParted_1 (List.mem_of_getElem? (i := 0) rfl))
theorem iX11_isParted_230 : rx_ins mX11_isParted 230 = some (6, 233, 1, 2, 0, []) := rx_atm tbX11_isParted ndX11_isParted (lmX11_isParted_3 (List.mem_of_getElem? (i := 4) rfl))
theorem iX11_isParted_233 : rx_ins mX11_isParted 233 = some (15, 236, (-208), 0, 25, []) := rx_atm tbX11_isParted ndX11_isParted (lmX11_isParted_3 (List.mem_of_getElem? (i := 5) rfl))
theorem iX11_isParted_66 : rx_ins mX11_isParted 66 = some (1, 67, 0, 0, 0, []) := rx_atm tbX11_isParted ndX11_isParted (lmX11_isParted_1 (List.mem_of_getElem? (i := 1) rfl))
theorem iX11_isParted_67 : rx_ins mX11_isParted 67 = some (4, 68, 0, 3, 0, []) := rx_atm tbX11_isParted ndX11_isParted (lmX11_isParted_1 (List.mem_of_getElem? (i := 2) rfl))
theorem iX11_isParted_68 : rx_ins mX11_isParted 68 = some (1, 69, 0, 0, 0, []) := rx_atm tbX11_isParted ndX11_isParted (lmX11_isParted_1 (List.mem_of_getElem? (i := 3) rfl))
theorem iX11_isParted_69 : rx_ins mX11_isParted 69 = some (4, 71, 1, 4, 0, []) := rx_atm tbX11_isParted ndX11_isParted (lmX11_isParted_1 (List.mem_of_getElem? (i := 4) rfl))
theorem iX11_isParted_71 : rx_ins mX11_isParted 71 = some (2, 73, 1, 4, 0, []) := rx_atm tbX11_isParted ndX11_isParted (lmX11_isParted_1 (List.mem_of_getElem? (i := 5) rfl))
theorem iX11_isParted_73 : rx_ins mX11_isParted 73 = some (3, 74, 0, 0, 0, []) := rx_atm tbX11_isParted ndX11_isParted (lmX11_isParted_1 (List.mem_of_getElem? (i := 6) rfl))
theorem iX11_isParted_74 : rx_ins mX11_isParted 74 = some (18, 77, 0, 11, 0, [(9, 124)]) := rx_atm tbX11_isParted ndX11_isParted (lmX11_isParted_1 (List.mem_of_getElem? (i := 7) rfl))
theorem iX11_isParted_77 : rx_ins mX11_isParted 77 = some (1, 78, 2, 0, 0, []) := rx_atm tbX11_isParted ndX11_isParted (lmX11_isParted_1 (List.mem_of_getElem? (i := 8) rfl))
theorem iX11_isParted_78 : rx_ins mX11_isParted 78 = some (20, 79, 0, 0, 0, []) := rx_atm tbX11_isParted ndX11_isParted (lmX11_isParted_1 (List.mem_of_getElem? (i := 9) rfl))
theorem iX11_isParted_79 : rx_ins mX11_isParted 79 = some (14, 82, 148, 3, 227, []) := rx_atm tbX11_isParted ndX11_isParted (lmX11_isParted_1 (List.mem_of_getElem? (i := 10) rfl))
theorem iX11_isParted_227 : rx_ins mX11_isParted 227 = some (15, 230, (-165), 0, 62, []) := rx_atm tbX11_isParted ndX11_isParted (lmX11_isParted_3 (List.mem_of_getElem? (i := 3) rfl))
theorem iX11_isParted_82 : rx_ins mX11_isParted 82 = some (3, 83, 0, 0, 0, []) := rx_atm tbX11_isParted ndX11_isParted (lmX11_isParted_1 (List.mem_of_getElem? (i := 11) rfl))
theorem iX11_isParted_83 : rx_ins mX11_isParted 83 = some (18, 86, 0, 11, 6, [(25, 128)]) := rx_atm tbX11_isParted ndX11_isParted (lmX11_isParted_1 (List.mem_of_getElem? (i := 12) rfl))
theorem iX11_isParted_86 : rx_ins mX11_isParted 86 = some (3, 87, 0, 0, 0, []) := rx_atm tbX11_isParted ndX11_isParted (lmX11_isParted_1 (List.mem_of_getElem? (i := 13) rfl))
theorem iX11_isParted_87 : rx_ins mX11_isParted 87 = some (2, 89, 1, 4, 0, []) := rx_atm tbX11_isParted ndX11_isParted (lmX11_isParted_1 (List.mem_of_getElem? (i := 14) rfl))
theorem iX11_isParted_89 : rx_ins mX11_isParted 89 = some (28, 92, 13, 142, 2, [(139, 205)]) := rx_atm tbX11_isParted ndX11_isParted (lmX11_isParted_1 (List.mem_of_getElem? (i := 15) rfl))
theorem iX11_isParted_92 : rx_ins mX11_isParted 92 = some (20, 93, 0, 0, 0, []) := rx_atm tbX11_isParted ndX11_isParted (lmX11_isParted_1 (List.mem_of_getElem? (i := 16) rfl))
theorem iX11_isParted_93 : rx_ins mX11_isParted 93 = some (4, 95, 1, 5, 0, []) := rx_atm tbX11_isParted ndX11_isParted (lmX11_isParted_1 (List.mem_of_getElem? (i := 17) rfl))
theorem iX11_isParted_95 : rx_ins mX11_isParted 95 = some (3, 96, 0, 0, 0, []) := rx_atm tbX11_isParted ndX11_isParted (lmX11_isParted_1 (List.mem_of_getElem? (i := 18) rfl))
theorem iX11_isParted_96 : rx_ins mX11_isParted 96 = some (18, 99, 0, 11, 6, [(25, 128)]) := rx_atm tbX11_isParted ndX11_isParted (lmX11_isParted_1 (List.mem_of_getElem? (i := 19) rfl))
theorem iX11_isParted_99 : rx_ins mX11_isParted 99 = some (3, 100, 0, 0, 0, []) := rx_atm tbX11_isParted ndX11_isParted (lmX11_isParted_1 (List.mem_of_getElem? (i := 20) rfl))
theorem iX11_isParted_100 : rx_ins mX11_isParted 100 = some (2, 102, 1, 4, 0, []) := rx_atm tbX11_isParted ndX11_isParted (lmX11_isParted_1 (List.mem_of_getElem? (i := 21) rfl))
theorem iX11_isParted_102 : rx_ins mX11_isParted 102 = some (28, 105, 13, 143, 2, [(142, 206)]) := rx_atm tbX11_isParted ndX11_isParted (lmX11_isParted_1 (List.mem_of_getElem? (i := 22) rfl))
theorem iX11_isParted_105 : rx_ins mX11_isParted 105 = some (20, 106, 0, 0, 0, []) := rx_atm tbX11_isParted ndX11_isParted (lmX11_isParted_1 (List.mem_of_getElem? (i := 23) rfl))
theorem iX11_isParted_106 : rx_ins mX11_isParted 106 = some (4, 108, 1, 6, 0, []) := rx_atm tbX11_isParted ndX11_isParted (lmX11_isParted_1 (List.mem_of_getElem? (i := 24) rfl))
theorem iX11_isParted_108 : rx_ins mX11_isParted 108 = some (2, 109, 0, 1, 0, []) := rx_atm tbX11_isParted ndX11_isParted (lmX11_isParted_1 (List.mem_of_getElem? (i := 25) rfl))
theorem iX11_isParted_109 : rx_ins mX11_isParted 109 = some (13, 112, 19, 0, 128, []) := rx_atm tbX11_isParted ndX11_isParted (lmX11_isParted_1 (List.mem_of_getElem? (i := 26) rfl))
theorem iX11_isParted_112 : rx_ins mX11_isParted 112 = some (2, 114, 1, 5, 0, []) := rx_atm tbX11_isParted ndX11_isParted (lmX11_isParted_1 (List.mem_of_getElem? (i := 27) rfl))
theorem iX11_isParted_114 : rx_ins mX11_isParted 114 = some (13, 117, 10, 0, 124, []) := rx_atm tbX11_isParted ndX11_isParted (lmX11_isParted_1 (List.mem_of_getElem? (i := 28) rfl))
theorem iX11_isParted_117 : rx_ins mX11_isParted 117 = some (2, 119, 1, 5, 0, []) := rx_atm tbX11_isParted ndX11_isParted (lmX11_isParted_1 (List.mem_of_getElem? (i := 29) rfl))
theorem iX11_isParted_119 : rx_ins mX11_isParted 119 = some (2, 121, 1, 6, 0, []) := rx_atm tbX11_isParted ndX11_isParted (lmX11_isParted_1 (List.mem_of_getElem? (i := 30) rfl))
theorem iX11_isParted_121 : rx_ins mX11_isParted 121 = some (14, 124, 7, 0, 128, []) := rx_atm tbX11_isParted ndX11_isParted (lmX11_isParted_1 (List.mem_of_getElem? (i := 31) rfl))
theorem iX11_isParted_128 : rx_ins mX11_isParted 128 = some (1, 129, 0, 0, 0, []) := rx_atm tbX11_isParted ndX11_isParted (lmX11_isParted_1 (List.mem_of_getElem? (i := 34) rfl))
theorem iX11_isParted_129 : rx_ins mX11_isParted 129 = some (4, 130, 0, 1, 0, []) := rx_atm tbX11_isParted ndX11_isParted (lmX11_isParted_1 (List.mem_of_getElem? (i := 35) rfl))
theorem iX11_isParted_124 : rx_ins mX11_isParted 124 = some (1, 125, 1, 0, 0, []) := rx_atm tbX11_isParted ndX11_isParted (lmX11_isParted_1 (List.mem_of_getElem? (i := 32) rfl))
theorem iX11_isParted_125 : rx_ins mX11_isParted 125 = some (15, 128, 4, 0, 129, []) := rx_atm tbX11_isParted ndX11_isParted (lmX11_isParted_1 (List.mem_of_getElem? (i := 33) rfl))
theorem iX11_isParted_130 : rx_ins mX11_isParted 130 = some (2, 131, 0, 3, 0, []) := rx_atm tbX11_isParted ndX11_isParted (lmX11_isParted_1 (List.mem_of_getElem? (i := 36) rfl))
theorem iX11_isParted_131 : rx_ins mX11_isParted 131 = some (13, 134, 26, 1, 157, []) := rx_atm tbX11_isParted ndX11_isParted (lmX11_isParted_1 (List.mem_of_getElem? (i := 37) rfl))
theorem iX11_isParted_134 : rx_ins mX11_isParted 134 = some (2, 136, 1, 5, 0, []) := rx_atm tbX11_isParted ndX11_isParted (lmX11_isParted_1 (List.mem_of_getElem? (i := 38) rfl))
theorem iX11_isParted_136 : rx_ins mX11_isParted 136 = some (13, 139, 7, 1, 143, []) := rx_atm tbX11_isParted ndX11_isParted (lmX11_isParted_1 (List.mem_of_getElem? (i := 39) rfl))
theorem iX11_isParted_143 : rx_ins mX11_isParted 143 = some (1, 144, 0, 0, 0, []) := rx_atm tbX11_isParted ndX11_isParted (lmX11_isParted_2 (List.mem_of_getElem? (i := 2) rfl))
theorem iX11_isParted_144 : rx_ins mX11_isParted 144 = some (2, 146, 1, 6, 0, []) := rx_atm tbX11_isParted ndX11_isParted (lmX11_isParted_2 (List.mem_of_getElem? (i := 3) rfl))
theorem iX11_isParted_146 : rx_ins mX11_isParted 146 = some (13, 149, 7, 1, 153, []) := rx_atm tbX11_isParted ndX11_isParted (lmX11_isParted_2 (List.mem_of_getElem? (i := 4) rfl))
theorem iX11_isParted_153 : rx_ins mX11_isParted 153 = some (1, 154, 0, 0, 0, []) := rx_atm tbX11_isParted ndX11_isParted (lmX11_isParted_2 (List.mem_of_getElem? (i := 7) rfl))
theorem iX11_isParted_154 : rx_ins mX11_isParted 154 = some (14, 157, 7, 0, 161, []) := rx_atm tbX11_isParted ndX11_isParted (lmX11_isParted_2 (List.mem_of_getElem? (i := 8) rfl))
theorem iX11_isParted_161 : rx_ins mX11_isParted 161 = some (1, 162, 0, 0, 0, []) := rx_atm tbX11_isParted ndX11_isParted (lmX11_isParted_2 (List.mem_of_getElem? (i := 11) rfl))
theorem iX11_isParted_162 : rx_ins mX11_isParted 162 = some (4, 163, 0, 3, 0, []) := rx_atm tbX11_isParted ndX11_isParted (lmX11_isParted_2 (List.mem_of_getElem? (i := 12) rfl))
theorem iX11_isParted_149 : rx_ins mX11_isParted 149 = some (1, 150, 1, 0, 0, []) := rx_atm tbX11_isParted ndX11_isParted (lmX11_isParted_2 (List.mem_of_getElem? (i := 5) rfl))
theorem iX11_isParted_150 : rx_ins mX11_isParted 150 = some (15, 153, 4, 0, 154, []) := rx_atm tbX11_isParted ndX11_isParted (lmX11_isParted_2 (List.mem_of_getElem? (i := 6) rfl))
theorem iX11_isParted_139 : rx_ins mX11_isParted 139 = some (1, 140, 1, 0, 0, []) := rx_atm tbX11_isParted ndX11_isParted (lmX11_isParted_2 (List.mem_of_getElem? (i := 0) rfl))
theorem iX11_isParted_140 : rx_ins mX11_isParted 140 = some (15, 143, 4, 0, 144, []) := rx_atm tbX11_isParted ndX11_isParted (lmX11_isParted_2 (List.mem_of_getElem? (i := 1) rfl))
theorem iX11_isParted_157 : rx_ins mX11_isParted 157 = some (1, 158, 1, 0, 0, []) := rx_atm tbX11_isParted ndX11_isParted (lmX11_isParted_2 (List.mem_of_getElem? (i := 9) rfl))
theorem iX11_isParted_158 : rx_ins mX11_isParted 158 = some (15, 161, 4, 0, 162, []) := rx_atm tbX11_isParted ndX11_isParted (lmX11_isParted_2 (List.mem_of_getElem? (i := 10) rfl))
theorem iX11_isParted_163 : rx_ins mX11_isParted 163 = some (3, 164, 0, 0, 0, []) := rx_atm tbX11_isParted ndX11_isParted (lmX11_isParted_2 (List.mem_of_getElem? (i := 13) rfl))
theorem iX11_isParted_164 : rx_ins mX11_isParted 164 = some (18, 167, 0, 11, 6, [(25, 128)]) := rx_atm tbX11_isParted ndX11_isParted (lmX11_isParted_2 (List.mem_of_getElem? (i := 14) rfl))
theorem iX11_isParted_167 : rx_ins mX11_isParted 167 = some (3, 168, 0, 0, 0, []) := rx_atm tbX11_isParted ndX11_isParted (lmX11_isParted_2 (List.mem_of_getElem? (i := 15) rfl))
theorem iX11_isParted_168 : rx_ins mX11_isParted 168 = some (2, 170, 1, 4, 0, []) := rx_atm tbX11_isParted ndX11_isParted (lmX11_isParted_2 (List.mem_of_getElem? (i := 16) rfl))
theorem iX11_isParted_170 : rx_ins mX11_isParted 170 = some (28, 173, 13, 142, 2, [(139, 205)]) := rx_atm tbX11_isParted ndX11_isParted (lmX11_isParted_2 (List.mem_of_getElem? (i := 17) rfl))
theorem iX11_isParted_173 : rx_ins mX11_isParted 173 = some (2, 175, 1, 5, 0, []) := rx_atm tbX11_isParted ndX11_isParted (lmX11_isParted_2 (List.mem_of_getElem? (i := 18) rfl))
theorem iX11_isParted_175 : rx_ins mX11_isParted 175 = some (13, 178, 14, 1, 189, []) := rx_atm tbX11_isParted ndX11_isParted (lmX11_isParted_2 (List.mem_of_getElem? (i := 19) rfl))
theorem iX11_isParted_189 : rx_ins mX11_isParted 189 = some (2, 191, 1, 5, 0, []) := rx_atm tbX11_isParted ndX11_isParted (lmX11_isParted_2 (List.mem_of_getElem? (i := 25) rfl))
theorem iX11_isParted_191 : rx_ins mX11_isParted 191 = some (21, 192, 0, 0, 0, []) := rx_atm tbX11_isParted ndX11_isParted (lmX11_isParted_2 (List.mem_of_getElem? (i := 26) rfl))
theorem iX11_isParted_178 : rx_ins mX11_isParted 178 = some (2, 180, 1, 6, 0, []) := rx_atm tbX11_isParted ndX11_isParted (lmX11_isParted_2 (List.mem_of_getElem? (i := 20) rfl))
theorem iX11_isParted_180 : rx_ins mX11_isParted 180 = some (13, 183, 9, 0, 189, []) := rx_atm tbX11_isParted ndX11_isParted (lmX11_isParted_2 (List.mem_of_getElem? (i := 21) rfl))
theorem iX11_isParted_183 : rx_ins mX11_isParted 183 = some (2, 185, 1, 6, 0, []) := rx_atm tbX11_isParted ndX11_isParted (lmX11_isParted_2 (List.mem_of_getElem? (i := 22) rfl))
theorem iX11_isParted_185 : rx_ins mX11_isParted 185 = some (9, 186, 0, 0, 0, []) := rx_atm tbX11_isParted ndX11_isParted (lmX11_isParted_2 (List.mem_of_getElem? (i := 23) rfl))
theorem iX11_isParted_186 : rx_ins mX11_isParted 186 = some (15, 189, 5, 0, 191, []) := rx_atm tbX11_isParted ndX11_isParted (lmX11_isParted_2 (List.mem_of_getElem? (i := 24) rfl))
theorem iX11_isParted_192 : rx_ins mX11_isParted 192 = some (3, 193, 0, 0, 0, []) := rx_atm tbX11_isParted ndX11_isParted (lmX11_isParted_2 (List.mem_of_getElem? (i := 27) rfl))
theorem iX11_isParted_193 : rx_ins mX11_isParted 193 = some (18, 196, 0, 11, 6, [(25, 128)]) := rx_atm tbX11_isParted ndX11_isParted (lmX11_isParted_2 (List.mem_of_getElem? (i := 28) rfl))
theorem iX11_isParted_196 : rx_ins mX11_isParted 196 = some (3, 197, 0, 0, 0, []) := rx_atm tbX11_isParted ndX11_isParted (lmX11_isParted_2 (List.mem_of_getElem? (i := 29) rfl))
theorem iX11_isParted_197 : rx_ins mX11_isParted 197 = some (2, 199, 1, 4, 0, []) := rx_atm tbX11_isParted ndX11_isParted (lmX11_isParted_2 (List.mem_of_getElem? (i := 30) rfl))
theorem iX11_isParted_199 : rx_ins mX11_isParted 199 = some (28, 202, 13, 143, 2, [(142, 206)]) := rx_atm tbX11_isParted ndX11_isParted (lmX11_isParted_2 (List.mem_of_getElem? (i := 31) rfl))
theorem iX11_isParted_202 : rx_ins mX11_isParted 202 = some (2, 204, 1, 6, 0, []) := rx_atm tbX11_isParted ndX11_isParted (lmX11_isParted_2 (List.mem_of_getElem? (i := 32) rfl))
theorem iX11_isParted_204 : rx_ins mX11_isParted 204 = some (13, 207, 14, 1, 218, []) := rx_atm tbX11_isParted ndX11_isParted (lmX11_isParted_2 (List.mem_of_getElem? (i := 33) rfl))
theorem iX11_isParted_218 : rx_ins mX11_isParted 218 = some (2, 220, 1, 6, 0, []) := rx_atm tbX11_isParted ndX11_isParted (lmX11_isParted_2 (List.mem_of_getElem? (i := 39) rfl))
theorem iX11_isParted_220 : rx_ins mX11_isParted 220 = some (21, 221, 0, 0, 0, []) := rx_atm tbX11_isParted ndX11_isParted (lmX11_isParted_3 (List.mem_of_getElem? (i := 0) rfl))
theorem iX11_isParted_207 : rx_ins mX11_isParted 207 = some (2, 209, 1, 5, 0, []) := rx_atm tbX11_isParted ndX11_isParted (lmX11_isParted_2 (List.mem_of_getElem? (i := 34) rfl))
theorem iX11_isParted_209 : rx_ins mX11_isParted 209 = some (13, 212, 9, 0, 218, []) := rx_atm tbX11_isParted ndX11_isParted (lmX11_isParted_2 (List.mem_of_getElem? (i := 35) rfl))
theorem iX11_isParted_212 : rx_ins mX11_isParted 212 = some (2, 214, 1, 5, 0, []) := rx_atm tbX11_isParted ndX11_isParted (lmX11_isParted_2 (List.mem_of_getElem? (i := 36) rfl))
theorem iX11_isParted_214 : rx_ins mX11_isParted 214 = some (9, 215, 0, 0, 0, []) := rx_atm tbX11_isParted ndX11_isParted (lmX11_isParted_2 (List.mem_of_getElem? (i := 37) rfl))
theorem iX11_isParted_215 : rx_ins mX11_isParted 215 = some (15, 218, 5, 0, 220, []) := rx_atm tbX11_isParted ndX11_isParted (lmX11_isParted_2 (List.mem_of_getElem? (i := 38) rfl))
theorem iX11_isParted_221 : rx_ins mX11_isParted 221 = some (6, 224, 1, 4, 0, []) := rx_atm tbX11_isParted ndX11_isParted (lmX11_isParted_3 (List.mem_of_getElem? (i := 1) rfl))
theorem iX11_isParted_224 : rx_ins mX11_isParted 224 = some (15, 227, (-153), 0, 71, []) := rx_atm tbX11_isParted ndX11_isParted (lmX11_isParted_3 (List.mem_of_getElem? (i := 2) rfl))
theorem iX11_bound_0 : rx_ins mX11_bound 0 = some (3, 1, 0, 0, 0, []) := rx_at tbX11_bound ndX11_bound (j := 0) rfl
theorem iX11_bound_1 : rx_ins mX11_bound 1 = some (18, 4, 0, 11, 0, [(9, 124)]) := rx_at tbX11_bound ndX11_bound (j := 1) rfl
theorem iX11_bound_4 : rx_ins mX11_bound 4 = some (1, 5, 1, 0, 0, []) := rx_at tbX11_bound ndX11_bound (j := 2) rfl
theorem iX11_bound_5 : rx_ins mX11_bound 5 = some (20, 6, 0, 0, 0, []) := rx_at tbX11_bound ndX11_bound (j := 3) rfl
theorem iX11_bound_6 : rx_ins mX11_bound 6 = some (1, 7, 3, 0, 0, []) := rx_at tbX11_bound ndX11_bound (j := 4) rfl
theorem iX11_bound_7 : rx_ins mX11_bound 7 = some (14, 10, 5, 3, 12, []) := rx_at tbX11_bound ndX11_bound (j := 5) rfl
theorem iX11_bound_12 : rx_ins mX11_bound 12 = some (1, 13, 0, 0, 0, []) := rx_at tbX11_bound ndX11_bound (j := 8) rfl
theorem iX11_bound_13 : rx_ins mX11_bound 13 = some (3, 14, 0, 0, 0, []) := rx_at tbX11_bound ndX11_bound (j := 9) rfl
theorem iX11_bound_14 : rx_ins mX11_bound 14 = some (18, 17, 0, 11, 0, [(9, 124)]) := rx_at tbX11_bound ndX11_bound (j := 10) rfl
theorem iX11_bound_17 : rx_ins mX11_bound 17 = some (1, 18, 2, 0, 0, []) := rx_at tbX11_bound ndX11_bound (j := 11) rfl
theorem iX11_bound_18 : rx_ins mX11_bound 18 = some (20, 19, 0, 0, 0, []) := rx_at tbX11_bound ndX11_bound (j := 12) rfl
theorem iX11_bound_19 : rx_ins mX11_bound 19 = some (1, 20, 3, 0, 0, []) := rx_at tbX11_bound ndX11_bound (j := 13) rfl
theorem iX11_bound_20 : rx_ins mX11_bound 20 = some (3, 21, 0, 0, 0, []) := rx_at tbX11_bound ndX11_bound (j := 14) rfl
theorem iX11_bound_21 : rx_ins mX11_bound 21 = some (18, 24, 0, 11, 0, [(9, 124)]) := rx_at tbX11_bound ndX11_bound (j := 15) rfl
theorem iX11_bound_24 : rx_ins mX11_bound 24 = some (1, 25, 1, 0, 0, []) := rx_at tbX11_bound ndX11_bound (j := 16) rfl
theorem iX11_bound_25 : rx_ins mX11_bound 25 = some (20, 26, 0, 0, 0, []) := rx_at tbX11_bound ndX11_bound (j := 17) rfl
theorem iX11_bound_26 : rx_ins mX11_bound 26 = some (7, 27, 0, 2, 0, []) := rx_at tbX11_bound ndX11_bound (j := 18) rfl
theorem iX11_bound_27 : rx_ins mX11_bound 27 = some (7, 28, 0, 1, 0, []) := rx_at tbX11_bound ndX11_bound (j := 19) rfl
theorem iX11_bound_28 : rx_ins mX11_bound 28 = some (1, 30, 6, 1, 0, []) := rx_at tbX11_bound ndX11_bound (j := 20) rfl
theorem iX11_bound_30 : rx_ins mX11_bound 30 = some (7, 31, 0, 0, 0, []) := rx_at tbX11_bound ndX11_bound (j := 21) rfl
theorem iX11_bound_31 : rx_ins mX11_bound 31 = some (31, 34, 0, 0, 0, [(196, 9)]) := rx_at tbX11_bound ndX11_bound (j := 22) rfl
theorem iX11_bound_34 : rx_ins mX11_bound 34 = some (4, 35, 0, 1, 0, []) := rx_at tbX11_bound ndX11_bound (j := 23) rfl
theorem iX11_bound_35 : rx_ins mX11_bound 35 = some (3, 36, 0, 0, 0, []) := rx_at tbX11_bound ndX11_bound (j := 24) rfl
theorem iX11_bound_36 : rx_ins mX11_bound 36 = some (28, 39, 13, 174, 1, [(223, 228)]) := rx_at tbX11_bound ndX11_bound (j := 25) rfl
theorem iX11_bound_39 : rx_ins mX11_bound 39 = some (13, 42, 27, 0, 66, []) := rx_at tbX11_bound ndX11_bound (j := 26) rfl
theorem iX11_bound_66 : rx_ins mX11_bound 66 = some (2, 67, 0, 1, 0, []) := rx_at tbX11_bound ndX11_bound (j := 43) rfl
theorem iX11_bound_67 : rx_ins mX11_bound 67 = some (29, 68, 0, 0, 0, []) := rx_at tbX11_bound ndX11_bound (j := 44) rfl
theorem iX11_bound_42 : rx_ins mX11_bound 42 = some (2, 43, 0, 1, 0, []) := rx_at tbX11_bound ndX11_bound (j := 27) rfl
theorem iX11_bound_43 : rx_ins mX11_bound 43 = some (3, 44, 0, 0, 0, []) := rx_at tbX11_bound ndX11_bound (j := 28) rfl
theorem iX11_bound_44 : rx_ins mX11_bound 44 = some (18, 47, 0, 11, 0, [(9, 124)]) := rx_at tbX11_bound ndX11_bound (j := 29) rfl
theorem iX11_bound_47 : rx_ins mX11_bound 47 = some (1, 48, 2, 0, 0, []) := rx_at tbX11_bound ndX11_bound (j := 30) rfl
theorem iX11_bound_48 : rx_ins mX11_bound 48 = some (20, 49, 0, 0, 0, []) := rx_at tbX11_bound ndX11_bound (j := 31) rfl
theorem iX11_bound_49 : rx_ins mX11_bound 49 = some (1, 50, 2, 0, 0, []) := rx_at tbX11_bound ndX11_bound (j := 32) rfl
theorem iX11_bound_50 : rx_ins mX11_bound 50 = some (3, 51, 0, 0, 0, []) := rx_at tbX11_bound ndX11_bound (j := 33) rfl
theorem iX11_bound_51 : rx_ins mX11_bound 51 = some (18, 54, 0, 11, 0, [(9, 124)]) := rx_at tbX11_bound ndX11_bound (j := 34) rfl
theorem iX11_bound_54 : rx_ins mX11_bound 54 = some (1, 55, 1, 0, 0, []) := rx_at tbX11_bound ndX11_bound (j := 35) rfl
theorem iX11_bound_55 : rx_ins mX11_bound 55 = some (20, 56, 0, 0, 0, []) := rx_at tbX11_bound ndX11_bound (j := 36) rfl
theorem iX11_bound_56 : rx_ins mX11_bound 56 = some (7, 57, 0, 2, 0, []) := rx_at tbX11_bound ndX11_bound (j := 37) rfl
theorem iX11_bound_57 : rx_ins mX11_bound 57 = some (7, 58, 0, 1, 0, []) := rx_at tbX11_bound ndX11_bound (j := 38) rfl
theorem iX11_bound_58 : rx_ins mX11_bound 58 = some (1, 59, 4, 0, 0, []) := rx_at tbX11_bound ndX11_bound (j := 39) rfl
theorem iX11_bound_59 : rx_ins mX11_bound 59 = some (7, 60, 0, 0, 0, []) := rx_at tbX11_bound ndX11_bound (j := 40) rfl
theorem iX11_bound_60 : rx_ins mX11_bound 60 = some (31, 63, 0, 0, 0, [(196, 9)]) := rx_at tbX11_bound ndX11_bound (j := 41) rfl
theorem iX11_bound_63 : rx_ins mX11_bound 63 = some (15, 66, 4, 0, 67, []) := rx_at tbX11_bound ndX11_bound (j := 42) rfl
theorem iX11_bound_10 : rx_ins mX11_bound 10 = some (1, 11, 0, 0, 0, []) := rx_at tbX11_bound ndX11_bound (j := 6) rfl
theorem iX11_bound_11 : rx_ins mX11_bound 11 = some (29, 12, 0, 0, 0, []) := rx_at tbX11_bound ndX11_bound (j := 7) rfl
theorem iX11_swap_0 : rx_ins mX11_swap 0 = some (1, 1, 0, 0, 0, []) := rx_at tbX11_swap ndX11_swap (j := 0) rfl
theorem iX11_swap_1 : rx_ins mX11_swap 1 = some (4, 2, 0, 3, 0, []) := rx_at tbX11_swap ndX11_swap (j := 1) rfl
theorem iX11_swap_2 : rx_ins mX11_swap 2 = some (2, 3, 0, 3, 0, []) := rx_at tbX11_swap ndX11_swap (j := 2) rfl
theorem iX11_swap_3 : rx_ins mX11_swap 3 = some (1, 4, 2, 0, 0, []) := rx_at tbX11_swap ndX11_swap (j := 3) rfl
theorem iX11_swap_4 : rx_ins mX11_swap 4 = some (14, 7, 61, 3, 65, []) := rx_at tbX11_swap ndX11_swap (j := 4) rfl
theorem iX11_swap_65 : rx_ins mX11_swap 65 = some (30, 66, 0, 0, 0, []) := rx_at tbX11_swap ndX11_swap (j := 49) rfl
theorem iX11_swap_7 : rx_ins mX11_swap 7 = some (3, 8, 0, 0, 0, []) := rx_at tbX11_swap ndX11_swap (j := 5) rfl
theorem iX11_swap_8 : rx_ins mX11_swap 8 = some (18, 11, 0, 11, 0, [(9, 124)]) := rx_at tbX11_swap ndX11_swap (j := 6) rfl
theorem iX11_swap_11 : rx_ins mX11_swap 11 = some (1, 12, 4, 0, 0, []) := rx_at tbX11_swap ndX11_swap (j := 7) rfl
theorem iX11_swap_12 : rx_ins mX11_swap 12 = some (1, 13, 3, 0, 0, []) := rx_at tbX11_swap ndX11_swap (j := 8) rfl
theorem iX11_swap_13 : rx_ins mX11_swap 13 = some (2, 14, 0, 1, 0, []) := rx_at tbX11_swap ndX11_swap (j := 9) rfl
theorem iX11_swap_14 : rx_ins mX11_swap 14 = some (7, 15, 0, 2, 0, []) := rx_at tbX11_swap ndX11_swap (j := 10) rfl
theorem iX11_swap_15 : rx_ins mX11_swap 15 = some (7, 16, 0, 0, 0, []) := rx_at tbX11_swap ndX11_swap (j := 11) rfl
theorem iX11_swap_16 : rx_ins mX11_swap 16 = some (2, 17, 0, 3, 0, []) := rx_at tbX11_swap ndX11_swap (j := 12) rfl
theorem iX11_swap_17 : rx_ins mX11_swap 17 = some (7, 18, 0, 0, 0, []) := rx_at tbX11_swap ndX11_swap (j := 13) rfl
theorem iX11_swap_18 : rx_ins mX11_swap 18 = some (20, 19, 0, 0, 0, []) := rx_at tbX11_swap ndX11_swap (j := 14) rfl
theorem iX11_swap_19 : rx_ins mX11_swap 19 = some (4, 21, 1, 4, 0, []) := rx_at tbX11_swap ndX11_swap (j := 15) rfl
theorem iX11_swap_21 : rx_ins mX11_swap 21 = some (3, 22, 0, 0, 0, []) := rx_at tbX11_swap ndX11_swap (j := 16) rfl
theorem iX11_swap_22 : rx_ins mX11_swap 22 = some (18, 25, 0, 11, 0, [(9, 124)]) := rx_at tbX11_swap ndX11_swap (j := 17) rfl
theorem iX11_swap_25 : rx_ins mX11_swap 25 = some (1, 26, 4, 0, 0, []) := rx_at tbX11_swap ndX11_swap (j := 18) rfl
theorem iX11_swap_26 : rx_ins mX11_swap 26 = some (1, 27, 3, 0, 0, []) := rx_at tbX11_swap ndX11_swap (j := 19) rfl
theorem iX11_swap_27 : rx_ins mX11_swap 27 = some (2, 28, 0, 1, 0, []) := rx_at tbX11_swap ndX11_swap (j := 20) rfl
theorem iX11_swap_28 : rx_ins mX11_swap 28 = some (7, 29, 0, 2, 0, []) := rx_at tbX11_swap ndX11_swap (j := 21) rfl
theorem iX11_swap_29 : rx_ins mX11_swap 29 = some (7, 30, 0, 0, 0, []) := rx_at tbX11_swap ndX11_swap (j := 22) rfl
theorem iX11_swap_30 : rx_ins mX11_swap 30 = some (2, 31, 0, 3, 0, []) := rx_at tbX11_swap ndX11_swap (j := 23) rfl
theorem iX11_swap_31 : rx_ins mX11_swap 31 = some (7, 32, 0, 0, 0, []) := rx_at tbX11_swap ndX11_swap (j := 24) rfl
theorem iX11_swap_32 : rx_ins mX11_swap 32 = some (3, 33, 0, 0, 0, []) := rx_at tbX11_swap ndX11_swap (j := 25) rfl
theorem iX11_swap_33 : rx_ins mX11_swap 33 = some (18, 36, 0, 11, 0, [(9, 124)]) := rx_at tbX11_swap ndX11_swap (j := 26) rfl
theorem iX11_swap_36 : rx_ins mX11_swap 36 = some (1, 37, 4, 0, 0, []) := rx_at tbX11_swap ndX11_swap (j := 27) rfl
theorem iX11_swap_37 : rx_ins mX11_swap 37 = some (1, 38, 3, 0, 0, []) := rx_at tbX11_swap ndX11_swap (j := 28) rfl
theorem iX11_swap_38 : rx_ins mX11_swap 38 = some (2, 39, 0, 2, 0, []) := rx_at tbX11_swap ndX11_swap (j := 29) rfl
theorem iX11_swap_39 : rx_ins mX11_swap 39 = some (7, 40, 0, 2, 0, []) := rx_at tbX11_swap ndX11_swap (j := 30) rfl
theorem iX11_swap_40 : rx_ins mX11_swap 40 = some (7, 41, 0, 0, 0, []) := rx_at tbX11_swap ndX11_swap (j := 31) rfl
theorem iX11_swap_41 : rx_ins mX11_swap 41 = some (2, 42, 0, 3, 0, []) := rx_at tbX11_swap ndX11_swap (j := 32) rfl
theorem iX11_swap_42 : rx_ins mX11_swap 42 = some (7, 43, 0, 0, 0, []) := rx_at tbX11_swap ndX11_swap (j := 33) rfl
theorem iX11_swap_43 : rx_ins mX11_swap 43 = some (20, 44, 0, 0, 0, []) := rx_at tbX11_swap ndX11_swap (j := 34) rfl
theorem iX11_swap_44 : rx_ins mX11_swap 44 = some (21, 45, 0, 0, 0, []) := rx_at tbX11_swap ndX11_swap (j := 35) rfl
theorem iX11_swap_45 : rx_ins mX11_swap 45 = some (3, 46, 0, 0, 0, []) := rx_at tbX11_swap ndX11_swap (j := 36) rfl
theorem iX11_swap_46 : rx_ins mX11_swap 46 = some (18, 49, 0, 11, 0, [(9, 124)]) := rx_at tbX11_swap ndX11_swap (j := 37) rfl
theorem iX11_swap_49 : rx_ins mX11_swap 49 = some (1, 50, 4, 0, 0, []) := rx_at tbX11_swap ndX11_swap (j := 38) rfl
theorem iX11_swap_50 : rx_ins mX11_swap 50 = some (1, 51, 3, 0, 0, []) := rx_at tbX11_swap ndX11_swap (j := 39) rfl
theorem iX11_swap_51 : rx_ins mX11_swap 51 = some (2, 52, 0, 2, 0, []) := rx_at tbX11_swap ndX11_swap (j := 40) rfl
theorem iX11_swap_52 : rx_ins mX11_swap 52 = some (7, 53, 0, 2, 0, []) := rx_at tbX11_swap ndX11_swap (j := 41) rfl
theorem iX11_swap_53 : rx_ins mX11_swap 53 = some (7, 54, 0, 0, 0, []) := rx_at tbX11_swap ndX11_swap (j := 42) rfl
theorem iX11_swap_54 : rx_ins mX11_swap 54 = some (2, 55, 0, 3, 0, []) := rx_at tbX11_swap ndX11_swap (j := 43) rfl
theorem iX11_swap_55 : rx_ins mX11_swap 55 = some (7, 56, 0, 0, 0, []) := rx_at tbX11_swap ndX11_swap (j := 44) rfl
theorem iX11_swap_56 : rx_ins mX11_swap 56 = some (2, 58, 1, 4, 0, []) := rx_at tbX11_swap ndX11_swap (j := 45) rfl
theorem iX11_swap_58 : rx_ins mX11_swap 58 = some (21, 59, 0, 0, 0, []) := rx_at tbX11_swap ndX11_swap (j := 46) rfl
theorem iX11_swap_59 : rx_ins mX11_swap 59 = some (6, 62, 1, 3, 0, []) := rx_at tbX11_swap ndX11_swap (j := 47) rfl
theorem iX11_swap_62 : rx_ins mX11_swap 62 = some (15, 65, (-60), 0, 2, []) := rx_at tbX11_swap ndX11_swap (j := 48) rfl
theorem iX11_costBehind_0 : rx_ins mX11_costBehind 0 = some (3, 1, 0, 0, 0, []) := rx_at tbX11_costBehind ndX11_costBehind (j := 0) rfl
theorem iX11_costBehind_1 : rx_ins mX11_costBehind 1 = some (2, 2, 0, 1, 0, []) := rx_at tbX11_costBehind ndX11_costBehind (j := 1) rfl
theorem iX11_costBehind_2 : rx_ins mX11_costBehind 2 = some (2, 3, 0, 2, 0, []) := rx_at tbX11_costBehind ndX11_costBehind (j := 2) rfl
theorem iX11_costBehind_3 : rx_ins mX11_costBehind 3 = some (28, 6, 13, 176, 3, [(227, 229)]) := rx_at tbX11_costBehind ndX11_costBehind (j := 3) rfl
theorem iX11_costBehind_6 : rx_ins mX11_costBehind 6 = some (3, 7, 0, 0, 0, []) := rx_at tbX11_costBehind ndX11_costBehind (j := 4) rfl
theorem iX11_costBehind_7 : rx_ins mX11_costBehind 7 = some (1, 8, 1, 0, 0, []) := rx_at tbX11_costBehind ndX11_costBehind (j := 5) rfl
theorem iX11_costBehind_8 : rx_ins mX11_costBehind 8 = some (1, 9, (-1), 0, 0, []) := rx_at tbX11_costBehind ndX11_costBehind (j := 6) rfl
theorem iX11_costBehind_9 : rx_ins mX11_costBehind 9 = some (28, 12, 13, 172, 3, [(218, 227)]) := rx_at tbX11_costBehind ndX11_costBehind (j := 7) rfl
theorem iX11_costBehind_12 : rx_ins mX11_costBehind 12 = some (4, 13, 0, 3, 0, []) := rx_at tbX11_costBehind ndX11_costBehind (j := 8) rfl
theorem iX11_costBehind_13 : rx_ins mX11_costBehind 13 = some (3, 14, 0, 0, 0, []) := rx_at tbX11_costBehind ndX11_costBehind (j := 9) rfl
theorem iX11_costBehind_14 : rx_ins mX11_costBehind 14 = some (2, 15, 0, 1, 0, []) := rx_at tbX11_costBehind ndX11_costBehind (j := 10) rfl
theorem iX11_costBehind_15 : rx_ins mX11_costBehind 15 = some (2, 16, 0, 2, 0, []) := rx_at tbX11_costBehind ndX11_costBehind (j := 11) rfl
theorem iX11_costBehind_16 : rx_ins mX11_costBehind 16 = some (28, 19, 13, 176, 3, [(227, 229)]) := rx_at tbX11_costBehind ndX11_costBehind (j := 12) rfl
theorem iX11_costBehind_19 : rx_ins mX11_costBehind 19 = some (2, 20, 0, 3, 0, []) := rx_at tbX11_costBehind ndX11_costBehind (j := 13) rfl
theorem iX11_costBehind_20 : rx_ins mX11_costBehind 20 = some (29, 21, 0, 0, 0, []) := rx_at tbX11_costBehind ndX11_costBehind (j := 14) rfl
theorem iX11_would_0 : rx_ins mX11_would 0 = some (3, 1, 0, 0, 0, []) := rx_at tbX11_would ndX11_would (j := 0) rfl
theorem iX11_would_1 : rx_ins mX11_would 1 = some (2, 2, 0, 1, 0, []) := rx_at tbX11_would ndX11_would (j := 1) rfl
theorem iX11_would_2 : rx_ins mX11_would 2 = some (28, 5, 13, 136, 2, [(145, 207)]) := rx_at tbX11_would ndX11_would (j := 2) rfl
theorem iX11_would_5 : rx_ins mX11_would 5 = some (13, 8, 16, 0, 21, []) := rx_at tbX11_would ndX11_would (j := 3) rfl
theorem iX11_would_21 : rx_ins mX11_would 21 = some (1, 23, (-1000000001), 3, 21, [(130, 0)]) := rx_at tbX11_would ndX11_would (j := 11) rfl
theorem iX11_would_23 : rx_ins mX11_would 23 = some (29, 24, 0, 0, 0, []) := rx_at tbX11_would ndX11_would (j := 12) rfl
theorem iX11_would_8 : rx_ins mX11_would 8 = some (3, 9, 0, 0, 0, []) := rx_at tbX11_would ndX11_would (j := 4) rfl
theorem iX11_would_9 : rx_ins mX11_would 9 = some (2, 10, 0, 2, 0, []) := rx_at tbX11_would ndX11_would (j := 5) rfl
theorem iX11_would_10 : rx_ins mX11_would 10 = some (28, 13, 13, 136, 2, [(145, 207)]) := rx_at tbX11_would ndX11_would (j := 6) rfl
theorem iX11_would_13 : rx_ins mX11_would 13 = some (13, 16, 8, 0, 21, []) := rx_at tbX11_would ndX11_would (j := 7) rfl
theorem iX11_would_16 : rx_ins mX11_would 16 = some (2, 17, 0, 1, 0, []) := rx_at tbX11_would ndX11_would (j := 8) rfl
theorem iX11_would_17 : rx_ins mX11_would 17 = some (2, 18, 0, 2, 0, []) := rx_at tbX11_would ndX11_would (j := 9) rfl
theorem iX11_would_18 : rx_ins mX11_would 18 = some (14, 21, 6, 1, 24, []) := rx_at tbX11_would ndX11_would (j := 10) rfl
theorem iX11_would_24 : rx_ins mX11_would 24 = some (3, 25, 0, 0, 0, []) := rx_at tbX11_would ndX11_would (j := 13) rfl
theorem iX11_would_25 : rx_ins mX11_would 25 = some (28, 28, 13, 166, 1, [(215, 226)]) := rx_at tbX11_would ndX11_would (j := 14) rfl
theorem iX11_would_28 : rx_ins mX11_would 28 = some (3, 29, 0, 0, 0, []) := rx_at tbX11_would ndX11_would (j := 15) rfl
theorem iX11_would_29 : rx_ins mX11_would 29 = some (2, 30, 0, 1, 0, []) := rx_at tbX11_would ndX11_would (j := 16) rfl
theorem iX11_would_30 : rx_ins mX11_would 30 = some (2, 31, 0, 2, 0, []) := rx_at tbX11_would ndX11_would (j := 17) rfl
theorem iX11_would_31 : rx_ins mX11_would 31 = some (28, 34, 13, 177, 3, [(231, 230)]) := rx_at tbX11_would ndX11_would (j := 18) rfl
theorem iX11_would_34 : rx_ins mX11_would 34 = some (3, 35, 0, 0, 0, []) := rx_at tbX11_would ndX11_would (j := 19) rfl
theorem iX11_would_35 : rx_ins mX11_would 35 = some (1, 36, 1, 0, 0, []) := rx_at tbX11_would ndX11_would (j := 20) rfl
theorem iX11_would_36 : rx_ins mX11_would 36 = some (1, 37, (-1), 0, 0, []) := rx_at tbX11_would ndX11_would (j := 21) rfl
theorem iX11_would_37 : rx_ins mX11_would 37 = some (28, 40, 13, 172, 3, [(218, 227)]) := rx_at tbX11_would ndX11_would (j := 22) rfl
theorem iX11_would_40 : rx_ins mX11_would 40 = some (7, 41, 0, 1, 0, []) := rx_at tbX11_would ndX11_would (j := 23) rfl
theorem iX11_would_41 : rx_ins mX11_would 41 = some (29, 42, 0, 0, 0, []) := rx_at tbX11_would ndX11_would (j := 24) rfl
theorem iX11_maySwap_0 : rx_ins mX11_maySwap 0 = some (3, 1, 0, 0, 0, []) := rx_at tbX11_maySwap ndX11_maySwap (j := 0) rfl
theorem iX11_maySwap_1 : rx_ins mX11_maySwap 1 = some (1, 2, 2, 0, 0, []) := rx_at tbX11_maySwap ndX11_maySwap (j := 1) rfl
theorem iX11_maySwap_2 : rx_ins mX11_maySwap 2 = some (28, 5, 13, 226, 2, [(165, 213)]) := rx_at tbX11_maySwap ndX11_maySwap (j := 2) rfl
theorem iX11_maySwap_5 : rx_ins mX11_maySwap 5 = some (4, 6, 0, 3, 0, []) := rx_at tbX11_maySwap ndX11_maySwap (j := 3) rfl
theorem iX11_maySwap_6 : rx_ins mX11_maySwap 6 = some (3, 7, 0, 0, 0, []) := rx_at tbX11_maySwap ndX11_maySwap (j := 4) rfl
theorem iX11_maySwap_7 : rx_ins mX11_maySwap 7 = some (18, 10, 0, 11, 38, [(81, 125)]) := rx_at tbX11_maySwap ndX11_maySwap (j := 5) rfl
theorem iX11_maySwap_10 : rx_ins mX11_maySwap 10 = some (1, 11, 0, 0, 0, []) := rx_at tbX11_maySwap ndX11_maySwap (j := 6) rfl
theorem iX11_maySwap_11 : rx_ins mX11_maySwap 11 = some (2, 12, 0, 1, 0, []) := rx_at tbX11_maySwap ndX11_maySwap (j := 7) rfl
theorem iX11_maySwap_12 : rx_ins mX11_maySwap 12 = some (21, 13, 0, 0, 0, []) := rx_at tbX11_maySwap ndX11_maySwap (j := 8) rfl
theorem iX11_maySwap_13 : rx_ins mX11_maySwap 13 = some (3, 14, 0, 0, 0, []) := rx_at tbX11_maySwap ndX11_maySwap (j := 9) rfl
theorem iX11_maySwap_14 : rx_ins mX11_maySwap 14 = some (18, 17, 0, 11, 38, [(81, 125)]) := rx_at tbX11_maySwap ndX11_maySwap (j := 10) rfl
theorem iX11_maySwap_17 : rx_ins mX11_maySwap 17 = some (1, 18, 1, 0, 0, []) := rx_at tbX11_maySwap ndX11_maySwap (j := 11) rfl
theorem iX11_maySwap_18 : rx_ins mX11_maySwap 18 = some (2, 19, 0, 2, 0, []) := rx_at tbX11_maySwap ndX11_maySwap (j := 12) rfl
theorem iX11_maySwap_19 : rx_ins mX11_maySwap 19 = some (21, 20, 0, 0, 0, []) := rx_at tbX11_maySwap ndX11_maySwap (j := 13) rfl
theorem iX11_maySwap_20 : rx_ins mX11_maySwap 20 = some (2, 21, 0, 3, 0, []) := rx_at tbX11_maySwap ndX11_maySwap (j := 14) rfl
theorem iX11_maySwap_21 : rx_ins mX11_maySwap 21 = some (13, 24, 11, 2, 32, []) := rx_at tbX11_maySwap ndX11_maySwap (j := 15) rfl
theorem iX11_maySwap_32 : rx_ins mX11_maySwap 32 = some (1, 33, 1, 0, 0, []) := rx_at tbX11_maySwap ndX11_maySwap (j := 20) rfl
theorem iX11_maySwap_33 : rx_ins mX11_maySwap 33 = some (15, 36, 4, 0, 37, []) := rx_at tbX11_maySwap ndX11_maySwap (j := 21) rfl
theorem iX11_maySwap_37 : rx_ins mX11_maySwap 37 = some (29, 38, 1, 0, 0, []) := rx_at tbX11_maySwap ndX11_maySwap (j := 23) rfl
theorem iX11_maySwap_24 : rx_ins mX11_maySwap 24 = some (3, 25, 0, 0, 0, []) := rx_at tbX11_maySwap ndX11_maySwap (j := 16) rfl
theorem iX11_maySwap_25 : rx_ins mX11_maySwap 25 = some (2, 26, 0, 3, 0, []) := rx_at tbX11_maySwap ndX11_maySwap (j := 17) rfl
theorem iX11_maySwap_26 : rx_ins mX11_maySwap 26 = some (28, 29, 13, 229, 2, [(168, 214)]) := rx_at tbX11_maySwap ndX11_maySwap (j := 18) rfl
theorem iX11_maySwap_29 : rx_ins mX11_maySwap 29 = some (13, 32, 7, 0, 36, []) := rx_at tbX11_maySwap ndX11_maySwap (j := 19) rfl
theorem iX11_maySwap_36 : rx_ins mX11_maySwap 36 = some (1, 37, 0, 0, 0, []) := rx_at tbX11_maySwap ndX11_maySwap (j := 22) rfl
theorem iX11_findSwap_0 : rx_ins mX11_findSwap 0 = some (3, 1, 0, 0, 0, []) := rx_at tbX11_findSwap ndX11_findSwap (j := 0) rfl
theorem iX11_findSwap_1 : rx_ins mX11_findSwap 1 = some (28, 4, 13, 166, 1, [(215, 226)]) := rx_at tbX11_findSwap ndX11_findSwap (j := 1) rfl
theorem iX11_findSwap_4 : rx_ins mX11_findSwap 4 = some (3, 5, 0, 0, 0, []) := rx_at tbX11_findSwap ndX11_findSwap (j := 2) rfl
theorem iX11_findSwap_5 : rx_ins mX11_findSwap 5 = some (1, 6, (-1), 0, 0, []) := rx_at tbX11_findSwap ndX11_findSwap (j := 3) rfl
theorem iX11_findSwap_6 : rx_ins mX11_findSwap 6 = some (19, 9, 0, 11, 7, [(234, 129)]) := rx_at tbX11_findSwap ndX11_findSwap (j := 4) rfl
theorem iX11_findSwap_9 : rx_ins mX11_findSwap 9 = some (3, 10, 0, 0, 0, []) := rx_at tbX11_findSwap ndX11_findSwap (j := 5) rfl
theorem iX11_findSwap_10 : rx_ins mX11_findSwap 10 = some (3, 11, 0, 0, 0, []) := rx_at tbX11_findSwap ndX11_findSwap (j := 6) rfl
theorem iX11_findSwap_11 : rx_ins mX11_findSwap 11 = some (1, 12, 1, 0, 0, []) := rx_at tbX11_findSwap ndX11_findSwap (j := 7) rfl
theorem iX11_findSwap_12 : rx_ins mX11_findSwap 12 = some (1, 13, (-1), 0, 0, []) := rx_at tbX11_findSwap ndX11_findSwap (j := 8) rfl
theorem iX11_findSwap_13 : rx_ins mX11_findSwap 13 = some (28, 16, 13, 172, 3, [(218, 227)]) := rx_at tbX11_findSwap ndX11_findSwap (j := 9) rfl
theorem iX11_findSwap_16 : rx_ins mX11_findSwap 16 = some (19, 19, 0, 11, 8, [(238, 130)]) := rx_at tbX11_findSwap ndX11_findSwap (j := 10) rfl
theorem iX11_findSwap_19 : rx_ins mX11_findSwap 19 = some (1, 20, 0, 0, 0, []) := rx_at tbX11_findSwap ndX11_findSwap (j := 11) rfl
theorem iX11_findSwap_20 : rx_ins mX11_findSwap 20 = some (4, 21, 0, 1, 0, []) := rx_at tbX11_findSwap ndX11_findSwap (j := 12) rfl
theorem iX11_findSwap_21 : rx_ins mX11_findSwap 21 = some (2, 22, 0, 1, 0, []) := rx_at tbX11_findSwap ndX11_findSwap (j := 13) rfl
theorem iX11_findSwap_22 : rx_ins mX11_findSwap 22 = some (3, 23, 0, 0, 0, []) := rx_at tbX11_findSwap ndX11_findSwap (j := 14) rfl
theorem iX11_findSwap_23 : rx_ins mX11_findSwap 23 = some (18, 26, 0, 11, 0, [(9, 124)]) := rx_at tbX11_findSwap ndX11_findSwap (j := 15) rfl
theorem iX11_findSwap_26 : rx_ins mX11_findSwap 26 = some (1, 27, 1, 0, 0, []) := rx_at tbX11_findSwap ndX11_findSwap (j := 16) rfl
theorem iX11_findSwap_27 : rx_ins mX11_findSwap 27 = some (20, 28, 0, 0, 0, []) := rx_at tbX11_findSwap ndX11_findSwap (j := 17) rfl
theorem iX11_findSwap_28 : rx_ins mX11_findSwap 28 = some (14, 31, 97, 3, 125, []) := rx_at tbX11_findSwap ndX11_findSwap (j := 18) rfl
theorem iX11_findSwap_125 : rx_ins mX11_findSwap 125 = some (30, 126, 0, 0, 0, []) := rx_at tbX11_findSwap ndX11_findSwap (j := 70) rfl
theorem iX11_findSwap_31 : rx_ins mX11_findSwap 31 = some (2, 32, 0, 1, 0, []) := rx_at tbX11_findSwap ndX11_findSwap (j := 19) rfl
theorem iX11_findSwap_32 : rx_ins mX11_findSwap 32 = some (1, 33, 1, 0, 0, []) := rx_at tbX11_findSwap ndX11_findSwap (j := 20) rfl
theorem iX11_findSwap_33 : rx_ins mX11_findSwap 33 = some (7, 34, 0, 0, 0, []) := rx_at tbX11_findSwap ndX11_findSwap (j := 21) rfl
theorem iX11_findSwap_34 : rx_ins mX11_findSwap 34 = some (4, 35, 0, 2, 0, []) := rx_at tbX11_findSwap ndX11_findSwap (j := 22) rfl
theorem iX11_findSwap_35 : rx_ins mX11_findSwap 35 = some (2, 36, 0, 2, 0, []) := rx_at tbX11_findSwap ndX11_findSwap (j := 23) rfl
theorem iX11_findSwap_36 : rx_ins mX11_findSwap 36 = some (3, 37, 0, 0, 0, []) := rx_at tbX11_findSwap ndX11_findSwap (j := 24) rfl
theorem iX11_findSwap_37 : rx_ins mX11_findSwap 37 = some (18, 40, 0, 11, 0, [(9, 124)]) := rx_at tbX11_findSwap ndX11_findSwap (j := 25) rfl
theorem iX11_findSwap_40 : rx_ins mX11_findSwap 40 = some (1, 41, 1, 0, 0, []) := rx_at tbX11_findSwap ndX11_findSwap (j := 26) rfl
theorem iX11_findSwap_41 : rx_ins mX11_findSwap 41 = some (20, 42, 0, 0, 0, []) := rx_at tbX11_findSwap ndX11_findSwap (j := 27) rfl
theorem iX11_findSwap_42 : rx_ins mX11_findSwap 42 = some (14, 45, 77, 3, 119, []) := rx_at tbX11_findSwap ndX11_findSwap (j := 28) rfl
theorem iX11_findSwap_119 : rx_ins mX11_findSwap 119 = some (6, 122, 1, 1, 0, []) := rx_at tbX11_findSwap ndX11_findSwap (j := 68) rfl
theorem iX11_findSwap_122 : rx_ins mX11_findSwap 122 = some (15, 125, (-101), 0, 21, []) := rx_at tbX11_findSwap ndX11_findSwap (j := 69) rfl
theorem iX11_findSwap_45 : rx_ins mX11_findSwap 45 = some (3, 46, 0, 0, 0, []) := rx_at tbX11_findSwap ndX11_findSwap (j := 29) rfl
theorem iX11_findSwap_46 : rx_ins mX11_findSwap 46 = some (2, 47, 0, 1, 0, []) := rx_at tbX11_findSwap ndX11_findSwap (j := 30) rfl
theorem iX11_findSwap_47 : rx_ins mX11_findSwap 47 = some (2, 48, 0, 2, 0, []) := rx_at tbX11_findSwap ndX11_findSwap (j := 31) rfl
theorem iX11_findSwap_48 : rx_ins mX11_findSwap 48 = some (28, 51, 13, 179, 3, [(241, 231)]) := rx_at tbX11_findSwap ndX11_findSwap (j := 32) rfl
theorem iX11_findSwap_51 : rx_ins mX11_findSwap 51 = some (13, 54, 12, 0, 63, []) := rx_at tbX11_findSwap ndX11_findSwap (j := 33) rfl
theorem iX11_findSwap_63 : rx_ins mX11_findSwap 63 = some (3, 64, 0, 0, 0, []) := rx_at tbX11_findSwap ndX11_findSwap (j := 39) rfl
theorem iX11_findSwap_64 : rx_ins mX11_findSwap 64 = some (17, 67, 0, 11, 8, [(238, 130)]) := rx_at tbX11_findSwap ndX11_findSwap (j := 40) rfl
theorem iX11_findSwap_67 : rx_ins mX11_findSwap 67 = some (4, 68, 0, 3, 0, []) := rx_at tbX11_findSwap ndX11_findSwap (j := 41) rfl
theorem iX11_findSwap_54 : rx_ins mX11_findSwap 54 = some (3, 55, 0, 0, 0, []) := rx_at tbX11_findSwap ndX11_findSwap (j := 34) rfl
theorem iX11_findSwap_55 : rx_ins mX11_findSwap 55 = some (2, 56, 0, 1, 0, []) := rx_at tbX11_findSwap ndX11_findSwap (j := 35) rfl
theorem iX11_findSwap_56 : rx_ins mX11_findSwap 56 = some (2, 57, 0, 2, 0, []) := rx_at tbX11_findSwap ndX11_findSwap (j := 36) rfl
theorem iX11_findSwap_57 : rx_ins mX11_findSwap 57 = some (28, 60, 13, 177, 3, [(231, 230)]) := rx_at tbX11_findSwap ndX11_findSwap (j := 37) rfl
theorem iX11_findSwap_60 : rx_ins mX11_findSwap 60 = some (15, 63, 7, 0, 67, []) := rx_at tbX11_findSwap ndX11_findSwap (j := 38) rfl
theorem iX11_findSwap_68 : rx_ins mX11_findSwap 68 = some (3, 69, 0, 0, 0, []) := rx_at tbX11_findSwap ndX11_findSwap (j := 42) rfl
theorem iX11_findSwap_69 : rx_ins mX11_findSwap 69 = some (2, 70, 0, 3, 0, []) := rx_at tbX11_findSwap ndX11_findSwap (j := 43) rfl
theorem iX11_findSwap_70 : rx_ins mX11_findSwap 70 = some (3, 71, 0, 0, 0, []) := rx_at tbX11_findSwap ndX11_findSwap (j := 44) rfl
theorem iX11_findSwap_71 : rx_ins mX11_findSwap 71 = some (17, 74, 0, 11, 8, [(238, 130)]) := rx_at tbX11_findSwap ndX11_findSwap (j := 45) rfl
theorem iX11_findSwap_74 : rx_ins mX11_findSwap 74 = some (14, 77, 12, 3, 86, []) := rx_at tbX11_findSwap ndX11_findSwap (j := 46) rfl
theorem iX11_findSwap_86 : rx_ins mX11_findSwap 86 = some (3, 87, 0, 0, 0, []) := rx_at tbX11_findSwap ndX11_findSwap (j := 53) rfl
theorem iX11_findSwap_87 : rx_ins mX11_findSwap 87 = some (17, 90, 0, 11, 7, [(234, 129)]) := rx_at tbX11_findSwap ndX11_findSwap (j := 54) rfl
theorem iX11_findSwap_90 : rx_ins mX11_findSwap 90 = some (19, 93, 0, 11, 7, [(234, 129)]) := rx_at tbX11_findSwap ndX11_findSwap (j := 55) rfl
theorem iX11_findSwap_77 : rx_ins mX11_findSwap 77 = some (1, 79, 10, 1, 0, []) := rx_at tbX11_findSwap ndX11_findSwap (j := 47) rfl
theorem iX11_findSwap_79 : rx_ins mX11_findSwap 79 = some (2, 80, 0, 1, 0, []) := rx_at tbX11_findSwap ndX11_findSwap (j := 48) rfl
theorem iX11_findSwap_80 : rx_ins mX11_findSwap 80 = some (7, 81, 0, 2, 0, []) := rx_at tbX11_findSwap ndX11_findSwap (j := 49) rfl
theorem iX11_findSwap_81 : rx_ins mX11_findSwap 81 = some (2, 82, 0, 2, 0, []) := rx_at tbX11_findSwap ndX11_findSwap (j := 50) rfl
theorem iX11_findSwap_82 : rx_ins mX11_findSwap 82 = some (7, 83, 0, 0, 0, []) := rx_at tbX11_findSwap ndX11_findSwap (j := 51) rfl
theorem iX11_findSwap_83 : rx_ins mX11_findSwap 83 = some (15, 86, 7, 0, 90, []) := rx_at tbX11_findSwap ndX11_findSwap (j := 52) rfl
theorem iX11_findSwap_93 : rx_ins mX11_findSwap 93 = some (3, 94, 0, 0, 0, []) := rx_at tbX11_findSwap ndX11_findSwap (j := 56) rfl
theorem iX11_findSwap_94 : rx_ins mX11_findSwap 94 = some (2, 95, 0, 3, 0, []) := rx_at tbX11_findSwap ndX11_findSwap (j := 57) rfl
theorem iX11_findSwap_95 : rx_ins mX11_findSwap 95 = some (3, 96, 0, 0, 0, []) := rx_at tbX11_findSwap ndX11_findSwap (j := 58) rfl
theorem iX11_findSwap_96 : rx_ins mX11_findSwap 96 = some (17, 99, 0, 11, 8, [(238, 130)]) := rx_at tbX11_findSwap ndX11_findSwap (j := 59) rfl
theorem iX11_findSwap_99 : rx_ins mX11_findSwap 99 = some (14, 102, 7, 3, 106, []) := rx_at tbX11_findSwap ndX11_findSwap (j := 60) rfl
theorem iX11_findSwap_106 : rx_ins mX11_findSwap 106 = some (3, 107, 0, 0, 0, []) := rx_at tbX11_findSwap ndX11_findSwap (j := 63) rfl
theorem iX11_findSwap_107 : rx_ins mX11_findSwap 107 = some (17, 110, 0, 11, 8, [(238, 130)]) := rx_at tbX11_findSwap ndX11_findSwap (j := 64) rfl
theorem iX11_findSwap_110 : rx_ins mX11_findSwap 110 = some (19, 113, 0, 11, 8, [(238, 130)]) := rx_at tbX11_findSwap ndX11_findSwap (j := 65) rfl
theorem iX11_findSwap_102 : rx_ins mX11_findSwap 102 = some (2, 103, 0, 3, 0, []) := rx_at tbX11_findSwap ndX11_findSwap (j := 61) rfl
theorem iX11_findSwap_103 : rx_ins mX11_findSwap 103 = some (15, 106, 7, 0, 110, []) := rx_at tbX11_findSwap ndX11_findSwap (j := 62) rfl
theorem iX11_findSwap_113 : rx_ins mX11_findSwap 113 = some (6, 116, 1, 2, 0, []) := rx_at tbX11_findSwap ndX11_findSwap (j := 66) rfl
theorem iX11_findSwap_116 : rx_ins mX11_findSwap 116 = some (15, 119, (-81), 0, 35, []) := rx_at tbX11_findSwap ndX11_findSwap (j := 67) rfl
theorem iX11_best_0 : rx_ins mX11_best 0 = some (2, 1, 0, 1, 0, []) := rx_at tbX11_best ndX11_best (j := 0) rfl
theorem iX11_best_1 : rx_ins mX11_best 1 = some (1, 2, 0, 0, 0, []) := rx_at tbX11_best ndX11_best (j := 1) rfl
theorem iX11_best_2 : rx_ins mX11_best 2 = some (1, 3, 1, 0, 0, []) := rx_at tbX11_best ndX11_best (j := 2) rfl
theorem iX11_best_3 : rx_ins mX11_best 3 = some (28, 6, 0, 133, 3, [(111, 198)]) := rx_at tbX11_best ndX11_best (j := 3) rfl
theorem iX11_best_6 : rx_ins mX11_best 6 = some (13, 9, 6, 1, 12, []) := rx_at tbX11_best ndX11_best (j := 4) rfl
theorem iX11_best_12 : rx_ins mX11_best 12 = some (3, 13, 0, 0, 0, []) := rx_at tbX11_best ndX11_best (j := 7) rfl
theorem iX11_best_13 : rx_ins mX11_best 13 = some (28, 16, 13, 180, 1, [(244, 232)]) := rx_at tbX11_best ndX11_best (j := 8) rfl
theorem iX11_best_16 : rx_ins mX11_best 16 = some (3, 17, 0, 0, 0, []) := rx_at tbX11_best ndX11_best (j := 9) rfl
theorem iX11_best_17 : rx_ins mX11_best 17 = some (17, 20, 0, 11, 7, [(234, 129)]) := rx_at tbX11_best ndX11_best (j := 10) rfl
theorem iX11_best_20 : rx_ins mX11_best 20 = some (13, 23, 8, 3, 28, []) := rx_at tbX11_best ndX11_best (j := 11) rfl
theorem iX11_best_28 : rx_ins mX11_best 28 = some (2, 29, 0, 1, 0, []) := rx_at tbX11_best ndX11_best (j := 14) rfl
theorem iX11_best_29 : rx_ins mX11_best 29 = some (13, 32, 10, 1, 39, []) := rx_at tbX11_best ndX11_best (j := 15) rfl
theorem iX11_best_39 : rx_ins mX11_best 39 = some (3, 40, 0, 0, 0, []) := rx_at tbX11_best ndX11_best (j := 19) rfl
theorem iX11_best_40 : rx_ins mX11_best 40 = some (17, 43, 0, 11, 8, [(238, 130)]) := rx_at tbX11_best ndX11_best (j := 20) rfl
theorem iX11_best_43 : rx_ins mX11_best 43 = some (29, 44, 0, 0, 0, []) := rx_at tbX11_best ndX11_best (j := 21) rfl
theorem iX11_best_32 : rx_ins mX11_best 32 = some (3, 33, 0, 0, 0, []) := rx_at tbX11_best ndX11_best (j := 16) rfl
theorem iX11_best_33 : rx_ins mX11_best 33 = some (17, 36, 0, 11, 7, [(234, 129)]) := rx_at tbX11_best ndX11_best (j := 17) rfl
theorem iX11_best_36 : rx_ins mX11_best 36 = some (15, 39, 7, 0, 43, []) := rx_at tbX11_best ndX11_best (j := 18) rfl
theorem iX11_best_23 : rx_ins mX11_best 23 = some (1, 25, (-1000000005), 3, 25, [(222, 0)]) := rx_at tbX11_best ndX11_best (j := 12) rfl
theorem iX11_best_25 : rx_ins mX11_best 25 = some (15, 28, 18, 0, 43, []) := rx_at tbX11_best ndX11_best (j := 13) rfl
theorem iX11_best_9 : rx_ins mX11_best 9 = some (1, 11, (-1000000001), 3, 21, [(130, 0)]) := rx_at tbX11_best ndX11_best (j := 5) rfl
theorem iX11_best_11 : rx_ins mX11_best 11 = some (29, 12, 0, 0, 0, []) := rx_at tbX11_best ndX11_best (j := 6) rfl
theorem iX11_swaps_0 : rx_ins mX11_swaps 0 = some (2, 1, 0, 1, 0, []) := rx_at tbX11_swaps ndX11_swaps (j := 0) rfl
theorem iX11_swaps_1 : rx_ins mX11_swaps 1 = some (1, 2, 1, 0, 0, []) := rx_at tbX11_swaps ndX11_swaps (j := 1) rfl
theorem iX11_swaps_2 : rx_ins mX11_swaps 2 = some (1, 4, 30, 1, 0, []) := rx_at tbX11_swaps ndX11_swaps (j := 2) rfl
theorem iX11_swaps_4 : rx_ins mX11_swaps 4 = some (28, 7, 0, 133, 3, [(111, 198)]) := rx_at tbX11_swaps ndX11_swaps (j := 3) rfl
theorem iX11_swaps_7 : rx_ins mX11_swaps 7 = some (13, 10, 6, 1, 13, []) := rx_at tbX11_swaps ndX11_swaps (j := 4) rfl
theorem iX11_swaps_13 : rx_ins mX11_swaps 13 = some (1, 14, 0, 0, 0, []) := rx_at tbX11_swaps ndX11_swaps (j := 7) rfl
theorem iX11_swaps_14 : rx_ins mX11_swaps 14 = some (4, 15, 0, 2, 0, []) := rx_at tbX11_swaps ndX11_swaps (j := 8) rfl
theorem iX11_swaps_15 : rx_ins mX11_swaps 15 = some (1, 16, 1, 0, 0, []) := rx_at tbX11_swaps ndX11_swaps (j := 9) rfl
theorem iX11_swaps_16 : rx_ins mX11_swaps 16 = some (4, 17, 0, 3, 0, []) := rx_at tbX11_swaps ndX11_swaps (j := 10) rfl
theorem iX11_swaps_10 : rx_ins mX11_swaps 10 = some (1, 12, (-1000000001), 3, 21, [(130, 0)]) := rx_at tbX11_swaps ndX11_swaps (j := 5) rfl
theorem iX11_swaps_12 : rx_ins mX11_swaps 12 = some (29, 13, 0, 0, 0, []) := rx_at tbX11_swaps ndX11_swaps (j := 6) rfl
theorem iX11_swaps_17 : rx_ins mX11_swaps 17 = some (2, 18, 0, 3, 0, []) := rx_at tbX11_swaps ndX11_swaps (j := 11) rfl
theorem iX11_swaps_18 : rx_ins mX11_swaps 18 = some (13, 21, 53, 0, 71, []) := rx_at tbX11_swaps ndX11_swaps (j := 12) rfl
theorem iX11_swaps_71 : rx_ins mX11_swaps 71 = some (2, 72, 0, 2, 0, []) := rx_at tbX11_swaps ndX11_swaps (j := 39) rfl
theorem iX11_swaps_72 : rx_ins mX11_swaps 72 = some (29, 73, 0, 0, 0, []) := rx_at tbX11_swaps ndX11_swaps (j := 40) rfl
theorem iX11_swaps_21 : rx_ins mX11_swaps 21 = some (2, 22, 0, 2, 0, []) := rx_at tbX11_swaps ndX11_swaps (j := 13) rfl
theorem iX11_swaps_22 : rx_ins mX11_swaps 22 = some (2, 23, 0, 1, 0, []) := rx_at tbX11_swaps ndX11_swaps (j := 14) rfl
theorem iX11_swaps_23 : rx_ins mX11_swaps 23 = some (14, 26, 48, 3, 71, []) := rx_at tbX11_swaps ndX11_swaps (j := 15) rfl
theorem iX11_swaps_26 : rx_ins mX11_swaps 26 = some (3, 27, 0, 0, 0, []) := rx_at tbX11_swaps ndX11_swaps (j := 16) rfl
theorem iX11_swaps_27 : rx_ins mX11_swaps 27 = some (28, 30, 13, 180, 1, [(244, 232)]) := rx_at tbX11_swaps ndX11_swaps (j := 17) rfl
theorem iX11_swaps_30 : rx_ins mX11_swaps 30 = some (3, 31, 0, 0, 0, []) := rx_at tbX11_swaps ndX11_swaps (j := 18) rfl
theorem iX11_swaps_31 : rx_ins mX11_swaps 31 = some (17, 34, 0, 11, 7, [(234, 129)]) := rx_at tbX11_swaps ndX11_swaps (j := 19) rfl
theorem iX11_swaps_34 : rx_ins mX11_swaps 34 = some (13, 37, 7, 2, 41, []) := rx_at tbX11_swaps ndX11_swaps (j := 20) rfl
theorem iX11_swaps_41 : rx_ins mX11_swaps 41 = some (1, 42, 0, 0, 0, []) := rx_at tbX11_swaps ndX11_swaps (j := 23) rfl
theorem iX11_swaps_42 : rx_ins mX11_swaps 42 = some (4, 43, 0, 3, 0, []) := rx_at tbX11_swaps ndX11_swaps (j := 24) rfl
theorem iX11_swaps_43 : rx_ins mX11_swaps 43 = some (2, 44, 0, 3, 0, []) := rx_at tbX11_swaps ndX11_swaps (j := 25) rfl
theorem iX11_swaps_44 : rx_ins mX11_swaps 44 = some (13, 47, (-27), 0, 17, []) := rx_at tbX11_swaps ndX11_swaps (j := 26) rfl
theorem iX11_swaps_37 : rx_ins mX11_swaps 37 = some (1, 38, 1, 0, 0, []) := rx_at tbX11_swaps ndX11_swaps (j := 21) rfl
theorem iX11_swaps_38 : rx_ins mX11_swaps 38 = some (15, 41, 4, 0, 42, []) := rx_at tbX11_swaps ndX11_swaps (j := 22) rfl
theorem iX11_swaps_47 : rx_ins mX11_swaps 47 = some (3, 48, 0, 0, 0, []) := rx_at tbX11_swaps ndX11_swaps (j := 27) rfl
theorem iX11_swaps_48 : rx_ins mX11_swaps 48 = some (3, 49, 0, 0, 0, []) := rx_at tbX11_swaps ndX11_swaps (j := 28) rfl
theorem iX11_swaps_49 : rx_ins mX11_swaps 49 = some (17, 52, 0, 11, 7, [(234, 129)]) := rx_at tbX11_swaps ndX11_swaps (j := 29) rfl
theorem iX11_swaps_52 : rx_ins mX11_swaps 52 = some (1, 54, 10, 1, 0, []) := rx_at tbX11_swaps ndX11_swaps (j := 30) rfl
theorem iX11_swaps_54 : rx_ins mX11_swaps 54 = some (8, 55, 0, 0, 0, []) := rx_at tbX11_swaps ndX11_swaps (j := 31) rfl
theorem iX11_swaps_55 : rx_ins mX11_swaps 55 = some (3, 56, 0, 0, 0, []) := rx_at tbX11_swaps ndX11_swaps (j := 32) rfl
theorem iX11_swaps_56 : rx_ins mX11_swaps 56 = some (17, 59, 0, 11, 7, [(234, 129)]) := rx_at tbX11_swaps ndX11_swaps (j := 33) rfl
theorem iX11_swaps_59 : rx_ins mX11_swaps 59 = some (1, 61, 10, 1, 0, []) := rx_at tbX11_swaps ndX11_swaps (j := 34) rfl
theorem iX11_swaps_61 : rx_ins mX11_swaps 61 = some (8, 62, 0, 1, 0, []) := rx_at tbX11_swaps ndX11_swaps (j := 35) rfl
theorem iX11_swaps_62 : rx_ins mX11_swaps 62 = some (28, 65, 13, 176, 3, [(227, 229)]) := rx_at tbX11_swaps ndX11_swaps (j := 36) rfl
theorem iX11_swaps_65 : rx_ins mX11_swaps 65 = some (6, 68, 1, 2, 0, []) := rx_at tbX11_swaps ndX11_swaps (j := 37) rfl
theorem iX11_swaps_68 : rx_ins mX11_swaps 68 = some (15, 71, (-51), 0, 17, []) := rx_at tbX11_swaps ndX11_swaps (j := 38) rfl
theorem iX11_line_0 : rx_ins mX11_line 0 = some (2, 1, 0, 1, 0, []) := rx_atm tbX11_line ndX11_line (lmX11_line_0 (List.mem_of_getElem? (i := 0) rfl))
theorem iX11_line_1 : rx_ins mX11_line 1 = some (28, 4, 0, 230, 1, [(247, 233)]) := rx_atm tbX11_line ndX11_line (lmX11_line_0 (List.mem_of_getElem? (i := 1) rfl))
theorem iX11_line_4 : rx_ins mX11_line 4 = some (13, 7, 6, 1, 10, []) := rx_atm tbX11_line ndX11_line (lmX11_line_0 (List.mem_of_getElem? (i := 2) rfl))
theorem iX11_line_10 : rx_ins mX11_line 10 = some (3, 11, 0, 0, 0, []) := rx_atm tbX11_line ndX11_line (lmX11_line_0 (List.mem_of_getElem? (i := 5) rfl))
theorem iX11_line_11 : rx_ins mX11_line 11 = some (18, 14, 0, 11, 39, [(84, 131)]) := rx_atm tbX11_line ndX11_line (lmX11_line_0 (List.mem_of_getElem? (i := 6) rfl))
theorem iX11_line_14 : rx_ins mX11_line 14 = some (2, 15, 0, 1, 0, []) := rx_atm tbX11_line ndX11_line (lmX11_line_0 (List.mem_of_getElem? (i := 7) rfl))
theorem iX11_line_15 : rx_ins mX11_line 15 = some (20, 16, 0, 0, 0, []) := rx_atm tbX11_line ndX11_line (lmX11_line_0 (List.mem_of_getElem? (i := 8) rfl))
theorem iX11_line_16 : rx_ins mX11_line 16 = some (13, 19, 6, 3, 22, []) := rx_atm tbX11_line ndX11_line (lmX11_line_0 (List.mem_of_getElem? (i := 9) rfl))
theorem iX11_line_22 : rx_ins mX11_line 22 = some (3, 23, 0, 0, 0, []) := rx_atm tbX11_line ndX11_line (lmX11_line_0 (List.mem_of_getElem? (i := 12) rfl))
theorem iX11_line_23 : rx_ins mX11_line 23 = some (18, 26, 0, 11, 40, [(87, 132)]) := rx_atm tbX11_line ndX11_line (lmX11_line_0 (List.mem_of_getElem? (i := 13) rfl))
theorem iX11_line_26 : rx_ins mX11_line 26 = some (2, 27, 0, 1, 0, []) := rx_atm tbX11_line ndX11_line (lmX11_line_0 (List.mem_of_getElem? (i := 14) rfl))
theorem iX11_line_27 : rx_ins mX11_line 27 = some (20, 28, 0, 0, 0, []) := rx_atm tbX11_line ndX11_line (lmX11_line_0 (List.mem_of_getElem? (i := 15) rfl))
theorem iX11_line_28 : rx_ins mX11_line 28 = some (3, 29, 0, 0, 0, []) := rx_atm tbX11_line ndX11_line (lmX11_line_0 (List.mem_of_getElem? (i := 16) rfl))
theorem iX11_line_29 : rx_ins mX11_line 29 = some (18, 32, 0, 11, 0, [(9, 124)]) := rx_atm tbX11_line ndX11_line (lmX11_line_0 (List.mem_of_getElem? (i := 17) rfl))
theorem iX11_line_32 : rx_ins mX11_line 32 = some (1, 33, 1, 0, 0, []) := rx_atm tbX11_line ndX11_line (lmX11_line_0 (List.mem_of_getElem? (i := 18) rfl))
theorem iX11_line_33 : rx_ins mX11_line 33 = some (20, 34, 0, 0, 0, []) := rx_atm tbX11_line ndX11_line (lmX11_line_0 (List.mem_of_getElem? (i := 19) rfl))
theorem iX11_line_34 : rx_ins mX11_line 34 = some (14, 37, 6, 0, 40, []) := rx_atm tbX11_line ndX11_line (lmX11_line_0 (List.mem_of_getElem? (i := 20) rfl))
theorem iX11_line_40 : rx_ins mX11_line 40 = some (1, 41, 0, 0, 0, []) := rx_atm tbX11_line ndX11_line (lmX11_line_0 (List.mem_of_getElem? (i := 23) rfl))
theorem iX11_line_41 : rx_ins mX11_line 41 = some (4, 42, 0, 2, 0, []) := rx_atm tbX11_line ndX11_line (lmX11_line_0 (List.mem_of_getElem? (i := 24) rfl))
theorem iX11_line_42 : rx_ins mX11_line 42 = some (1, 43, 1, 0, 0, []) := rx_atm tbX11_line ndX11_line (lmX11_line_0 (List.mem_of_getElem? (i := 25) rfl))
theorem iX11_line_43 : rx_ins mX11_line 43 = some (4, 44, 0, 3, 0, []) := rx_atm tbX11_line ndX11_line (lmX11_line_0 (List.mem_of_getElem? (i := 26) rfl))
theorem iX11_line_44 : rx_ins mX11_line 44 = some (1, 45, 0, 0, 0, []) := rx_atm tbX11_line ndX11_line (lmX11_line_0 (List.mem_of_getElem? (i := 27) rfl))
theorem iX11_line_45 : rx_ins mX11_line 45 = some (4, 47, 1, 4, 0, []) := rx_atm tbX11_line ndX11_line (lmX11_line_0 (List.mem_of_getElem? (i := 28) rfl))
theorem iX11_line_37 : rx_ins mX11_line 37 = some (1, 39, (-1000000014), 3, 27, [(251, 0)]) := rx_atm tbX11_line ndX11_line (lmX11_line_0 (List.mem_of_getElem? (i := 21) rfl))
theorem iX11_line_39 : rx_ins mX11_line 39 = some (29, 40, 0, 0, 0, []) := rx_atm tbX11_line ndX11_line (lmX11_line_0 (List.mem_of_getElem? (i := 22) rfl))
theorem iX11_line_19 : rx_ins mX11_line 19 = some (1, 21, (-1000000011), 3, 26, [(250, 0)]) := rx_atm tbX11_line ndX11_line (lmX11_line_0 (List.mem_of_getElem? (i := 10) rfl))
theorem iX11_line_21 : rx_ins mX11_line 21 = some (29, 22, 0, 0, 0, []) := rx_atm tbX11_line ndX11_line (lmX11_line_0 (List.mem_of_getElem? (i := 11) rfl))
theorem iX11_line_7 : rx_ins mX11_line 7 = some (1, 9, (-1000000001), 3, 21, [(130, 0)]) := rx_atm tbX11_line ndX11_line (lmX11_line_0 (List.mem_of_getElem? (i := 3) rfl))
theorem iX11_line_9 : rx_ins mX11_line 9 = some (29, 10, 0, 0, 0, []) := rx_atm tbX11_line ndX11_line (lmX11_line_0 (List.mem_of_getElem? (i := 4) rfl))
theorem iX11_line_47 : rx_ins mX11_line 47 = some (2, 49, 1, 4, 0, []) := rx_atm tbX11_line ndX11_line (lmX11_line_0 (List.mem_of_getElem? (i := 29) rfl))
theorem iX11_line_49 : rx_ins mX11_line 49 = some (1, 51, 8, 1, 0, []) := rx_atm tbX11_line ndX11_line (lmX11_line_0 (List.mem_of_getElem? (i := 30) rfl))
theorem iX11_line_51 : rx_ins mX11_line 51 = some (14, 54, 17, 3, 68, []) := rx_atm tbX11_line ndX11_line (lmX11_line_0 (List.mem_of_getElem? (i := 31) rfl))
theorem iX11_line_68 : rx_ins mX11_line 68 = some (1, 69, 0, 0, 0, []) := rx_atm tbX11_line ndX11_line (lmX11_line_0 (List.mem_of_getElem? (i := 39) rfl))
theorem iX11_line_69 : rx_ins mX11_line 69 = some (4, 71, 1, 4, 0, []) := rx_atm tbX11_line ndX11_line (lmX11_line_1 (List.mem_of_getElem? (i := 0) rfl))
theorem iX11_line_54 : rx_ins mX11_line 54 = some (3, 55, 0, 0, 0, []) := rx_atm tbX11_line ndX11_line (lmX11_line_0 (List.mem_of_getElem? (i := 32) rfl))
theorem iX11_line_55 : rx_ins mX11_line 55 = some (18, 58, 0, 11, 9, [(28, 133)]) := rx_atm tbX11_line ndX11_line (lmX11_line_0 (List.mem_of_getElem? (i := 33) rfl))
theorem iX11_line_58 : rx_ins mX11_line 58 = some (2, 60, 1, 4, 0, []) := rx_atm tbX11_line ndX11_line (lmX11_line_0 (List.mem_of_getElem? (i := 34) rfl))
theorem iX11_line_60 : rx_ins mX11_line 60 = some (1, 61, 0, 0, 0, []) := rx_atm tbX11_line ndX11_line (lmX11_line_0 (List.mem_of_getElem? (i := 35) rfl))
theorem iX11_line_61 : rx_ins mX11_line 61 = some (21, 62, 0, 1, 0, []) := rx_atm tbX11_line ndX11_line (lmX11_line_0 (List.mem_of_getElem? (i := 36) rfl))
theorem iX11_line_62 : rx_ins mX11_line 62 = some (6, 65, 1, 4, 0, []) := rx_atm tbX11_line ndX11_line (lmX11_line_0 (List.mem_of_getElem? (i := 37) rfl))
theorem iX11_line_65 : rx_ins mX11_line 65 = some (15, 68, (-18), 0, 47, []) := rx_atm tbX11_line ndX11_line (lmX11_line_0 (List.mem_of_getElem? (i := 38) rfl))
theorem iX11_line_71 : rx_ins mX11_line 71 = some (2, 73, 1, 4, 0, []) := rx_atm tbX11_line ndX11_line (lmX11_line_1 (List.mem_of_getElem? (i := 1) rfl))
theorem iX11_line_73 : rx_ins mX11_line 73 = some (3, 74, 0, 0, 0, []) := rx_atm tbX11_line ndX11_line (lmX11_line_1 (List.mem_of_getElem? (i := 2) rfl))
theorem iX11_line_74 : rx_ins mX11_line 74 = some (18, 77, 0, 11, 0, [(9, 124)]) := rx_atm tbX11_line ndX11_line (lmX11_line_1 (List.mem_of_getElem? (i := 3) rfl))
theorem iX11_line_77 : rx_ins mX11_line 77 = some (1, 78, 1, 0, 0, []) := rx_atm tbX11_line ndX11_line (lmX11_line_1 (List.mem_of_getElem? (i := 4) rfl))
theorem iX11_line_78 : rx_ins mX11_line 78 = some (20, 79, 0, 0, 0, []) := rx_atm tbX11_line ndX11_line (lmX11_line_1 (List.mem_of_getElem? (i := 5) rfl))
theorem iX11_line_79 : rx_ins mX11_line 79 = some (14, 82, 89, 3, 168, []) := rx_atm tbX11_line ndX11_line (lmX11_line_1 (List.mem_of_getElem? (i := 6) rfl))
theorem iX11_line_168 : rx_ins mX11_line 168 = some (2, 169, 0, 2, 0, []) := rx_atm tbX11_line ndX11_line (lmX11_line_2 (List.mem_of_getElem? (i := 13) rfl))
theorem iX11_line_169 : rx_ins mX11_line 169 = some (13, 172, 7, 1, 176, []) := rx_atm tbX11_line ndX11_line (lmX11_line_2 (List.mem_of_getElem? (i := 14) rfl))
theorem iX11_line_172 : rx_ins mX11_line 172 = some (2, 173, 0, 3, 0, []) := rx_atm tbX11_line ndX11_line (lmX11_line_2 (List.mem_of_getElem? (i := 15) rfl))
theorem iX11_line_173 : rx_ins mX11_line 173 = some (13, 176, 15, 1, 188, []) := rx_atm tbX11_line ndX11_line (lmX11_line_2 (List.mem_of_getElem? (i := 16) rfl))
theorem iX11_line_188 : rx_ins mX11_line 188 = some (1, 189, 0, 0, 0, []) := rx_atm tbX11_line ndX11_line (lmX11_line_2 (List.mem_of_getElem? (i := 23) rfl))
theorem iX11_line_189 : rx_ins mX11_line 189 = some (4, 191, 1, 4, 0, []) := rx_atm tbX11_line ndX11_line (lmX11_line_2 (List.mem_of_getElem? (i := 24) rfl))
theorem iX11_line_82 : rx_ins mX11_line 82 = some (3, 83, 0, 0, 0, []) := rx_atm tbX11_line ndX11_line (lmX11_line_1 (List.mem_of_getElem? (i := 7) rfl))
theorem iX11_line_83 : rx_ins mX11_line 83 = some (18, 86, 0, 11, 41, [(90, 134)]) := rx_atm tbX11_line ndX11_line (lmX11_line_1 (List.mem_of_getElem? (i := 8) rfl))
theorem iX11_line_86 : rx_ins mX11_line 86 = some (1, 88, 24, 1, 0, []) := rx_atm tbX11_line ndX11_line (lmX11_line_1 (List.mem_of_getElem? (i := 9) rfl))
theorem iX11_line_88 : rx_ins mX11_line 88 = some (2, 89, 0, 1, 0, []) := rx_atm tbX11_line ndX11_line (lmX11_line_1 (List.mem_of_getElem? (i := 10) rfl))
theorem iX11_line_89 : rx_ins mX11_line 89 = some (7, 90, 0, 2, 0, []) := rx_atm tbX11_line ndX11_line (lmX11_line_1 (List.mem_of_getElem? (i := 11) rfl))
theorem iX11_line_90 : rx_ins mX11_line 90 = some (2, 92, 1, 4, 0, []) := rx_atm tbX11_line ndX11_line (lmX11_line_1 (List.mem_of_getElem? (i := 12) rfl))
theorem iX11_line_92 : rx_ins mX11_line 92 = some (7, 93, 0, 0, 0, []) := rx_atm tbX11_line ndX11_line (lmX11_line_1 (List.mem_of_getElem? (i := 13) rfl))
theorem iX11_line_93 : rx_ins mX11_line 93 = some (20, 94, 0, 0, 0, []) := rx_atm tbX11_line ndX11_line (lmX11_line_1 (List.mem_of_getElem? (i := 14) rfl))
theorem iX11_line_94 : rx_ins mX11_line 94 = some (4, 96, 1, 5, 0, []) := rx_atm tbX11_line ndX11_line (lmX11_line_1 (List.mem_of_getElem? (i := 15) rfl))
theorem iX11_line_96 : rx_ins mX11_line 96 = some (2, 97, 0, 2, 0, []) := rx_atm tbX11_line ndX11_line (lmX11_line_1 (List.mem_of_getElem? (i := 16) rfl))
theorem iX11_line_97 : rx_ins mX11_line 97 = some (13, 100, 10, 1, 107, []) := rx_atm tbX11_line ndX11_line (lmX11_line_1 (List.mem_of_getElem? (i := 17) rfl))
theorem iX11_line_100 : rx_ins mX11_line 100 = some (2, 102, 1, 5, 0, []) := rx_atm tbX11_line ndX11_line (lmX11_line_1 (List.mem_of_getElem? (i := 18) rfl))
theorem iX11_line_102 : rx_ins mX11_line 102 = some (1, 104, (-1000000005), 3, 25, [(222, 0)]) := rx_atm tbX11_line ndX11_line (lmX11_line_1 (List.mem_of_getElem? (i := 19) rfl))
theorem iX11_line_104 : rx_ins mX11_line 104 = some (14, 107, 7, 1, 111, []) := rx_atm tbX11_line ndX11_line (lmX11_line_1 (List.mem_of_getElem? (i := 20) rfl))
theorem iX11_line_111 : rx_ins mX11_line 111 = some (1, 112, 0, 0, 0, []) := rx_atm tbX11_line ndX11_line (lmX11_line_1 (List.mem_of_getElem? (i := 23) rfl))
theorem iX11_line_112 : rx_ins mX11_line 112 = some (4, 113, 0, 2, 0, []) := rx_atm tbX11_line ndX11_line (lmX11_line_1 (List.mem_of_getElem? (i := 24) rfl))
theorem iX11_line_176 : rx_ins mX11_line 176 = some (2, 177, 0, 2, 0, []) := rx_atm tbX11_line ndX11_line (lmX11_line_2 (List.mem_of_getElem? (i := 17) rfl))
theorem iX11_line_177 : rx_ins mX11_line 177 = some (13, 180, 8, 0, 185, []) := rx_atm tbX11_line ndX11_line (lmX11_line_2 (List.mem_of_getElem? (i := 18) rfl))
theorem iX11_line_185 : rx_ins mX11_line 185 = some (1, 187, (-1000000001), 3, 21, [(130, 0)]) := rx_atm tbX11_line ndX11_line (lmX11_line_2 (List.mem_of_getElem? (i := 21) rfl))
theorem iX11_line_187 : rx_ins mX11_line 187 = some (29, 188, 0, 0, 0, []) := rx_atm tbX11_line ndX11_line (lmX11_line_2 (List.mem_of_getElem? (i := 22) rfl))
theorem iX11_line_180 : rx_ins mX11_line 180 = some (1, 182, (-1000000012), 3, 24, [(187, 0)]) := rx_atm tbX11_line ndX11_line (lmX11_line_2 (List.mem_of_getElem? (i := 19) rfl))
theorem iX11_line_182 : rx_ins mX11_line 182 = some (15, 185, 5, 0, 187, []) := rx_atm tbX11_line ndX11_line (lmX11_line_2 (List.mem_of_getElem? (i := 20) rfl))
theorem iX11_line_191 : rx_ins mX11_line 191 = some (2, 193, 1, 4, 0, []) := rx_atm tbX11_line ndX11_line (lmX11_line_2 (List.mem_of_getElem? (i := 25) rfl))
theorem iX11_line_193 : rx_ins mX11_line 193 = some (3, 194, 0, 0, 0, []) := rx_atm tbX11_line ndX11_line (lmX11_line_2 (List.mem_of_getElem? (i := 26) rfl))
theorem iX11_line_194 : rx_ins mX11_line 194 = some (18, 197, 0, 11, 0, [(9, 124)]) := rx_atm tbX11_line ndX11_line (lmX11_line_2 (List.mem_of_getElem? (i := 27) rfl))
theorem iX11_line_197 : rx_ins mX11_line 197 = some (1, 198, 1, 0, 0, []) := rx_atm tbX11_line ndX11_line (lmX11_line_2 (List.mem_of_getElem? (i := 28) rfl))
theorem iX11_line_198 : rx_ins mX11_line 198 = some (20, 199, 0, 0, 0, []) := rx_atm tbX11_line ndX11_line (lmX11_line_2 (List.mem_of_getElem? (i := 29) rfl))
theorem iX11_line_199 : rx_ins mX11_line 199 = some (14, 202, 31, 3, 230, []) := rx_atm tbX11_line ndX11_line (lmX11_line_2 (List.mem_of_getElem? (i := 30) rfl))
theorem iX11_line_230 : rx_ins mX11_line 230 = some (3, 231, 0, 0, 0, []) := rx_atm tbX11_line ndX11_line (lmX11_line_3 (List.mem_of_getElem? (i := 7) rfl))
theorem iX11_line_231 : rx_ins mX11_line 231 = some (18, 234, 0, 11, 0, [(9, 124)]) := rx_atm tbX11_line ndX11_line (lmX11_line_3 (List.mem_of_getElem? (i := 8) rfl))
theorem iX11_line_234 : rx_ins mX11_line 234 = some (1, 235, 1, 0, 0, []) := rx_atm tbX11_line ndX11_line (lmX11_line_3 (List.mem_of_getElem? (i := 9) rfl))
theorem iX11_line_235 : rx_ins mX11_line 235 = some (20, 236, 0, 0, 0, []) := rx_atm tbX11_line ndX11_line (lmX11_line_3 (List.mem_of_getElem? (i := 10) rfl))
theorem iX11_line_236 : rx_ins mX11_line 236 = some (29, 237, 0, 0, 0, []) := rx_atm tbX11_line ndX11_line (lmX11_line_3 (List.mem_of_getElem? (i := 11) rfl))
theorem iX11_line_202 : rx_ins mX11_line 202 = some (3, 203, 0, 0, 0, []) := rx_atm tbX11_line ndX11_line (lmX11_line_2 (List.mem_of_getElem? (i := 31) rfl))
theorem iX11_line_203 : rx_ins mX11_line 203 = some (18, 206, 0, 11, 0, [(9, 124)]) := rx_atm tbX11_line ndX11_line (lmX11_line_2 (List.mem_of_getElem? (i := 32) rfl))
theorem iX11_line_206 : rx_ins mX11_line 206 = some (1, 208, 28, 1, 0, []) := rx_atm tbX11_line ndX11_line (lmX11_line_2 (List.mem_of_getElem? (i := 33) rfl))
theorem iX11_line_208 : rx_ins mX11_line 208 = some (2, 210, 1, 4, 0, []) := rx_atm tbX11_line ndX11_line (lmX11_line_2 (List.mem_of_getElem? (i := 34) rfl))
theorem iX11_line_210 : rx_ins mX11_line 210 = some (7, 211, 0, 0, 0, []) := rx_atm tbX11_line ndX11_line (lmX11_line_2 (List.mem_of_getElem? (i := 35) rfl))
theorem iX11_line_211 : rx_ins mX11_line 211 = some (3, 212, 0, 0, 0, []) := rx_atm tbX11_line ndX11_line (lmX11_line_2 (List.mem_of_getElem? (i := 36) rfl))
theorem iX11_line_212 : rx_ins mX11_line 212 = some (18, 215, 0, 11, 41, [(90, 134)]) := rx_atm tbX11_line ndX11_line (lmX11_line_2 (List.mem_of_getElem? (i := 37) rfl))
theorem iX11_line_215 : rx_ins mX11_line 215 = some (1, 217, 24, 1, 0, []) := rx_atm tbX11_line ndX11_line (lmX11_line_2 (List.mem_of_getElem? (i := 38) rfl))
theorem iX11_line_217 : rx_ins mX11_line 217 = some (2, 218, 0, 1, 0, []) := rx_atm tbX11_line ndX11_line (lmX11_line_2 (List.mem_of_getElem? (i := 39) rfl))
theorem iX11_line_218 : rx_ins mX11_line 218 = some (7, 219, 0, 2, 0, []) := rx_atm tbX11_line ndX11_line (lmX11_line_3 (List.mem_of_getElem? (i := 0) rfl))
theorem iX11_line_219 : rx_ins mX11_line 219 = some (2, 221, 1, 4, 0, []) := rx_atm tbX11_line ndX11_line (lmX11_line_3 (List.mem_of_getElem? (i := 1) rfl))
theorem iX11_line_221 : rx_ins mX11_line 221 = some (7, 222, 0, 0, 0, []) := rx_atm tbX11_line ndX11_line (lmX11_line_3 (List.mem_of_getElem? (i := 2) rfl))
theorem iX11_line_222 : rx_ins mX11_line 222 = some (20, 223, 0, 0, 0, []) := rx_atm tbX11_line ndX11_line (lmX11_line_3 (List.mem_of_getElem? (i := 3) rfl))
theorem iX11_line_223 : rx_ins mX11_line 223 = some (21, 224, 0, 0, 0, []) := rx_atm tbX11_line ndX11_line (lmX11_line_3 (List.mem_of_getElem? (i := 4) rfl))
theorem iX11_line_224 : rx_ins mX11_line 224 = some (6, 227, 1, 4, 0, []) := rx_atm tbX11_line ndX11_line (lmX11_line_3 (List.mem_of_getElem? (i := 5) rfl))
theorem iX11_line_227 : rx_ins mX11_line 227 = some (15, 230, (-36), 0, 191, []) := rx_atm tbX11_line ndX11_line (lmX11_line_3 (List.mem_of_getElem? (i := 6) rfl))
theorem iX11_line_107 : rx_ins mX11_line 107 = some (1, 108, 1, 0, 0, []) := rx_atm tbX11_line ndX11_line (lmX11_line_1 (List.mem_of_getElem? (i := 21) rfl))
theorem iX11_line_108 : rx_ins mX11_line 108 = some (15, 111, 4, 0, 112, []) := rx_atm tbX11_line ndX11_line (lmX11_line_1 (List.mem_of_getElem? (i := 22) rfl))
theorem iX11_line_113 : rx_ins mX11_line 113 = some (2, 114, 0, 3, 0, []) := rx_atm tbX11_line ndX11_line (lmX11_line_1 (List.mem_of_getElem? (i := 25) rfl))
theorem iX11_line_114 : rx_ins mX11_line 114 = some (13, 117, 32, 0, 146, []) := rx_atm tbX11_line ndX11_line (lmX11_line_1 (List.mem_of_getElem? (i := 26) rfl))
theorem iX11_line_117 : rx_ins mX11_line 117 = some (3, 118, 0, 0, 0, []) := rx_atm tbX11_line ndX11_line (lmX11_line_1 (List.mem_of_getElem? (i := 27) rfl))
theorem iX11_line_118 : rx_ins mX11_line 118 = some (2, 120, 1, 5, 0, []) := rx_atm tbX11_line ndX11_line (lmX11_line_1 (List.mem_of_getElem? (i := 28) rfl))
theorem iX11_line_120 : rx_ins mX11_line 120 = some (28, 123, 13, 136, 2, [(145, 207)]) := rx_atm tbX11_line ndX11_line (lmX11_line_1 (List.mem_of_getElem? (i := 29) rfl))
theorem iX11_line_123 : rx_ins mX11_line 123 = some (13, 126, 23, 0, 146, []) := rx_atm tbX11_line ndX11_line (lmX11_line_1 (List.mem_of_getElem? (i := 30) rfl))
theorem iX11_line_126 : rx_ins mX11_line 126 = some (3, 127, 0, 0, 0, []) := rx_atm tbX11_line ndX11_line (lmX11_line_1 (List.mem_of_getElem? (i := 31) rfl))
theorem iX11_line_127 : rx_ins mX11_line 127 = some (18, 130, 0, 11, 9, [(28, 133)]) := rx_atm tbX11_line ndX11_line (lmX11_line_1 (List.mem_of_getElem? (i := 32) rfl))
theorem iX11_line_130 : rx_ins mX11_line 130 = some (2, 132, 1, 5, 0, []) := rx_atm tbX11_line ndX11_line (lmX11_line_1 (List.mem_of_getElem? (i := 33) rfl))
theorem iX11_line_132 : rx_ins mX11_line 132 = some (1, 133, 0, 0, 0, []) := rx_atm tbX11_line ndX11_line (lmX11_line_1 (List.mem_of_getElem? (i := 34) rfl))
theorem iX11_line_133 : rx_ins mX11_line 133 = some (1, 135, 7, 1, 0, []) := rx_atm tbX11_line ndX11_line (lmX11_line_1 (List.mem_of_getElem? (i := 35) rfl))
theorem iX11_line_135 : rx_ins mX11_line 135 = some (28, 138, 0, 134, 3, [(171, 215)]) := rx_atm tbX11_line ndX11_line (lmX11_line_1 (List.mem_of_getElem? (i := 36) rfl))
theorem iX11_line_138 : rx_ins mX11_line 138 = some (20, 139, 0, 1, 0, []) := rx_atm tbX11_line ndX11_line (lmX11_line_1 (List.mem_of_getElem? (i := 37) rfl))
theorem iX11_line_139 : rx_ins mX11_line 139 = some (13, 142, 7, 1, 146, []) := rx_atm tbX11_line ndX11_line (lmX11_line_1 (List.mem_of_getElem? (i := 38) rfl))
theorem iX11_line_142 : rx_ins mX11_line 142 = some (1, 143, 1, 0, 0, []) := rx_atm tbX11_line ndX11_line (lmX11_line_1 (List.mem_of_getElem? (i := 39) rfl))
theorem iX11_line_143 : rx_ins mX11_line 143 = some (15, 146, 4, 0, 147, []) := rx_atm tbX11_line ndX11_line (lmX11_line_2 (List.mem_of_getElem? (i := 0) rfl))
theorem iX11_line_147 : rx_ins mX11_line 147 = some (4, 148, 0, 3, 0, []) := rx_atm tbX11_line ndX11_line (lmX11_line_2 (List.mem_of_getElem? (i := 2) rfl))
theorem iX11_line_146 : rx_ins mX11_line 146 = some (1, 147, 0, 0, 0, []) := rx_atm tbX11_line ndX11_line (lmX11_line_2 (List.mem_of_getElem? (i := 1) rfl))
theorem iX11_line_148 : rx_ins mX11_line 148 = some (3, 149, 0, 0, 0, []) := rx_atm tbX11_line ndX11_line (lmX11_line_2 (List.mem_of_getElem? (i := 3) rfl))
theorem iX11_line_149 : rx_ins mX11_line 149 = some (18, 152, 0, 11, 9, [(28, 133)]) := rx_atm tbX11_line ndX11_line (lmX11_line_2 (List.mem_of_getElem? (i := 4) rfl))
theorem iX11_line_152 : rx_ins mX11_line 152 = some (2, 154, 1, 5, 0, []) := rx_atm tbX11_line ndX11_line (lmX11_line_2 (List.mem_of_getElem? (i := 5) rfl))
theorem iX11_line_154 : rx_ins mX11_line 154 = some (1, 155, 0, 0, 0, []) := rx_atm tbX11_line ndX11_line (lmX11_line_2 (List.mem_of_getElem? (i := 6) rfl))
theorem iX11_line_155 : rx_ins mX11_line 155 = some (1, 157, 7, 1, 0, []) := rx_atm tbX11_line ndX11_line (lmX11_line_2 (List.mem_of_getElem? (i := 7) rfl))
theorem iX11_line_157 : rx_ins mX11_line 157 = some (28, 160, 0, 134, 3, [(171, 215)]) := rx_atm tbX11_line ndX11_line (lmX11_line_2 (List.mem_of_getElem? (i := 8) rfl))
theorem iX11_line_160 : rx_ins mX11_line 160 = some (1, 161, 1, 0, 0, []) := rx_atm tbX11_line ndX11_line (lmX11_line_2 (List.mem_of_getElem? (i := 9) rfl))
theorem iX11_line_161 : rx_ins mX11_line 161 = some (21, 162, 0, 1, 0, []) := rx_atm tbX11_line ndX11_line (lmX11_line_2 (List.mem_of_getElem? (i := 10) rfl))
theorem iX11_line_162 : rx_ins mX11_line 162 = some (6, 165, 1, 4, 0, []) := rx_atm tbX11_line ndX11_line (lmX11_line_2 (List.mem_of_getElem? (i := 11) rfl))
theorem iX11_line_165 : rx_ins mX11_line 165 = some (15, 168, (-94), 0, 71, []) := rx_atm tbX11_line ndX11_line (lmX11_line_2 (List.mem_of_getElem? (i := 12) rfl))
theorem iX11_at_0 : rx_ins mX11_at 0 = some (3, 1, 0, 0, 0, []) := rx_at tbX11_at ndX11_at (j := 0) rfl
theorem iX11_at_1 : rx_ins mX11_at 1 = some (2, 2, 0, 1, 0, []) := rx_at tbX11_at ndX11_at (j := 1) rfl
theorem iX11_at_2 : rx_ins mX11_at 2 = some (28, 5, 13, 136, 2, [(145, 207)]) := rx_at tbX11_at ndX11_at (j := 2) rfl
theorem iX11_at_5 : rx_ins mX11_at 5 = some (13, 8, 15, 0, 20, []) := rx_at tbX11_at ndX11_at (j := 3) rfl
theorem iX11_at_20 : rx_ins mX11_at 20 = some (1, 22, (-1000000001), 3, 21, [(130, 0)]) := rx_at tbX11_at ndX11_at (j := 11) rfl
theorem iX11_at_22 : rx_ins mX11_at 22 = some (29, 23, 0, 0, 0, []) := rx_at tbX11_at ndX11_at (j := 12) rfl
theorem iX11_at_8 : rx_ins mX11_at 8 = some (3, 9, 0, 0, 0, []) := rx_at tbX11_at ndX11_at (j := 4) rfl
theorem iX11_at_9 : rx_ins mX11_at 9 = some (18, 12, 0, 11, 0, [(9, 124)]) := rx_at tbX11_at ndX11_at (j := 5) rfl
theorem iX11_at_12 : rx_ins mX11_at 12 = some (1, 14, 28, 1, 0, []) := rx_at tbX11_at ndX11_at (j := 6) rfl
theorem iX11_at_14 : rx_ins mX11_at 14 = some (2, 15, 0, 1, 0, []) := rx_at tbX11_at ndX11_at (j := 7) rfl
theorem iX11_at_15 : rx_ins mX11_at 15 = some (7, 16, 0, 0, 0, []) := rx_at tbX11_at ndX11_at (j := 8) rfl
theorem iX11_at_16 : rx_ins mX11_at 16 = some (20, 17, 0, 0, 0, []) := rx_at tbX11_at ndX11_at (j := 9) rfl
theorem iX11_at_17 : rx_ins mX11_at 17 = some (15, 20, 5, 0, 22, []) := rx_at tbX11_at ndX11_at (j := 10) rfl
theorem iX11_findPlaces_0 : rx_ins mX11_findPlaces 0 = some (1, 1, 0, 0, 0, []) := rx_at tbX11_findPlaces ndX11_findPlaces (j := 0) rfl
theorem iX11_findPlaces_1 : rx_ins mX11_findPlaces 1 = some (4, 2, 0, 1, 0, []) := rx_at tbX11_findPlaces ndX11_findPlaces (j := 1) rfl
theorem iX11_findPlaces_2 : rx_ins mX11_findPlaces 2 = some (2, 3, 0, 1, 0, []) := rx_at tbX11_findPlaces ndX11_findPlaces (j := 2) rfl
theorem iX11_findPlaces_3 : rx_ins mX11_findPlaces 3 = some (3, 4, 0, 0, 0, []) := rx_at tbX11_findPlaces ndX11_findPlaces (j := 3) rfl
theorem iX11_findPlaces_4 : rx_ins mX11_findPlaces 4 = some (18, 7, 0, 11, 0, [(9, 124)]) := rx_at tbX11_findPlaces ndX11_findPlaces (j := 4) rfl
theorem iX11_findPlaces_7 : rx_ins mX11_findPlaces 7 = some (1, 8, 1, 0, 0, []) := rx_at tbX11_findPlaces ndX11_findPlaces (j := 5) rfl
theorem iX11_findPlaces_8 : rx_ins mX11_findPlaces 8 = some (20, 9, 0, 0, 0, []) := rx_at tbX11_findPlaces ndX11_findPlaces (j := 6) rfl
theorem iX11_findPlaces_9 : rx_ins mX11_findPlaces 9 = some (14, 12, 24, 3, 33, []) := rx_at tbX11_findPlaces ndX11_findPlaces (j := 7) rfl
theorem iX11_findPlaces_33 : rx_ins mX11_findPlaces 33 = some (30, 34, 0, 0, 0, []) := rx_at tbX11_findPlaces ndX11_findPlaces (j := 20) rfl
theorem iX11_findPlaces_12 : rx_ins mX11_findPlaces 12 = some (3, 13, 0, 0, 0, []) := rx_at tbX11_findPlaces ndX11_findPlaces (j := 8) rfl
theorem iX11_findPlaces_13 : rx_ins mX11_findPlaces 13 = some (18, 16, 0, 11, 10, [(32, 135)]) := rx_at tbX11_findPlaces ndX11_findPlaces (j := 9) rfl
theorem iX11_findPlaces_16 : rx_ins mX11_findPlaces 16 = some (3, 17, 0, 0, 0, []) := rx_at tbX11_findPlaces ndX11_findPlaces (j := 10) rfl
theorem iX11_findPlaces_17 : rx_ins mX11_findPlaces 17 = some (18, 20, 0, 11, 0, [(9, 124)]) := rx_at tbX11_findPlaces ndX11_findPlaces (j := 11) rfl
theorem iX11_findPlaces_20 : rx_ins mX11_findPlaces 20 = some (1, 22, 28, 1, 0, []) := rx_at tbX11_findPlaces ndX11_findPlaces (j := 12) rfl
theorem iX11_findPlaces_22 : rx_ins mX11_findPlaces 22 = some (2, 23, 0, 1, 0, []) := rx_at tbX11_findPlaces ndX11_findPlaces (j := 13) rfl
theorem iX11_findPlaces_23 : rx_ins mX11_findPlaces 23 = some (7, 24, 0, 0, 0, []) := rx_at tbX11_findPlaces ndX11_findPlaces (j := 14) rfl
theorem iX11_findPlaces_24 : rx_ins mX11_findPlaces 24 = some (20, 25, 0, 0, 0, []) := rx_at tbX11_findPlaces ndX11_findPlaces (j := 15) rfl
theorem iX11_findPlaces_25 : rx_ins mX11_findPlaces 25 = some (2, 26, 0, 1, 0, []) := rx_at tbX11_findPlaces ndX11_findPlaces (j := 16) rfl
theorem iX11_findPlaces_26 : rx_ins mX11_findPlaces 26 = some (21, 27, 0, 0, 0, []) := rx_at tbX11_findPlaces ndX11_findPlaces (j := 17) rfl
theorem iX11_findPlaces_27 : rx_ins mX11_findPlaces 27 = some (6, 30, 1, 1, 0, []) := rx_at tbX11_findPlaces ndX11_findPlaces (j := 18) rfl
theorem iX11_findPlaces_30 : rx_ins mX11_findPlaces 30 = some (15, 33, (-28), 0, 2, []) := rx_at tbX11_findPlaces ndX11_findPlaces (j := 19) rfl
theorem iX11_isWithin_0 : rx_ins mX11_isWithin 0 = some (2, 1, 0, 1, 0, []) := rx_at tbX11_isWithin ndX11_isWithin (j := 0) rfl
theorem iX11_isWithin_1 : rx_ins mX11_isWithin 1 = some (2, 2, 0, 2, 0, []) := rx_at tbX11_isWithin ndX11_isWithin (j := 1) rfl
theorem iX11_isWithin_2 : rx_ins mX11_isWithin 2 = some (2, 3, 0, 3, 0, []) := rx_at tbX11_isWithin ndX11_isWithin (j := 2) rfl
theorem iX11_isWithin_3 : rx_ins mX11_isWithin 3 = some (31, 6, 0, 1, 0, [(191, 8)]) := rx_at tbX11_isWithin ndX11_isWithin (j := 3) rfl
theorem iX11_isWithin_6 : rx_ins mX11_isWithin 6 = some (14, 9, 16, 5, 22, []) := rx_at tbX11_isWithin ndX11_isWithin (j := 4) rfl
theorem iX11_isWithin_22 : rx_ins mX11_isWithin 22 = some (1, 23, 0, 0, 0, []) := rx_at tbX11_isWithin ndX11_isWithin (j := 12) rfl
theorem iX11_isWithin_23 : rx_ins mX11_isWithin 23 = some (29, 24, 1, 0, 0, []) := rx_at tbX11_isWithin ndX11_isWithin (j := 13) rfl
theorem iX11_isWithin_9 : rx_ins mX11_isWithin 9 = some (2, 10, 0, 1, 0, []) := rx_at tbX11_isWithin ndX11_isWithin (j := 5) rfl
theorem iX11_isWithin_10 : rx_ins mX11_isWithin 10 = some (2, 11, 0, 2, 0, []) := rx_at tbX11_isWithin ndX11_isWithin (j := 6) rfl
theorem iX11_isWithin_11 : rx_ins mX11_isWithin 11 = some (2, 12, 0, 3, 0, []) := rx_at tbX11_isWithin ndX11_isWithin (j := 7) rfl
theorem iX11_isWithin_12 : rx_ins mX11_isWithin 12 = some (31, 15, 0, 0, 0, [(196, 9)]) := rx_at tbX11_isWithin ndX11_isWithin (j := 8) rfl
theorem iX11_isWithin_15 : rx_ins mX11_isWithin 15 = some (14, 18, 7, 3, 22, []) := rx_at tbX11_isWithin ndX11_isWithin (j := 9) rfl
theorem iX11_isWithin_18 : rx_ins mX11_isWithin 18 = some (1, 19, 1, 0, 0, []) := rx_at tbX11_isWithin ndX11_isWithin (j := 10) rfl
theorem iX11_isWithin_19 : rx_ins mX11_isWithin 19 = some (15, 22, 4, 0, 23, []) := rx_at tbX11_isWithin ndX11_isWithin (j := 11) rfl
theorem iX11_doPass_0 : rx_ins mX11_doPass 0 = some (3, 1, 0, 0, 0, []) := rx_at tbX11_doPass ndX11_doPass (j := 0) rfl
theorem iX11_doPass_1 : rx_ins mX11_doPass 1 = some (18, 4, 0, 11, 10, [(32, 135)]) := rx_at tbX11_doPass ndX11_doPass (j := 1) rfl
theorem iX11_doPass_4 : rx_ins mX11_doPass 4 = some (3, 5, 0, 0, 0, []) := rx_at tbX11_doPass ndX11_doPass (j := 2) rfl
theorem iX11_doPass_5 : rx_ins mX11_doPass 5 = some (2, 6, 0, 1, 0, []) := rx_at tbX11_doPass ndX11_doPass (j := 3) rfl
theorem iX11_doPass_6 : rx_ins mX11_doPass 6 = some (28, 9, 13, 142, 2, [(139, 205)]) := rx_at tbX11_doPass ndX11_doPass (j := 4) rfl
theorem iX11_doPass_9 : rx_ins mX11_doPass 9 = some (20, 10, 0, 0, 0, []) := rx_at tbX11_doPass ndX11_doPass (j := 5) rfl
theorem iX11_doPass_10 : rx_ins mX11_doPass 10 = some (4, 11, 0, 3, 0, []) := rx_at tbX11_doPass ndX11_doPass (j := 6) rfl
theorem iX11_doPass_11 : rx_ins mX11_doPass 11 = some (3, 12, 0, 0, 0, []) := rx_at tbX11_doPass ndX11_doPass (j := 7) rfl
theorem iX11_doPass_12 : rx_ins mX11_doPass 12 = some (18, 15, 0, 11, 10, [(32, 135)]) := rx_at tbX11_doPass ndX11_doPass (j := 8) rfl
theorem iX11_doPass_15 : rx_ins mX11_doPass 15 = some (3, 16, 0, 0, 0, []) := rx_at tbX11_doPass ndX11_doPass (j := 9) rfl
theorem iX11_doPass_16 : rx_ins mX11_doPass 16 = some (2, 17, 0, 1, 0, []) := rx_at tbX11_doPass ndX11_doPass (j := 10) rfl
theorem iX11_doPass_17 : rx_ins mX11_doPass 17 = some (28, 20, 13, 143, 2, [(142, 206)]) := rx_at tbX11_doPass ndX11_doPass (j := 11) rfl
theorem iX11_doPass_20 : rx_ins mX11_doPass 20 = some (20, 21, 0, 0, 0, []) := rx_at tbX11_doPass ndX11_doPass (j := 12) rfl
theorem iX11_doPass_21 : rx_ins mX11_doPass 21 = some (4, 23, 1, 4, 0, []) := rx_at tbX11_doPass ndX11_doPass (j := 13) rfl
theorem iX11_doPass_23 : rx_ins mX11_doPass 23 = some (3, 24, 0, 0, 0, []) := rx_at tbX11_doPass ndX11_doPass (j := 14) rfl
theorem iX11_doPass_24 : rx_ins mX11_doPass 24 = some (2, 25, 0, 1, 0, []) := rx_at tbX11_doPass ndX11_doPass (j := 15) rfl
theorem iX11_doPass_25 : rx_ins mX11_doPass 25 = some (2, 26, 0, 2, 0, []) := rx_at tbX11_doPass ndX11_doPass (j := 16) rfl
theorem iX11_doPass_26 : rx_ins mX11_doPass 26 = some (28, 29, 13, 165, 3, [(203, 222)]) := rx_at tbX11_doPass ndX11_doPass (j := 17) rfl
theorem iX11_doPass_29 : rx_ins mX11_doPass 29 = some (13, 32, 44, 0, 73, []) := rx_at tbX11_doPass ndX11_doPass (j := 18) rfl
theorem iX11_doPass_73 : rx_ins mX11_doPass 73 = some (1, 74, 0, 0, 0, []) := rx_at tbX11_doPass ndX11_doPass (j := 42) rfl
theorem iX11_doPass_74 : rx_ins mX11_doPass 74 = some (29, 75, 1, 0, 0, []) := rx_at tbX11_doPass ndX11_doPass (j := 43) rfl
theorem iX11_doPass_32 : rx_ins mX11_doPass 32 = some (3, 33, 0, 0, 0, []) := rx_at tbX11_doPass ndX11_doPass (j := 19) rfl
theorem iX11_doPass_33 : rx_ins mX11_doPass 33 = some (3, 34, 0, 0, 0, []) := rx_at tbX11_doPass ndX11_doPass (j := 20) rfl
theorem iX11_doPass_34 : rx_ins mX11_doPass 34 = some (18, 37, 0, 11, 10, [(32, 135)]) := rx_at tbX11_doPass ndX11_doPass (j := 21) rfl
theorem iX11_doPass_37 : rx_ins mX11_doPass 37 = some (3, 38, 0, 0, 0, []) := rx_at tbX11_doPass ndX11_doPass (j := 22) rfl
theorem iX11_doPass_38 : rx_ins mX11_doPass 38 = some (2, 39, 0, 2, 0, []) := rx_at tbX11_doPass ndX11_doPass (j := 23) rfl
theorem iX11_doPass_39 : rx_ins mX11_doPass 39 = some (28, 42, 13, 142, 2, [(139, 205)]) := rx_at tbX11_doPass ndX11_doPass (j := 24) rfl
theorem iX11_doPass_42 : rx_ins mX11_doPass 42 = some (20, 43, 0, 0, 0, []) := rx_at tbX11_doPass ndX11_doPass (j := 25) rfl
theorem iX11_doPass_43 : rx_ins mX11_doPass 43 = some (2, 44, 0, 3, 0, []) := rx_at tbX11_doPass ndX11_doPass (j := 26) rfl
theorem iX11_doPass_44 : rx_ins mX11_doPass 44 = some (2, 46, 1, 4, 0, []) := rx_at tbX11_doPass ndX11_doPass (j := 27) rfl
theorem iX11_doPass_46 : rx_ins mX11_doPass 46 = some (28, 49, 13, 186, 4, [(252, 234)]) := rx_at tbX11_doPass ndX11_doPass (j := 28) rfl
theorem iX11_doPass_49 : rx_ins mX11_doPass 49 = some (3, 50, 0, 0, 0, []) := rx_at tbX11_doPass ndX11_doPass (j := 29) rfl
theorem iX11_doPass_50 : rx_ins mX11_doPass 50 = some (3, 51, 0, 0, 0, []) := rx_at tbX11_doPass ndX11_doPass (j := 30) rfl
theorem iX11_doPass_51 : rx_ins mX11_doPass 51 = some (18, 54, 0, 11, 10, [(32, 135)]) := rx_at tbX11_doPass ndX11_doPass (j := 31) rfl
theorem iX11_doPass_54 : rx_ins mX11_doPass 54 = some (3, 55, 0, 0, 0, []) := rx_at tbX11_doPass ndX11_doPass (j := 32) rfl
theorem iX11_doPass_55 : rx_ins mX11_doPass 55 = some (2, 56, 0, 2, 0, []) := rx_at tbX11_doPass ndX11_doPass (j := 33) rfl
theorem iX11_doPass_56 : rx_ins mX11_doPass 56 = some (28, 59, 13, 143, 2, [(142, 206)]) := rx_at tbX11_doPass ndX11_doPass (j := 34) rfl
theorem iX11_doPass_59 : rx_ins mX11_doPass 59 = some (20, 60, 0, 0, 0, []) := rx_at tbX11_doPass ndX11_doPass (j := 35) rfl
theorem iX11_doPass_60 : rx_ins mX11_doPass 60 = some (2, 61, 0, 3, 0, []) := rx_at tbX11_doPass ndX11_doPass (j := 36) rfl
theorem iX11_doPass_61 : rx_ins mX11_doPass 61 = some (2, 63, 1, 4, 0, []) := rx_at tbX11_doPass ndX11_doPass (j := 37) rfl
theorem iX11_doPass_63 : rx_ins mX11_doPass 63 = some (28, 66, 13, 186, 4, [(252, 234)]) := rx_at tbX11_doPass ndX11_doPass (j := 38) rfl
theorem iX11_doPass_66 : rx_ins mX11_doPass 66 = some (14, 69, 7, 0, 73, []) := rx_at tbX11_doPass ndX11_doPass (j := 39) rfl
theorem iX11_doPass_69 : rx_ins mX11_doPass 69 = some (1, 70, 1, 0, 0, []) := rx_at tbX11_doPass ndX11_doPass (j := 40) rfl
theorem iX11_doPass_70 : rx_ins mX11_doPass 70 = some (15, 73, 4, 0, 74, []) := rx_at tbX11_doPass ndX11_doPass (j := 41) rfl
theorem iX11_book_0 : rx_ins mX11_book 0 = some (2, 1, 0, 1, 0, []) := rx_at tbX11_book ndX11_book (j := 0) rfl
theorem iX11_book_1 : rx_ins mX11_book 1 = some (1, 2, 0, 0, 0, []) := rx_at tbX11_book ndX11_book (j := 1) rfl
theorem iX11_book_2 : rx_ins mX11_book 2 = some (1, 3, 1, 0, 0, []) := rx_at tbX11_book ndX11_book (j := 2) rfl
theorem iX11_book_3 : rx_ins mX11_book 3 = some (28, 6, 0, 133, 3, [(111, 198)]) := rx_at tbX11_book ndX11_book (j := 3) rfl
theorem iX11_book_6 : rx_ins mX11_book 6 = some (13, 9, 6, 1, 12, []) := rx_at tbX11_book ndX11_book (j := 4) rfl
theorem iX11_book_12 : rx_ins mX11_book 12 = some (3, 13, 0, 0, 0, []) := rx_at tbX11_book ndX11_book (j := 7) rfl
theorem iX11_book_13 : rx_ins mX11_book 13 = some (28, 16, 13, 166, 1, [(215, 226)]) := rx_at tbX11_book ndX11_book (j := 8) rfl
theorem iX11_book_16 : rx_ins mX11_book 16 = some (3, 17, 0, 0, 0, []) := rx_at tbX11_book ndX11_book (j := 9) rfl
theorem iX11_book_17 : rx_ins mX11_book 17 = some (28, 20, 13, 185, 1, [(255, 235)]) := rx_at tbX11_book ndX11_book (j := 10) rfl
theorem iX11_book_20 : rx_ins mX11_book 20 = some (1, 21, 0, 0, 0, []) := rx_at tbX11_book ndX11_book (j := 11) rfl
theorem iX11_book_21 : rx_ins mX11_book 21 = some (4, 22, 0, 2, 0, []) := rx_at tbX11_book ndX11_book (j := 12) rfl
theorem iX11_book_22 : rx_ins mX11_book 22 = some (1, 23, 0, 0, 0, []) := rx_at tbX11_book ndX11_book (j := 13) rfl
theorem iX11_book_23 : rx_ins mX11_book 23 = some (4, 24, 0, 3, 0, []) := rx_at tbX11_book ndX11_book (j := 14) rfl
theorem iX11_book_9 : rx_ins mX11_book 9 = some (1, 11, (-1000000001), 3, 21, [(130, 0)]) := rx_at tbX11_book ndX11_book (j := 5) rfl
theorem iX11_book_11 : rx_ins mX11_book 11 = some (29, 12, 0, 0, 0, []) := rx_at tbX11_book ndX11_book (j := 6) rfl
theorem iX11_book_24 : rx_ins mX11_book 24 = some (2, 25, 0, 3, 0, []) := rx_at tbX11_book ndX11_book (j := 15) rfl
theorem iX11_book_25 : rx_ins mX11_book 25 = some (3, 26, 0, 0, 0, []) := rx_at tbX11_book ndX11_book (j := 16) rfl
theorem iX11_book_26 : rx_ins mX11_book 26 = some (18, 29, 0, 11, 0, [(9, 124)]) := rx_at tbX11_book ndX11_book (j := 17) rfl
theorem iX11_book_29 : rx_ins mX11_book 29 = some (1, 30, 2, 0, 0, []) := rx_at tbX11_book ndX11_book (j := 18) rfl
theorem iX11_book_30 : rx_ins mX11_book 30 = some (20, 31, 0, 0, 0, []) := rx_at tbX11_book ndX11_book (j := 19) rfl
theorem iX11_book_31 : rx_ins mX11_book 31 = some (14, 34, 97, 3, 128, []) := rx_at tbX11_book ndX11_book (j := 20) rfl
theorem iX11_book_128 : rx_ins mX11_book 128 = some (2, 129, 0, 2, 0, []) := rx_at tbX11_book ndX11_book (j := 73) rfl
theorem iX11_book_129 : rx_ins mX11_book 129 = some (29, 130, 0, 0, 0, []) := rx_at tbX11_book ndX11_book (j := 74) rfl
theorem iX11_book_34 : rx_ins mX11_book 34 = some (2, 35, 0, 3, 0, []) := rx_at tbX11_book ndX11_book (j := 21) rfl
theorem iX11_book_35 : rx_ins mX11_book 35 = some (1, 36, 1, 0, 0, []) := rx_at tbX11_book ndX11_book (j := 22) rfl
theorem iX11_book_36 : rx_ins mX11_book 36 = some (7, 37, 0, 0, 0, []) := rx_at tbX11_book ndX11_book (j := 23) rfl
theorem iX11_book_37 : rx_ins mX11_book 37 = some (4, 39, 1, 4, 0, []) := rx_at tbX11_book ndX11_book (j := 24) rfl
theorem iX11_book_39 : rx_ins mX11_book 39 = some (2, 41, 1, 4, 0, []) := rx_at tbX11_book ndX11_book (j := 25) rfl
theorem iX11_book_41 : rx_ins mX11_book 41 = some (3, 42, 0, 0, 0, []) := rx_at tbX11_book ndX11_book (j := 26) rfl
theorem iX11_book_42 : rx_ins mX11_book 42 = some (18, 45, 0, 11, 0, [(9, 124)]) := rx_at tbX11_book ndX11_book (j := 27) rfl
theorem iX11_book_45 : rx_ins mX11_book 45 = some (1, 46, 2, 0, 0, []) := rx_at tbX11_book ndX11_book (j := 28) rfl
theorem iX11_book_46 : rx_ins mX11_book 46 = some (20, 47, 0, 0, 0, []) := rx_at tbX11_book ndX11_book (j := 29) rfl
theorem iX11_book_47 : rx_ins mX11_book 47 = some (14, 50, 75, 3, 122, []) := rx_at tbX11_book ndX11_book (j := 30) rfl
theorem iX11_book_122 : rx_ins mX11_book 122 = some (6, 125, 1, 3, 0, []) := rx_at tbX11_book ndX11_book (j := 71) rfl
theorem iX11_book_125 : rx_ins mX11_book 125 = some (15, 128, (-101), 0, 24, []) := rx_at tbX11_book ndX11_book (j := 72) rfl
theorem iX11_book_50 : rx_ins mX11_book 50 = some (3, 51, 0, 0, 0, []) := rx_at tbX11_book ndX11_book (j := 31) rfl
theorem iX11_book_51 : rx_ins mX11_book 51 = some (2, 52, 0, 3, 0, []) := rx_at tbX11_book ndX11_book (j := 32) rfl
theorem iX11_book_52 : rx_ins mX11_book 52 = some (1, 53, 4, 0, 0, []) := rx_at tbX11_book ndX11_book (j := 33) rfl
theorem iX11_book_53 : rx_ins mX11_book 53 = some (28, 56, 13, 141, 3, [(115, 199)]) := rx_at tbX11_book ndX11_book (j := 34) rfl
theorem iX11_book_56 : rx_ins mX11_book 56 = some (3, 57, 0, 0, 0, []) := rx_at tbX11_book ndX11_book (j := 35) rfl
theorem iX11_book_57 : rx_ins mX11_book 57 = some (2, 59, 1, 4, 0, []) := rx_at tbX11_book ndX11_book (j := 36) rfl
theorem iX11_book_59 : rx_ins mX11_book 59 = some (1, 60, 4, 0, 0, []) := rx_at tbX11_book ndX11_book (j := 37) rfl
theorem iX11_book_60 : rx_ins mX11_book 60 = some (28, 63, 13, 141, 3, [(115, 199)]) := rx_at tbX11_book ndX11_book (j := 38) rfl
theorem iX11_book_63 : rx_ins mX11_book 63 = some (14, 66, 17, 1, 80, []) := rx_at tbX11_book ndX11_book (j := 39) rfl
theorem iX11_book_80 : rx_ins mX11_book 80 = some (1, 81, 0, 0, 0, []) := rx_at tbX11_book ndX11_book (j := 47) rfl
theorem iX11_book_81 : rx_ins mX11_book 81 = some (4, 83, 1, 5, 0, []) := rx_at tbX11_book ndX11_book (j := 48) rfl
theorem iX11_book_83 : rx_ins mX11_book 83 = some (2, 84, 0, 2, 0, []) := rx_at tbX11_book ndX11_book (j := 49) rfl
theorem iX11_book_84 : rx_ins mX11_book 84 = some (2, 86, 1, 5, 0, []) := rx_at tbX11_book ndX11_book (j := 50) rfl
theorem iX11_book_86 : rx_ins mX11_book 86 = some (13, 89, 27, 0, 113, []) := rx_at tbX11_book ndX11_book (j := 51) rfl
theorem iX11_book_113 : rx_ins mX11_book 113 = some (1, 114, 0, 0, 0, []) := rx_at tbX11_book ndX11_book (j := 66) rfl
theorem iX11_book_114 : rx_ins mX11_book 114 = some (7, 115, 0, 0, 0, []) := rx_at tbX11_book ndX11_book (j := 67) rfl
theorem iX11_book_115 : rx_ins mX11_book 115 = some (4, 116, 0, 2, 0, []) := rx_at tbX11_book ndX11_book (j := 68) rfl
theorem iX11_book_116 : rx_ins mX11_book 116 = some (6, 119, 1, 4, 0, []) := rx_at tbX11_book ndX11_book (j := 69) rfl
theorem iX11_book_119 : rx_ins mX11_book 119 = some (15, 122, (-80), 0, 39, []) := rx_at tbX11_book ndX11_book (j := 70) rfl
theorem iX11_book_66 : rx_ins mX11_book 66 = some (3, 67, 0, 0, 0, []) := rx_at tbX11_book ndX11_book (j := 40) rfl
theorem iX11_book_67 : rx_ins mX11_book 67 = some (2, 68, 0, 3, 0, []) := rx_at tbX11_book ndX11_book (j := 41) rfl
theorem iX11_book_68 : rx_ins mX11_book 68 = some (2, 70, 1, 4, 0, []) := rx_at tbX11_book ndX11_book (j := 42) rfl
theorem iX11_book_70 : rx_ins mX11_book 70 = some (28, 73, 13, 187, 3, [(258, 236)]) := rx_at tbX11_book ndX11_book (j := 43) rfl
theorem iX11_book_73 : rx_ins mX11_book 73 = some (13, 76, 7, 0, 80, []) := rx_at tbX11_book ndX11_book (j := 44) rfl
theorem iX11_book_76 : rx_ins mX11_book 76 = some (1, 77, 1, 0, 0, []) := rx_at tbX11_book ndX11_book (j := 45) rfl
theorem iX11_book_77 : rx_ins mX11_book 77 = some (15, 80, 4, 0, 81, []) := rx_at tbX11_book ndX11_book (j := 46) rfl
theorem iX11_book_89 : rx_ins mX11_book 89 = some (2, 90, 0, 1, 0, []) := rx_at tbX11_book ndX11_book (j := 52) rfl
theorem iX11_book_90 : rx_ins mX11_book 90 = some (1, 91, 1, 0, 0, []) := rx_at tbX11_book ndX11_book (j := 53) rfl
theorem iX11_book_91 : rx_ins mX11_book 91 = some (14, 94, 18, 1, 109, []) := rx_at tbX11_book ndX11_book (j := 54) rfl
theorem iX11_book_109 : rx_ins mX11_book 109 = some (1, 110, 1, 0, 0, []) := rx_at tbX11_book ndX11_book (j := 64) rfl
theorem iX11_book_110 : rx_ins mX11_book 110 = some (15, 113, 4, 0, 114, []) := rx_at tbX11_book ndX11_book (j := 65) rfl
theorem iX11_book_94 : rx_ins mX11_book 94 = some (3, 95, 0, 0, 0, []) := rx_at tbX11_book ndX11_book (j := 55) rfl
theorem iX11_book_95 : rx_ins mX11_book 95 = some (18, 98, 0, 11, 5, [(22, 127)]) := rx_at tbX11_book ndX11_book (j := 56) rfl
theorem iX11_book_98 : rx_ins mX11_book 98 = some (1, 100, 18, 1, 0, []) := rx_at tbX11_book ndX11_book (j := 57) rfl
theorem iX11_book_100 : rx_ins mX11_book 100 = some (2, 101, 0, 3, 0, []) := rx_at tbX11_book ndX11_book (j := 58) rfl
theorem iX11_book_101 : rx_ins mX11_book 101 = some (7, 102, 0, 2, 0, []) := rx_at tbX11_book ndX11_book (j := 59) rfl
theorem iX11_book_102 : rx_ins mX11_book 102 = some (2, 104, 1, 4, 0, []) := rx_at tbX11_book ndX11_book (j := 60) rfl
theorem iX11_book_104 : rx_ins mX11_book 104 = some (7, 105, 0, 0, 0, []) := rx_at tbX11_book ndX11_book (j := 61) rfl
theorem iX11_book_105 : rx_ins mX11_book 105 = some (20, 106, 0, 0, 0, []) := rx_at tbX11_book ndX11_book (j := 62) rfl
theorem iX11_book_106 : rx_ins mX11_book 106 = some (15, 109, 8, 0, 114, []) := rx_at tbX11_book ndX11_book (j := 63) rfl
theorem iX11_findPasses_0 : rx_ins mX11_findPasses 0 = some (3, 1, 0, 0, 0, []) := rx_at tbX11_findPasses ndX11_findPasses (j := 0) rfl
theorem iX11_findPasses_1 : rx_ins mX11_findPasses 1 = some (28, 4, 13, 185, 1, [(255, 235)]) := rx_at tbX11_findPasses ndX11_findPasses (j := 1) rfl
theorem iX11_findPasses_4 : rx_ins mX11_findPasses 4 = some (1, 5, 0, 0, 0, []) := rx_at tbX11_findPasses ndX11_findPasses (j := 2) rfl
theorem iX11_findPasses_5 : rx_ins mX11_findPasses 5 = some (4, 6, 0, 1, 0, []) := rx_at tbX11_findPasses ndX11_findPasses (j := 3) rfl
theorem iX11_findPasses_6 : rx_ins mX11_findPasses 6 = some (2, 7, 0, 1, 0, []) := rx_at tbX11_findPasses ndX11_findPasses (j := 4) rfl
theorem iX11_findPasses_7 : rx_ins mX11_findPasses 7 = some (3, 8, 0, 0, 0, []) := rx_at tbX11_findPasses ndX11_findPasses (j := 5) rfl
theorem iX11_findPasses_8 : rx_ins mX11_findPasses 8 = some (18, 11, 0, 11, 0, [(9, 124)]) := rx_at tbX11_findPasses ndX11_findPasses (j := 6) rfl
theorem iX11_findPasses_11 : rx_ins mX11_findPasses 11 = some (1, 12, 2, 0, 0, []) := rx_at tbX11_findPasses ndX11_findPasses (j := 7) rfl
theorem iX11_findPasses_12 : rx_ins mX11_findPasses 12 = some (20, 13, 0, 0, 0, []) := rx_at tbX11_findPasses ndX11_findPasses (j := 8) rfl
theorem iX11_findPasses_13 : rx_ins mX11_findPasses 13 = some (14, 16, 64, 3, 77, []) := rx_at tbX11_findPasses ndX11_findPasses (j := 9) rfl
theorem iX11_findPasses_77 : rx_ins mX11_findPasses 77 = some (30, 78, 0, 0, 0, []) := rx_at tbX11_findPasses ndX11_findPasses (j := 47) rfl
theorem iX11_findPasses_16 : rx_ins mX11_findPasses 16 = some (3, 17, 0, 0, 0, []) := rx_at tbX11_findPasses ndX11_findPasses (j := 10) rfl
theorem iX11_findPasses_17 : rx_ins mX11_findPasses 17 = some (18, 20, 0, 11, 11, [(35, 136)]) := rx_at tbX11_findPasses ndX11_findPasses (j := 11) rfl
theorem iX11_findPasses_20 : rx_ins mX11_findPasses 20 = some (2, 21, 0, 1, 0, []) := rx_at tbX11_findPasses ndX11_findPasses (j := 12) rfl
theorem iX11_findPasses_21 : rx_ins mX11_findPasses 21 = some (1, 22, 0, 0, 0, []) := rx_at tbX11_findPasses ndX11_findPasses (j := 13) rfl
theorem iX11_findPasses_22 : rx_ins mX11_findPasses 22 = some (21, 23, 0, 0, 0, []) := rx_at tbX11_findPasses ndX11_findPasses (j := 14) rfl
theorem iX11_findPasses_23 : rx_ins mX11_findPasses 23 = some (1, 24, 0, 0, 0, []) := rx_at tbX11_findPasses ndX11_findPasses (j := 15) rfl
theorem iX11_findPasses_24 : rx_ins mX11_findPasses 24 = some (4, 25, 0, 2, 0, []) := rx_at tbX11_findPasses ndX11_findPasses (j := 16) rfl
theorem iX11_findPasses_25 : rx_ins mX11_findPasses 25 = some (2, 26, 0, 2, 0, []) := rx_at tbX11_findPasses ndX11_findPasses (j := 17) rfl
theorem iX11_findPasses_26 : rx_ins mX11_findPasses 26 = some (3, 27, 0, 0, 0, []) := rx_at tbX11_findPasses ndX11_findPasses (j := 18) rfl
theorem iX11_findPasses_27 : rx_ins mX11_findPasses 27 = some (18, 30, 0, 11, 0, [(9, 124)]) := rx_at tbX11_findPasses ndX11_findPasses (j := 19) rfl
theorem iX11_findPasses_30 : rx_ins mX11_findPasses 30 = some (1, 31, 2, 0, 0, []) := rx_at tbX11_findPasses ndX11_findPasses (j := 20) rfl
theorem iX11_findPasses_31 : rx_ins mX11_findPasses 31 = some (20, 32, 0, 0, 0, []) := rx_at tbX11_findPasses ndX11_findPasses (j := 21) rfl
theorem iX11_findPasses_32 : rx_ins mX11_findPasses 32 = some (14, 35, 39, 3, 71, []) := rx_at tbX11_findPasses ndX11_findPasses (j := 22) rfl
theorem iX11_findPasses_71 : rx_ins mX11_findPasses 71 = some (6, 74, 1, 1, 0, []) := rx_at tbX11_findPasses ndX11_findPasses (j := 45) rfl
theorem iX11_findPasses_74 : rx_ins mX11_findPasses 74 = some (15, 77, (-68), 0, 6, []) := rx_at tbX11_findPasses ndX11_findPasses (j := 46) rfl
theorem iX11_findPasses_35 : rx_ins mX11_findPasses 35 = some (3, 36, 0, 0, 0, []) := rx_at tbX11_findPasses ndX11_findPasses (j := 23) rfl
theorem iX11_findPasses_36 : rx_ins mX11_findPasses 36 = some (18, 39, 0, 11, 11, [(35, 136)]) := rx_at tbX11_findPasses ndX11_findPasses (j := 24) rfl
theorem iX11_findPasses_39 : rx_ins mX11_findPasses 39 = some (2, 40, 0, 1, 0, []) := rx_at tbX11_findPasses ndX11_findPasses (j := 25) rfl
theorem iX11_findPasses_40 : rx_ins mX11_findPasses 40 = some (11, 41, 0, 0, 0, []) := rx_at tbX11_findPasses ndX11_findPasses (j := 26) rfl
theorem iX11_findPasses_41 : rx_ins mX11_findPasses 41 = some (20, 42, 0, 0, 0, []) := rx_at tbX11_findPasses ndX11_findPasses (j := 27) rfl
theorem iX11_findPasses_42 : rx_ins mX11_findPasses 42 = some (2, 43, 0, 2, 0, []) := rx_at tbX11_findPasses ndX11_findPasses (j := 28) rfl
theorem iX11_findPasses_43 : rx_ins mX11_findPasses 43 = some (2, 44, 0, 1, 0, []) := rx_at tbX11_findPasses ndX11_findPasses (j := 29) rfl
theorem iX11_findPasses_44 : rx_ins mX11_findPasses 44 = some (14, 47, 18, 0, 62, []) := rx_at tbX11_findPasses ndX11_findPasses (j := 30) rfl
theorem iX11_findPasses_62 : rx_ins mX11_findPasses 62 = some (1, 63, 0, 0, 0, []) := rx_at tbX11_findPasses ndX11_findPasses (j := 40) rfl
theorem iX11_findPasses_63 : rx_ins mX11_findPasses 63 = some (7, 64, 0, 4, 0, []) := rx_at tbX11_findPasses ndX11_findPasses (j := 41) rfl
theorem iX11_findPasses_64 : rx_ins mX11_findPasses 64 = some (21, 65, 0, 0, 0, []) := rx_at tbX11_findPasses ndX11_findPasses (j := 42) rfl
theorem iX11_findPasses_65 : rx_ins mX11_findPasses 65 = some (6, 68, 1, 2, 0, []) := rx_at tbX11_findPasses ndX11_findPasses (j := 43) rfl
theorem iX11_findPasses_68 : rx_ins mX11_findPasses 68 = some (15, 71, (-43), 0, 25, []) := rx_at tbX11_findPasses ndX11_findPasses (j := 44) rfl
theorem iX11_findPasses_47 : rx_ins mX11_findPasses 47 = some (3, 48, 0, 0, 0, []) := rx_at tbX11_findPasses ndX11_findPasses (j := 31) rfl
theorem iX11_findPasses_48 : rx_ins mX11_findPasses 48 = some (2, 49, 0, 1, 0, []) := rx_at tbX11_findPasses ndX11_findPasses (j := 32) rfl
theorem iX11_findPasses_49 : rx_ins mX11_findPasses 49 = some (2, 50, 0, 2, 0, []) := rx_at tbX11_findPasses ndX11_findPasses (j := 33) rfl
theorem iX11_findPasses_50 : rx_ins mX11_findPasses 50 = some (28, 53, 13, 187, 3, [(258, 236)]) := rx_at tbX11_findPasses ndX11_findPasses (j := 34) rfl
theorem iX11_findPasses_53 : rx_ins mX11_findPasses 53 = some (13, 56, 9, 0, 62, []) := rx_at tbX11_findPasses ndX11_findPasses (j := 35) rfl
theorem iX11_findPasses_56 : rx_ins mX11_findPasses 56 = some (1, 57, 1, 0, 0, []) := rx_at tbX11_findPasses ndX11_findPasses (j := 36) rfl
theorem iX11_findPasses_57 : rx_ins mX11_findPasses 57 = some (2, 58, 0, 2, 0, []) := rx_at tbX11_findPasses ndX11_findPasses (j := 37) rfl
theorem iX11_findPasses_58 : rx_ins mX11_findPasses 58 = some (7, 59, 0, 6, 0, []) := rx_at tbX11_findPasses ndX11_findPasses (j := 38) rfl
theorem iX11_findPasses_59 : rx_ins mX11_findPasses 59 = some (15, 62, 4, 0, 63, []) := rx_at tbX11_findPasses ndX11_findPasses (j := 39) rfl
theorem iX11_hasTwo_0 : rx_ins mX11_hasTwo 0 = some (1, 1, 0, 0, 0, []) := rx_at tbX11_hasTwo ndX11_hasTwo (j := 0) rfl
theorem iX11_hasTwo_1 : rx_ins mX11_hasTwo 1 = some (4, 2, 0, 2, 0, []) := rx_at tbX11_hasTwo ndX11_hasTwo (j := 1) rfl
theorem iX11_hasTwo_2 : rx_ins mX11_hasTwo 2 = some (2, 3, 0, 2, 0, []) := rx_at tbX11_hasTwo ndX11_hasTwo (j := 2) rfl
theorem iX11_hasTwo_3 : rx_ins mX11_hasTwo 3 = some (3, 4, 0, 0, 0, []) := rx_at tbX11_hasTwo ndX11_hasTwo (j := 3) rfl
theorem iX11_hasTwo_4 : rx_ins mX11_hasTwo 4 = some (18, 7, 0, 11, 0, [(9, 124)]) := rx_at tbX11_hasTwo ndX11_hasTwo (j := 4) rfl
theorem iX11_hasTwo_7 : rx_ins mX11_hasTwo 7 = some (1, 8, 2, 0, 0, []) := rx_at tbX11_hasTwo ndX11_hasTwo (j := 5) rfl
theorem iX11_hasTwo_8 : rx_ins mX11_hasTwo 8 = some (20, 9, 0, 0, 0, []) := rx_at tbX11_hasTwo ndX11_hasTwo (j := 6) rfl
theorem iX11_hasTwo_9 : rx_ins mX11_hasTwo 9 = some (14, 12, 31, 3, 40, []) := rx_at tbX11_hasTwo ndX11_hasTwo (j := 7) rfl
theorem iX11_hasTwo_40 : rx_ins mX11_hasTwo 40 = some (1, 41, 0, 0, 0, []) := rx_at tbX11_hasTwo ndX11_hasTwo (j := 26) rfl
theorem iX11_hasTwo_41 : rx_ins mX11_hasTwo 41 = some (29, 42, 1, 0, 0, []) := rx_at tbX11_hasTwo ndX11_hasTwo (j := 27) rfl
theorem iX11_hasTwo_12 : rx_ins mX11_hasTwo 12 = some (2, 13, 0, 1, 0, []) := rx_at tbX11_hasTwo ndX11_hasTwo (j := 8) rfl
theorem iX11_hasTwo_13 : rx_ins mX11_hasTwo 13 = some (2, 14, 0, 2, 0, []) := rx_at tbX11_hasTwo ndX11_hasTwo (j := 9) rfl
theorem iX11_hasTwo_14 : rx_ins mX11_hasTwo 14 = some (7, 15, 0, 7, 0, []) := rx_at tbX11_hasTwo ndX11_hasTwo (j := 10) rfl
theorem iX11_hasTwo_15 : rx_ins mX11_hasTwo 15 = some (1, 16, 1, 0, 0, []) := rx_at tbX11_hasTwo ndX11_hasTwo (j := 11) rfl
theorem iX11_hasTwo_16 : rx_ins mX11_hasTwo 16 = some (7, 17, 0, 3, 0, []) := rx_at tbX11_hasTwo ndX11_hasTwo (j := 12) rfl
theorem iX11_hasTwo_17 : rx_ins mX11_hasTwo 17 = some (1, 18, 1, 0, 0, []) := rx_at tbX11_hasTwo ndX11_hasTwo (j := 13) rfl
theorem iX11_hasTwo_18 : rx_ins mX11_hasTwo 18 = some (14, 21, 16, 1, 34, []) := rx_at tbX11_hasTwo ndX11_hasTwo (j := 14) rfl
theorem iX11_hasTwo_34 : rx_ins mX11_hasTwo 34 = some (6, 37, 1, 2, 0, []) := rx_at tbX11_hasTwo ndX11_hasTwo (j := 24) rfl
theorem iX11_hasTwo_37 : rx_ins mX11_hasTwo 37 = some (15, 40, (-35), 0, 2, []) := rx_at tbX11_hasTwo ndX11_hasTwo (j := 25) rfl
theorem iX11_hasTwo_21 : rx_ins mX11_hasTwo 21 = some (2, 22, 0, 1, 0, []) := rx_at tbX11_hasTwo ndX11_hasTwo (j := 15) rfl
theorem iX11_hasTwo_22 : rx_ins mX11_hasTwo 22 = some (3, 23, 0, 0, 0, []) := rx_at tbX11_hasTwo ndX11_hasTwo (j := 16) rfl
theorem iX11_hasTwo_23 : rx_ins mX11_hasTwo 23 = some (18, 26, 0, 11, 11, [(35, 136)]) := rx_at tbX11_hasTwo ndX11_hasTwo (j := 17) rfl
theorem iX11_hasTwo_26 : rx_ins mX11_hasTwo 26 = some (2, 27, 0, 2, 0, []) := rx_at tbX11_hasTwo ndX11_hasTwo (j := 18) rfl
theorem iX11_hasTwo_27 : rx_ins mX11_hasTwo 27 = some (20, 28, 0, 0, 0, []) := rx_at tbX11_hasTwo ndX11_hasTwo (j := 19) rfl
theorem iX11_hasTwo_28 : rx_ins mX11_hasTwo 28 = some (7, 29, 0, 3, 0, []) := rx_at tbX11_hasTwo ndX11_hasTwo (j := 20) rfl
theorem iX11_hasTwo_29 : rx_ins mX11_hasTwo 29 = some (13, 32, 5, 0, 34, []) := rx_at tbX11_hasTwo ndX11_hasTwo (j := 21) rfl
theorem iX11_hasTwo_32 : rx_ins mX11_hasTwo 32 = some (1, 33, 1, 0, 0, []) := rx_at tbX11_hasTwo ndX11_hasTwo (j := 22) rfl
theorem iX11_hasTwo_33 : rx_ins mX11_hasTwo 33 = some (29, 34, 1, 0, 0, []) := rx_at tbX11_hasTwo ndX11_hasTwo (j := 23) rfl
theorem iX11_mutual_0 : rx_ins mX11_mutual 0 = some (3, 1, 0, 0, 0, []) := rx_at tbX11_mutual ndX11_mutual (j := 0) rfl
theorem iX11_mutual_1 : rx_ins mX11_mutual 1 = some (18, 4, 0, 11, 0, [(9, 124)]) := rx_at tbX11_mutual ndX11_mutual (j := 1) rfl
theorem iX11_mutual_4 : rx_ins mX11_mutual 4 = some (1, 5, 2, 0, 0, []) := rx_at tbX11_mutual ndX11_mutual (j := 2) rfl
theorem iX11_mutual_5 : rx_ins mX11_mutual 5 = some (20, 6, 0, 0, 0, []) := rx_at tbX11_mutual ndX11_mutual (j := 3) rfl
theorem iX11_mutual_6 : rx_ins mX11_mutual 6 = some (13, 9, 7, 5, 13, []) := rx_at tbX11_mutual ndX11_mutual (j := 4) rfl
theorem iX11_mutual_13 : rx_ins mX11_mutual 13 = some (1, 14, 0, 0, 0, []) := rx_at tbX11_mutual ndX11_mutual (j := 7) rfl
theorem iX11_mutual_14 : rx_ins mX11_mutual 14 = some (4, 15, 0, 1, 0, []) := rx_at tbX11_mutual ndX11_mutual (j := 8) rfl
theorem iX11_mutual_15 : rx_ins mX11_mutual 15 = some (1, 16, 0, 0, 0, []) := rx_at tbX11_mutual ndX11_mutual (j := 9) rfl
theorem iX11_mutual_16 : rx_ins mX11_mutual 16 = some (4, 17, 0, 2, 0, []) := rx_at tbX11_mutual ndX11_mutual (j := 10) rfl
theorem iX11_mutual_9 : rx_ins mX11_mutual 9 = some (1, 10, 1, 0, 0, []) := rx_at tbX11_mutual ndX11_mutual (j := 5) rfl
theorem iX11_mutual_10 : rx_ins mX11_mutual 10 = some (15, 13, 4, 0, 14, []) := rx_at tbX11_mutual ndX11_mutual (j := 6) rfl
theorem iX11_mutual_17 : rx_ins mX11_mutual 17 = some (2, 18, 0, 2, 0, []) := rx_at tbX11_mutual ndX11_mutual (j := 11) rfl
theorem iX11_mutual_18 : rx_ins mX11_mutual 18 = some (3, 19, 0, 0, 0, []) := rx_at tbX11_mutual ndX11_mutual (j := 12) rfl
theorem iX11_mutual_19 : rx_ins mX11_mutual 19 = some (18, 22, 0, 11, 0, [(9, 124)]) := rx_at tbX11_mutual ndX11_mutual (j := 13) rfl
theorem iX11_mutual_22 : rx_ins mX11_mutual 22 = some (1, 23, 2, 0, 0, []) := rx_at tbX11_mutual ndX11_mutual (j := 14) rfl
theorem iX11_mutual_23 : rx_ins mX11_mutual 23 = some (20, 24, 0, 0, 0, []) := rx_at tbX11_mutual ndX11_mutual (j := 15) rfl
theorem iX11_mutual_24 : rx_ins mX11_mutual 24 = some (14, 27, 116, 3, 140, []) := rx_at tbX11_mutual ndX11_mutual (j := 16) rfl
theorem iX11_mutual_140 : rx_ins mX11_mutual 140 = some (2, 141, 0, 1, 0, []) := rx_at tbX11_mutual ndX11_mutual (j := 82) rfl
theorem iX11_mutual_141 : rx_ins mX11_mutual 141 = some (29, 142, 0, 0, 0, []) := rx_at tbX11_mutual ndX11_mutual (j := 83) rfl
theorem iX11_mutual_27 : rx_ins mX11_mutual 27 = some (3, 28, 0, 0, 0, []) := rx_at tbX11_mutual ndX11_mutual (j := 17) rfl
theorem iX11_mutual_28 : rx_ins mX11_mutual 28 = some (18, 31, 0, 11, 11, [(35, 136)]) := rx_at tbX11_mutual ndX11_mutual (j := 18) rfl
theorem iX11_mutual_31 : rx_ins mX11_mutual 31 = some (2, 32, 0, 2, 0, []) := rx_at tbX11_mutual ndX11_mutual (j := 19) rfl
theorem iX11_mutual_32 : rx_ins mX11_mutual 32 = some (20, 33, 0, 0, 0, []) := rx_at tbX11_mutual ndX11_mutual (j := 20) rfl
theorem iX11_mutual_33 : rx_ins mX11_mutual 33 = some (13, 36, 11, 0, 44, []) := rx_at tbX11_mutual ndX11_mutual (j := 21) rfl
theorem iX11_mutual_44 : rx_ins mX11_mutual 44 = some (2, 45, 0, 1, 0, []) := rx_at tbX11_mutual ndX11_mutual (j := 26) rfl
theorem iX11_mutual_45 : rx_ins mX11_mutual 45 = some (4, 46, 0, 1, 0, []) := rx_at tbX11_mutual ndX11_mutual (j := 27) rfl
theorem iX11_mutual_46 : rx_ins mX11_mutual 46 = some (2, 47, 0, 2, 0, []) := rx_at tbX11_mutual ndX11_mutual (j := 28) rfl
theorem iX11_mutual_47 : rx_ins mX11_mutual 47 = some (1, 48, 1, 0, 0, []) := rx_at tbX11_mutual ndX11_mutual (j := 29) rfl
theorem iX11_mutual_48 : rx_ins mX11_mutual 48 = some (7, 49, 0, 0, 0, []) := rx_at tbX11_mutual ndX11_mutual (j := 30) rfl
theorem iX11_mutual_49 : rx_ins mX11_mutual 49 = some (4, 50, 0, 3, 0, []) := rx_at tbX11_mutual ndX11_mutual (j := 31) rfl
theorem iX11_mutual_36 : rx_ins mX11_mutual 36 = some (2, 37, 0, 1, 0, []) := rx_at tbX11_mutual ndX11_mutual (j := 22) rfl
theorem iX11_mutual_37 : rx_ins mX11_mutual 37 = some (1, 38, 2, 0, 0, []) := rx_at tbX11_mutual ndX11_mutual (j := 23) rfl
theorem iX11_mutual_38 : rx_ins mX11_mutual 38 = some (31, 41, 0, 0, 0, [(196, 9)]) := rx_at tbX11_mutual ndX11_mutual (j := 24) rfl
theorem iX11_mutual_41 : rx_ins mX11_mutual 41 = some (15, 44, 4, 0, 45, []) := rx_at tbX11_mutual ndX11_mutual (j := 25) rfl
theorem iX11_mutual_50 : rx_ins mX11_mutual 50 = some (2, 51, 0, 3, 0, []) := rx_at tbX11_mutual ndX11_mutual (j := 32) rfl
theorem iX11_mutual_51 : rx_ins mX11_mutual 51 = some (3, 52, 0, 0, 0, []) := rx_at tbX11_mutual ndX11_mutual (j := 33) rfl
theorem iX11_mutual_52 : rx_ins mX11_mutual 52 = some (18, 55, 0, 11, 0, [(9, 124)]) := rx_at tbX11_mutual ndX11_mutual (j := 34) rfl
theorem iX11_mutual_55 : rx_ins mX11_mutual 55 = some (1, 56, 2, 0, 0, []) := rx_at tbX11_mutual ndX11_mutual (j := 35) rfl
theorem iX11_mutual_56 : rx_ins mX11_mutual 56 = some (20, 57, 0, 0, 0, []) := rx_at tbX11_mutual ndX11_mutual (j := 36) rfl
theorem iX11_mutual_57 : rx_ins mX11_mutual 57 = some (14, 60, 77, 3, 134, []) := rx_at tbX11_mutual ndX11_mutual (j := 37) rfl
theorem iX11_mutual_134 : rx_ins mX11_mutual 134 = some (6, 137, 1, 2, 0, []) := rx_at tbX11_mutual ndX11_mutual (j := 80) rfl
theorem iX11_mutual_137 : rx_ins mX11_mutual 137 = some (15, 140, (-120), 0, 17, []) := rx_at tbX11_mutual ndX11_mutual (j := 81) rfl
theorem iX11_mutual_60 : rx_ins mX11_mutual 60 = some (3, 61, 0, 0, 0, []) := rx_at tbX11_mutual ndX11_mutual (j := 38) rfl
theorem iX11_mutual_61 : rx_ins mX11_mutual 61 = some (18, 64, 0, 11, 11, [(35, 136)]) := rx_at tbX11_mutual ndX11_mutual (j := 39) rfl
theorem iX11_mutual_64 : rx_ins mX11_mutual 64 = some (2, 65, 0, 2, 0, []) := rx_at tbX11_mutual ndX11_mutual (j := 40) rfl
theorem iX11_mutual_65 : rx_ins mX11_mutual 65 = some (20, 66, 0, 0, 0, []) := rx_at tbX11_mutual ndX11_mutual (j := 41) rfl
theorem iX11_mutual_66 : rx_ins mX11_mutual 66 = some (2, 67, 0, 3, 0, []) := rx_at tbX11_mutual ndX11_mutual (j := 42) rfl
theorem iX11_mutual_67 : rx_ins mX11_mutual 67 = some (7, 68, 0, 7, 0, []) := rx_at tbX11_mutual ndX11_mutual (j := 43) rfl
theorem iX11_mutual_68 : rx_ins mX11_mutual 68 = some (1, 69, 1, 0, 0, []) := rx_at tbX11_mutual ndX11_mutual (j := 44) rfl
theorem iX11_mutual_69 : rx_ins mX11_mutual 69 = some (7, 70, 0, 3, 0, []) := rx_at tbX11_mutual ndX11_mutual (j := 45) rfl
theorem iX11_mutual_70 : rx_ins mX11_mutual 70 = some (1, 71, 1, 0, 0, []) := rx_at tbX11_mutual ndX11_mutual (j := 46) rfl
theorem iX11_mutual_71 : rx_ins mX11_mutual 71 = some (14, 74, 19, 1, 90, []) := rx_at tbX11_mutual ndX11_mutual (j := 47) rfl
theorem iX11_mutual_90 : rx_ins mX11_mutual 90 = some (1, 91, 0, 0, 0, []) := rx_at tbX11_mutual ndX11_mutual (j := 58) rfl
theorem iX11_mutual_91 : rx_ins mX11_mutual 91 = some (4, 93, 1, 4, 0, []) := rx_at tbX11_mutual ndX11_mutual (j := 59) rfl
theorem iX11_mutual_93 : rx_ins mX11_mutual 93 = some (2, 95, 1, 4, 0, []) := rx_at tbX11_mutual ndX11_mutual (j := 60) rfl
theorem iX11_mutual_95 : rx_ins mX11_mutual 95 = some (13, 98, 11, 0, 106, []) := rx_at tbX11_mutual ndX11_mutual (j := 61) rfl
theorem iX11_mutual_106 : rx_ins mX11_mutual 106 = some (2, 107, 0, 1, 0, []) := rx_at tbX11_mutual ndX11_mutual (j := 66) rfl
theorem iX11_mutual_107 : rx_ins mX11_mutual 107 = some (4, 108, 0, 1, 0, []) := rx_at tbX11_mutual ndX11_mutual (j := 67) rfl
theorem iX11_mutual_108 : rx_ins mX11_mutual 108 = some (2, 110, 1, 4, 0, []) := rx_at tbX11_mutual ndX11_mutual (j := 68) rfl
theorem iX11_mutual_110 : rx_ins mX11_mutual 110 = some (13, 113, 16, 0, 126, []) := rx_at tbX11_mutual ndX11_mutual (j := 69) rfl
theorem iX11_mutual_126 : rx_ins mX11_mutual 126 = some (2, 127, 0, 1, 0, []) := rx_at tbX11_mutual ndX11_mutual (j := 76) rfl
theorem iX11_mutual_127 : rx_ins mX11_mutual 127 = some (4, 128, 0, 1, 0, []) := rx_at tbX11_mutual ndX11_mutual (j := 77) rfl
theorem iX11_mutual_128 : rx_ins mX11_mutual 128 = some (6, 131, 1, 3, 0, []) := rx_at tbX11_mutual ndX11_mutual (j := 78) rfl
theorem iX11_mutual_131 : rx_ins mX11_mutual 131 = some (15, 134, (-81), 0, 50, []) := rx_at tbX11_mutual ndX11_mutual (j := 79) rfl
theorem iX11_mutual_74 : rx_ins mX11_mutual 74 = some (3, 75, 0, 0, 0, []) := rx_at tbX11_mutual ndX11_mutual (j := 48) rfl
theorem iX11_mutual_75 : rx_ins mX11_mutual 75 = some (18, 78, 0, 11, 11, [(35, 136)]) := rx_at tbX11_mutual ndX11_mutual (j := 49) rfl
theorem iX11_mutual_78 : rx_ins mX11_mutual 78 = some (2, 79, 0, 2, 0, []) := rx_at tbX11_mutual ndX11_mutual (j := 50) rfl
theorem iX11_mutual_79 : rx_ins mX11_mutual 79 = some (20, 80, 0, 0, 0, []) := rx_at tbX11_mutual ndX11_mutual (j := 51) rfl
theorem iX11_mutual_80 : rx_ins mX11_mutual 80 = some (3, 81, 0, 0, 0, []) := rx_at tbX11_mutual ndX11_mutual (j := 52) rfl
theorem iX11_mutual_81 : rx_ins mX11_mutual 81 = some (18, 84, 0, 11, 11, [(35, 136)]) := rx_at tbX11_mutual ndX11_mutual (j := 53) rfl
theorem iX11_mutual_84 : rx_ins mX11_mutual 84 = some (2, 85, 0, 3, 0, []) := rx_at tbX11_mutual ndX11_mutual (j := 54) rfl
theorem iX11_mutual_85 : rx_ins mX11_mutual 85 = some (20, 86, 0, 0, 0, []) := rx_at tbX11_mutual ndX11_mutual (j := 55) rfl
theorem iX11_mutual_86 : rx_ins mX11_mutual 86 = some (7, 87, 0, 3, 0, []) := rx_at tbX11_mutual ndX11_mutual (j := 56) rfl
theorem iX11_mutual_87 : rx_ins mX11_mutual 87 = some (15, 90, 4, 0, 91, []) := rx_at tbX11_mutual ndX11_mutual (j := 57) rfl
theorem iX11_mutual_98 : rx_ins mX11_mutual 98 = some (2, 99, 0, 1, 0, []) := rx_at tbX11_mutual ndX11_mutual (j := 62) rfl
theorem iX11_mutual_99 : rx_ins mX11_mutual 99 = some (1, 100, 3, 0, 0, []) := rx_at tbX11_mutual ndX11_mutual (j := 63) rfl
theorem iX11_mutual_100 : rx_ins mX11_mutual 100 = some (31, 103, 0, 0, 0, [(196, 9)]) := rx_at tbX11_mutual ndX11_mutual (j := 64) rfl
theorem iX11_mutual_103 : rx_ins mX11_mutual 103 = some (15, 106, 4, 0, 107, []) := rx_at tbX11_mutual ndX11_mutual (j := 65) rfl
theorem iX11_mutual_113 : rx_ins mX11_mutual 113 = some (3, 114, 0, 0, 0, []) := rx_at tbX11_mutual ndX11_mutual (j := 70) rfl
theorem iX11_mutual_114 : rx_ins mX11_mutual 114 = some (2, 116, 1, 4, 0, []) := rx_at tbX11_mutual ndX11_mutual (j := 71) rfl
theorem iX11_mutual_116 : rx_ins mX11_mutual 116 = some (28, 119, 13, 190, 2, [(261, 237)]) := rx_at tbX11_mutual ndX11_mutual (j := 72) rfl
theorem iX11_mutual_119 : rx_ins mX11_mutual 119 = some (13, 122, 7, 0, 126, []) := rx_at tbX11_mutual ndX11_mutual (j := 73) rfl
theorem iX11_mutual_122 : rx_ins mX11_mutual 122 = some (1, 123, 4, 0, 0, []) := rx_at tbX11_mutual ndX11_mutual (j := 74) rfl
theorem iX11_mutual_123 : rx_ins mX11_mutual 123 = some (15, 126, 4, 0, 127, []) := rx_at tbX11_mutual ndX11_mutual (j := 75) rfl
theorem iX11_fitsPage_0 : rx_ins mX11_fitsPage 0 = some (1, 1, 1, 0, 0, []) := rx_at tbX11_fitsPage ndX11_fitsPage (j := 0) rfl
theorem iX11_fitsPage_1 : rx_ins mX11_fitsPage 1 = some (4, 2, 0, 2, 0, []) := rx_at tbX11_fitsPage ndX11_fitsPage (j := 1) rfl
theorem iX11_fitsPage_2 : rx_ins mX11_fitsPage 2 = some (1, 3, 0, 0, 0, []) := rx_at tbX11_fitsPage ndX11_fitsPage (j := 2) rfl
theorem iX11_fitsPage_3 : rx_ins mX11_fitsPage 3 = some (4, 4, 0, 3, 0, []) := rx_at tbX11_fitsPage ndX11_fitsPage (j := 3) rfl
theorem iX11_fitsPage_4 : rx_ins mX11_fitsPage 4 = some (2, 5, 0, 3, 0, []) := rx_at tbX11_fitsPage ndX11_fitsPage (j := 4) rfl
theorem iX11_fitsPage_5 : rx_ins mX11_fitsPage 5 = some (2, 6, 0, 1, 0, []) := rx_at tbX11_fitsPage ndX11_fitsPage (j := 5) rfl
theorem iX11_fitsPage_6 : rx_ins mX11_fitsPage 6 = some (14, 9, 47, 3, 53, []) := rx_at tbX11_fitsPage ndX11_fitsPage (j := 6) rfl
theorem iX11_fitsPage_53 : rx_ins mX11_fitsPage 53 = some (2, 54, 0, 2, 0, []) := rx_at tbX11_fitsPage ndX11_fitsPage (j := 33) rfl
theorem iX11_fitsPage_54 : rx_ins mX11_fitsPage 54 = some (29, 55, 1, 0, 0, []) := rx_at tbX11_fitsPage ndX11_fitsPage (j := 34) rfl
theorem iX11_fitsPage_9 : rx_ins mX11_fitsPage 9 = some (2, 10, 0, 2, 0, []) := rx_at tbX11_fitsPage ndX11_fitsPage (j := 7) rfl
theorem iX11_fitsPage_10 : rx_ins mX11_fitsPage 10 = some (13, 13, 35, 0, 45, []) := rx_at tbX11_fitsPage ndX11_fitsPage (j := 8) rfl
theorem iX11_fitsPage_45 : rx_ins mX11_fitsPage 45 = some (1, 46, 0, 0, 0, []) := rx_at tbX11_fitsPage ndX11_fitsPage (j := 29) rfl
theorem iX11_fitsPage_46 : rx_ins mX11_fitsPage 46 = some (4, 47, 0, 2, 0, []) := rx_at tbX11_fitsPage ndX11_fitsPage (j := 30) rfl
theorem iX11_fitsPage_47 : rx_ins mX11_fitsPage 47 = some (6, 50, 1, 3, 0, []) := rx_at tbX11_fitsPage ndX11_fitsPage (j := 31) rfl
theorem iX11_fitsPage_50 : rx_ins mX11_fitsPage 50 = some (15, 53, (-46), 0, 4, []) := rx_at tbX11_fitsPage ndX11_fitsPage (j := 32) rfl
theorem iX11_fitsPage_13 : rx_ins mX11_fitsPage 13 = some (3, 14, 0, 0, 0, []) := rx_at tbX11_fitsPage ndX11_fitsPage (j := 9) rfl
theorem iX11_fitsPage_14 : rx_ins mX11_fitsPage 14 = some (18, 17, 0, 11, 12, [(38, 137)]) := rx_at tbX11_fitsPage ndX11_fitsPage (j := 10) rfl
theorem iX11_fitsPage_17 : rx_ins mX11_fitsPage 17 = some (2, 18, 0, 3, 0, []) := rx_at tbX11_fitsPage ndX11_fitsPage (j := 11) rfl
theorem iX11_fitsPage_18 : rx_ins mX11_fitsPage 18 = some (20, 19, 0, 0, 0, []) := rx_at tbX11_fitsPage ndX11_fitsPage (j := 12) rfl
theorem iX11_fitsPage_19 : rx_ins mX11_fitsPage 19 = some (3, 20, 0, 0, 0, []) := rx_at tbX11_fitsPage ndX11_fitsPage (j := 13) rfl
theorem iX11_fitsPage_20 : rx_ins mX11_fitsPage 20 = some (18, 23, 0, 11, 12, [(38, 137)]) := rx_at tbX11_fitsPage ndX11_fitsPage (j := 14) rfl
theorem iX11_fitsPage_23 : rx_ins mX11_fitsPage 23 = some (2, 24, 0, 1, 0, []) := rx_at tbX11_fitsPage ndX11_fitsPage (j := 15) rfl
theorem iX11_fitsPage_24 : rx_ins mX11_fitsPage 24 = some (20, 25, 0, 0, 0, []) := rx_at tbX11_fitsPage ndX11_fitsPage (j := 16) rfl
theorem iX11_fitsPage_25 : rx_ins mX11_fitsPage 25 = some (14, 28, 16, 1, 41, []) := rx_at tbX11_fitsPage ndX11_fitsPage (j := 17) rfl
theorem iX11_fitsPage_41 : rx_ins mX11_fitsPage 41 = some (1, 42, 1, 0, 0, []) := rx_at tbX11_fitsPage ndX11_fitsPage (j := 27) rfl
theorem iX11_fitsPage_42 : rx_ins mX11_fitsPage 42 = some (15, 45, 4, 0, 46, []) := rx_at tbX11_fitsPage ndX11_fitsPage (j := 28) rfl
theorem iX11_fitsPage_28 : rx_ins mX11_fitsPage 28 = some (3, 29, 0, 0, 0, []) := rx_at tbX11_fitsPage ndX11_fitsPage (j := 18) rfl
theorem iX11_fitsPage_29 : rx_ins mX11_fitsPage 29 = some (18, 32, 0, 11, 11, [(35, 136)]) := rx_at tbX11_fitsPage ndX11_fitsPage (j := 19) rfl
theorem iX11_fitsPage_32 : rx_ins mX11_fitsPage 32 = some (2, 33, 0, 1, 0, []) := rx_at tbX11_fitsPage ndX11_fitsPage (j := 20) rfl
theorem iX11_fitsPage_33 : rx_ins mX11_fitsPage 33 = some (20, 34, 0, 0, 0, []) := rx_at tbX11_fitsPage ndX11_fitsPage (j := 21) rfl
theorem iX11_fitsPage_34 : rx_ins mX11_fitsPage 34 = some (2, 35, 0, 3, 0, []) := rx_at tbX11_fitsPage ndX11_fitsPage (j := 22) rfl
theorem iX11_fitsPage_35 : rx_ins mX11_fitsPage 35 = some (7, 36, 0, 7, 0, []) := rx_at tbX11_fitsPage ndX11_fitsPage (j := 23) rfl
theorem iX11_fitsPage_36 : rx_ins mX11_fitsPage 36 = some (1, 37, 1, 0, 0, []) := rx_at tbX11_fitsPage ndX11_fitsPage (j := 24) rfl
theorem iX11_fitsPage_37 : rx_ins mX11_fitsPage 37 = some (7, 38, 0, 3, 0, []) := rx_at tbX11_fitsPage ndX11_fitsPage (j := 25) rfl
theorem iX11_fitsPage_38 : rx_ins mX11_fitsPage 38 = some (13, 41, 7, 1, 45, []) := rx_at tbX11_fitsPage ndX11_fitsPage (j := 26) rfl
theorem iX11_lastPage_0 : rx_ins mX11_lastPage 0 = some (1, 1, (-1), 0, 0, []) := rx_at tbX11_lastPage ndX11_lastPage (j := 0) rfl
theorem iX11_lastPage_1 : rx_ins mX11_lastPage 1 = some (4, 2, 0, 2, 0, []) := rx_at tbX11_lastPage ndX11_lastPage (j := 1) rfl
theorem iX11_lastPage_2 : rx_ins mX11_lastPage 2 = some (1, 3, 0, 0, 0, []) := rx_at tbX11_lastPage ndX11_lastPage (j := 2) rfl
theorem iX11_lastPage_3 : rx_ins mX11_lastPage 3 = some (4, 4, 0, 3, 0, []) := rx_at tbX11_lastPage ndX11_lastPage (j := 3) rfl
theorem iX11_lastPage_4 : rx_ins mX11_lastPage 4 = some (2, 5, 0, 3, 0, []) := rx_at tbX11_lastPage ndX11_lastPage (j := 4) rfl
theorem iX11_lastPage_5 : rx_ins mX11_lastPage 5 = some (2, 6, 0, 1, 0, []) := rx_at tbX11_lastPage ndX11_lastPage (j := 5) rfl
theorem iX11_lastPage_6 : rx_ins mX11_lastPage 6 = some (14, 9, 20, 3, 26, []) := rx_at tbX11_lastPage ndX11_lastPage (j := 6) rfl
theorem iX11_lastPage_26 : rx_ins mX11_lastPage 26 = some (2, 27, 0, 2, 0, []) := rx_at tbX11_lastPage ndX11_lastPage (j := 16) rfl
theorem iX11_lastPage_27 : rx_ins mX11_lastPage 27 = some (29, 28, 0, 0, 0, []) := rx_at tbX11_lastPage ndX11_lastPage (j := 17) rfl
theorem iX11_lastPage_9 : rx_ins mX11_lastPage 9 = some (2, 10, 0, 2, 0, []) := rx_at tbX11_lastPage ndX11_lastPage (j := 7) rfl
theorem iX11_lastPage_10 : rx_ins mX11_lastPage 10 = some (3, 11, 0, 0, 0, []) := rx_at tbX11_lastPage ndX11_lastPage (j := 8) rfl
theorem iX11_lastPage_11 : rx_ins mX11_lastPage 11 = some (18, 14, 0, 11, 12, [(38, 137)]) := rx_at tbX11_lastPage ndX11_lastPage (j := 9) rfl
theorem iX11_lastPage_14 : rx_ins mX11_lastPage 14 = some (2, 15, 0, 3, 0, []) := rx_at tbX11_lastPage ndX11_lastPage (j := 10) rfl
theorem iX11_lastPage_15 : rx_ins mX11_lastPage 15 = some (20, 16, 0, 0, 0, []) := rx_at tbX11_lastPage ndX11_lastPage (j := 11) rfl
theorem iX11_lastPage_16 : rx_ins mX11_lastPage 16 = some (31, 19, 0, 0, 0, [(196, 9)]) := rx_at tbX11_lastPage ndX11_lastPage (j := 12) rfl
theorem iX11_lastPage_19 : rx_ins mX11_lastPage 19 = some (4, 20, 0, 2, 0, []) := rx_at tbX11_lastPage ndX11_lastPage (j := 13) rfl
theorem iX11_lastPage_20 : rx_ins mX11_lastPage 20 = some (6, 23, 1, 3, 0, []) := rx_at tbX11_lastPage ndX11_lastPage (j := 14) rfl
theorem iX11_lastPage_23 : rx_ins mX11_lastPage 23 = some (15, 26, (-19), 0, 4, []) := rx_at tbX11_lastPage ndX11_lastPage (j := 15) rfl
theorem iX11_fillsPages_0 : rx_ins mX11_fillsPages 0 = some (1, 1, 0, 0, 0, []) := rx_at tbX11_fillsPages ndX11_fillsPages (j := 0) rfl
theorem iX11_fillsPages_1 : rx_ins mX11_fillsPages 1 = some (4, 2, 0, 2, 0, []) := rx_at tbX11_fillsPages ndX11_fillsPages (j := 1) rfl
theorem iX11_fillsPages_2 : rx_ins mX11_fillsPages 2 = some (3, 3, 0, 0, 0, []) := rx_at tbX11_fillsPages ndX11_fillsPages (j := 2) rfl
theorem iX11_fillsPages_3 : rx_ins mX11_fillsPages 3 = some (18, 6, 0, 11, 0, [(9, 124)]) := rx_at tbX11_fillsPages ndX11_fillsPages (j := 3) rfl
theorem iX11_fillsPages_6 : rx_ins mX11_fillsPages 6 = some (1, 7, 2, 0, 0, []) := rx_at tbX11_fillsPages ndX11_fillsPages (j := 4) rfl
theorem iX11_fillsPages_7 : rx_ins mX11_fillsPages 7 = some (20, 8, 0, 0, 0, []) := rx_at tbX11_fillsPages ndX11_fillsPages (j := 5) rfl
theorem iX11_fillsPages_8 : rx_ins mX11_fillsPages 8 = some (13, 11, 10, 5, 18, []) := rx_at tbX11_fillsPages ndX11_fillsPages (j := 6) rfl
theorem iX11_fillsPages_11 : rx_ins mX11_fillsPages 11 = some (3, 12, 0, 0, 0, []) := rx_at tbX11_fillsPages ndX11_fillsPages (j := 7) rfl
theorem iX11_fillsPages_12 : rx_ins mX11_fillsPages 12 = some (18, 15, 0, 11, 12, [(38, 137)]) := rx_at tbX11_fillsPages ndX11_fillsPages (j := 8) rfl
theorem iX11_fillsPages_15 : rx_ins mX11_fillsPages 15 = some (1, 16, 0, 0, 0, []) := rx_at tbX11_fillsPages ndX11_fillsPages (j := 9) rfl
theorem iX11_fillsPages_16 : rx_ins mX11_fillsPages 16 = some (1, 17, (-1), 0, 0, []) := rx_at tbX11_fillsPages ndX11_fillsPages (j := 10) rfl
theorem iX11_fillsPages_17 : rx_ins mX11_fillsPages 17 = some (21, 18, 0, 0, 0, []) := rx_at tbX11_fillsPages ndX11_fillsPages (j := 11) rfl
theorem iX11_fillsPages_18 : rx_ins mX11_fillsPages 18 = some (2, 19, 0, 2, 0, []) := rx_at tbX11_fillsPages ndX11_fillsPages (j := 12) rfl
theorem iX11_fillsPages_19 : rx_ins mX11_fillsPages 19 = some (13, 22, 107, 2, 126, []) := rx_at tbX11_fillsPages ndX11_fillsPages (j := 13) rfl
theorem iX11_fillsPages_126 : rx_ins mX11_fillsPages 126 = some (2, 127, 0, 2, 0, []) := rx_at tbX11_fillsPages ndX11_fillsPages (j := 78) rfl
theorem iX11_fillsPages_127 : rx_ins mX11_fillsPages 127 = some (13, 130, 7, 2, 134, []) := rx_at tbX11_fillsPages ndX11_fillsPages (j := 79) rfl
theorem iX11_fillsPages_134 : rx_ins mX11_fillsPages 134 = some (1, 135, 0, 0, 0, []) := rx_at tbX11_fillsPages ndX11_fillsPages (j := 82) rfl
theorem iX11_fillsPages_135 : rx_ins mX11_fillsPages 135 = some (29, 136, 1, 0, 0, []) := rx_at tbX11_fillsPages ndX11_fillsPages (j := 83) rfl
theorem iX11_fillsPages_22 : rx_ins mX11_fillsPages 22 = some (2, 23, 0, 2, 0, []) := rx_at tbX11_fillsPages ndX11_fillsPages (j := 14) rfl
theorem iX11_fillsPages_23 : rx_ins mX11_fillsPages 23 = some (3, 24, 0, 0, 0, []) := rx_at tbX11_fillsPages ndX11_fillsPages (j := 15) rfl
theorem iX11_fillsPages_24 : rx_ins mX11_fillsPages 24 = some (18, 27, 0, 11, 0, [(9, 124)]) := rx_at tbX11_fillsPages ndX11_fillsPages (j := 16) rfl
theorem iX11_fillsPages_27 : rx_ins mX11_fillsPages 27 = some (1, 28, 2, 0, 0, []) := rx_at tbX11_fillsPages ndX11_fillsPages (j := 17) rfl
theorem iX11_fillsPages_28 : rx_ins mX11_fillsPages 28 = some (20, 29, 0, 0, 0, []) := rx_at tbX11_fillsPages ndX11_fillsPages (j := 18) rfl
theorem iX11_fillsPages_29 : rx_ins mX11_fillsPages 29 = some (14, 32, 97, 3, 126, []) := rx_at tbX11_fillsPages ndX11_fillsPages (j := 19) rfl
theorem iX11_fillsPages_130 : rx_ins mX11_fillsPages 130 = some (1, 131, 1, 0, 0, []) := rx_at tbX11_fillsPages ndX11_fillsPages (j := 80) rfl
theorem iX11_fillsPages_131 : rx_ins mX11_fillsPages 131 = some (15, 134, 4, 0, 135, []) := rx_at tbX11_fillsPages ndX11_fillsPages (j := 81) rfl
theorem iX11_fillsPages_32 : rx_ins mX11_fillsPages 32 = some (2, 33, 0, 1, 0, []) := rx_at tbX11_fillsPages ndX11_fillsPages (j := 20) rfl
theorem iX11_fillsPages_33 : rx_ins mX11_fillsPages 33 = some (1, 34, 1, 0, 0, []) := rx_at tbX11_fillsPages ndX11_fillsPages (j := 21) rfl
theorem iX11_fillsPages_34 : rx_ins mX11_fillsPages 34 = some (7, 35, 0, 1, 0, []) := rx_at tbX11_fillsPages ndX11_fillsPages (j := 22) rfl
theorem iX11_fillsPages_35 : rx_ins mX11_fillsPages 35 = some (3, 36, 0, 0, 0, []) := rx_at tbX11_fillsPages ndX11_fillsPages (j := 23) rfl
theorem iX11_fillsPages_36 : rx_ins mX11_fillsPages 36 = some (2, 37, 0, 2, 0, []) := rx_at tbX11_fillsPages ndX11_fillsPages (j := 24) rfl
theorem iX11_fillsPages_37 : rx_ins mX11_fillsPages 37 = some (28, 40, 13, 193, 2, [(264, 238)]) := rx_at tbX11_fillsPages ndX11_fillsPages (j := 25) rfl
theorem iX11_fillsPages_40 : rx_ins mX11_fillsPages 40 = some (1, 41, 1, 0, 0, []) := rx_at tbX11_fillsPages ndX11_fillsPages (j := 26) rfl
theorem iX11_fillsPages_41 : rx_ins mX11_fillsPages 41 = some (7, 42, 0, 0, 0, []) := rx_at tbX11_fillsPages ndX11_fillsPages (j := 27) rfl
theorem iX11_fillsPages_42 : rx_ins mX11_fillsPages 42 = some (31, 45, 0, 1, 0, [(191, 8)]) := rx_at tbX11_fillsPages ndX11_fillsPages (j := 28) rfl
theorem iX11_fillsPages_45 : rx_ins mX11_fillsPages 45 = some (4, 46, 0, 3, 0, []) := rx_at tbX11_fillsPages ndX11_fillsPages (j := 29) rfl
theorem iX11_fillsPages_46 : rx_ins mX11_fillsPages 46 = some (3, 47, 0, 0, 0, []) := rx_at tbX11_fillsPages ndX11_fillsPages (j := 30) rfl
theorem iX11_fillsPages_47 : rx_ins mX11_fillsPages 47 = some (18, 50, 0, 11, 12, [(38, 137)]) := rx_at tbX11_fillsPages ndX11_fillsPages (j := 31) rfl
theorem iX11_fillsPages_50 : rx_ins mX11_fillsPages 50 = some (2, 51, 0, 2, 0, []) := rx_at tbX11_fillsPages ndX11_fillsPages (j := 32) rfl
theorem iX11_fillsPages_51 : rx_ins mX11_fillsPages 51 = some (11, 52, 0, 0, 0, []) := rx_at tbX11_fillsPages ndX11_fillsPages (j := 33) rfl
theorem iX11_fillsPages_52 : rx_ins mX11_fillsPages 52 = some (20, 53, 0, 0, 0, []) := rx_at tbX11_fillsPages ndX11_fillsPages (j := 34) rfl
theorem iX11_fillsPages_53 : rx_ins mX11_fillsPages 53 = some (1, 54, 1, 0, 0, []) := rx_at tbX11_fillsPages ndX11_fillsPages (j := 35) rfl
theorem iX11_fillsPages_54 : rx_ins mX11_fillsPages 54 = some (7, 55, 0, 0, 0, []) := rx_at tbX11_fillsPages ndX11_fillsPages (j := 36) rfl
theorem iX11_fillsPages_55 : rx_ins mX11_fillsPages 55 = some (21, 56, 0, 0, 0, []) := rx_at tbX11_fillsPages ndX11_fillsPages (j := 37) rfl
theorem iX11_fillsPages_56 : rx_ins mX11_fillsPages 56 = some (3, 57, 0, 0, 0, []) := rx_at tbX11_fillsPages ndX11_fillsPages (j := 38) rfl
theorem iX11_fillsPages_57 : rx_ins mX11_fillsPages 57 = some (18, 60, 0, 11, 12, [(38, 137)]) := rx_at tbX11_fillsPages ndX11_fillsPages (j := 39) rfl
theorem iX11_fillsPages_60 : rx_ins mX11_fillsPages 60 = some (2, 61, 0, 2, 0, []) := rx_at tbX11_fillsPages ndX11_fillsPages (j := 40) rfl
theorem iX11_fillsPages_61 : rx_ins mX11_fillsPages 61 = some (20, 62, 0, 0, 0, []) := rx_at tbX11_fillsPages ndX11_fillsPages (j := 41) rfl
theorem iX11_fillsPages_62 : rx_ins mX11_fillsPages 62 = some (2, 63, 0, 3, 0, []) := rx_at tbX11_fillsPages ndX11_fillsPages (j := 42) rfl
theorem iX11_fillsPages_63 : rx_ins mX11_fillsPages 63 = some (14, 66, 24, 4, 87, []) := rx_at tbX11_fillsPages ndX11_fillsPages (j := 43) rfl
theorem iX11_fillsPages_87 : rx_ins mX11_fillsPages 87 = some (3, 88, 0, 0, 0, []) := rx_at tbX11_fillsPages ndX11_fillsPages (j := 57) rfl
theorem iX11_fillsPages_88 : rx_ins mX11_fillsPages 88 = some (18, 91, 0, 11, 12, [(38, 137)]) := rx_at tbX11_fillsPages ndX11_fillsPages (j := 58) rfl
theorem iX11_fillsPages_91 : rx_ins mX11_fillsPages 91 = some (2, 92, 0, 2, 0, []) := rx_at tbX11_fillsPages ndX11_fillsPages (j := 59) rfl
theorem iX11_fillsPages_92 : rx_ins mX11_fillsPages 92 = some (20, 93, 0, 0, 0, []) := rx_at tbX11_fillsPages ndX11_fillsPages (j := 60) rfl
theorem iX11_fillsPages_93 : rx_ins mX11_fillsPages 93 = some (2, 94, 0, 3, 0, []) := rx_at tbX11_fillsPages ndX11_fillsPages (j := 61) rfl
theorem iX11_fillsPages_94 : rx_ins mX11_fillsPages 94 = some (14, 97, 9, 5, 103, []) := rx_at tbX11_fillsPages ndX11_fillsPages (j := 62) rfl
theorem iX11_fillsPages_97 : rx_ins mX11_fillsPages 97 = some (6, 100, (-1), 2, 0, []) := rx_at tbX11_fillsPages ndX11_fillsPages (j := 63) rfl
theorem iX11_fillsPages_100 : rx_ins mX11_fillsPages 100 = some (15, 103, 23, 0, 123, []) := rx_at tbX11_fillsPages ndX11_fillsPages (j := 64) rfl
theorem iX11_fillsPages_123 : rx_ins mX11_fillsPages 123 = some (15, 126, (-105), 0, 18, []) := rx_at tbX11_fillsPages ndX11_fillsPages (j := 77) rfl
theorem iX11_fillsPages_66 : rx_ins mX11_fillsPages 66 = some (3, 67, 0, 0, 0, []) := rx_at tbX11_fillsPages ndX11_fillsPages (j := 44) rfl
theorem iX11_fillsPages_67 : rx_ins mX11_fillsPages 67 = some (2, 68, 0, 2, 0, []) := rx_at tbX11_fillsPages ndX11_fillsPages (j := 45) rfl
theorem iX11_fillsPages_68 : rx_ins mX11_fillsPages 68 = some (28, 71, 13, 192, 2, [(267, 239)]) := rx_at tbX11_fillsPages ndX11_fillsPages (j := 46) rfl
theorem iX11_fillsPages_71 : rx_ins mX11_fillsPages 71 = some (13, 74, 16, 1, 87, []) := rx_at tbX11_fillsPages ndX11_fillsPages (j := 47) rfl
theorem iX11_fillsPages_103 : rx_ins mX11_fillsPages 103 = some (6, 106, 1, 2, 0, []) := rx_at tbX11_fillsPages ndX11_fillsPages (j := 65) rfl
theorem iX11_fillsPages_106 : rx_ins mX11_fillsPages 106 = some (2, 107, 0, 2, 0, []) := rx_at tbX11_fillsPages ndX11_fillsPages (j := 66) rfl
theorem iX11_fillsPages_107 : rx_ins mX11_fillsPages 107 = some (3, 108, 0, 0, 0, []) := rx_at tbX11_fillsPages ndX11_fillsPages (j := 67) rfl
theorem iX11_fillsPages_108 : rx_ins mX11_fillsPages 108 = some (18, 111, 0, 11, 0, [(9, 124)]) := rx_at tbX11_fillsPages ndX11_fillsPages (j := 68) rfl
theorem iX11_fillsPages_111 : rx_ins mX11_fillsPages 111 = some (1, 112, 2, 0, 0, []) := rx_at tbX11_fillsPages ndX11_fillsPages (j := 69) rfl
theorem iX11_fillsPages_112 : rx_ins mX11_fillsPages 112 = some (20, 113, 0, 0, 0, []) := rx_at tbX11_fillsPages ndX11_fillsPages (j := 70) rfl
theorem iX11_fillsPages_113 : rx_ins mX11_fillsPages 113 = some (14, 116, 10, 3, 123, []) := rx_at tbX11_fillsPages ndX11_fillsPages (j := 71) rfl
theorem iX11_fillsPages_116 : rx_ins mX11_fillsPages 116 = some (3, 117, 0, 0, 0, []) := rx_at tbX11_fillsPages ndX11_fillsPages (j := 72) rfl
theorem iX11_fillsPages_117 : rx_ins mX11_fillsPages 117 = some (18, 120, 0, 11, 12, [(38, 137)]) := rx_at tbX11_fillsPages ndX11_fillsPages (j := 73) rfl
theorem iX11_fillsPages_120 : rx_ins mX11_fillsPages 120 = some (2, 121, 0, 2, 0, []) := rx_at tbX11_fillsPages ndX11_fillsPages (j := 74) rfl
theorem iX11_fillsPages_121 : rx_ins mX11_fillsPages 121 = some (1, 122, (-1), 0, 0, []) := rx_at tbX11_fillsPages ndX11_fillsPages (j := 75) rfl
theorem iX11_fillsPages_122 : rx_ins mX11_fillsPages 122 = some (21, 123, 0, 0, 0, []) := rx_at tbX11_fillsPages ndX11_fillsPages (j := 76) rfl
theorem iX11_fillsPages_74 : rx_ins mX11_fillsPages 74 = some (3, 75, 0, 0, 0, []) := rx_at tbX11_fillsPages ndX11_fillsPages (j := 48) rfl
theorem iX11_fillsPages_75 : rx_ins mX11_fillsPages 75 = some (18, 78, 0, 11, 12, [(38, 137)]) := rx_at tbX11_fillsPages ndX11_fillsPages (j := 49) rfl
theorem iX11_fillsPages_78 : rx_ins mX11_fillsPages 78 = some (2, 79, 0, 2, 0, []) := rx_at tbX11_fillsPages ndX11_fillsPages (j := 50) rfl
theorem iX11_fillsPages_79 : rx_ins mX11_fillsPages 79 = some (11, 80, 0, 0, 0, []) := rx_at tbX11_fillsPages ndX11_fillsPages (j := 51) rfl
theorem iX11_fillsPages_80 : rx_ins mX11_fillsPages 80 = some (20, 81, 0, 0, 0, []) := rx_at tbX11_fillsPages ndX11_fillsPages (j := 52) rfl
theorem iX11_fillsPages_81 : rx_ins mX11_fillsPages 81 = some (1, 82, 1, 0, 0, []) := rx_at tbX11_fillsPages ndX11_fillsPages (j := 53) rfl
theorem iX11_fillsPages_82 : rx_ins mX11_fillsPages 82 = some (7, 83, 0, 0, 0, []) := rx_at tbX11_fillsPages ndX11_fillsPages (j := 54) rfl
theorem iX11_fillsPages_83 : rx_ins mX11_fillsPages 83 = some (21, 84, 0, 0, 0, []) := rx_at tbX11_fillsPages ndX11_fillsPages (j := 55) rfl
theorem iX11_fillsPages_84 : rx_ins mX11_fillsPages 84 = some (15, 87, (-28), 0, 56, []) := rx_at tbX11_fillsPages ndX11_fillsPages (j := 56) rfl
theorem iX11_pages_0 : rx_ins mX11_pages 0 = some (2, 1, 0, 1, 0, []) := rx_at tbX11_pages ndX11_pages (j := 0) rfl
theorem iX11_pages_1 : rx_ins mX11_pages 1 = some (1, 2, (-1), 0, 0, []) := rx_at tbX11_pages ndX11_pages (j := 1) rfl
theorem iX11_pages_2 : rx_ins mX11_pages 2 = some (3, 3, 0, 0, 0, []) := rx_at tbX11_pages ndX11_pages (j := 2) rfl
theorem iX11_pages_3 : rx_ins mX11_pages 3 = some (18, 6, 0, 11, 0, [(9, 124)]) := rx_at tbX11_pages ndX11_pages (j := 3) rfl
theorem iX11_pages_6 : rx_ins mX11_pages 6 = some (1, 7, 2, 0, 0, []) := rx_at tbX11_pages ndX11_pages (j := 4) rfl
theorem iX11_pages_7 : rx_ins mX11_pages 7 = some (20, 8, 0, 0, 0, []) := rx_at tbX11_pages ndX11_pages (j := 5) rfl
theorem iX11_pages_8 : rx_ins mX11_pages 8 = some (1, 9, 1, 0, 0, []) := rx_at tbX11_pages ndX11_pages (j := 6) rfl
theorem iX11_pages_9 : rx_ins mX11_pages 9 = some (7, 10, 0, 1, 0, []) := rx_at tbX11_pages ndX11_pages (j := 7) rfl
theorem iX11_pages_10 : rx_ins mX11_pages 10 = some (28, 13, 0, 133, 3, [(111, 198)]) := rx_at tbX11_pages ndX11_pages (j := 8) rfl
theorem iX11_pages_13 : rx_ins mX11_pages 13 = some (13, 16, 6, 1, 19, []) := rx_at tbX11_pages ndX11_pages (j := 9) rfl
theorem iX11_pages_19 : rx_ins mX11_pages 19 = some (3, 20, 0, 0, 0, []) := rx_at tbX11_pages ndX11_pages (j := 12) rfl
theorem iX11_pages_20 : rx_ins mX11_pages 20 = some (28, 23, 13, 189, 1, [(270, 240)]) := rx_at tbX11_pages ndX11_pages (j := 13) rfl
theorem iX11_pages_23 : rx_ins mX11_pages 23 = some (3, 24, 0, 0, 0, []) := rx_at tbX11_pages ndX11_pages (j := 14) rfl
theorem iX11_pages_24 : rx_ins mX11_pages 24 = some (28, 27, 13, 191, 1, [(273, 241)]) := rx_at tbX11_pages ndX11_pages (j := 15) rfl
theorem iX11_pages_27 : rx_ins mX11_pages 27 = some (4, 28, 0, 2, 0, []) := rx_at tbX11_pages ndX11_pages (j := 16) rfl
theorem iX11_pages_16 : rx_ins mX11_pages 16 = some (1, 18, (-1000000001), 3, 21, [(130, 0)]) := rx_at tbX11_pages ndX11_pages (j := 10) rfl
theorem iX11_pages_18 : rx_ins mX11_pages 18 = some (29, 19, 0, 0, 0, []) := rx_at tbX11_pages ndX11_pages (j := 11) rfl
theorem iX11_pages_28 : rx_ins mX11_pages 28 = some (3, 29, 0, 0, 0, []) := rx_at tbX11_pages ndX11_pages (j := 17) rfl
theorem iX11_pages_29 : rx_ins mX11_pages 29 = some (2, 30, 0, 2, 0, []) := rx_at tbX11_pages ndX11_pages (j := 18) rfl
theorem iX11_pages_30 : rx_ins mX11_pages 30 = some (28, 33, 13, 194, 2, [(277, 242)]) := rx_at tbX11_pages ndX11_pages (j := 19) rfl
theorem iX11_pages_33 : rx_ins mX11_pages 33 = some (13, 36, 9, 1, 42, []) := rx_at tbX11_pages ndX11_pages (j := 20) rfl
theorem iX11_pages_42 : rx_ins mX11_pages 42 = some (2, 43, 0, 1, 0, []) := rx_at tbX11_pages ndX11_pages (j := 23) rfl
theorem iX11_pages_43 : rx_ins mX11_pages 43 = some (13, 46, 7, 3, 50, []) := rx_at tbX11_pages ndX11_pages (j := 24) rfl
theorem iX11_pages_50 : rx_ins mX11_pages 50 = some (3, 51, 0, 0, 0, []) := rx_at tbX11_pages ndX11_pages (j := 27) rfl
theorem iX11_pages_51 : rx_ins mX11_pages 51 = some (18, 54, 0, 11, 12, [(38, 137)]) := rx_at tbX11_pages ndX11_pages (j := 28) rfl
theorem iX11_pages_54 : rx_ins mX11_pages 54 = some (2, 55, 0, 1, 0, []) := rx_at tbX11_pages ndX11_pages (j := 29) rfl
theorem iX11_pages_55 : rx_ins mX11_pages 55 = some (20, 56, 0, 0, 0, []) := rx_at tbX11_pages ndX11_pages (j := 30) rfl
theorem iX11_pages_56 : rx_ins mX11_pages 56 = some (29, 57, 0, 0, 0, []) := rx_at tbX11_pages ndX11_pages (j := 31) rfl
theorem iX11_pages_46 : rx_ins mX11_pages 46 = some (2, 47, 0, 2, 0, []) := rx_at tbX11_pages ndX11_pages (j := 25) rfl
theorem iX11_pages_47 : rx_ins mX11_pages 47 = some (15, 50, 9, 0, 56, []) := rx_at tbX11_pages ndX11_pages (j := 26) rfl
theorem iX11_pages_36 : rx_ins mX11_pages 36 = some (6, 39, 1, 2, 0, []) := rx_at tbX11_pages ndX11_pages (j := 21) rfl
theorem iX11_pages_39 : rx_ins mX11_pages 39 = some (15, 42, (-11), 0, 28, []) := rx_at tbX11_pages ndX11_pages (j := 22) rfl
theorem iX11_closes_0 : rx_ins mX11_closes 0 = some (1, 1, 0, 0, 0, []) := rx_at tbX11_closes ndX11_closes (j := 0) rfl
theorem iX11_closes_1 : rx_ins mX11_closes 1 = some (4, 2, 0, 3, 0, []) := rx_at tbX11_closes ndX11_closes (j := 1) rfl
theorem iX11_closes_2 : rx_ins mX11_closes 2 = some (1, 3, 0, 0, 0, []) := rx_at tbX11_closes ndX11_closes (j := 2) rfl
theorem iX11_closes_3 : rx_ins mX11_closes 3 = some (4, 5, 1, 4, 0, []) := rx_at tbX11_closes ndX11_closes (j := 3) rfl
theorem iX11_closes_5 : rx_ins mX11_closes 5 = some (2, 7, 1, 4, 0, []) := rx_at tbX11_closes ndX11_closes (j := 4) rfl
theorem iX11_closes_7 : rx_ins mX11_closes 7 = some (3, 8, 0, 0, 0, []) := rx_at tbX11_closes ndX11_closes (j := 5) rfl
theorem iX11_closes_8 : rx_ins mX11_closes 8 = some (18, 11, 0, 11, 0, [(9, 124)]) := rx_at tbX11_closes ndX11_closes (j := 6) rfl
theorem iX11_closes_11 : rx_ins mX11_closes 11 = some (1, 12, 2, 0, 0, []) := rx_at tbX11_closes ndX11_closes (j := 7) rfl
theorem iX11_closes_12 : rx_ins mX11_closes 12 = some (20, 13, 0, 0, 0, []) := rx_at tbX11_closes ndX11_closes (j := 8) rfl
theorem iX11_closes_13 : rx_ins mX11_closes 13 = some (14, 16, 196, 3, 209, []) := rx_at tbX11_closes ndX11_closes (j := 9) rfl
theorem iX11_closes_209 : rx_ins mX11_closes 209 = some (2, 210, 0, 3, 0, []) := rx_at tbX11_closes ndX11_closes (j := 107) rfl
theorem iX11_closes_210 : rx_ins mX11_closes 210 = some (29, 211, 0, 0, 0, []) := rx_at tbX11_closes ndX11_closes (j := 108) rfl
theorem iX11_closes_16 : rx_ins mX11_closes 16 = some (3, 17, 0, 0, 0, []) := rx_at tbX11_closes ndX11_closes (j := 10) rfl
theorem iX11_closes_17 : rx_ins mX11_closes 17 = some (2, 19, 1, 4, 0, []) := rx_at tbX11_closes ndX11_closes (j := 11) rfl
theorem iX11_closes_19 : rx_ins mX11_closes 19 = some (28, 22, 13, 142, 2, [(139, 205)]) := rx_at tbX11_closes ndX11_closes (j := 12) rfl
theorem iX11_closes_22 : rx_ins mX11_closes 22 = some (2, 23, 0, 1, 0, []) := rx_at tbX11_closes ndX11_closes (j := 13) rfl
theorem iX11_closes_23 : rx_ins mX11_closes 23 = some (14, 26, 12, 1, 35, []) := rx_at tbX11_closes ndX11_closes (j := 14) rfl
theorem iX11_closes_35 : rx_ins mX11_closes 35 = some (3, 36, 0, 0, 0, []) := rx_at tbX11_closes ndX11_closes (j := 19) rfl
theorem iX11_closes_36 : rx_ins mX11_closes 36 = some (2, 38, 1, 4, 0, []) := rx_at tbX11_closes ndX11_closes (j := 20) rfl
theorem iX11_closes_38 : rx_ins mX11_closes 38 = some (28, 41, 13, 142, 2, [(139, 205)]) := rx_at tbX11_closes ndX11_closes (j := 21) rfl
theorem iX11_closes_41 : rx_ins mX11_closes 41 = some (4, 43, 1, 5, 0, []) := rx_at tbX11_closes ndX11_closes (j := 22) rfl
theorem iX11_closes_26 : rx_ins mX11_closes 26 = some (3, 27, 0, 0, 0, []) := rx_at tbX11_closes ndX11_closes (j := 15) rfl
theorem iX11_closes_27 : rx_ins mX11_closes 27 = some (2, 29, 1, 4, 0, []) := rx_at tbX11_closes ndX11_closes (j := 16) rfl
theorem iX11_closes_29 : rx_ins mX11_closes 29 = some (28, 32, 13, 143, 2, [(142, 206)]) := rx_at tbX11_closes ndX11_closes (j := 17) rfl
theorem iX11_closes_32 : rx_ins mX11_closes 32 = some (15, 35, 9, 0, 41, []) := rx_at tbX11_closes ndX11_closes (j := 18) rfl
theorem iX11_closes_43 : rx_ins mX11_closes 43 = some (3, 44, 0, 0, 0, []) := rx_at tbX11_closes ndX11_closes (j := 23) rfl
theorem iX11_closes_44 : rx_ins mX11_closes 44 = some (2, 46, 1, 4, 0, []) := rx_at tbX11_closes ndX11_closes (j := 24) rfl
theorem iX11_closes_46 : rx_ins mX11_closes 46 = some (2, 47, 0, 1, 0, []) := rx_at tbX11_closes ndX11_closes (j := 25) rfl
theorem iX11_closes_47 : rx_ins mX11_closes 47 = some (28, 50, 13, 149, 3, [(152, 209)]) := rx_at tbX11_closes ndX11_closes (j := 26) rfl
theorem iX11_closes_50 : rx_ins mX11_closes 50 = some (13, 53, 153, 0, 203, []) := rx_at tbX11_closes ndX11_closes (j := 27) rfl
theorem iX11_closes_53 : rx_ins mX11_closes 53 = some (3, 54, 0, 0, 0, []) := rx_at tbX11_closes ndX11_closes (j := 28) rfl
theorem iX11_closes_54 : rx_ins mX11_closes 54 = some (18, 57, 0, 11, 10, [(32, 135)]) := rx_at tbX11_closes ndX11_closes (j := 29) rfl
theorem iX11_closes_57 : rx_ins mX11_closes 57 = some (2, 59, 1, 5, 0, []) := rx_at tbX11_closes ndX11_closes (j := 30) rfl
theorem iX11_closes_59 : rx_ins mX11_closes 59 = some (20, 60, 0, 0, 0, []) := rx_at tbX11_closes ndX11_closes (j := 31) rfl
theorem iX11_closes_60 : rx_ins mX11_closes 60 = some (13, 63, 143, 2, 203, []) := rx_at tbX11_closes ndX11_closes (j := 32) rfl
theorem iX11_closes_63 : rx_ins mX11_closes 63 = some (1, 64, 0, 0, 0, []) := rx_at tbX11_closes ndX11_closes (j := 33) rfl
theorem iX11_closes_64 : rx_ins mX11_closes 64 = some (4, 66, 1, 6, 0, []) := rx_at tbX11_closes ndX11_closes (j := 34) rfl
theorem iX11_closes_203 : rx_ins mX11_closes 203 = some (6, 206, 1, 4, 0, []) := rx_at tbX11_closes ndX11_closes (j := 105) rfl
theorem iX11_closes_206 : rx_ins mX11_closes 206 = some (15, 209, (-201), 0, 5, []) := rx_at tbX11_closes ndX11_closes (j := 106) rfl
theorem iX11_closes_66 : rx_ins mX11_closes 66 = some (2, 68, 1, 6, 0, []) := rx_at tbX11_closes ndX11_closes (j := 35) rfl
theorem iX11_closes_68 : rx_ins mX11_closes 68 = some (3, 69, 0, 0, 0, []) := rx_at tbX11_closes ndX11_closes (j := 36) rfl
theorem iX11_closes_69 : rx_ins mX11_closes 69 = some (18, 72, 0, 11, 0, [(9, 124)]) := rx_at tbX11_closes ndX11_closes (j := 37) rfl
theorem iX11_closes_72 : rx_ins mX11_closes 72 = some (1, 73, 2, 0, 0, []) := rx_at tbX11_closes ndX11_closes (j := 38) rfl
theorem iX11_closes_73 : rx_ins mX11_closes 73 = some (20, 74, 0, 0, 0, []) := rx_at tbX11_closes ndX11_closes (j := 39) rfl
theorem iX11_closes_74 : rx_ins mX11_closes 74 = some (14, 77, 129, 3, 203, []) := rx_at tbX11_closes ndX11_closes (j := 40) rfl
theorem iX11_closes_77 : rx_ins mX11_closes 77 = some (3, 78, 0, 0, 0, []) := rx_at tbX11_closes ndX11_closes (j := 41) rfl
theorem iX11_closes_78 : rx_ins mX11_closes 78 = some (18, 81, 0, 11, 10, [(32, 135)]) := rx_at tbX11_closes ndX11_closes (j := 42) rfl
theorem iX11_closes_81 : rx_ins mX11_closes 81 = some (3, 82, 0, 0, 0, []) := rx_at tbX11_closes ndX11_closes (j := 43) rfl
theorem iX11_closes_82 : rx_ins mX11_closes 82 = some (2, 84, 1, 6, 0, []) := rx_at tbX11_closes ndX11_closes (j := 44) rfl
theorem iX11_closes_84 : rx_ins mX11_closes 84 = some (28, 87, 13, 142, 2, [(139, 205)]) := rx_at tbX11_closes ndX11_closes (j := 45) rfl
theorem iX11_closes_87 : rx_ins mX11_closes 87 = some (20, 88, 0, 0, 0, []) := rx_at tbX11_closes ndX11_closes (j := 46) rfl
theorem iX11_closes_88 : rx_ins mX11_closes 88 = some (4, 90, 1, 7, 0, []) := rx_at tbX11_closes ndX11_closes (j := 47) rfl
theorem iX11_closes_90 : rx_ins mX11_closes 90 = some (3, 91, 0, 0, 0, []) := rx_at tbX11_closes ndX11_closes (j := 48) rfl
theorem iX11_closes_91 : rx_ins mX11_closes 91 = some (18, 94, 0, 11, 10, [(32, 135)]) := rx_at tbX11_closes ndX11_closes (j := 49) rfl
theorem iX11_closes_94 : rx_ins mX11_closes 94 = some (3, 95, 0, 0, 0, []) := rx_at tbX11_closes ndX11_closes (j := 50) rfl
theorem iX11_closes_95 : rx_ins mX11_closes 95 = some (2, 97, 1, 6, 0, []) := rx_at tbX11_closes ndX11_closes (j := 51) rfl
theorem iX11_closes_97 : rx_ins mX11_closes 97 = some (28, 100, 13, 143, 2, [(142, 206)]) := rx_at tbX11_closes ndX11_closes (j := 52) rfl
theorem iX11_closes_100 : rx_ins mX11_closes 100 = some (20, 101, 0, 0, 0, []) := rx_at tbX11_closes ndX11_closes (j := 53) rfl
theorem iX11_closes_101 : rx_ins mX11_closes 101 = some (4, 103, 1, 8, 0, []) := rx_at tbX11_closes ndX11_closes (j := 54) rfl
theorem iX11_closes_103 : rx_ins mX11_closes 103 = some (2, 105, 1, 7, 0, []) := rx_at tbX11_closes ndX11_closes (j := 55) rfl
theorem iX11_closes_105 : rx_ins mX11_closes 105 = some (13, 108, 7, 3, 112, []) := rx_at tbX11_closes ndX11_closes (j := 56) rfl
theorem iX11_closes_112 : rx_ins mX11_closes 112 = some (1, 113, 0, 0, 0, []) := rx_at tbX11_closes ndX11_closes (j := 59) rfl
theorem iX11_closes_113 : rx_ins mX11_closes 113 = some (2, 115, 1, 8, 0, []) := rx_at tbX11_closes ndX11_closes (j := 60) rfl
theorem iX11_closes_115 : rx_ins mX11_closes 115 = some (13, 118, 7, 3, 122, []) := rx_at tbX11_closes ndX11_closes (j := 61) rfl
theorem iX11_closes_122 : rx_ins mX11_closes 122 = some (1, 123, 0, 0, 0, []) := rx_at tbX11_closes ndX11_closes (j := 64) rfl
theorem iX11_closes_123 : rx_ins mX11_closes 123 = some (14, 126, 35, 0, 158, []) := rx_at tbX11_closes ndX11_closes (j := 65) rfl
theorem iX11_closes_118 : rx_ins mX11_closes 118 = some (1, 119, 1, 0, 0, []) := rx_at tbX11_closes ndX11_closes (j := 62) rfl
theorem iX11_closes_119 : rx_ins mX11_closes 119 = some (15, 122, 4, 0, 123, []) := rx_at tbX11_closes ndX11_closes (j := 63) rfl
theorem iX11_closes_126 : rx_ins mX11_closes 126 = some (2, 128, 1, 7, 0, []) := rx_at tbX11_closes ndX11_closes (j := 66) rfl
theorem iX11_closes_128 : rx_ins mX11_closes 128 = some (2, 130, 1, 8, 0, []) := rx_at tbX11_closes ndX11_closes (j := 67) rfl
theorem iX11_closes_130 : rx_ins mX11_closes 130 = some (31, 133, 0, 0, 0, [(196, 9)]) := rx_at tbX11_closes ndX11_closes (j := 68) rfl
theorem iX11_closes_133 : rx_ins mX11_closes 133 = some (3, 134, 0, 0, 0, []) := rx_at tbX11_closes ndX11_closes (j := 69) rfl
theorem iX11_closes_134 : rx_ins mX11_closes 134 = some (18, 137, 0, 11, 10, [(32, 135)]) := rx_at tbX11_closes ndX11_closes (j := 70) rfl
theorem iX11_closes_137 : rx_ins mX11_closes 137 = some (2, 139, 1, 5, 0, []) := rx_at tbX11_closes ndX11_closes (j := 71) rfl
theorem iX11_closes_139 : rx_ins mX11_closes 139 = some (20, 140, 0, 0, 0, []) := rx_at tbX11_closes ndX11_closes (j := 72) rfl
theorem iX11_closes_140 : rx_ins mX11_closes 140 = some (14, 143, 18, 5, 158, []) := rx_at tbX11_closes ndX11_closes (j := 73) rfl
theorem iX11_closes_143 : rx_ins mX11_closes 143 = some (2, 145, 1, 7, 0, []) := rx_at tbX11_closes ndX11_closes (j := 74) rfl
theorem iX11_closes_145 : rx_ins mX11_closes 145 = some (2, 147, 1, 8, 0, []) := rx_at tbX11_closes ndX11_closes (j := 75) rfl
theorem iX11_closes_147 : rx_ins mX11_closes 147 = some (31, 150, 0, 0, 0, [(196, 9)]) := rx_at tbX11_closes ndX11_closes (j := 76) rfl
theorem iX11_closes_150 : rx_ins mX11_closes 150 = some (2, 151, 0, 2, 0, []) := rx_at tbX11_closes ndX11_closes (j := 77) rfl
theorem iX11_closes_151 : rx_ins mX11_closes 151 = some (14, 154, 7, 3, 158, []) := rx_at tbX11_closes ndX11_closes (j := 78) rfl
theorem iX11_closes_154 : rx_ins mX11_closes 154 = some (1, 155, 1, 0, 0, []) := rx_at tbX11_closes ndX11_closes (j := 79) rfl
theorem iX11_closes_155 : rx_ins mX11_closes 155 = some (15, 158, 4, 0, 159, []) := rx_at tbX11_closes ndX11_closes (j := 80) rfl
theorem iX11_closes_159 : rx_ins mX11_closes 159 = some (4, 161, 1, 9, 0, []) := rx_at tbX11_closes ndX11_closes (j := 82) rfl
theorem iX11_closes_108 : rx_ins mX11_closes 108 = some (1, 109, 1, 0, 0, []) := rx_at tbX11_closes ndX11_closes (j := 57) rfl
theorem iX11_closes_109 : rx_ins mX11_closes 109 = some (15, 112, 4, 0, 113, []) := rx_at tbX11_closes ndX11_closes (j := 58) rfl
theorem iX11_closes_158 : rx_ins mX11_closes 158 = some (1, 159, 0, 0, 0, []) := rx_at tbX11_closes ndX11_closes (j := 81) rfl
theorem iX11_closes_161 : rx_ins mX11_closes 161 = some (2, 162, 0, 3, 0, []) := rx_at tbX11_closes ndX11_closes (j := 83) rfl
theorem iX11_closes_162 : rx_ins mX11_closes 162 = some (2, 164, 1, 9, 0, []) := rx_at tbX11_closes ndX11_closes (j := 84) rfl
theorem iX11_closes_164 : rx_ins mX11_closes 164 = some (13, 167, 30, 0, 194, []) := rx_at tbX11_closes ndX11_closes (j := 85) rfl
theorem iX11_closes_194 : rx_ins mX11_closes 194 = some (1, 195, 0, 0, 0, []) := rx_at tbX11_closes ndX11_closes (j := 100) rfl
theorem iX11_closes_195 : rx_ins mX11_closes 195 = some (7, 196, 0, 0, 0, []) := rx_at tbX11_closes ndX11_closes (j := 101) rfl
theorem iX11_closes_196 : rx_ins mX11_closes 196 = some (4, 197, 0, 3, 0, []) := rx_at tbX11_closes ndX11_closes (j := 102) rfl
theorem iX11_closes_197 : rx_ins mX11_closes 197 = some (6, 200, 1, 6, 0, []) := rx_at tbX11_closes ndX11_closes (j := 103) rfl
theorem iX11_closes_200 : rx_ins mX11_closes 200 = some (15, 203, (-134), 0, 66, []) := rx_at tbX11_closes ndX11_closes (j := 104) rfl
theorem iX11_closes_167 : rx_ins mX11_closes 167 = some (3, 168, 0, 0, 0, []) := rx_at tbX11_closes ndX11_closes (j := 86) rfl
theorem iX11_closes_168 : rx_ins mX11_closes 168 = some (2, 170, 1, 4, 0, []) := rx_at tbX11_closes ndX11_closes (j := 87) rfl
theorem iX11_closes_170 : rx_ins mX11_closes 170 = some (2, 172, 1, 6, 0, []) := rx_at tbX11_closes ndX11_closes (j := 88) rfl
theorem iX11_closes_172 : rx_ins mX11_closes 172 = some (28, 175, 13, 165, 3, [(203, 222)]) := rx_at tbX11_closes ndX11_closes (j := 89) rfl
theorem iX11_closes_175 : rx_ins mX11_closes 175 = some (13, 178, 19, 0, 194, []) := rx_at tbX11_closes ndX11_closes (j := 90) rfl
theorem iX11_closes_178 : rx_ins mX11_closes 178 = some (3, 179, 0, 0, 0, []) := rx_at tbX11_closes ndX11_closes (j := 91) rfl
theorem iX11_closes_179 : rx_ins mX11_closes 179 = some (18, 182, 0, 11, 5, [(22, 127)]) := rx_at tbX11_closes ndX11_closes (j := 92) rfl
theorem iX11_closes_182 : rx_ins mX11_closes 182 = some (1, 184, 18, 1, 0, []) := rx_at tbX11_closes ndX11_closes (j := 93) rfl
theorem iX11_closes_184 : rx_ins mX11_closes 184 = some (2, 186, 1, 4, 0, []) := rx_at tbX11_closes ndX11_closes (j := 94) rfl
theorem iX11_closes_186 : rx_ins mX11_closes 186 = some (7, 187, 0, 2, 0, []) := rx_at tbX11_closes ndX11_closes (j := 95) rfl
theorem iX11_closes_187 : rx_ins mX11_closes 187 = some (2, 189, 1, 6, 0, []) := rx_at tbX11_closes ndX11_closes (j := 96) rfl
theorem iX11_closes_189 : rx_ins mX11_closes 189 = some (7, 190, 0, 0, 0, []) := rx_at tbX11_closes ndX11_closes (j := 97) rfl
theorem iX11_closes_190 : rx_ins mX11_closes 190 = some (20, 191, 0, 0, 0, []) := rx_at tbX11_closes ndX11_closes (j := 98) rfl
theorem iX11_closes_191 : rx_ins mX11_closes 191 = some (15, 194, 4, 0, 195, []) := rx_at tbX11_closes ndX11_closes (j := 99) rfl
theorem iX11_findBestLine_0 : rx_ins mX11_findBestLine 0 = some (3, 1, 0, 0, 0, []) := rx_atm tbX11_findBestLine ndX11_findBestLine (lmX11_findBestLine_0 (List.mem_of_getElem? (i := 0) rfl))
theorem iX11_findBestLine_1 : rx_ins mX11_findBestLine 1 = some (28, 4, 13, 166, 1, [(215, 226)]) := rx_atm tbX11_findBestLine ndX11_findBestLine (lmX11_findBestLine_0 (List.mem_of_getElem? (i := 1) rfl))
theorem iX11_findBestLine_4 : rx_ins mX11_findBestLine 4 = some (3, 5, 0, 0, 0, []) := rx_atm tbX11_findBestLine ndX11_findBestLine (lmX11_findBestLine_0 (List.mem_of_getElem? (i := 2) rfl))
theorem iX11_findBestLine_5 : rx_ins mX11_findBestLine 5 = some (18, 8, 0, 11, 0, [(9, 124)]) := rx_atm tbX11_findBestLine ndX11_findBestLine (lmX11_findBestLine_0 (List.mem_of_getElem? (i := 3) rfl))
theorem iX11_findBestLine_8 : rx_ins mX11_findBestLine 8 = some (1, 9, 1, 0, 0, []) := rx_atm tbX11_findBestLine ndX11_findBestLine (lmX11_findBestLine_0 (List.mem_of_getElem? (i := 4) rfl))
theorem iX11_findBestLine_9 : rx_ins mX11_findBestLine 9 = some (20, 10, 0, 0, 0, []) := rx_atm tbX11_findBestLine ndX11_findBestLine (lmX11_findBestLine_0 (List.mem_of_getElem? (i := 5) rfl))
theorem iX11_findBestLine_10 : rx_ins mX11_findBestLine 10 = some (4, 11, 0, 1, 0, []) := rx_atm tbX11_findBestLine ndX11_findBestLine (lmX11_findBestLine_0 (List.mem_of_getElem? (i := 6) rfl))
theorem iX11_findBestLine_11 : rx_ins mX11_findBestLine 11 = some (1, 12, 0, 0, 0, []) := rx_atm tbX11_findBestLine ndX11_findBestLine (lmX11_findBestLine_0 (List.mem_of_getElem? (i := 7) rfl))
theorem iX11_findBestLine_12 : rx_ins mX11_findBestLine 12 = some (4, 13, 0, 2, 0, []) := rx_atm tbX11_findBestLine ndX11_findBestLine (lmX11_findBestLine_0 (List.mem_of_getElem? (i := 8) rfl))
theorem iX11_findBestLine_13 : rx_ins mX11_findBestLine 13 = some (2, 14, 0, 2, 0, []) := rx_atm tbX11_findBestLine ndX11_findBestLine (lmX11_findBestLine_0 (List.mem_of_getElem? (i := 9) rfl))
theorem iX11_findBestLine_14 : rx_ins mX11_findBestLine 14 = some (1, 16, 8, 1, 0, []) := rx_atm tbX11_findBestLine ndX11_findBestLine (lmX11_findBestLine_0 (List.mem_of_getElem? (i := 10) rfl))
theorem iX11_findBestLine_16 : rx_ins mX11_findBestLine 16 = some (14, 19, 16, 3, 32, []) := rx_atm tbX11_findBestLine ndX11_findBestLine (lmX11_findBestLine_0 (List.mem_of_getElem? (i := 11) rfl))
theorem iX11_findBestLine_32 : rx_ins mX11_findBestLine 32 = some (3, 33, 0, 0, 0, []) := rx_atm tbX11_findBestLine ndX11_findBestLine (lmX11_findBestLine_0 (List.mem_of_getElem? (i := 19) rfl))
theorem iX11_findBestLine_33 : rx_ins mX11_findBestLine 33 = some (1, 34, (-1), 0, 0, []) := rx_atm tbX11_findBestLine ndX11_findBestLine (lmX11_findBestLine_0 (List.mem_of_getElem? (i := 20) rfl))
theorem iX11_findBestLine_34 : rx_ins mX11_findBestLine 34 = some (19, 37, 0, 11, 16, [(280, 138)]) := rx_atm tbX11_findBestLine ndX11_findBestLine (lmX11_findBestLine_0 (List.mem_of_getElem? (i := 21) rfl))
theorem iX11_findBestLine_37 : rx_ins mX11_findBestLine 37 = some (3, 38, 0, 0, 0, []) := rx_atm tbX11_findBestLine ndX11_findBestLine (lmX11_findBestLine_0 (List.mem_of_getElem? (i := 22) rfl))
theorem iX11_findBestLine_38 : rx_ins mX11_findBestLine 38 = some (18, 41, 0, 11, 13, [(41, 139)]) := rx_atm tbX11_findBestLine ndX11_findBestLine (lmX11_findBestLine_0 (List.mem_of_getElem? (i := 23) rfl))
theorem iX11_findBestLine_41 : rx_ins mX11_findBestLine 41 = some (1, 42, 0, 0, 0, []) := rx_atm tbX11_findBestLine ndX11_findBestLine (lmX11_findBestLine_0 (List.mem_of_getElem? (i := 24) rfl))
theorem iX11_findBestLine_42 : rx_ins mX11_findBestLine 42 = some (1, 43, 0, 0, 0, []) := rx_atm tbX11_findBestLine ndX11_findBestLine (lmX11_findBestLine_0 (List.mem_of_getElem? (i := 25) rfl))
theorem iX11_findBestLine_43 : rx_ins mX11_findBestLine 43 = some (21, 44, 0, 0, 0, []) := rx_atm tbX11_findBestLine ndX11_findBestLine (lmX11_findBestLine_0 (List.mem_of_getElem? (i := 26) rfl))
theorem iX11_findBestLine_44 : rx_ins mX11_findBestLine 44 = some (3, 45, 0, 0, 0, []) := rx_atm tbX11_findBestLine ndX11_findBestLine (lmX11_findBestLine_0 (List.mem_of_getElem? (i := 27) rfl))
theorem iX11_findBestLine_45 : rx_ins mX11_findBestLine 45 = some (18, 48, 0, 11, 10, [(32, 135)]) := rx_atm tbX11_findBestLine ndX11_findBestLine (lmX11_findBestLine_0 (List.mem_of_getElem? (i := 28) rfl))
theorem iX11_findBestLine_48 : rx_ins mX11_findBestLine 48 = some (1, 49, 0, 0, 0, []) := rx_atm tbX11_findBestLine ndX11_findBestLine (lmX11_findBestLine_0 (List.mem_of_getElem? (i := 29) rfl))
theorem iX11_findBestLine_49 : rx_ins mX11_findBestLine 49 = some (1, 50, 0, 0, 0, []) := rx_atm tbX11_findBestLine ndX11_findBestLine (lmX11_findBestLine_0 (List.mem_of_getElem? (i := 30) rfl))
theorem iX11_findBestLine_50 : rx_ins mX11_findBestLine 50 = some (21, 51, 0, 0, 0, []) := rx_atm tbX11_findBestLine ndX11_findBestLine (lmX11_findBestLine_0 (List.mem_of_getElem? (i := 31) rfl))
theorem iX11_findBestLine_51 : rx_ins mX11_findBestLine 51 = some (3, 52, 0, 0, 0, []) := rx_atm tbX11_findBestLine ndX11_findBestLine (lmX11_findBestLine_0 (List.mem_of_getElem? (i := 32) rfl))
theorem iX11_findBestLine_52 : rx_ins mX11_findBestLine 52 = some (18, 55, 0, 11, 14, [(44, 140)]) := rx_atm tbX11_findBestLine ndX11_findBestLine (lmX11_findBestLine_0 (List.mem_of_getElem? (i := 33) rfl))
theorem iX11_findBestLine_55 : rx_ins mX11_findBestLine 55 = some (1, 56, 1, 0, 0, []) := rx_atm tbX11_findBestLine ndX11_findBestLine (lmX11_findBestLine_0 (List.mem_of_getElem? (i := 34) rfl))
theorem iX11_findBestLine_56 : rx_ins mX11_findBestLine 56 = some (1, 57, 0, 0, 0, []) := rx_atm tbX11_findBestLine ndX11_findBestLine (lmX11_findBestLine_0 (List.mem_of_getElem? (i := 35) rfl))
theorem iX11_findBestLine_57 : rx_ins mX11_findBestLine 57 = some (21, 58, 0, 0, 0, []) := rx_atm tbX11_findBestLine ndX11_findBestLine (lmX11_findBestLine_0 (List.mem_of_getElem? (i := 36) rfl))
theorem iX11_findBestLine_58 : rx_ins mX11_findBestLine 58 = some (3, 59, 0, 0, 0, []) := rx_atm tbX11_findBestLine ndX11_findBestLine (lmX11_findBestLine_0 (List.mem_of_getElem? (i := 37) rfl))
theorem iX11_findBestLine_59 : rx_ins mX11_findBestLine 59 = some (18, 62, 0, 11, 13, [(41, 139)]) := rx_atm tbX11_findBestLine ndX11_findBestLine (lmX11_findBestLine_0 (List.mem_of_getElem? (i := 38) rfl))
theorem iX11_findBestLine_62 : rx_ins mX11_findBestLine 62 = some (1, 63, 1, 0, 0, []) := rx_atm tbX11_findBestLine ndX11_findBestLine (lmX11_findBestLine_0 (List.mem_of_getElem? (i := 39) rfl))
theorem iX11_findBestLine_63 : rx_ins mX11_findBestLine 63 = some (1, 64, 0, 0, 0, []) := rx_atm tbX11_findBestLine ndX11_findBestLine (lmX11_findBestLine_1 (List.mem_of_getElem? (i := 0) rfl))
theorem iX11_findBestLine_64 : rx_ins mX11_findBestLine 64 = some (21, 65, 0, 0, 0, []) := rx_atm tbX11_findBestLine ndX11_findBestLine (lmX11_findBestLine_1 (List.mem_of_getElem? (i := 1) rfl))
theorem iX11_findBestLine_65 : rx_ins mX11_findBestLine 65 = some (1, 66, 1, 0, 0, []) := rx_atm tbX11_findBestLine ndX11_findBestLine (lmX11_findBestLine_1 (List.mem_of_getElem? (i := 2) rfl))
theorem iX11_findBestLine_66 : rx_ins mX11_findBestLine 66 = some (4, 67, 0, 2, 0, []) := rx_atm tbX11_findBestLine ndX11_findBestLine (lmX11_findBestLine_1 (List.mem_of_getElem? (i := 3) rfl))
theorem iX11_findBestLine_19 : rx_ins mX11_findBestLine 19 = some (3, 20, 0, 0, 0, []) := rx_atm tbX11_findBestLine ndX11_findBestLine (lmX11_findBestLine_0 (List.mem_of_getElem? (i := 12) rfl))
theorem iX11_findBestLine_20 : rx_ins mX11_findBestLine 20 = some (18, 23, 0, 11, 10, [(32, 135)]) := rx_atm tbX11_findBestLine ndX11_findBestLine (lmX11_findBestLine_0 (List.mem_of_getElem? (i := 13) rfl))
theorem iX11_findBestLine_23 : rx_ins mX11_findBestLine 23 = some (2, 24, 0, 2, 0, []) := rx_atm tbX11_findBestLine ndX11_findBestLine (lmX11_findBestLine_0 (List.mem_of_getElem? (i := 14) rfl))
theorem iX11_findBestLine_24 : rx_ins mX11_findBestLine 24 = some (1, 25, (-1), 0, 0, []) := rx_atm tbX11_findBestLine ndX11_findBestLine (lmX11_findBestLine_0 (List.mem_of_getElem? (i := 15) rfl))
theorem iX11_findBestLine_25 : rx_ins mX11_findBestLine 25 = some (21, 26, 0, 0, 0, []) := rx_atm tbX11_findBestLine ndX11_findBestLine (lmX11_findBestLine_0 (List.mem_of_getElem? (i := 16) rfl))
theorem iX11_findBestLine_26 : rx_ins mX11_findBestLine 26 = some (6, 29, 1, 2, 0, []) := rx_atm tbX11_findBestLine ndX11_findBestLine (lmX11_findBestLine_0 (List.mem_of_getElem? (i := 17) rfl))
theorem iX11_findBestLine_29 : rx_ins mX11_findBestLine 29 = some (15, 32, (-16), 0, 13, []) := rx_atm tbX11_findBestLine ndX11_findBestLine (lmX11_findBestLine_0 (List.mem_of_getElem? (i := 18) rfl))
theorem iX11_findBestLine_67 : rx_ins mX11_findBestLine 67 = some (2, 68, 0, 2, 0, []) := rx_atm tbX11_findBestLine ndX11_findBestLine (lmX11_findBestLine_1 (List.mem_of_getElem? (i := 4) rfl))
theorem iX11_findBestLine_68 : rx_ins mX11_findBestLine 68 = some (13, 71, 211, 5, 279, []) := rx_atm tbX11_findBestLine ndX11_findBestLine (lmX11_findBestLine_1 (List.mem_of_getElem? (i := 5) rfl))
theorem iX11_findBestLine_279 : rx_ins mX11_findBestLine 279 = some (30, 280, 0, 0, 0, []) := rx_atm tbX11_findBestLine ndX11_findBestLine (lmX11_findBestLine_4 (List.mem_of_getElem? (i := 12) rfl))
theorem iX11_findBestLine_71 : rx_ins mX11_findBestLine 71 = some (2, 72, 0, 2, 0, []) := rx_atm tbX11_findBestLine ndX11_findBestLine (lmX11_findBestLine_1 (List.mem_of_getElem? (i := 6) rfl))
theorem iX11_findBestLine_72 : rx_ins mX11_findBestLine 72 = some (2, 73, 0, 1, 0, []) := rx_atm tbX11_findBestLine ndX11_findBestLine (lmX11_findBestLine_1 (List.mem_of_getElem? (i := 7) rfl))
theorem iX11_findBestLine_73 : rx_ins mX11_findBestLine 73 = some (14, 76, 41, 1, 114, []) := rx_atm tbX11_findBestLine ndX11_findBestLine (lmX11_findBestLine_1 (List.mem_of_getElem? (i := 8) rfl))
theorem iX11_findBestLine_76 : rx_ins mX11_findBestLine 76 = some (3, 77, 0, 0, 0, []) := rx_atm tbX11_findBestLine ndX11_findBestLine (lmX11_findBestLine_1 (List.mem_of_getElem? (i := 9) rfl))
theorem iX11_findBestLine_77 : rx_ins mX11_findBestLine 77 = some (3, 78, 0, 0, 0, []) := rx_atm tbX11_findBestLine ndX11_findBestLine (lmX11_findBestLine_1 (List.mem_of_getElem? (i := 10) rfl))
theorem iX11_findBestLine_78 : rx_ins mX11_findBestLine 78 = some (18, 81, 0, 11, 14, [(44, 140)]) := rx_atm tbX11_findBestLine ndX11_findBestLine (lmX11_findBestLine_1 (List.mem_of_getElem? (i := 11) rfl))
theorem iX11_findBestLine_81 : rx_ins mX11_findBestLine 81 = some (2, 82, 0, 1, 0, []) := rx_atm tbX11_findBestLine ndX11_findBestLine (lmX11_findBestLine_1 (List.mem_of_getElem? (i := 12) rfl))
theorem iX11_findBestLine_82 : rx_ins mX11_findBestLine 82 = some (20, 83, 0, 0, 0, []) := rx_atm tbX11_findBestLine ndX11_findBestLine (lmX11_findBestLine_1 (List.mem_of_getElem? (i := 13) rfl))
theorem iX11_findBestLine_83 : rx_ins mX11_findBestLine 83 = some (19, 86, 0, 11, 16, [(280, 138)]) := rx_atm tbX11_findBestLine ndX11_findBestLine (lmX11_findBestLine_1 (List.mem_of_getElem? (i := 14) rfl))
theorem iX11_findBestLine_86 : rx_ins mX11_findBestLine 86 = some (1, 87, 0, 0, 0, []) := rx_atm tbX11_findBestLine ndX11_findBestLine (lmX11_findBestLine_1 (List.mem_of_getElem? (i := 15) rfl))
theorem iX11_findBestLine_87 : rx_ins mX11_findBestLine 87 = some (4, 88, 0, 3, 0, []) := rx_atm tbX11_findBestLine ndX11_findBestLine (lmX11_findBestLine_1 (List.mem_of_getElem? (i := 16) rfl))
theorem iX11_findBestLine_114 : rx_ins mX11_findBestLine 114 = some (2, 115, 0, 2, 0, []) := rx_atm tbX11_findBestLine ndX11_findBestLine (lmX11_findBestLine_1 (List.mem_of_getElem? (i := 31) rfl))
theorem iX11_findBestLine_115 : rx_ins mX11_findBestLine 115 = some (13, 118, (-48), 5, 67, []) := rx_atm tbX11_findBestLine ndX11_findBestLine (lmX11_findBestLine_1 (List.mem_of_getElem? (i := 32) rfl))
theorem iX11_findBestLine_118 : rx_ins mX11_findBestLine 118 = some (3, 119, 0, 0, 0, []) := rx_atm tbX11_findBestLine ndX11_findBestLine (lmX11_findBestLine_1 (List.mem_of_getElem? (i := 33) rfl))
theorem iX11_findBestLine_119 : rx_ins mX11_findBestLine 119 = some (18, 122, 0, 11, 10, [(32, 135)]) := rx_atm tbX11_findBestLine ndX11_findBestLine (lmX11_findBestLine_1 (List.mem_of_getElem? (i := 34) rfl))
theorem iX11_findBestLine_122 : rx_ins mX11_findBestLine 122 = some (3, 123, 0, 0, 0, []) := rx_atm tbX11_findBestLine ndX11_findBestLine (lmX11_findBestLine_1 (List.mem_of_getElem? (i := 35) rfl))
theorem iX11_findBestLine_123 : rx_ins mX11_findBestLine 123 = some (18, 126, 0, 11, 13, [(41, 139)]) := rx_atm tbX11_findBestLine ndX11_findBestLine (lmX11_findBestLine_1 (List.mem_of_getElem? (i := 36) rfl))
theorem iX11_findBestLine_126 : rx_ins mX11_findBestLine 126 = some (2, 127, 0, 2, 0, []) := rx_atm tbX11_findBestLine ndX11_findBestLine (lmX11_findBestLine_1 (List.mem_of_getElem? (i := 37) rfl))
theorem iX11_findBestLine_127 : rx_ins mX11_findBestLine 127 = some (20, 128, 0, 0, 0, []) := rx_atm tbX11_findBestLine ndX11_findBestLine (lmX11_findBestLine_1 (List.mem_of_getElem? (i := 38) rfl))
theorem iX11_findBestLine_128 : rx_ins mX11_findBestLine 128 = some (3, 129, 0, 0, 0, []) := rx_atm tbX11_findBestLine ndX11_findBestLine (lmX11_findBestLine_1 (List.mem_of_getElem? (i := 39) rfl))
theorem iX11_findBestLine_129 : rx_ins mX11_findBestLine 129 = some (18, 132, 0, 11, 13, [(41, 139)]) := rx_atm tbX11_findBestLine ndX11_findBestLine (lmX11_findBestLine_2 (List.mem_of_getElem? (i := 0) rfl))
theorem iX11_findBestLine_132 : rx_ins mX11_findBestLine 132 = some (2, 133, 0, 2, 0, []) := rx_atm tbX11_findBestLine ndX11_findBestLine (lmX11_findBestLine_2 (List.mem_of_getElem? (i := 1) rfl))
theorem iX11_findBestLine_133 : rx_ins mX11_findBestLine 133 = some (20, 134, 0, 0, 0, []) := rx_atm tbX11_findBestLine ndX11_findBestLine (lmX11_findBestLine_2 (List.mem_of_getElem? (i := 2) rfl))
theorem iX11_findBestLine_134 : rx_ins mX11_findBestLine 134 = some (13, 137, 7, 5, 141, []) := rx_atm tbX11_findBestLine ndX11_findBestLine (lmX11_findBestLine_2 (List.mem_of_getElem? (i := 3) rfl))
theorem iX11_findBestLine_141 : rx_ins mX11_findBestLine 141 = some (1, 142, 0, 0, 0, []) := rx_atm tbX11_findBestLine ndX11_findBestLine (lmX11_findBestLine_2 (List.mem_of_getElem? (i := 6) rfl))
theorem iX11_findBestLine_142 : rx_ins mX11_findBestLine 142 = some (21, 143, 0, 0, 0, []) := rx_atm tbX11_findBestLine ndX11_findBestLine (lmX11_findBestLine_2 (List.mem_of_getElem? (i := 7) rfl))
theorem iX11_findBestLine_137 : rx_ins mX11_findBestLine 137 = some (1, 138, (-1), 0, 0, []) := rx_atm tbX11_findBestLine ndX11_findBestLine (lmX11_findBestLine_2 (List.mem_of_getElem? (i := 4) rfl))
theorem iX11_findBestLine_138 : rx_ins mX11_findBestLine 138 = some (15, 141, 4, 0, 142, []) := rx_atm tbX11_findBestLine ndX11_findBestLine (lmX11_findBestLine_2 (List.mem_of_getElem? (i := 5) rfl))
theorem iX11_findBestLine_88 : rx_ins mX11_findBestLine 88 = some (2, 89, 0, 3, 0, []) := rx_atm tbX11_findBestLine ndX11_findBestLine (lmX11_findBestLine_1 (List.mem_of_getElem? (i := 17) rfl))
theorem iX11_findBestLine_89 : rx_ins mX11_findBestLine 89 = some (2, 90, 0, 1, 0, []) := rx_atm tbX11_findBestLine ndX11_findBestLine (lmX11_findBestLine_1 (List.mem_of_getElem? (i := 18) rfl))
theorem iX11_findBestLine_90 : rx_ins mX11_findBestLine 90 = some (14, 93, 21, 3, 111, []) := rx_atm tbX11_findBestLine ndX11_findBestLine (lmX11_findBestLine_1 (List.mem_of_getElem? (i := 19) rfl))
theorem iX11_findBestLine_111 : rx_ins mX11_findBestLine 111 = some (6, 114, (-1), 2, 0, []) := rx_atm tbX11_findBestLine ndX11_findBestLine (lmX11_findBestLine_1 (List.mem_of_getElem? (i := 30) rfl))
theorem iX11_findBestLine_93 : rx_ins mX11_findBestLine 93 = some (3, 94, 0, 0, 0, []) := rx_atm tbX11_findBestLine ndX11_findBestLine (lmX11_findBestLine_1 (List.mem_of_getElem? (i := 20) rfl))
theorem iX11_findBestLine_94 : rx_ins mX11_findBestLine 94 = some (18, 97, 0, 11, 15, [(47, 141)]) := rx_atm tbX11_findBestLine ndX11_findBestLine (lmX11_findBestLine_1 (List.mem_of_getElem? (i := 21) rfl))
theorem iX11_findBestLine_97 : rx_ins mX11_findBestLine 97 = some (2, 98, 0, 3, 0, []) := rx_atm tbX11_findBestLine ndX11_findBestLine (lmX11_findBestLine_1 (List.mem_of_getElem? (i := 22) rfl))
theorem iX11_findBestLine_98 : rx_ins mX11_findBestLine 98 = some (3, 99, 0, 0, 0, []) := rx_atm tbX11_findBestLine ndX11_findBestLine (lmX11_findBestLine_1 (List.mem_of_getElem? (i := 23) rfl))
theorem iX11_findBestLine_99 : rx_ins mX11_findBestLine 99 = some (18, 102, 0, 11, 13, [(41, 139)]) := rx_atm tbX11_findBestLine ndX11_findBestLine (lmX11_findBestLine_1 (List.mem_of_getElem? (i := 24) rfl))
theorem iX11_findBestLine_102 : rx_ins mX11_findBestLine 102 = some (2, 103, 0, 3, 0, []) := rx_atm tbX11_findBestLine ndX11_findBestLine (lmX11_findBestLine_1 (List.mem_of_getElem? (i := 25) rfl))
theorem iX11_findBestLine_103 : rx_ins mX11_findBestLine 103 = some (20, 104, 0, 0, 0, []) := rx_atm tbX11_findBestLine ndX11_findBestLine (lmX11_findBestLine_1 (List.mem_of_getElem? (i := 26) rfl))
theorem iX11_findBestLine_104 : rx_ins mX11_findBestLine 104 = some (21, 105, 0, 0, 0, []) := rx_atm tbX11_findBestLine ndX11_findBestLine (lmX11_findBestLine_1 (List.mem_of_getElem? (i := 27) rfl))
theorem iX11_findBestLine_105 : rx_ins mX11_findBestLine 105 = some (6, 108, 1, 3, 0, []) := rx_atm tbX11_findBestLine ndX11_findBestLine (lmX11_findBestLine_1 (List.mem_of_getElem? (i := 28) rfl))
theorem iX11_findBestLine_108 : rx_ins mX11_findBestLine 108 = some (15, 111, (-20), 0, 88, []) := rx_atm tbX11_findBestLine ndX11_findBestLine (lmX11_findBestLine_1 (List.mem_of_getElem? (i := 29) rfl))
theorem iX11_findBestLine_143 : rx_ins mX11_findBestLine 143 = some (3, 144, 0, 0, 0, []) := rx_atm tbX11_findBestLine ndX11_findBestLine (lmX11_findBestLine_2 (List.mem_of_getElem? (i := 8) rfl))
theorem iX11_findBestLine_144 : rx_ins mX11_findBestLine 144 = some (18, 147, 0, 11, 13, [(41, 139)]) := rx_atm tbX11_findBestLine ndX11_findBestLine (lmX11_findBestLine_2 (List.mem_of_getElem? (i := 9) rfl))
theorem iX11_findBestLine_147 : rx_ins mX11_findBestLine 147 = some (2, 148, 0, 2, 0, []) := rx_atm tbX11_findBestLine ndX11_findBestLine (lmX11_findBestLine_2 (List.mem_of_getElem? (i := 10) rfl))
theorem iX11_findBestLine_148 : rx_ins mX11_findBestLine 148 = some (11, 149, 0, 0, 0, []) := rx_atm tbX11_findBestLine ndX11_findBestLine (lmX11_findBestLine_2 (List.mem_of_getElem? (i := 11) rfl))
theorem iX11_findBestLine_149 : rx_ins mX11_findBestLine 149 = some (20, 150, 0, 0, 0, []) := rx_atm tbX11_findBestLine ndX11_findBestLine (lmX11_findBestLine_2 (List.mem_of_getElem? (i := 12) rfl))
theorem iX11_findBestLine_150 : rx_ins mX11_findBestLine 150 = some (1, 151, 1, 0, 0, []) := rx_atm tbX11_findBestLine ndX11_findBestLine (lmX11_findBestLine_2 (List.mem_of_getElem? (i := 13) rfl))
theorem iX11_findBestLine_151 : rx_ins mX11_findBestLine 151 = some (7, 152, 0, 0, 0, []) := rx_atm tbX11_findBestLine ndX11_findBestLine (lmX11_findBestLine_2 (List.mem_of_getElem? (i := 14) rfl))
theorem iX11_findBestLine_152 : rx_ins mX11_findBestLine 152 = some (21, 153, 0, 0, 0, []) := rx_atm tbX11_findBestLine ndX11_findBestLine (lmX11_findBestLine_2 (List.mem_of_getElem? (i := 15) rfl))
theorem iX11_findBestLine_153 : rx_ins mX11_findBestLine 153 = some (3, 154, 0, 0, 0, []) := rx_atm tbX11_findBestLine ndX11_findBestLine (lmX11_findBestLine_2 (List.mem_of_getElem? (i := 16) rfl))
theorem iX11_findBestLine_154 : rx_ins mX11_findBestLine 154 = some (18, 157, 0, 11, 13, [(41, 139)]) := rx_atm tbX11_findBestLine ndX11_findBestLine (lmX11_findBestLine_2 (List.mem_of_getElem? (i := 17) rfl))
theorem iX11_findBestLine_157 : rx_ins mX11_findBestLine 157 = some (2, 158, 0, 2, 0, []) := rx_atm tbX11_findBestLine ndX11_findBestLine (lmX11_findBestLine_2 (List.mem_of_getElem? (i := 18) rfl))
theorem iX11_findBestLine_158 : rx_ins mX11_findBestLine 158 = some (20, 159, 0, 0, 0, []) := rx_atm tbX11_findBestLine ndX11_findBestLine (lmX11_findBestLine_2 (List.mem_of_getElem? (i := 19) rfl))
theorem iX11_findBestLine_159 : rx_ins mX11_findBestLine 159 = some (2, 160, 0, 1, 0, []) := rx_atm tbX11_findBestLine ndX11_findBestLine (lmX11_findBestLine_2 (List.mem_of_getElem? (i := 20) rfl))
theorem iX11_findBestLine_160 : rx_ins mX11_findBestLine 160 = some (14, 163, 30, 3, 190, []) := rx_atm tbX11_findBestLine ndX11_findBestLine (lmX11_findBestLine_2 (List.mem_of_getElem? (i := 21) rfl))
theorem iX11_findBestLine_163 : rx_ins mX11_findBestLine 163 = some (3, 164, 0, 0, 0, []) := rx_atm tbX11_findBestLine ndX11_findBestLine (lmX11_findBestLine_2 (List.mem_of_getElem? (i := 22) rfl))
theorem iX11_findBestLine_164 : rx_ins mX11_findBestLine 164 = some (18, 167, 0, 11, 10, [(32, 135)]) := rx_atm tbX11_findBestLine ndX11_findBestLine (lmX11_findBestLine_2 (List.mem_of_getElem? (i := 23) rfl))
theorem iX11_findBestLine_167 : rx_ins mX11_findBestLine 167 = some (3, 168, 0, 0, 0, []) := rx_atm tbX11_findBestLine ndX11_findBestLine (lmX11_findBestLine_2 (List.mem_of_getElem? (i := 24) rfl))
theorem iX11_findBestLine_168 : rx_ins mX11_findBestLine 168 = some (18, 171, 0, 11, 13, [(41, 139)]) := rx_atm tbX11_findBestLine ndX11_findBestLine (lmX11_findBestLine_2 (List.mem_of_getElem? (i := 25) rfl))
theorem iX11_findBestLine_171 : rx_ins mX11_findBestLine 171 = some (2, 172, 0, 2, 0, []) := rx_atm tbX11_findBestLine ndX11_findBestLine (lmX11_findBestLine_2 (List.mem_of_getElem? (i := 26) rfl))
theorem iX11_findBestLine_172 : rx_ins mX11_findBestLine 172 = some (20, 173, 0, 0, 0, []) := rx_atm tbX11_findBestLine ndX11_findBestLine (lmX11_findBestLine_2 (List.mem_of_getElem? (i := 27) rfl))
theorem iX11_findBestLine_173 : rx_ins mX11_findBestLine 173 = some (20, 174, 0, 0, 0, []) := rx_atm tbX11_findBestLine ndX11_findBestLine (lmX11_findBestLine_2 (List.mem_of_getElem? (i := 28) rfl))
theorem iX11_findBestLine_174 : rx_ins mX11_findBestLine 174 = some (13, 177, 16, 2, 190, []) := rx_atm tbX11_findBestLine ndX11_findBestLine (lmX11_findBestLine_2 (List.mem_of_getElem? (i := 29) rfl))
theorem iX11_findBestLine_177 : rx_ins mX11_findBestLine 177 = some (3, 178, 0, 0, 0, []) := rx_atm tbX11_findBestLine ndX11_findBestLine (lmX11_findBestLine_2 (List.mem_of_getElem? (i := 30) rfl))
theorem iX11_findBestLine_178 : rx_ins mX11_findBestLine 178 = some (18, 181, 0, 11, 13, [(41, 139)]) := rx_atm tbX11_findBestLine ndX11_findBestLine (lmX11_findBestLine_2 (List.mem_of_getElem? (i := 31) rfl))
theorem iX11_findBestLine_181 : rx_ins mX11_findBestLine 181 = some (2, 182, 0, 2, 0, []) := rx_atm tbX11_findBestLine ndX11_findBestLine (lmX11_findBestLine_2 (List.mem_of_getElem? (i := 32) rfl))
theorem iX11_findBestLine_182 : rx_ins mX11_findBestLine 182 = some (11, 183, 0, 0, 0, []) := rx_atm tbX11_findBestLine ndX11_findBestLine (lmX11_findBestLine_2 (List.mem_of_getElem? (i := 33) rfl))
theorem iX11_findBestLine_183 : rx_ins mX11_findBestLine 183 = some (20, 184, 0, 0, 0, []) := rx_atm tbX11_findBestLine ndX11_findBestLine (lmX11_findBestLine_2 (List.mem_of_getElem? (i := 34) rfl))
theorem iX11_findBestLine_184 : rx_ins mX11_findBestLine 184 = some (1, 185, 1, 0, 0, []) := rx_atm tbX11_findBestLine ndX11_findBestLine (lmX11_findBestLine_2 (List.mem_of_getElem? (i := 35) rfl))
theorem iX11_findBestLine_185 : rx_ins mX11_findBestLine 185 = some (7, 186, 0, 0, 0, []) := rx_atm tbX11_findBestLine ndX11_findBestLine (lmX11_findBestLine_2 (List.mem_of_getElem? (i := 36) rfl))
theorem iX11_findBestLine_186 : rx_ins mX11_findBestLine 186 = some (21, 187, 0, 0, 0, []) := rx_atm tbX11_findBestLine ndX11_findBestLine (lmX11_findBestLine_2 (List.mem_of_getElem? (i := 37) rfl))
theorem iX11_findBestLine_187 : rx_ins mX11_findBestLine 187 = some (15, 190, (-34), 0, 153, []) := rx_atm tbX11_findBestLine ndX11_findBestLine (lmX11_findBestLine_2 (List.mem_of_getElem? (i := 38) rfl))
theorem iX11_findBestLine_190 : rx_ins mX11_findBestLine 190 = some (3, 191, 0, 0, 0, []) := rx_atm tbX11_findBestLine ndX11_findBestLine (lmX11_findBestLine_2 (List.mem_of_getElem? (i := 39) rfl))
theorem iX11_findBestLine_191 : rx_ins mX11_findBestLine 191 = some (18, 194, 0, 11, 13, [(41, 139)]) := rx_atm tbX11_findBestLine ndX11_findBestLine (lmX11_findBestLine_3 (List.mem_of_getElem? (i := 0) rfl))
theorem iX11_findBestLine_194 : rx_ins mX11_findBestLine 194 = some (2, 195, 0, 2, 0, []) := rx_atm tbX11_findBestLine ndX11_findBestLine (lmX11_findBestLine_3 (List.mem_of_getElem? (i := 1) rfl))
theorem iX11_findBestLine_195 : rx_ins mX11_findBestLine 195 = some (20, 196, 0, 0, 0, []) := rx_atm tbX11_findBestLine ndX11_findBestLine (lmX11_findBestLine_3 (List.mem_of_getElem? (i := 2) rfl))
theorem iX11_findBestLine_196 : rx_ins mX11_findBestLine 196 = some (2, 197, 0, 1, 0, []) := rx_atm tbX11_findBestLine ndX11_findBestLine (lmX11_findBestLine_3 (List.mem_of_getElem? (i := 3) rfl))
theorem iX11_findBestLine_197 : rx_ins mX11_findBestLine 197 = some (14, 200, 16, 1, 213, []) := rx_atm tbX11_findBestLine ndX11_findBestLine (lmX11_findBestLine_3 (List.mem_of_getElem? (i := 4) rfl))
theorem iX11_findBestLine_213 : rx_ins mX11_findBestLine 213 = some (3, 214, 0, 0, 0, []) := rx_atm tbX11_findBestLine ndX11_findBestLine (lmX11_findBestLine_3 (List.mem_of_getElem? (i := 12) rfl))
theorem iX11_findBestLine_214 : rx_ins mX11_findBestLine 214 = some (18, 217, 0, 11, 14, [(44, 140)]) := rx_atm tbX11_findBestLine ndX11_findBestLine (lmX11_findBestLine_3 (List.mem_of_getElem? (i := 13) rfl))
theorem iX11_findBestLine_217 : rx_ins mX11_findBestLine 217 = some (2, 218, 0, 2, 0, []) := rx_atm tbX11_findBestLine ndX11_findBestLine (lmX11_findBestLine_3 (List.mem_of_getElem? (i := 14) rfl))
theorem iX11_findBestLine_218 : rx_ins mX11_findBestLine 218 = some (20, 219, 0, 0, 0, []) := rx_atm tbX11_findBestLine ndX11_findBestLine (lmX11_findBestLine_3 (List.mem_of_getElem? (i := 15) rfl))
theorem iX11_findBestLine_219 : rx_ins mX11_findBestLine 219 = some (3, 220, 0, 0, 0, []) := rx_atm tbX11_findBestLine ndX11_findBestLine (lmX11_findBestLine_3 (List.mem_of_getElem? (i := 16) rfl))
theorem iX11_findBestLine_220 : rx_ins mX11_findBestLine 220 = some (3, 221, 0, 0, 0, []) := rx_atm tbX11_findBestLine ndX11_findBestLine (lmX11_findBestLine_3 (List.mem_of_getElem? (i := 17) rfl))
theorem iX11_findBestLine_221 : rx_ins mX11_findBestLine 221 = some (18, 224, 0, 11, 13, [(41, 139)]) := rx_atm tbX11_findBestLine ndX11_findBestLine (lmX11_findBestLine_3 (List.mem_of_getElem? (i := 18) rfl))
theorem iX11_findBestLine_224 : rx_ins mX11_findBestLine 224 = some (2, 225, 0, 2, 0, []) := rx_atm tbX11_findBestLine ndX11_findBestLine (lmX11_findBestLine_3 (List.mem_of_getElem? (i := 19) rfl))
theorem iX11_findBestLine_225 : rx_ins mX11_findBestLine 225 = some (20, 226, 0, 0, 0, []) := rx_atm tbX11_findBestLine ndX11_findBestLine (lmX11_findBestLine_3 (List.mem_of_getElem? (i := 20) rfl))
theorem iX11_findBestLine_226 : rx_ins mX11_findBestLine 226 = some (2, 227, 0, 2, 0, []) := rx_atm tbX11_findBestLine ndX11_findBestLine (lmX11_findBestLine_3 (List.mem_of_getElem? (i := 21) rfl))
theorem iX11_findBestLine_227 : rx_ins mX11_findBestLine 227 = some (28, 230, 13, 196, 3, [(283, 243)]) := rx_atm tbX11_findBestLine ndX11_findBestLine (lmX11_findBestLine_3 (List.mem_of_getElem? (i := 22) rfl))
theorem iX11_findBestLine_230 : rx_ins mX11_findBestLine 230 = some (7, 231, 0, 0, 0, []) := rx_atm tbX11_findBestLine ndX11_findBestLine (lmX11_findBestLine_3 (List.mem_of_getElem? (i := 23) rfl))
theorem iX11_findBestLine_231 : rx_ins mX11_findBestLine 231 = some (4, 232, 0, 3, 0, []) := rx_atm tbX11_findBestLine ndX11_findBestLine (lmX11_findBestLine_3 (List.mem_of_getElem? (i := 24) rfl))
theorem iX11_findBestLine_232 : rx_ins mX11_findBestLine 232 = some (3, 233, 0, 0, 0, []) := rx_atm tbX11_findBestLine ndX11_findBestLine (lmX11_findBestLine_3 (List.mem_of_getElem? (i := 25) rfl))
theorem iX11_findBestLine_233 : rx_ins mX11_findBestLine 233 = some (18, 236, 0, 11, 10, [(32, 135)]) := rx_atm tbX11_findBestLine ndX11_findBestLine (lmX11_findBestLine_3 (List.mem_of_getElem? (i := 26) rfl))
theorem iX11_findBestLine_236 : rx_ins mX11_findBestLine 236 = some (3, 237, 0, 0, 0, []) := rx_atm tbX11_findBestLine ndX11_findBestLine (lmX11_findBestLine_3 (List.mem_of_getElem? (i := 27) rfl))
theorem iX11_findBestLine_237 : rx_ins mX11_findBestLine 237 = some (18, 240, 0, 11, 13, [(41, 139)]) := rx_atm tbX11_findBestLine ndX11_findBestLine (lmX11_findBestLine_3 (List.mem_of_getElem? (i := 28) rfl))
theorem iX11_findBestLine_240 : rx_ins mX11_findBestLine 240 = some (2, 241, 0, 2, 0, []) := rx_atm tbX11_findBestLine ndX11_findBestLine (lmX11_findBestLine_3 (List.mem_of_getElem? (i := 29) rfl))
theorem iX11_findBestLine_241 : rx_ins mX11_findBestLine 241 = some (20, 242, 0, 0, 0, []) := rx_atm tbX11_findBestLine ndX11_findBestLine (lmX11_findBestLine_3 (List.mem_of_getElem? (i := 30) rfl))
theorem iX11_findBestLine_242 : rx_ins mX11_findBestLine 242 = some (2, 243, 0, 2, 0, []) := rx_atm tbX11_findBestLine ndX11_findBestLine (lmX11_findBestLine_3 (List.mem_of_getElem? (i := 31) rfl))
theorem iX11_findBestLine_243 : rx_ins mX11_findBestLine 243 = some (21, 244, 0, 0, 0, []) := rx_atm tbX11_findBestLine ndX11_findBestLine (lmX11_findBestLine_3 (List.mem_of_getElem? (i := 32) rfl))
theorem iX11_findBestLine_244 : rx_ins mX11_findBestLine 244 = some (3, 245, 0, 0, 0, []) := rx_atm tbX11_findBestLine ndX11_findBestLine (lmX11_findBestLine_3 (List.mem_of_getElem? (i := 33) rfl))
theorem iX11_findBestLine_245 : rx_ins mX11_findBestLine 245 = some (17, 248, 0, 11, 16, [(280, 138)]) := rx_atm tbX11_findBestLine ndX11_findBestLine (lmX11_findBestLine_3 (List.mem_of_getElem? (i := 34) rfl))
theorem iX11_findBestLine_248 : rx_ins mX11_findBestLine 248 = some (13, 251, 11, 2, 259, []) := rx_atm tbX11_findBestLine ndX11_findBestLine (lmX11_findBestLine_3 (List.mem_of_getElem? (i := 35) rfl))
theorem iX11_findBestLine_251 : rx_ins mX11_findBestLine 251 = some (2, 252, 0, 3, 0, []) := rx_atm tbX11_findBestLine ndX11_findBestLine (lmX11_findBestLine_3 (List.mem_of_getElem? (i := 36) rfl))
theorem iX11_findBestLine_252 : rx_ins mX11_findBestLine 252 = some (3, 253, 0, 0, 0, []) := rx_atm tbX11_findBestLine ndX11_findBestLine (lmX11_findBestLine_3 (List.mem_of_getElem? (i := 37) rfl))
theorem iX11_findBestLine_253 : rx_ins mX11_findBestLine 253 = some (17, 256, 0, 11, 16, [(280, 138)]) := rx_atm tbX11_findBestLine ndX11_findBestLine (lmX11_findBestLine_3 (List.mem_of_getElem? (i := 38) rfl))
theorem iX11_findBestLine_256 : rx_ins mX11_findBestLine 256 = some (14, 259, 20, 3, 276, []) := rx_atm tbX11_findBestLine ndX11_findBestLine (lmX11_findBestLine_3 (List.mem_of_getElem? (i := 39) rfl))
theorem iX11_findBestLine_200 : rx_ins mX11_findBestLine 200 = some (3, 201, 0, 0, 0, []) := rx_atm tbX11_findBestLine ndX11_findBestLine (lmX11_findBestLine_3 (List.mem_of_getElem? (i := 5) rfl))
theorem iX11_findBestLine_201 : rx_ins mX11_findBestLine 201 = some (18, 204, 0, 11, 13, [(41, 139)]) := rx_atm tbX11_findBestLine ndX11_findBestLine (lmX11_findBestLine_3 (List.mem_of_getElem? (i := 6) rfl))
theorem iX11_findBestLine_204 : rx_ins mX11_findBestLine 204 = some (2, 205, 0, 2, 0, []) := rx_atm tbX11_findBestLine ndX11_findBestLine (lmX11_findBestLine_3 (List.mem_of_getElem? (i := 7) rfl))
theorem iX11_findBestLine_205 : rx_ins mX11_findBestLine 205 = some (1, 206, 0, 0, 0, []) := rx_atm tbX11_findBestLine ndX11_findBestLine (lmX11_findBestLine_3 (List.mem_of_getElem? (i := 8) rfl))
theorem iX11_findBestLine_206 : rx_ins mX11_findBestLine 206 = some (21, 207, 0, 0, 0, []) := rx_atm tbX11_findBestLine ndX11_findBestLine (lmX11_findBestLine_3 (List.mem_of_getElem? (i := 9) rfl))
theorem iX11_findBestLine_207 : rx_ins mX11_findBestLine 207 = some (6, 210, (-1), 2, 0, []) := rx_atm tbX11_findBestLine ndX11_findBestLine (lmX11_findBestLine_3 (List.mem_of_getElem? (i := 10) rfl))
theorem iX11_findBestLine_210 : rx_ins mX11_findBestLine 210 = some (15, 213, (-143), 0, 67, []) := rx_atm tbX11_findBestLine ndX11_findBestLine (lmX11_findBestLine_3 (List.mem_of_getElem? (i := 11) rfl))
theorem iX11_findBestLine_259 : rx_ins mX11_findBestLine 259 = some (6, 262, 1, 2, 0, []) := rx_atm tbX11_findBestLine ndX11_findBestLine (lmX11_findBestLine_4 (List.mem_of_getElem? (i := 0) rfl))
theorem iX11_findBestLine_262 : rx_ins mX11_findBestLine 262 = some (3, 263, 0, 0, 0, []) := rx_atm tbX11_findBestLine ndX11_findBestLine (lmX11_findBestLine_4 (List.mem_of_getElem? (i := 1) rfl))
theorem iX11_findBestLine_263 : rx_ins mX11_findBestLine 263 = some (18, 266, 0, 11, 14, [(44, 140)]) := rx_atm tbX11_findBestLine ndX11_findBestLine (lmX11_findBestLine_4 (List.mem_of_getElem? (i := 2) rfl))
theorem iX11_findBestLine_266 : rx_ins mX11_findBestLine 266 = some (2, 267, 0, 2, 0, []) := rx_atm tbX11_findBestLine ndX11_findBestLine (lmX11_findBestLine_4 (List.mem_of_getElem? (i := 3) rfl))
theorem iX11_findBestLine_267 : rx_ins mX11_findBestLine 267 = some (2, 268, 0, 3, 0, []) := rx_atm tbX11_findBestLine ndX11_findBestLine (lmX11_findBestLine_4 (List.mem_of_getElem? (i := 4) rfl))
theorem iX11_findBestLine_268 : rx_ins mX11_findBestLine 268 = some (21, 269, 0, 0, 0, []) := rx_atm tbX11_findBestLine ndX11_findBestLine (lmX11_findBestLine_4 (List.mem_of_getElem? (i := 5) rfl))
theorem iX11_findBestLine_269 : rx_ins mX11_findBestLine 269 = some (3, 270, 0, 0, 0, []) := rx_atm tbX11_findBestLine ndX11_findBestLine (lmX11_findBestLine_4 (List.mem_of_getElem? (i := 6) rfl))
theorem iX11_findBestLine_270 : rx_ins mX11_findBestLine 270 = some (18, 273, 0, 11, 13, [(41, 139)]) := rx_atm tbX11_findBestLine ndX11_findBestLine (lmX11_findBestLine_4 (List.mem_of_getElem? (i := 7) rfl))
theorem iX11_findBestLine_273 : rx_ins mX11_findBestLine 273 = some (2, 274, 0, 2, 0, []) := rx_atm tbX11_findBestLine ndX11_findBestLine (lmX11_findBestLine_4 (List.mem_of_getElem? (i := 8) rfl))
theorem iX11_findBestLine_274 : rx_ins mX11_findBestLine 274 = some (1, 275, 0, 0, 0, []) := rx_atm tbX11_findBestLine ndX11_findBestLine (lmX11_findBestLine_4 (List.mem_of_getElem? (i := 9) rfl))
theorem iX11_findBestLine_275 : rx_ins mX11_findBestLine 275 = some (21, 276, 0, 0, 0, []) := rx_atm tbX11_findBestLine ndX11_findBestLine (lmX11_findBestLine_4 (List.mem_of_getElem? (i := 10) rfl))
theorem iX11_findBestLine_276 : rx_ins mX11_findBestLine 276 = some (15, 279, (-209), 0, 67, []) := rx_atm tbX11_findBestLine ndX11_findBestLine (lmX11_findBestLine_4 (List.mem_of_getElem? (i := 11) rfl))
theorem iX11_bestLine_0 : rx_ins mX11_bestLine 0 = some (2, 1, 0, 1, 0, []) := rx_at tbX11_bestLine ndX11_bestLine (j := 0) rfl
theorem iX11_bestLine_1 : rx_ins mX11_bestLine 1 = some (1, 2, (-1), 0, 0, []) := rx_at tbX11_bestLine ndX11_bestLine (j := 1) rfl
theorem iX11_bestLine_2 : rx_ins mX11_bestLine 2 = some (14, 5, 6, 3, 8, []) := rx_at tbX11_bestLine ndX11_bestLine (j := 2) rfl
theorem iX11_bestLine_8 : rx_ins mX11_bestLine 8 = some (3, 9, 0, 0, 0, []) := rx_at tbX11_bestLine ndX11_bestLine (j := 5) rfl
theorem iX11_bestLine_9 : rx_ins mX11_bestLine 9 = some (18, 12, 0, 11, 0, [(9, 124)]) := rx_at tbX11_bestLine ndX11_bestLine (j := 6) rfl
theorem iX11_bestLine_12 : rx_ins mX11_bestLine 12 = some (1, 13, 1, 0, 0, []) := rx_at tbX11_bestLine ndX11_bestLine (j := 7) rfl
theorem iX11_bestLine_13 : rx_ins mX11_bestLine 13 = some (20, 14, 0, 0, 0, []) := rx_at tbX11_bestLine ndX11_bestLine (j := 8) rfl
theorem iX11_bestLine_14 : rx_ins mX11_bestLine 14 = some (13, 17, 6, 1, 20, []) := rx_at tbX11_bestLine ndX11_bestLine (j := 9) rfl
theorem iX11_bestLine_20 : rx_ins mX11_bestLine 20 = some (2, 21, 0, 1, 0, []) := rx_at tbX11_bestLine ndX11_bestLine (j := 12) rfl
theorem iX11_bestLine_21 : rx_ins mX11_bestLine 21 = some (3, 22, 0, 0, 0, []) := rx_at tbX11_bestLine ndX11_bestLine (j := 13) rfl
theorem iX11_bestLine_22 : rx_ins mX11_bestLine 22 = some (18, 25, 0, 11, 0, [(9, 124)]) := rx_at tbX11_bestLine ndX11_bestLine (j := 14) rfl
theorem iX11_bestLine_25 : rx_ins mX11_bestLine 25 = some (1, 26, 1, 0, 0, []) := rx_at tbX11_bestLine ndX11_bestLine (j := 15) rfl
theorem iX11_bestLine_26 : rx_ins mX11_bestLine 26 = some (20, 27, 0, 0, 0, []) := rx_at tbX11_bestLine ndX11_bestLine (j := 16) rfl
theorem iX11_bestLine_27 : rx_ins mX11_bestLine 27 = some (14, 30, 6, 2, 33, []) := rx_at tbX11_bestLine ndX11_bestLine (j := 17) rfl
theorem iX11_bestLine_33 : rx_ins mX11_bestLine 33 = some (3, 34, 0, 0, 0, []) := rx_at tbX11_bestLine ndX11_bestLine (j := 20) rfl
theorem iX11_bestLine_34 : rx_ins mX11_bestLine 34 = some (28, 37, 13, 197, 1, [(286, 244)]) := rx_at tbX11_bestLine ndX11_bestLine (j := 21) rfl
theorem iX11_bestLine_37 : rx_ins mX11_bestLine 37 = some (2, 38, 0, 1, 0, []) := rx_at tbX11_bestLine ndX11_bestLine (j := 22) rfl
theorem iX11_bestLine_38 : rx_ins mX11_bestLine 38 = some (13, 41, 10, 3, 48, []) := rx_at tbX11_bestLine ndX11_bestLine (j := 23) rfl
theorem iX11_bestLine_48 : rx_ins mX11_bestLine 48 = some (3, 49, 0, 0, 0, []) := rx_at tbX11_bestLine ndX11_bestLine (j := 27) rfl
theorem iX11_bestLine_49 : rx_ins mX11_bestLine 49 = some (18, 52, 0, 11, 15, [(47, 141)]) := rx_at tbX11_bestLine ndX11_bestLine (j := 28) rfl
theorem iX11_bestLine_52 : rx_ins mX11_bestLine 52 = some (2, 53, 0, 1, 0, []) := rx_at tbX11_bestLine ndX11_bestLine (j := 29) rfl
theorem iX11_bestLine_53 : rx_ins mX11_bestLine 53 = some (20, 54, 0, 0, 0, []) := rx_at tbX11_bestLine ndX11_bestLine (j := 30) rfl
theorem iX11_bestLine_54 : rx_ins mX11_bestLine 54 = some (29, 55, 0, 0, 0, []) := rx_at tbX11_bestLine ndX11_bestLine (j := 31) rfl
theorem iX11_bestLine_41 : rx_ins mX11_bestLine 41 = some (3, 42, 0, 0, 0, []) := rx_at tbX11_bestLine ndX11_bestLine (j := 24) rfl
theorem iX11_bestLine_42 : rx_ins mX11_bestLine 42 = some (17, 45, 0, 11, 16, [(280, 138)]) := rx_at tbX11_bestLine ndX11_bestLine (j := 25) rfl
theorem iX11_bestLine_45 : rx_ins mX11_bestLine 45 = some (15, 48, 9, 0, 54, []) := rx_at tbX11_bestLine ndX11_bestLine (j := 26) rfl
theorem iX11_bestLine_30 : rx_ins mX11_bestLine 30 = some (1, 32, (-1000000005), 3, 25, [(222, 0)]) := rx_at tbX11_bestLine ndX11_bestLine (j := 18) rfl
theorem iX11_bestLine_32 : rx_ins mX11_bestLine 32 = some (29, 33, 0, 0, 0, []) := rx_at tbX11_bestLine ndX11_bestLine (j := 19) rfl
theorem iX11_bestLine_17 : rx_ins mX11_bestLine 17 = some (1, 19, (-1000000002), 3, 22, [(134, 0)]) := rx_at tbX11_bestLine ndX11_bestLine (j := 10) rfl
theorem iX11_bestLine_19 : rx_ins mX11_bestLine 19 = some (29, 20, 0, 0, 0, []) := rx_at tbX11_bestLine ndX11_bestLine (j := 11) rfl
theorem iX11_bestLine_5 : rx_ins mX11_bestLine 5 = some (1, 7, (-1000000001), 3, 21, [(130, 0)]) := rx_at tbX11_bestLine ndX11_bestLine (j := 3) rfl
theorem iX11_bestLine_7 : rx_ins mX11_bestLine 7 = some (29, 8, 0, 0, 0, []) := rx_at tbX11_bestLine ndX11_bestLine (j := 4) rfl
theorem iX11_layerFrom_0 : rx_ins mX11_layerFrom 0 = some (3, 1, 0, 0, 0, []) := rx_at tbX11_layerFrom ndX11_layerFrom (j := 0) rfl
theorem iX11_layerFrom_1 : rx_ins mX11_layerFrom 1 = some (3, 2, 0, 0, 0, []) := rx_at tbX11_layerFrom ndX11_layerFrom (j := 1) rfl
theorem iX11_layerFrom_2 : rx_ins mX11_layerFrom 2 = some (2, 3, 0, 1, 0, []) := rx_at tbX11_layerFrom ndX11_layerFrom (j := 2) rfl
theorem iX11_layerFrom_3 : rx_ins mX11_layerFrom 3 = some (28, 6, 13, 142, 2, [(139, 205)]) := rx_at tbX11_layerFrom ndX11_layerFrom (j := 3) rfl
theorem iX11_layerFrom_6 : rx_ins mX11_layerFrom 6 = some (28, 9, 13, 140, 2, [(155, 210)]) := rx_at tbX11_layerFrom ndX11_layerFrom (j := 4) rfl
theorem iX11_layerFrom_9 : rx_ins mX11_layerFrom 9 = some (4, 10, 0, 2, 0, []) := rx_at tbX11_layerFrom ndX11_layerFrom (j := 5) rfl
theorem iX11_layerFrom_10 : rx_ins mX11_layerFrom 10 = some (3, 11, 0, 0, 0, []) := rx_at tbX11_layerFrom ndX11_layerFrom (j := 6) rfl
theorem iX11_layerFrom_11 : rx_ins mX11_layerFrom 11 = some (3, 12, 0, 0, 0, []) := rx_at tbX11_layerFrom ndX11_layerFrom (j := 7) rfl
theorem iX11_layerFrom_12 : rx_ins mX11_layerFrom 12 = some (2, 13, 0, 1, 0, []) := rx_at tbX11_layerFrom ndX11_layerFrom (j := 8) rfl
theorem iX11_layerFrom_13 : rx_ins mX11_layerFrom 13 = some (28, 16, 13, 143, 2, [(142, 206)]) := rx_at tbX11_layerFrom ndX11_layerFrom (j := 9) rfl
theorem iX11_layerFrom_16 : rx_ins mX11_layerFrom 16 = some (28, 19, 13, 140, 2, [(155, 210)]) := rx_at tbX11_layerFrom ndX11_layerFrom (j := 10) rfl
theorem iX11_layerFrom_19 : rx_ins mX11_layerFrom 19 = some (4, 20, 0, 3, 0, []) := rx_at tbX11_layerFrom ndX11_layerFrom (j := 11) rfl
theorem iX11_layerFrom_20 : rx_ins mX11_layerFrom 20 = some (2, 21, 0, 2, 0, []) := rx_at tbX11_layerFrom ndX11_layerFrom (j := 12) rfl
theorem iX11_layerFrom_21 : rx_ins mX11_layerFrom 21 = some (2, 22, 0, 3, 0, []) := rx_at tbX11_layerFrom ndX11_layerFrom (j := 13) rfl
theorem iX11_layerFrom_22 : rx_ins mX11_layerFrom 22 = some (1, 23, 1, 0, 0, []) := rx_at tbX11_layerFrom ndX11_layerFrom (j := 14) rfl
theorem iX11_layerFrom_23 : rx_ins mX11_layerFrom 23 = some (7, 24, 0, 0, 0, []) := rx_at tbX11_layerFrom ndX11_layerFrom (j := 15) rfl
theorem iX11_layerFrom_24 : rx_ins mX11_layerFrom 24 = some (14, 27, 7, 1, 31, []) := rx_at tbX11_layerFrom ndX11_layerFrom (j := 16) rfl
theorem iX11_layerFrom_31 : rx_ins mX11_layerFrom 31 = some (2, 32, 0, 3, 0, []) := rx_at tbX11_layerFrom ndX11_layerFrom (j := 19) rfl
theorem iX11_layerFrom_32 : rx_ins mX11_layerFrom 32 = some (2, 33, 0, 2, 0, []) := rx_at tbX11_layerFrom ndX11_layerFrom (j := 20) rfl
theorem iX11_layerFrom_33 : rx_ins mX11_layerFrom 33 = some (1, 34, 1, 0, 0, []) := rx_at tbX11_layerFrom ndX11_layerFrom (j := 21) rfl
theorem iX11_layerFrom_34 : rx_ins mX11_layerFrom 34 = some (7, 35, 0, 0, 0, []) := rx_at tbX11_layerFrom ndX11_layerFrom (j := 22) rfl
theorem iX11_layerFrom_35 : rx_ins mX11_layerFrom 35 = some (14, 38, 7, 1, 42, []) := rx_at tbX11_layerFrom ndX11_layerFrom (j := 23) rfl
theorem iX11_layerFrom_42 : rx_ins mX11_layerFrom 42 = some (1, 43, (-1), 0, 0, []) := rx_at tbX11_layerFrom ndX11_layerFrom (j := 26) rfl
theorem iX11_layerFrom_43 : rx_ins mX11_layerFrom 43 = some (29, 44, 0, 0, 0, []) := rx_at tbX11_layerFrom ndX11_layerFrom (j := 27) rfl
theorem iX11_layerFrom_38 : rx_ins mX11_layerFrom 38 = some (2, 39, 0, 2, 0, []) := rx_at tbX11_layerFrom ndX11_layerFrom (j := 24) rfl
theorem iX11_layerFrom_39 : rx_ins mX11_layerFrom 39 = some (15, 42, 4, 0, 43, []) := rx_at tbX11_layerFrom ndX11_layerFrom (j := 25) rfl
theorem iX11_layerFrom_27 : rx_ins mX11_layerFrom 27 = some (2, 28, 0, 3, 0, []) := rx_at tbX11_layerFrom ndX11_layerFrom (j := 17) rfl
theorem iX11_layerFrom_28 : rx_ins mX11_layerFrom 28 = some (15, 31, 15, 0, 43, []) := rx_at tbX11_layerFrom ndX11_layerFrom (j := 18) rfl
theorem iX11_endIn_0 : rx_ins mX11_endIn 0 = some (3, 1, 0, 0, 0, []) := rx_at tbX11_endIn ndX11_endIn (j := 0) rfl
theorem iX11_endIn_1 : rx_ins mX11_endIn 1 = some (18, 4, 0, 11, 10, [(32, 135)]) := rx_at tbX11_endIn ndX11_endIn (j := 1) rfl
theorem iX11_endIn_4 : rx_ins mX11_endIn 4 = some (3, 5, 0, 0, 0, []) := rx_at tbX11_endIn ndX11_endIn (j := 2) rfl
theorem iX11_endIn_5 : rx_ins mX11_endIn 5 = some (3, 6, 0, 0, 0, []) := rx_at tbX11_endIn ndX11_endIn (j := 3) rfl
theorem iX11_endIn_6 : rx_ins mX11_endIn 6 = some (2, 7, 0, 1, 0, []) := rx_at tbX11_endIn ndX11_endIn (j := 4) rfl
theorem iX11_endIn_7 : rx_ins mX11_endIn 7 = some (28, 10, 13, 142, 2, [(139, 205)]) := rx_at tbX11_endIn ndX11_endIn (j := 5) rfl
theorem iX11_endIn_10 : rx_ins mX11_endIn 10 = some (28, 13, 13, 140, 2, [(155, 210)]) := rx_at tbX11_endIn ndX11_endIn (j := 6) rfl
theorem iX11_endIn_13 : rx_ins mX11_endIn 13 = some (2, 14, 0, 2, 0, []) := rx_at tbX11_endIn ndX11_endIn (j := 7) rfl
theorem iX11_endIn_14 : rx_ins mX11_endIn 14 = some (14, 17, 11, 1, 25, []) := rx_at tbX11_endIn ndX11_endIn (j := 8) rfl
theorem iX11_endIn_25 : rx_ins mX11_endIn 25 = some (3, 26, 0, 0, 0, []) := rx_at tbX11_endIn ndX11_endIn (j := 13) rfl
theorem iX11_endIn_26 : rx_ins mX11_endIn 26 = some (2, 27, 0, 1, 0, []) := rx_at tbX11_endIn ndX11_endIn (j := 14) rfl
theorem iX11_endIn_27 : rx_ins mX11_endIn 27 = some (28, 30, 13, 143, 2, [(142, 206)]) := rx_at tbX11_endIn ndX11_endIn (j := 15) rfl
theorem iX11_endIn_30 : rx_ins mX11_endIn 30 = some (20, 31, 0, 0, 0, []) := rx_at tbX11_endIn ndX11_endIn (j := 16) rfl
theorem iX11_endIn_31 : rx_ins mX11_endIn 31 = some (29, 32, 0, 0, 0, []) := rx_at tbX11_endIn ndX11_endIn (j := 17) rfl
theorem iX11_endIn_17 : rx_ins mX11_endIn 17 = some (3, 18, 0, 0, 0, []) := rx_at tbX11_endIn ndX11_endIn (j := 9) rfl
theorem iX11_endIn_18 : rx_ins mX11_endIn 18 = some (2, 19, 0, 1, 0, []) := rx_at tbX11_endIn ndX11_endIn (j := 10) rfl
theorem iX11_endIn_19 : rx_ins mX11_endIn 19 = some (28, 22, 13, 142, 2, [(139, 205)]) := rx_at tbX11_endIn ndX11_endIn (j := 11) rfl
theorem iX11_endIn_22 : rx_ins mX11_endIn 22 = some (15, 25, 8, 0, 30, []) := rx_at tbX11_endIn ndX11_endIn (j := 12) rfl
theorem iX11_layered_0 : rx_ins mX11_layered 0 = some (1, 1, 0, 0, 0, []) := rx_at tbX11_layered ndX11_layered (j := 0) rfl
theorem iX11_layered_1 : rx_ins mX11_layered 1 = some (4, 2, 0, 2, 0, []) := rx_at tbX11_layered ndX11_layered (j := 1) rfl
theorem iX11_layered_2 : rx_ins mX11_layered 2 = some (1, 3, 0, 0, 0, []) := rx_at tbX11_layered ndX11_layered (j := 2) rfl
theorem iX11_layered_3 : rx_ins mX11_layered 3 = some (4, 4, 0, 3, 0, []) := rx_at tbX11_layered ndX11_layered (j := 3) rfl
theorem iX11_layered_4 : rx_ins mX11_layered 4 = some (2, 5, 0, 3, 0, []) := rx_at tbX11_layered ndX11_layered (j := 4) rfl
theorem iX11_layered_5 : rx_ins mX11_layered 5 = some (3, 6, 0, 0, 0, []) := rx_at tbX11_layered ndX11_layered (j := 5) rfl
theorem iX11_layered_6 : rx_ins mX11_layered 6 = some (18, 9, 0, 11, 0, [(9, 124)]) := rx_at tbX11_layered ndX11_layered (j := 6) rfl
theorem iX11_layered_9 : rx_ins mX11_layered 9 = some (1, 10, 2, 0, 0, []) := rx_at tbX11_layered ndX11_layered (j := 7) rfl
theorem iX11_layered_10 : rx_ins mX11_layered 10 = some (20, 11, 0, 0, 0, []) := rx_at tbX11_layered ndX11_layered (j := 8) rfl
theorem iX11_layered_11 : rx_ins mX11_layered 11 = some (14, 14, 156, 3, 167, []) := rx_at tbX11_layered ndX11_layered (j := 9) rfl
theorem iX11_layered_167 : rx_ins mX11_layered 167 = some (2, 168, 0, 2, 0, []) := rx_at tbX11_layered ndX11_layered (j := 92) rfl
theorem iX11_layered_168 : rx_ins mX11_layered 168 = some (29, 169, 0, 0, 0, []) := rx_at tbX11_layered ndX11_layered (j := 93) rfl
theorem iX11_layered_14 : rx_ins mX11_layered 14 = some (3, 15, 0, 0, 0, []) := rx_at tbX11_layered ndX11_layered (j := 10) rfl
theorem iX11_layered_15 : rx_ins mX11_layered 15 = some (2, 16, 0, 3, 0, []) := rx_at tbX11_layered ndX11_layered (j := 11) rfl
theorem iX11_layered_16 : rx_ins mX11_layered 16 = some (28, 19, 13, 199, 2, [(289, 245)]) := rx_at tbX11_layered ndX11_layered (j := 12) rfl
theorem iX11_layered_19 : rx_ins mX11_layered 19 = some (4, 21, 1, 4, 0, []) := rx_at tbX11_layered ndX11_layered (j := 13) rfl
theorem iX11_layered_21 : rx_ins mX11_layered 21 = some (2, 22, 0, 3, 0, []) := rx_at tbX11_layered ndX11_layered (j := 14) rfl
theorem iX11_layered_22 : rx_ins mX11_layered 22 = some (1, 23, 1, 0, 0, []) := rx_at tbX11_layered ndX11_layered (j := 15) rfl
theorem iX11_layered_23 : rx_ins mX11_layered 23 = some (7, 24, 0, 0, 0, []) := rx_at tbX11_layered ndX11_layered (j := 16) rfl
theorem iX11_layered_24 : rx_ins mX11_layered 24 = some (4, 26, 1, 5, 0, []) := rx_at tbX11_layered ndX11_layered (j := 17) rfl
theorem iX11_layered_26 : rx_ins mX11_layered 26 = some (2, 28, 1, 5, 0, []) := rx_at tbX11_layered ndX11_layered (j := 18) rfl
theorem iX11_layered_28 : rx_ins mX11_layered 28 = some (3, 29, 0, 0, 0, []) := rx_at tbX11_layered ndX11_layered (j := 19) rfl
theorem iX11_layered_29 : rx_ins mX11_layered 29 = some (18, 32, 0, 11, 0, [(9, 124)]) := rx_at tbX11_layered ndX11_layered (j := 20) rfl
theorem iX11_layered_32 : rx_ins mX11_layered 32 = some (1, 33, 2, 0, 0, []) := rx_at tbX11_layered ndX11_layered (j := 21) rfl
theorem iX11_layered_33 : rx_ins mX11_layered 33 = some (20, 34, 0, 0, 0, []) := rx_at tbX11_layered ndX11_layered (j := 22) rfl
theorem iX11_layered_34 : rx_ins mX11_layered 34 = some (14, 37, 127, 3, 161, []) := rx_at tbX11_layered ndX11_layered (j := 23) rfl
theorem iX11_layered_37 : rx_ins mX11_layered 37 = some (2, 39, 1, 4, 0, []) := rx_at tbX11_layered ndX11_layered (j := 24) rfl
theorem iX11_layered_39 : rx_ins mX11_layered 39 = some (13, 42, 122, 2, 161, []) := rx_at tbX11_layered ndX11_layered (j := 25) rfl
theorem iX11_layered_42 : rx_ins mX11_layered 42 = some (3, 43, 0, 0, 0, []) := rx_at tbX11_layered ndX11_layered (j := 26) rfl
theorem iX11_layered_43 : rx_ins mX11_layered 43 = some (2, 45, 1, 5, 0, []) := rx_at tbX11_layered ndX11_layered (j := 27) rfl
theorem iX11_layered_45 : rx_ins mX11_layered 45 = some (28, 48, 13, 199, 2, [(289, 245)]) := rx_at tbX11_layered ndX11_layered (j := 28) rfl
theorem iX11_layered_48 : rx_ins mX11_layered 48 = some (2, 50, 1, 4, 0, []) := rx_at tbX11_layered ndX11_layered (j := 29) rfl
theorem iX11_layered_50 : rx_ins mX11_layered 50 = some (14, 53, 105, 1, 155, []) := rx_at tbX11_layered ndX11_layered (j := 30) rfl
theorem iX11_layered_53 : rx_ins mX11_layered 53 = some (3, 54, 0, 0, 0, []) := rx_at tbX11_layered ndX11_layered (j := 31) rfl
theorem iX11_layered_54 : rx_ins mX11_layered 54 = some (2, 55, 0, 3, 0, []) := rx_at tbX11_layered ndX11_layered (j := 32) rfl
theorem iX11_layered_55 : rx_ins mX11_layered 55 = some (2, 57, 1, 5, 0, []) := rx_at tbX11_layered ndX11_layered (j := 33) rfl
theorem iX11_layered_57 : rx_ins mX11_layered 57 = some (28, 60, 13, 165, 3, [(203, 222)]) := rx_at tbX11_layered ndX11_layered (j := 34) rfl
theorem iX11_layered_60 : rx_ins mX11_layered 60 = some (13, 63, 95, 0, 155, []) := rx_at tbX11_layered ndX11_layered (j := 35) rfl
theorem iX11_layered_63 : rx_ins mX11_layered 63 = some (3, 64, 0, 0, 0, []) := rx_at tbX11_layered ndX11_layered (j := 36) rfl
theorem iX11_layered_64 : rx_ins mX11_layered 64 = some (2, 65, 0, 3, 0, []) := rx_at tbX11_layered ndX11_layered (j := 37) rfl
theorem iX11_layered_65 : rx_ins mX11_layered 65 = some (2, 67, 1, 4, 0, []) := rx_at tbX11_layered ndX11_layered (j := 38) rfl
theorem iX11_layered_67 : rx_ins mX11_layered 67 = some (28, 70, 13, 200, 3, [(292, 246)]) := rx_at tbX11_layered ndX11_layered (j := 39) rfl
theorem iX11_layered_70 : rx_ins mX11_layered 70 = some (3, 71, 0, 0, 0, []) := rx_at tbX11_layered ndX11_layered (j := 40) rfl
theorem iX11_layered_71 : rx_ins mX11_layered 71 = some (2, 73, 1, 5, 0, []) := rx_at tbX11_layered ndX11_layered (j := 41) rfl
theorem iX11_layered_73 : rx_ins mX11_layered 73 = some (2, 75, 1, 4, 0, []) := rx_at tbX11_layered ndX11_layered (j := 42) rfl
theorem iX11_layered_75 : rx_ins mX11_layered 75 = some (28, 78, 13, 200, 3, [(292, 246)]) := rx_at tbX11_layered ndX11_layered (j := 43) rfl
theorem iX11_layered_78 : rx_ins mX11_layered 78 = some (14, 81, 7, 3, 85, []) := rx_at tbX11_layered ndX11_layered (j := 44) rfl
theorem iX11_layered_85 : rx_ins mX11_layered 85 = some (1, 86, 0, 0, 0, []) := rx_at tbX11_layered ndX11_layered (j := 47) rfl
theorem iX11_layered_86 : rx_ins mX11_layered 86 = some (3, 87, 0, 0, 0, []) := rx_at tbX11_layered ndX11_layered (j := 48) rfl
theorem iX11_layered_87 : rx_ins mX11_layered 87 = some (2, 88, 0, 3, 0, []) := rx_at tbX11_layered ndX11_layered (j := 49) rfl
theorem iX11_layered_88 : rx_ins mX11_layered 88 = some (2, 90, 1, 4, 0, []) := rx_at tbX11_layered ndX11_layered (j := 50) rfl
theorem iX11_layered_90 : rx_ins mX11_layered 90 = some (1, 91, 1, 0, 0, []) := rx_at tbX11_layered ndX11_layered (j := 51) rfl
theorem iX11_layered_91 : rx_ins mX11_layered 91 = some (7, 92, 0, 0, 0, []) := rx_at tbX11_layered ndX11_layered (j := 52) rfl
theorem iX11_layered_92 : rx_ins mX11_layered 92 = some (28, 95, 13, 200, 3, [(292, 246)]) := rx_at tbX11_layered ndX11_layered (j := 53) rfl
theorem iX11_layered_95 : rx_ins mX11_layered 95 = some (3, 96, 0, 0, 0, []) := rx_at tbX11_layered ndX11_layered (j := 54) rfl
theorem iX11_layered_96 : rx_ins mX11_layered 96 = some (2, 98, 1, 5, 0, []) := rx_at tbX11_layered ndX11_layered (j := 55) rfl
theorem iX11_layered_98 : rx_ins mX11_layered 98 = some (2, 100, 1, 4, 0, []) := rx_at tbX11_layered ndX11_layered (j := 56) rfl
theorem iX11_layered_100 : rx_ins mX11_layered 100 = some (1, 101, 1, 0, 0, []) := rx_at tbX11_layered ndX11_layered (j := 57) rfl
theorem iX11_layered_101 : rx_ins mX11_layered 101 = some (7, 102, 0, 0, 0, []) := rx_at tbX11_layered ndX11_layered (j := 58) rfl
theorem iX11_layered_102 : rx_ins mX11_layered 102 = some (28, 105, 13, 200, 3, [(292, 246)]) := rx_at tbX11_layered ndX11_layered (j := 59) rfl
theorem iX11_layered_105 : rx_ins mX11_layered 105 = some (14, 108, 7, 3, 112, []) := rx_at tbX11_layered ndX11_layered (j := 60) rfl
theorem iX11_layered_112 : rx_ins mX11_layered 112 = some (1, 113, 0, 0, 0, []) := rx_at tbX11_layered ndX11_layered (j := 63) rfl
theorem iX11_layered_113 : rx_ins mX11_layered 113 = some (14, 116, 7, 0, 120, []) := rx_at tbX11_layered ndX11_layered (j := 64) rfl
theorem iX11_layered_120 : rx_ins mX11_layered 120 = some (1, 121, 0, 0, 0, []) := rx_at tbX11_layered ndX11_layered (j := 67) rfl
theorem iX11_layered_121 : rx_ins mX11_layered 121 = some (4, 123, 1, 6, 0, []) := rx_at tbX11_layered ndX11_layered (j := 68) rfl
theorem iX11_layered_108 : rx_ins mX11_layered 108 = some (1, 109, 1, 0, 0, []) := rx_at tbX11_layered ndX11_layered (j := 61) rfl
theorem iX11_layered_109 : rx_ins mX11_layered 109 = some (15, 112, 4, 0, 113, []) := rx_at tbX11_layered ndX11_layered (j := 62) rfl
theorem iX11_layered_116 : rx_ins mX11_layered 116 = some (1, 117, 1, 0, 0, []) := rx_at tbX11_layered ndX11_layered (j := 65) rfl
theorem iX11_layered_117 : rx_ins mX11_layered 117 = some (15, 120, 4, 0, 121, []) := rx_at tbX11_layered ndX11_layered (j := 66) rfl
theorem iX11_layered_81 : rx_ins mX11_layered 81 = some (1, 82, 1, 0, 0, []) := rx_at tbX11_layered ndX11_layered (j := 45) rfl
theorem iX11_layered_82 : rx_ins mX11_layered 82 = some (15, 85, 4, 0, 86, []) := rx_at tbX11_layered ndX11_layered (j := 46) rfl
theorem iX11_layered_161 : rx_ins mX11_layered 161 = some (6, 164, 1, 3, 0, []) := rx_at tbX11_layered ndX11_layered (j := 90) rfl
theorem iX11_layered_164 : rx_ins mX11_layered 164 = some (15, 167, (-160), 0, 4, []) := rx_at tbX11_layered ndX11_layered (j := 91) rfl
theorem iX11_layered_155 : rx_ins mX11_layered 155 = some (6, 158, 1, 5, 0, []) := rx_at tbX11_layered ndX11_layered (j := 88) rfl
theorem iX11_layered_158 : rx_ins mX11_layered 158 = some (15, 161, (-132), 0, 26, []) := rx_at tbX11_layered ndX11_layered (j := 89) rfl
theorem iX11_layered_123 : rx_ins mX11_layered 123 = some (2, 124, 0, 2, 0, []) := rx_at tbX11_layered ndX11_layered (j := 69) rfl
theorem iX11_layered_124 : rx_ins mX11_layered 124 = some (2, 126, 1, 6, 0, []) := rx_at tbX11_layered ndX11_layered (j := 70) rfl
theorem iX11_layered_126 : rx_ins mX11_layered 126 = some (13, 129, 26, 0, 152, []) := rx_at tbX11_layered ndX11_layered (j := 71) rfl
theorem iX11_layered_152 : rx_ins mX11_layered 152 = some (1, 153, 0, 0, 0, []) := rx_at tbX11_layered ndX11_layered (j := 85) rfl
theorem iX11_layered_153 : rx_ins mX11_layered 153 = some (7, 154, 0, 0, 0, []) := rx_at tbX11_layered ndX11_layered (j := 86) rfl
theorem iX11_layered_154 : rx_ins mX11_layered 154 = some (4, 155, 0, 2, 0, []) := rx_at tbX11_layered ndX11_layered (j := 87) rfl
theorem iX11_layered_129 : rx_ins mX11_layered 129 = some (2, 130, 0, 1, 0, []) := rx_at tbX11_layered ndX11_layered (j := 72) rfl
theorem iX11_layered_130 : rx_ins mX11_layered 130 = some (13, 133, 18, 0, 148, []) := rx_at tbX11_layered ndX11_layered (j := 73) rfl
theorem iX11_layered_148 : rx_ins mX11_layered 148 = some (1, 149, 1, 0, 0, []) := rx_at tbX11_layered ndX11_layered (j := 83) rfl
theorem iX11_layered_149 : rx_ins mX11_layered 149 = some (15, 152, 4, 0, 153, []) := rx_at tbX11_layered ndX11_layered (j := 84) rfl
theorem iX11_layered_133 : rx_ins mX11_layered 133 = some (3, 134, 0, 0, 0, []) := rx_at tbX11_layered ndX11_layered (j := 74) rfl
theorem iX11_layered_134 : rx_ins mX11_layered 134 = some (18, 137, 0, 11, 5, [(22, 127)]) := rx_at tbX11_layered ndX11_layered (j := 75) rfl
theorem iX11_layered_137 : rx_ins mX11_layered 137 = some (1, 139, 18, 1, 0, []) := rx_at tbX11_layered ndX11_layered (j := 76) rfl
theorem iX11_layered_139 : rx_ins mX11_layered 139 = some (2, 140, 0, 3, 0, []) := rx_at tbX11_layered ndX11_layered (j := 77) rfl
theorem iX11_layered_140 : rx_ins mX11_layered 140 = some (7, 141, 0, 2, 0, []) := rx_at tbX11_layered ndX11_layered (j := 78) rfl
theorem iX11_layered_141 : rx_ins mX11_layered 141 = some (2, 143, 1, 5, 0, []) := rx_at tbX11_layered ndX11_layered (j := 79) rfl
theorem iX11_layered_143 : rx_ins mX11_layered 143 = some (7, 144, 0, 0, 0, []) := rx_at tbX11_layered ndX11_layered (j := 80) rfl
theorem iX11_layered_144 : rx_ins mX11_layered 144 = some (20, 145, 0, 0, 0, []) := rx_at tbX11_layered ndX11_layered (j := 81) rfl
theorem iX11_layered_145 : rx_ins mX11_layered 145 = some (15, 148, 8, 0, 153, []) := rx_at tbX11_layered ndX11_layered (j := 82) rfl
theorem iX11_layers_0 : rx_ins mX11_layers 0 = some (2, 1, 0, 1, 0, []) := rx_at tbX11_layers ndX11_layers (j := 0) rfl
theorem iX11_layers_1 : rx_ins mX11_layers 1 = some (1, 2, 0, 0, 0, []) := rx_at tbX11_layers ndX11_layers (j := 1) rfl
theorem iX11_layers_2 : rx_ins mX11_layers 2 = some (1, 3, 1, 0, 0, []) := rx_at tbX11_layers ndX11_layers (j := 2) rfl
theorem iX11_layers_3 : rx_ins mX11_layers 3 = some (28, 6, 0, 133, 3, [(111, 198)]) := rx_at tbX11_layers ndX11_layers (j := 3) rfl
theorem iX11_layers_6 : rx_ins mX11_layers 6 = some (13, 9, 6, 1, 12, []) := rx_at tbX11_layers ndX11_layers (j := 4) rfl
theorem iX11_layers_12 : rx_ins mX11_layers 12 = some (3, 13, 0, 0, 0, []) := rx_at tbX11_layers ndX11_layers (j := 7) rfl
theorem iX11_layers_13 : rx_ins mX11_layers 13 = some (28, 16, 13, 166, 1, [(215, 226)]) := rx_at tbX11_layers ndX11_layers (j := 8) rfl
theorem iX11_layers_16 : rx_ins mX11_layers 16 = some (3, 17, 0, 0, 0, []) := rx_at tbX11_layers ndX11_layers (j := 9) rfl
theorem iX11_layers_17 : rx_ins mX11_layers 17 = some (28, 20, 13, 185, 1, [(255, 235)]) := rx_at tbX11_layers ndX11_layers (j := 10) rfl
theorem iX11_layers_20 : rx_ins mX11_layers 20 = some (3, 21, 0, 0, 0, []) := rx_at tbX11_layers ndX11_layers (j := 11) rfl
theorem iX11_layers_21 : rx_ins mX11_layers 21 = some (2, 22, 0, 1, 0, []) := rx_at tbX11_layers ndX11_layers (j := 12) rfl
theorem iX11_layers_22 : rx_ins mX11_layers 22 = some (1, 23, 1, 0, 0, []) := rx_at tbX11_layers ndX11_layers (j := 13) rfl
theorem iX11_layers_23 : rx_ins mX11_layers 23 = some (14, 26, 7, 1, 30, []) := rx_at tbX11_layers ndX11_layers (j := 14) rfl
theorem iX11_layers_30 : rx_ins mX11_layers 30 = some (1, 31, 0, 0, 0, []) := rx_at tbX11_layers ndX11_layers (j := 17) rfl
theorem iX11_layers_31 : rx_ins mX11_layers 31 = some (28, 34, 13, 201, 2, [(295, 247)]) := rx_at tbX11_layers ndX11_layers (j := 18) rfl
theorem iX11_layers_34 : rx_ins mX11_layers 34 = some (29, 35, 0, 0, 0, []) := rx_at tbX11_layers ndX11_layers (j := 19) rfl
theorem iX11_layers_26 : rx_ins mX11_layers 26 = some (1, 27, 1, 0, 0, []) := rx_at tbX11_layers ndX11_layers (j := 15) rfl
theorem iX11_layers_27 : rx_ins mX11_layers 27 = some (15, 30, 4, 0, 31, []) := rx_at tbX11_layers ndX11_layers (j := 16) rfl
theorem iX11_layers_9 : rx_ins mX11_layers 9 = some (1, 11, (-1000000001), 3, 21, [(130, 0)]) := rx_at tbX11_layers ndX11_layers (j := 5) rfl
theorem iX11_layers_11 : rx_ins mX11_layers 11 = some (29, 12, 0, 0, 0, []) := rx_at tbX11_layers ndX11_layers (j := 6) rfl
theorem iX11_findMembers_0 : rx_ins mX11_findMembers 0 = some (3, 1, 0, 0, 0, []) := rx_at tbX11_findMembers ndX11_findMembers (j := 0) rfl
theorem iX11_findMembers_1 : rx_ins mX11_findMembers 1 = some (1, 2, 0, 0, 0, []) := rx_at tbX11_findMembers ndX11_findMembers (j := 1) rfl
theorem iX11_findMembers_2 : rx_ins mX11_findMembers 2 = some (19, 5, 0, 11, 20, [(299, 142)]) := rx_at tbX11_findMembers ndX11_findMembers (j := 2) rfl
theorem iX11_findMembers_5 : rx_ins mX11_findMembers 5 = some (1, 6, 0, 0, 0, []) := rx_at tbX11_findMembers ndX11_findMembers (j := 3) rfl
theorem iX11_findMembers_6 : rx_ins mX11_findMembers 6 = some (4, 7, 0, 2, 0, []) := rx_at tbX11_findMembers ndX11_findMembers (j := 4) rfl
theorem iX11_findMembers_7 : rx_ins mX11_findMembers 7 = some (1, 8, 0, 0, 0, []) := rx_at tbX11_findMembers ndX11_findMembers (j := 5) rfl
theorem iX11_findMembers_8 : rx_ins mX11_findMembers 8 = some (4, 9, 0, 3, 0, []) := rx_at tbX11_findMembers ndX11_findMembers (j := 6) rfl
theorem iX11_findMembers_9 : rx_ins mX11_findMembers 9 = some (2, 10, 0, 3, 0, []) := rx_at tbX11_findMembers ndX11_findMembers (j := 7) rfl
theorem iX11_findMembers_10 : rx_ins mX11_findMembers 10 = some (3, 11, 0, 0, 0, []) := rx_at tbX11_findMembers ndX11_findMembers (j := 8) rfl
theorem iX11_findMembers_11 : rx_ins mX11_findMembers 11 = some (18, 14, 0, 11, 0, [(9, 124)]) := rx_at tbX11_findMembers ndX11_findMembers (j := 9) rfl
theorem iX11_findMembers_14 : rx_ins mX11_findMembers 14 = some (1, 15, 1, 0, 0, []) := rx_at tbX11_findMembers ndX11_findMembers (j := 10) rfl
theorem iX11_findMembers_15 : rx_ins mX11_findMembers 15 = some (20, 16, 0, 0, 0, []) := rx_at tbX11_findMembers ndX11_findMembers (j := 11) rfl
theorem iX11_findMembers_16 : rx_ins mX11_findMembers 16 = some (14, 19, 65, 3, 81, []) := rx_at tbX11_findMembers ndX11_findMembers (j := 12) rfl
theorem iX11_findMembers_81 : rx_ins mX11_findMembers 81 = some (30, 82, 0, 0, 0, []) := rx_at tbX11_findMembers ndX11_findMembers (j := 48) rfl
theorem iX11_findMembers_19 : rx_ins mX11_findMembers 19 = some (3, 20, 0, 0, 0, []) := rx_at tbX11_findMembers ndX11_findMembers (j := 13) rfl
theorem iX11_findMembers_20 : rx_ins mX11_findMembers 20 = some (2, 21, 0, 3, 0, []) := rx_at tbX11_findMembers ndX11_findMembers (j := 14) rfl
theorem iX11_findMembers_21 : rx_ins mX11_findMembers 21 = some (28, 24, 13, 140, 2, [(155, 210)]) := rx_at tbX11_findMembers ndX11_findMembers (j := 15) rfl
theorem iX11_findMembers_24 : rx_ins mX11_findMembers 24 = some (2, 25, 0, 1, 0, []) := rx_at tbX11_findMembers ndX11_findMembers (j := 16) rfl
theorem iX11_findMembers_25 : rx_ins mX11_findMembers 25 = some (14, 28, 23, 1, 48, []) := rx_at tbX11_findMembers ndX11_findMembers (j := 17) rfl
theorem iX11_findMembers_48 : rx_ins mX11_findMembers 48 = some (3, 49, 0, 0, 0, []) := rx_at tbX11_findMembers ndX11_findMembers (j := 30) rfl
theorem iX11_findMembers_49 : rx_ins mX11_findMembers 49 = some (3, 50, 0, 0, 0, []) := rx_at tbX11_findMembers ndX11_findMembers (j := 31) rfl
theorem iX11_findMembers_50 : rx_ins mX11_findMembers 50 = some (18, 53, 0, 11, 0, [(9, 124)]) := rx_at tbX11_findMembers ndX11_findMembers (j := 32) rfl
theorem iX11_findMembers_53 : rx_ins mX11_findMembers 53 = some (1, 55, 28, 1, 0, []) := rx_at tbX11_findMembers ndX11_findMembers (j := 33) rfl
theorem iX11_findMembers_55 : rx_ins mX11_findMembers 55 = some (2, 56, 0, 3, 0, []) := rx_at tbX11_findMembers ndX11_findMembers (j := 34) rfl
theorem iX11_findMembers_56 : rx_ins mX11_findMembers 56 = some (7, 57, 0, 0, 0, []) := rx_at tbX11_findMembers ndX11_findMembers (j := 35) rfl
theorem iX11_findMembers_57 : rx_ins mX11_findMembers 57 = some (20, 58, 0, 0, 0, []) := rx_at tbX11_findMembers ndX11_findMembers (j := 36) rfl
theorem iX11_findMembers_58 : rx_ins mX11_findMembers 58 = some (28, 61, 13, 140, 2, [(155, 210)]) := rx_at tbX11_findMembers ndX11_findMembers (j := 37) rfl
theorem iX11_findMembers_61 : rx_ins mX11_findMembers 61 = some (2, 62, 0, 1, 0, []) := rx_at tbX11_findMembers ndX11_findMembers (j := 38) rfl
theorem iX11_findMembers_62 : rx_ins mX11_findMembers 62 = some (14, 65, 13, 1, 75, []) := rx_at tbX11_findMembers ndX11_findMembers (j := 39) rfl
theorem iX11_findMembers_75 : rx_ins mX11_findMembers 75 = some (6, 78, 1, 3, 0, []) := rx_at tbX11_findMembers ndX11_findMembers (j := 46) rfl
theorem iX11_findMembers_78 : rx_ins mX11_findMembers 78 = some (15, 81, (-69), 0, 9, []) := rx_at tbX11_findMembers ndX11_findMembers (j := 47) rfl
theorem iX11_findMembers_65 : rx_ins mX11_findMembers 65 = some (3, 66, 0, 0, 0, []) := rx_at tbX11_findMembers ndX11_findMembers (j := 40) rfl
theorem iX11_findMembers_66 : rx_ins mX11_findMembers 66 = some (18, 69, 0, 11, 18, [(53, 144)]) := rx_at tbX11_findMembers ndX11_findMembers (j := 41) rfl
theorem iX11_findMembers_69 : rx_ins mX11_findMembers 69 = some (2, 70, 0, 2, 0, []) := rx_at tbX11_findMembers ndX11_findMembers (j := 42) rfl
theorem iX11_findMembers_70 : rx_ins mX11_findMembers 70 = some (2, 71, 0, 3, 0, []) := rx_at tbX11_findMembers ndX11_findMembers (j := 43) rfl
theorem iX11_findMembers_71 : rx_ins mX11_findMembers 71 = some (21, 72, 0, 0, 0, []) := rx_at tbX11_findMembers ndX11_findMembers (j := 44) rfl
theorem iX11_findMembers_72 : rx_ins mX11_findMembers 72 = some (6, 75, 1, 2, 0, []) := rx_at tbX11_findMembers ndX11_findMembers (j := 45) rfl
theorem iX11_findMembers_28 : rx_ins mX11_findMembers 28 = some (3, 29, 0, 0, 0, []) := rx_at tbX11_findMembers ndX11_findMembers (j := 18) rfl
theorem iX11_findMembers_29 : rx_ins mX11_findMembers 29 = some (18, 32, 0, 11, 17, [(50, 143)]) := rx_at tbX11_findMembers ndX11_findMembers (j := 19) rfl
theorem iX11_findMembers_32 : rx_ins mX11_findMembers 32 = some (3, 33, 0, 0, 0, []) := rx_at tbX11_findMembers ndX11_findMembers (j := 20) rfl
theorem iX11_findMembers_33 : rx_ins mX11_findMembers 33 = some (17, 36, 0, 11, 20, [(299, 142)]) := rx_at tbX11_findMembers ndX11_findMembers (j := 21) rfl
theorem iX11_findMembers_36 : rx_ins mX11_findMembers 36 = some (2, 37, 0, 3, 0, []) := rx_at tbX11_findMembers ndX11_findMembers (j := 22) rfl
theorem iX11_findMembers_37 : rx_ins mX11_findMembers 37 = some (21, 38, 0, 0, 0, []) := rx_at tbX11_findMembers ndX11_findMembers (j := 23) rfl
theorem iX11_findMembers_38 : rx_ins mX11_findMembers 38 = some (3, 39, 0, 0, 0, []) := rx_at tbX11_findMembers ndX11_findMembers (j := 24) rfl
theorem iX11_findMembers_39 : rx_ins mX11_findMembers 39 = some (10, 40, 0, 0, 0, []) := rx_at tbX11_findMembers ndX11_findMembers (j := 25) rfl
theorem iX11_findMembers_40 : rx_ins mX11_findMembers 40 = some (17, 43, 0, 11, 20, [(299, 142)]) := rx_at tbX11_findMembers ndX11_findMembers (j := 26) rfl
theorem iX11_findMembers_43 : rx_ins mX11_findMembers 43 = some (1, 44, 1, 0, 0, []) := rx_at tbX11_findMembers ndX11_findMembers (j := 27) rfl
theorem iX11_findMembers_44 : rx_ins mX11_findMembers 44 = some (7, 45, 0, 0, 0, []) := rx_at tbX11_findMembers ndX11_findMembers (j := 28) rfl
theorem iX11_findMembers_45 : rx_ins mX11_findMembers 45 = some (19, 48, 0, 11, 20, [(299, 142)]) := rx_at tbX11_findMembers ndX11_findMembers (j := 29) rfl
theorem iX11_sits_0 : rx_ins mX11_sits 0 = some (2, 1, 0, 1, 0, []) := rx_at tbX11_sits ndX11_sits (j := 0) rfl
theorem iX11_sits_1 : rx_ins mX11_sits 1 = some (4, 2, 0, 3, 0, []) := rx_at tbX11_sits ndX11_sits (j := 1) rfl
theorem iX11_sits_2 : rx_ins mX11_sits 2 = some (2, 3, 0, 2, 0, []) := rx_at tbX11_sits ndX11_sits (j := 2) rfl
theorem iX11_sits_3 : rx_ins mX11_sits 3 = some (4, 5, 1, 4, 0, []) := rx_at tbX11_sits ndX11_sits (j := 3) rfl
theorem iX11_sits_5 : rx_ins mX11_sits 5 = some (1, 6, 1, 0, 0, []) := rx_at tbX11_sits ndX11_sits (j := 4) rfl
theorem iX11_sits_6 : rx_ins mX11_sits 6 = some (3, 7, 0, 0, 0, []) := rx_at tbX11_sits ndX11_sits (j := 5) rfl
theorem iX11_sits_7 : rx_ins mX11_sits 7 = some (17, 10, 0, 11, 20, [(299, 142)]) := rx_at tbX11_sits ndX11_sits (j := 6) rfl
theorem iX11_sits_10 : rx_ins mX11_sits 10 = some (7, 11, 0, 6, 0, []) := rx_at tbX11_sits ndX11_sits (j := 7) rfl
theorem iX11_sits_11 : rx_ins mX11_sits 11 = some (1, 12, 1, 0, 0, []) := rx_at tbX11_sits ndX11_sits (j := 8) rfl
theorem iX11_sits_12 : rx_ins mX11_sits 12 = some (7, 13, 0, 1, 0, []) := rx_at tbX11_sits ndX11_sits (j := 9) rfl
theorem iX11_sits_13 : rx_ins mX11_sits 13 = some (4, 15, 1, 5, 0, []) := rx_at tbX11_sits ndX11_sits (j := 10) rfl
theorem iX11_sits_15 : rx_ins mX11_sits 15 = some (1, 16, 0, 0, 0, []) := rx_at tbX11_sits ndX11_sits (j := 11) rfl
theorem iX11_sits_16 : rx_ins mX11_sits 16 = some (4, 18, 1, 6, 0, []) := rx_at tbX11_sits ndX11_sits (j := 12) rfl
theorem iX11_sits_18 : rx_ins mX11_sits 18 = some (2, 20, 1, 6, 0, []) := rx_at tbX11_sits ndX11_sits (j := 13) rfl
theorem iX11_sits_20 : rx_ins mX11_sits 20 = some (3, 21, 0, 0, 0, []) := rx_at tbX11_sits ndX11_sits (j := 14) rfl
theorem iX11_sits_21 : rx_ins mX11_sits 21 = some (17, 24, 0, 11, 20, [(299, 142)]) := rx_at tbX11_sits ndX11_sits (j := 15) rfl
theorem iX11_sits_24 : rx_ins mX11_sits 24 = some (14, 27, 112, 3, 136, []) := rx_at tbX11_sits ndX11_sits (j := 16) rfl
theorem iX11_sits_136 : rx_ins mX11_sits 136 = some (30, 137, 0, 0, 0, []) := rx_at tbX11_sits ndX11_sits (j := 81) rfl
theorem iX11_sits_27 : rx_ins mX11_sits 27 = some (2, 29, 1, 4, 0, []) := rx_at tbX11_sits ndX11_sits (j := 17) rfl
theorem iX11_sits_29 : rx_ins mX11_sits 29 = some (3, 30, 0, 0, 0, []) := rx_at tbX11_sits ndX11_sits (j := 18) rfl
theorem iX11_sits_30 : rx_ins mX11_sits 30 = some (17, 33, 0, 11, 20, [(299, 142)]) := rx_at tbX11_sits ndX11_sits (j := 19) rfl
theorem iX11_sits_33 : rx_ins mX11_sits 33 = some (2, 35, 1, 6, 0, []) := rx_at tbX11_sits ndX11_sits (j := 20) rfl
theorem iX11_sits_35 : rx_ins mX11_sits 35 = some (7, 36, 0, 1, 0, []) := rx_at tbX11_sits ndX11_sits (j := 21) rfl
theorem iX11_sits_36 : rx_ins mX11_sits 36 = some (8, 37, 0, 0, 0, []) := rx_at tbX11_sits ndX11_sits (j := 22) rfl
theorem iX11_sits_37 : rx_ins mX11_sits 37 = some (4, 39, 1, 4, 0, []) := rx_at tbX11_sits ndX11_sits (j := 23) rfl
theorem iX11_sits_39 : rx_ins mX11_sits 39 = some (2, 40, 0, 3, 0, []) := rx_at tbX11_sits ndX11_sits (j := 24) rfl
theorem iX11_sits_40 : rx_ins mX11_sits 40 = some (2, 42, 1, 4, 0, []) := rx_at tbX11_sits ndX11_sits (j := 25) rfl
theorem iX11_sits_42 : rx_ins mX11_sits 42 = some (8, 43, 0, 0, 0, []) := rx_at tbX11_sits ndX11_sits (j := 26) rfl
theorem iX11_sits_43 : rx_ins mX11_sits 43 = some (4, 45, 1, 7, 0, []) := rx_at tbX11_sits ndX11_sits (j := 27) rfl
theorem iX11_sits_45 : rx_ins mX11_sits 45 = some (2, 46, 0, 3, 0, []) := rx_at tbX11_sits ndX11_sits (j := 28) rfl
theorem iX11_sits_46 : rx_ins mX11_sits 46 = some (2, 48, 1, 4, 0, []) := rx_at tbX11_sits ndX11_sits (j := 29) rfl
theorem iX11_sits_48 : rx_ins mX11_sits 48 = some (8, 49, 0, 1, 0, []) := rx_at tbX11_sits ndX11_sits (j := 30) rfl
theorem iX11_sits_49 : rx_ins mX11_sits 49 = some (4, 50, 0, 3, 0, []) := rx_at tbX11_sits ndX11_sits (j := 31) rfl
theorem iX11_sits_50 : rx_ins mX11_sits 50 = some (1, 51, 0, 0, 0, []) := rx_at tbX11_sits ndX11_sits (j := 32) rfl
theorem iX11_sits_51 : rx_ins mX11_sits 51 = some (4, 53, 1, 8, 0, []) := rx_at tbX11_sits ndX11_sits (j := 33) rfl
theorem iX11_sits_53 : rx_ins mX11_sits 53 = some (2, 55, 1, 5, 0, []) := rx_at tbX11_sits ndX11_sits (j := 34) rfl
theorem iX11_sits_55 : rx_ins mX11_sits 55 = some (2, 57, 1, 8, 0, []) := rx_at tbX11_sits ndX11_sits (j := 35) rfl
theorem iX11_sits_57 : rx_ins mX11_sits 57 = some (7, 58, 0, 7, 0, []) := rx_at tbX11_sits ndX11_sits (j := 36) rfl
theorem iX11_sits_58 : rx_ins mX11_sits 58 = some (1, 59, 1, 0, 0, []) := rx_at tbX11_sits ndX11_sits (j := 37) rfl
theorem iX11_sits_59 : rx_ins mX11_sits 59 = some (7, 60, 0, 3, 0, []) := rx_at tbX11_sits ndX11_sits (j := 38) rfl
theorem iX11_sits_60 : rx_ins mX11_sits 60 = some (13, 63, 8, 0, 68, []) := rx_at tbX11_sits ndX11_sits (j := 39) rfl
theorem iX11_sits_68 : rx_ins mX11_sits 68 = some (2, 70, 1, 7, 0, []) := rx_at tbX11_sits ndX11_sits (j := 42) rfl
theorem iX11_sits_70 : rx_ins mX11_sits 70 = some (2, 72, 1, 5, 0, []) := rx_at tbX11_sits ndX11_sits (j := 43) rfl
theorem iX11_sits_72 : rx_ins mX11_sits 72 = some (2, 74, 1, 8, 0, []) := rx_at tbX11_sits ndX11_sits (j := 44) rfl
theorem iX11_sits_74 : rx_ins mX11_sits 74 = some (7, 75, 0, 7, 0, []) := rx_at tbX11_sits ndX11_sits (j := 45) rfl
theorem iX11_sits_75 : rx_ins mX11_sits 75 = some (1, 76, 1, 0, 0, []) := rx_at tbX11_sits ndX11_sits (j := 46) rfl
theorem iX11_sits_76 : rx_ins mX11_sits 76 = some (7, 77, 0, 3, 0, []) := rx_at tbX11_sits ndX11_sits (j := 47) rfl
theorem iX11_sits_77 : rx_ins mX11_sits 77 = some (7, 78, 0, 1, 0, []) := rx_at tbX11_sits ndX11_sits (j := 48) rfl
theorem iX11_sits_78 : rx_ins mX11_sits 78 = some (4, 80, 1, 7, 0, []) := rx_at tbX11_sits ndX11_sits (j := 49) rfl
theorem iX11_sits_80 : rx_ins mX11_sits 80 = some (6, 83, 1, 8, 0, []) := rx_at tbX11_sits ndX11_sits (j := 50) rfl
theorem iX11_sits_83 : rx_ins mX11_sits 83 = some (15, 86, (-30), 0, 53, []) := rx_at tbX11_sits ndX11_sits (j := 51) rfl
theorem iX11_sits_63 : rx_ins mX11_sits 63 = some (2, 65, 1, 7, 0, []) := rx_at tbX11_sits ndX11_sits (j := 40) rfl
theorem iX11_sits_65 : rx_ins mX11_sits 65 = some (13, 68, 21, 5, 86, []) := rx_at tbX11_sits ndX11_sits (j := 41) rfl
theorem iX11_sits_86 : rx_ins mX11_sits 86 = some (2, 88, 1, 5, 0, []) := rx_at tbX11_sits ndX11_sits (j := 52) rfl
theorem iX11_sits_88 : rx_ins mX11_sits 88 = some (1, 89, 1, 0, 0, []) := rx_at tbX11_sits ndX11_sits (j := 53) rfl
theorem iX11_sits_89 : rx_ins mX11_sits 89 = some (2, 91, 1, 8, 0, []) := rx_at tbX11_sits ndX11_sits (j := 54) rfl
theorem iX11_sits_91 : rx_ins mX11_sits 91 = some (7, 92, 0, 6, 0, []) := rx_at tbX11_sits ndX11_sits (j := 55) rfl
theorem iX11_sits_92 : rx_ins mX11_sits 92 = some (1, 93, (-1), 0, 0, []) := rx_at tbX11_sits ndX11_sits (j := 56) rfl
theorem iX11_sits_93 : rx_ins mX11_sits 93 = some (7, 94, 0, 5, 0, []) := rx_at tbX11_sits ndX11_sits (j := 57) rfl
theorem iX11_sits_94 : rx_ins mX11_sits 94 = some (7, 95, 0, 3, 0, []) := rx_at tbX11_sits ndX11_sits (j := 58) rfl
theorem iX11_sits_95 : rx_ins mX11_sits 95 = some (4, 97, 1, 5, 0, []) := rx_at tbX11_sits ndX11_sits (j := 59) rfl
theorem iX11_sits_97 : rx_ins mX11_sits 97 = some (3, 98, 0, 0, 0, []) := rx_at tbX11_sits ndX11_sits (j := 60) rfl
theorem iX11_sits_98 : rx_ins mX11_sits 98 = some (18, 101, 0, 11, 19, [(56, 145)]) := rx_at tbX11_sits ndX11_sits (j := 61) rfl
theorem iX11_sits_101 : rx_ins mX11_sits 101 = some (2, 103, 1, 6, 0, []) := rx_at tbX11_sits ndX11_sits (j := 62) rfl
theorem iX11_sits_103 : rx_ins mX11_sits 103 = some (3, 104, 0, 0, 0, []) := rx_at tbX11_sits ndX11_sits (j := 63) rfl
theorem iX11_sits_104 : rx_ins mX11_sits 104 = some (18, 107, 0, 11, 17, [(50, 143)]) := rx_at tbX11_sits ndX11_sits (j := 64) rfl
theorem iX11_sits_107 : rx_ins mX11_sits 107 = some (2, 109, 1, 8, 0, []) := rx_at tbX11_sits ndX11_sits (j := 65) rfl
theorem iX11_sits_109 : rx_ins mX11_sits 109 = some (20, 110, 0, 0, 0, []) := rx_at tbX11_sits ndX11_sits (j := 66) rfl
theorem iX11_sits_110 : rx_ins mX11_sits 110 = some (21, 111, 0, 0, 0, []) := rx_at tbX11_sits ndX11_sits (j := 67) rfl
theorem iX11_sits_111 : rx_ins mX11_sits 111 = some (3, 112, 0, 0, 0, []) := rx_at tbX11_sits ndX11_sits (j := 68) rfl
theorem iX11_sits_112 : rx_ins mX11_sits 112 = some (18, 115, 0, 11, 10, [(32, 135)]) := rx_at tbX11_sits ndX11_sits (j := 69) rfl
theorem iX11_sits_115 : rx_ins mX11_sits 115 = some (3, 116, 0, 0, 0, []) := rx_at tbX11_sits ndX11_sits (j := 70) rfl
theorem iX11_sits_116 : rx_ins mX11_sits 116 = some (18, 119, 0, 11, 17, [(50, 143)]) := rx_at tbX11_sits ndX11_sits (j := 71) rfl
theorem iX11_sits_119 : rx_ins mX11_sits 119 = some (2, 121, 1, 8, 0, []) := rx_at tbX11_sits ndX11_sits (j := 72) rfl
theorem iX11_sits_121 : rx_ins mX11_sits 121 = some (20, 122, 0, 0, 0, []) := rx_at tbX11_sits ndX11_sits (j := 73) rfl
theorem iX11_sits_122 : rx_ins mX11_sits 122 = some (3, 123, 0, 0, 0, []) := rx_at tbX11_sits ndX11_sits (j := 74) rfl
theorem iX11_sits_123 : rx_ins mX11_sits 123 = some (18, 126, 0, 11, 18, [(53, 144)]) := rx_at tbX11_sits ndX11_sits (j := 75) rfl
theorem iX11_sits_126 : rx_ins mX11_sits 126 = some (2, 128, 1, 6, 0, []) := rx_at tbX11_sits ndX11_sits (j := 76) rfl
theorem iX11_sits_128 : rx_ins mX11_sits 128 = some (20, 129, 0, 0, 0, []) := rx_at tbX11_sits ndX11_sits (j := 77) rfl
theorem iX11_sits_129 : rx_ins mX11_sits 129 = some (21, 130, 0, 0, 0, []) := rx_at tbX11_sits ndX11_sits (j := 78) rfl
theorem iX11_sits_130 : rx_ins mX11_sits 130 = some (6, 133, 1, 6, 0, []) := rx_at tbX11_sits ndX11_sits (j := 79) rfl
theorem iX11_sits_133 : rx_ins mX11_sits 133 = some (15, 136, (-115), 0, 18, []) := rx_at tbX11_sits ndX11_sits (j := 80) rfl
theorem iX11_bestRow_0 : rx_ins mX11_bestRow 0 = some (2, 1, 0, 1, 0, []) := rx_at tbX11_bestRow ndX11_bestRow (j := 0) rfl
theorem iX11_bestRow_1 : rx_ins mX11_bestRow 1 = some (1, 2, 0, 0, 0, []) := rx_at tbX11_bestRow ndX11_bestRow (j := 1) rfl
theorem iX11_bestRow_2 : rx_ins mX11_bestRow 2 = some (1, 3, 3, 0, 0, []) := rx_at tbX11_bestRow ndX11_bestRow (j := 2) rfl
theorem iX11_bestRow_3 : rx_ins mX11_bestRow 3 = some (28, 6, 0, 133, 3, [(111, 198)]) := rx_at tbX11_bestRow ndX11_bestRow (j := 3) rfl
theorem iX11_bestRow_6 : rx_ins mX11_bestRow 6 = some (13, 9, 8, 0, 14, []) := rx_at tbX11_bestRow ndX11_bestRow (j := 4) rfl
theorem iX11_bestRow_14 : rx_ins mX11_bestRow 14 = some (1, 16, (-1000000001), 3, 21, [(130, 0)]) := rx_at tbX11_bestRow ndX11_bestRow (j := 8) rfl
theorem iX11_bestRow_16 : rx_ins mX11_bestRow 16 = some (29, 17, 0, 0, 0, []) := rx_at tbX11_bestRow ndX11_bestRow (j := 9) rfl
theorem iX11_bestRow_9 : rx_ins mX11_bestRow 9 = some (2, 10, 0, 2, 0, []) := rx_at tbX11_bestRow ndX11_bestRow (j := 5) rfl
theorem iX11_bestRow_10 : rx_ins mX11_bestRow 10 = some (1, 11, (-1), 0, 0, []) := rx_at tbX11_bestRow ndX11_bestRow (j := 6) rfl
theorem iX11_bestRow_11 : rx_ins mX11_bestRow 11 = some (14, 14, 6, 3, 17, []) := rx_at tbX11_bestRow ndX11_bestRow (j := 7) rfl
theorem iX11_bestRow_17 : rx_ins mX11_bestRow 17 = some (3, 18, 0, 0, 0, []) := rx_at tbX11_bestRow ndX11_bestRow (j := 10) rfl
theorem iX11_bestRow_18 : rx_ins mX11_bestRow 18 = some (2, 19, 0, 1, 0, []) := rx_at tbX11_bestRow ndX11_bestRow (j := 11) rfl
theorem iX11_bestRow_19 : rx_ins mX11_bestRow 19 = some (28, 22, 13, 203, 2, [(302, 248)]) := rx_at tbX11_bestRow ndX11_bestRow (j := 12) rfl
theorem iX11_bestRow_22 : rx_ins mX11_bestRow 22 = some (3, 23, 0, 0, 0, []) := rx_at tbX11_bestRow ndX11_bestRow (j := 13) rfl
theorem iX11_bestRow_23 : rx_ins mX11_bestRow 23 = some (17, 26, 0, 11, 20, [(299, 142)]) := rx_at tbX11_bestRow ndX11_bestRow (j := 14) rfl
theorem iX11_bestRow_26 : rx_ins mX11_bestRow 26 = some (1, 27, 5, 0, 0, []) := rx_at tbX11_bestRow ndX11_bestRow (j := 15) rfl
theorem iX11_bestRow_27 : rx_ins mX11_bestRow 27 = some (14, 30, 6, 5, 33, []) := rx_at tbX11_bestRow ndX11_bestRow (j := 16) rfl
theorem iX11_bestRow_33 : rx_ins mX11_bestRow 33 = some (2, 34, 0, 2, 0, []) := rx_at tbX11_bestRow ndX11_bestRow (j := 19) rfl
theorem iX11_bestRow_34 : rx_ins mX11_bestRow 34 = some (3, 35, 0, 0, 0, []) := rx_at tbX11_bestRow ndX11_bestRow (j := 20) rfl
theorem iX11_bestRow_35 : rx_ins mX11_bestRow 35 = some (17, 38, 0, 11, 20, [(299, 142)]) := rx_at tbX11_bestRow ndX11_bestRow (j := 21) rfl
theorem iX11_bestRow_38 : rx_ins mX11_bestRow 38 = some (14, 41, 6, 2, 44, []) := rx_at tbX11_bestRow ndX11_bestRow (j := 22) rfl
theorem iX11_bestRow_44 : rx_ins mX11_bestRow 44 = some (3, 45, 0, 0, 0, []) := rx_at tbX11_bestRow ndX11_bestRow (j := 25) rfl
theorem iX11_bestRow_45 : rx_ins mX11_bestRow 45 = some (28, 48, 13, 166, 1, [(215, 226)]) := rx_at tbX11_bestRow ndX11_bestRow (j := 26) rfl
theorem iX11_bestRow_48 : rx_ins mX11_bestRow 48 = some (3, 49, 0, 0, 0, []) := rx_at tbX11_bestRow ndX11_bestRow (j := 27) rfl
theorem iX11_bestRow_49 : rx_ins mX11_bestRow 49 = some (28, 52, 13, 185, 1, [(255, 235)]) := rx_at tbX11_bestRow ndX11_bestRow (j := 28) rfl
theorem iX11_bestRow_52 : rx_ins mX11_bestRow 52 = some (1, 53, 1, 0, 0, []) := rx_at tbX11_bestRow ndX11_bestRow (j := 29) rfl
theorem iX11_bestRow_53 : rx_ins mX11_bestRow 53 = some (4, 54, 0, 3, 0, []) := rx_at tbX11_bestRow ndX11_bestRow (j := 30) rfl
theorem iX11_bestRow_54 : rx_ins mX11_bestRow 54 = some (1, 55, 2, 0, 0, []) := rx_at tbX11_bestRow ndX11_bestRow (j := 31) rfl
theorem iX11_bestRow_55 : rx_ins mX11_bestRow 55 = some (4, 57, 1, 4, 0, []) := rx_at tbX11_bestRow ndX11_bestRow (j := 32) rfl
theorem iX11_bestRow_41 : rx_ins mX11_bestRow 41 = some (1, 43, (-1000000005), 3, 25, [(222, 0)]) := rx_at tbX11_bestRow ndX11_bestRow (j := 23) rfl
theorem iX11_bestRow_43 : rx_ins mX11_bestRow 43 = some (29, 44, 0, 0, 0, []) := rx_at tbX11_bestRow ndX11_bestRow (j := 24) rfl
theorem iX11_bestRow_30 : rx_ins mX11_bestRow 30 = some (1, 32, (-1000000002), 3, 22, [(134, 0)]) := rx_at tbX11_bestRow ndX11_bestRow (j := 17) rfl
theorem iX11_bestRow_32 : rx_ins mX11_bestRow 32 = some (29, 33, 0, 0, 0, []) := rx_at tbX11_bestRow ndX11_bestRow (j := 18) rfl
theorem iX11_bestRow_57 : rx_ins mX11_bestRow 57 = some (2, 59, 1, 4, 0, []) := rx_at tbX11_bestRow ndX11_bestRow (j := 33) rfl
theorem iX11_bestRow_59 : rx_ins mX11_bestRow 59 = some (3, 60, 0, 0, 0, []) := rx_at tbX11_bestRow ndX11_bestRow (j := 34) rfl
theorem iX11_bestRow_60 : rx_ins mX11_bestRow 60 = some (17, 63, 0, 11, 20, [(299, 142)]) := rx_at tbX11_bestRow ndX11_bestRow (j := 35) rfl
theorem iX11_bestRow_63 : rx_ins mX11_bestRow 63 = some (14, 66, 14, 4, 77, []) := rx_at tbX11_bestRow ndX11_bestRow (j := 36) rfl
theorem iX11_bestRow_77 : rx_ins mX11_bestRow 77 = some (1, 78, (-1), 0, 0, []) := rx_at tbX11_bestRow ndX11_bestRow (j := 43) rfl
theorem iX11_bestRow_78 : rx_ins mX11_bestRow 78 = some (4, 80, 1, 4, 0, []) := rx_at tbX11_bestRow ndX11_bestRow (j := 44) rfl
theorem iX11_bestRow_80 : rx_ins mX11_bestRow 80 = some (1, 81, 0, 0, 0, []) := rx_at tbX11_bestRow ndX11_bestRow (j := 45) rfl
theorem iX11_bestRow_81 : rx_ins mX11_bestRow 81 = some (4, 83, 1, 5, 0, []) := rx_at tbX11_bestRow ndX11_bestRow (j := 46) rfl
theorem iX11_bestRow_66 : rx_ins mX11_bestRow 66 = some (2, 67, 0, 3, 0, []) := rx_at tbX11_bestRow ndX11_bestRow (j := 37) rfl
theorem iX11_bestRow_67 : rx_ins mX11_bestRow 67 = some (2, 69, 1, 4, 0, []) := rx_at tbX11_bestRow ndX11_bestRow (j := 38) rfl
theorem iX11_bestRow_69 : rx_ins mX11_bestRow 69 = some (7, 70, 0, 2, 0, []) := rx_at tbX11_bestRow ndX11_bestRow (j := 39) rfl
theorem iX11_bestRow_70 : rx_ins mX11_bestRow 70 = some (4, 71, 0, 3, 0, []) := rx_at tbX11_bestRow ndX11_bestRow (j := 40) rfl
theorem iX11_bestRow_71 : rx_ins mX11_bestRow 71 = some (6, 74, 1, 4, 0, []) := rx_at tbX11_bestRow ndX11_bestRow (j := 41) rfl
theorem iX11_bestRow_74 : rx_ins mX11_bestRow 74 = some (15, 77, (-17), 0, 57, []) := rx_at tbX11_bestRow ndX11_bestRow (j := 42) rfl
theorem iX11_bestRow_83 : rx_ins mX11_bestRow 83 = some (2, 85, 1, 5, 0, []) := rx_at tbX11_bestRow ndX11_bestRow (j := 47) rfl
theorem iX11_bestRow_85 : rx_ins mX11_bestRow 85 = some (2, 86, 0, 3, 0, []) := rx_at tbX11_bestRow ndX11_bestRow (j := 48) rfl
theorem iX11_bestRow_86 : rx_ins mX11_bestRow 86 = some (14, 89, 71, 3, 157, []) := rx_at tbX11_bestRow ndX11_bestRow (j := 49) rfl
theorem iX11_bestRow_157 : rx_ins mX11_bestRow 157 = some (2, 158, 0, 2, 0, []) := rx_at tbX11_bestRow ndX11_bestRow (j := 83) rfl
theorem iX11_bestRow_158 : rx_ins mX11_bestRow 158 = some (13, 161, 8, 3, 166, []) := rx_at tbX11_bestRow ndX11_bestRow (j := 84) rfl
theorem iX11_bestRow_166 : rx_ins mX11_bestRow 166 = some (3, 167, 0, 0, 0, []) := rx_at tbX11_bestRow ndX11_bestRow (j := 87) rfl
theorem iX11_bestRow_167 : rx_ins mX11_bestRow 167 = some (18, 170, 0, 11, 15, [(47, 141)]) := rx_at tbX11_bestRow ndX11_bestRow (j := 88) rfl
theorem iX11_bestRow_170 : rx_ins mX11_bestRow 170 = some (2, 171, 0, 2, 0, []) := rx_at tbX11_bestRow ndX11_bestRow (j := 89) rfl
theorem iX11_bestRow_171 : rx_ins mX11_bestRow 171 = some (20, 172, 0, 0, 0, []) := rx_at tbX11_bestRow ndX11_bestRow (j := 90) rfl
theorem iX11_bestRow_172 : rx_ins mX11_bestRow 172 = some (29, 173, 0, 0, 0, []) := rx_at tbX11_bestRow ndX11_bestRow (j := 91) rfl
theorem iX11_bestRow_161 : rx_ins mX11_bestRow 161 = some (2, 163, 1, 4, 0, []) := rx_at tbX11_bestRow ndX11_bestRow (j := 85) rfl
theorem iX11_bestRow_163 : rx_ins mX11_bestRow 163 = some (15, 166, 9, 0, 172, []) := rx_at tbX11_bestRow ndX11_bestRow (j := 86) rfl
theorem iX11_bestRow_89 : rx_ins mX11_bestRow 89 = some (3, 90, 0, 0, 0, []) := rx_at tbX11_bestRow ndX11_bestRow (j := 50) rfl
theorem iX11_bestRow_90 : rx_ins mX11_bestRow 90 = some (2, 92, 1, 5, 0, []) := rx_at tbX11_bestRow ndX11_bestRow (j := 51) rfl
theorem iX11_bestRow_92 : rx_ins mX11_bestRow 92 = some (2, 93, 0, 3, 0, []) := rx_at tbX11_bestRow ndX11_bestRow (j := 52) rfl
theorem iX11_bestRow_93 : rx_ins mX11_bestRow 93 = some (28, 96, 13, 204, 3, [(306, 249)]) := rx_at tbX11_bestRow ndX11_bestRow (j := 53) rfl
theorem iX11_bestRow_96 : rx_ins mX11_bestRow 96 = some (3, 97, 0, 0, 0, []) := rx_at tbX11_bestRow ndX11_bestRow (j := 54) rfl
theorem iX11_bestRow_97 : rx_ins mX11_bestRow 97 = some (1, 98, 1, 0, 0, []) := rx_at tbX11_bestRow ndX11_bestRow (j := 55) rfl
theorem iX11_bestRow_98 : rx_ins mX11_bestRow 98 = some (28, 101, 13, 201, 2, [(295, 247)]) := rx_at tbX11_bestRow ndX11_bestRow (j := 56) rfl
theorem iX11_bestRow_101 : rx_ins mX11_bestRow 101 = some (4, 103, 1, 6, 0, []) := rx_at tbX11_bestRow ndX11_bestRow (j := 57) rfl
theorem iX11_bestRow_103 : rx_ins mX11_bestRow 103 = some (2, 105, 1, 4, 0, []) := rx_at tbX11_bestRow ndX11_bestRow (j := 58) rfl
theorem iX11_bestRow_105 : rx_ins mX11_bestRow 105 = some (13, 108, 10, 2, 115, []) := rx_at tbX11_bestRow ndX11_bestRow (j := 59) rfl
theorem iX11_bestRow_108 : rx_ins mX11_bestRow 108 = some (2, 110, 1, 6, 0, []) := rx_at tbX11_bestRow ndX11_bestRow (j := 60) rfl
theorem iX11_bestRow_110 : rx_ins mX11_bestRow 110 = some (2, 112, 1, 4, 0, []) := rx_at tbX11_bestRow ndX11_bestRow (j := 61) rfl
theorem iX11_bestRow_112 : rx_ins mX11_bestRow 112 = some (14, 115, 39, 3, 151, []) := rx_at tbX11_bestRow ndX11_bestRow (j := 62) rfl
theorem iX11_bestRow_115 : rx_ins mX11_bestRow 115 = some (2, 117, 1, 6, 0, []) := rx_at tbX11_bestRow ndX11_bestRow (j := 63) rfl
theorem iX11_bestRow_117 : rx_ins mX11_bestRow 117 = some (4, 119, 1, 4, 0, []) := rx_at tbX11_bestRow ndX11_bestRow (j := 64) rfl
theorem iX11_bestRow_119 : rx_ins mX11_bestRow 119 = some (1, 120, 0, 0, 0, []) := rx_at tbX11_bestRow ndX11_bestRow (j := 65) rfl
theorem iX11_bestRow_120 : rx_ins mX11_bestRow 120 = some (4, 122, 1, 7, 0, []) := rx_at tbX11_bestRow ndX11_bestRow (j := 66) rfl
theorem iX11_bestRow_151 : rx_ins mX11_bestRow 151 = some (6, 154, 1, 5, 0, []) := rx_at tbX11_bestRow ndX11_bestRow (j := 81) rfl
theorem iX11_bestRow_154 : rx_ins mX11_bestRow 154 = some (15, 157, (-71), 0, 83, []) := rx_at tbX11_bestRow ndX11_bestRow (j := 82) rfl
theorem iX11_bestRow_122 : rx_ins mX11_bestRow 122 = some (2, 124, 1, 7, 0, []) := rx_at tbX11_bestRow ndX11_bestRow (j := 67) rfl
theorem iX11_bestRow_124 : rx_ins mX11_bestRow 124 = some (3, 125, 0, 0, 0, []) := rx_at tbX11_bestRow ndX11_bestRow (j := 68) rfl
theorem iX11_bestRow_125 : rx_ins mX11_bestRow 125 = some (17, 128, 0, 11, 20, [(299, 142)]) := rx_at tbX11_bestRow ndX11_bestRow (j := 69) rfl
theorem iX11_bestRow_128 : rx_ins mX11_bestRow 128 = some (14, 131, 23, 3, 151, []) := rx_at tbX11_bestRow ndX11_bestRow (j := 70) rfl
theorem iX11_bestRow_131 : rx_ins mX11_bestRow 131 = some (3, 132, 0, 0, 0, []) := rx_at tbX11_bestRow ndX11_bestRow (j := 71) rfl
theorem iX11_bestRow_132 : rx_ins mX11_bestRow 132 = some (18, 135, 0, 11, 15, [(47, 141)]) := rx_at tbX11_bestRow ndX11_bestRow (j := 72) rfl
theorem iX11_bestRow_135 : rx_ins mX11_bestRow 135 = some (2, 137, 1, 7, 0, []) := rx_at tbX11_bestRow ndX11_bestRow (j := 73) rfl
theorem iX11_bestRow_137 : rx_ins mX11_bestRow 137 = some (3, 138, 0, 0, 0, []) := rx_at tbX11_bestRow ndX11_bestRow (j := 74) rfl
theorem iX11_bestRow_138 : rx_ins mX11_bestRow 138 = some (18, 141, 0, 11, 19, [(56, 145)]) := rx_at tbX11_bestRow ndX11_bestRow (j := 75) rfl
theorem iX11_bestRow_141 : rx_ins mX11_bestRow 141 = some (2, 143, 1, 7, 0, []) := rx_at tbX11_bestRow ndX11_bestRow (j := 76) rfl
theorem iX11_bestRow_143 : rx_ins mX11_bestRow 143 = some (20, 144, 0, 0, 0, []) := rx_at tbX11_bestRow ndX11_bestRow (j := 77) rfl
theorem iX11_bestRow_144 : rx_ins mX11_bestRow 144 = some (21, 145, 0, 0, 0, []) := rx_at tbX11_bestRow ndX11_bestRow (j := 78) rfl
theorem iX11_bestRow_145 : rx_ins mX11_bestRow 145 = some (6, 148, 1, 7, 0, []) := rx_at tbX11_bestRow ndX11_bestRow (j := 79) rfl
theorem iX11_bestRow_148 : rx_ins mX11_bestRow 148 = some (15, 151, (-26), 0, 122, []) := rx_at tbX11_bestRow ndX11_bestRow (j := 80) rfl
theorem iX11_draw_0 : rx_ins mX11_draw 0 = some (3, 1, 0, 0, 0, []) := rx_at tbX11_draw ndX11_draw (j := 0) rfl
theorem iX11_draw_1 : rx_ins mX11_draw 1 = some (18, 4, 0, 11, 0, [(9, 124)]) := rx_at tbX11_draw ndX11_draw (j := 1) rfl
theorem iX11_draw_4 : rx_ins mX11_draw 4 = some (1, 5, 0, 0, 0, []) := rx_at tbX11_draw ndX11_draw (j := 2) rfl
theorem iX11_draw_5 : rx_ins mX11_draw 5 = some (3, 6, 0, 0, 0, []) := rx_at tbX11_draw ndX11_draw (j := 3) rfl
theorem iX11_draw_6 : rx_ins mX11_draw 6 = some (18, 9, 0, 11, 0, [(9, 124)]) := rx_at tbX11_draw ndX11_draw (j := 4) rfl
theorem iX11_draw_9 : rx_ins mX11_draw 9 = some (1, 10, 0, 0, 0, []) := rx_at tbX11_draw ndX11_draw (j := 5) rfl
theorem iX11_draw_10 : rx_ins mX11_draw 10 = some (20, 11, 0, 0, 0, []) := rx_at tbX11_draw ndX11_draw (j := 6) rfl
theorem iX11_draw_11 : rx_ins mX11_draw 11 = some (1, 14, 1103515245, 4, 28, [(309, 0)]) := rx_at tbX11_draw ndX11_draw (j := 7) rfl
theorem iX11_draw_14 : rx_ins mX11_draw 14 = some (7, 15, 0, 2, 0, []) := rx_at tbX11_draw ndX11_draw (j := 8) rfl
theorem iX11_draw_15 : rx_ins mX11_draw 15 = some (1, 18, 12345, 2, 0, []) := rx_at tbX11_draw ndX11_draw (j := 9) rfl
theorem iX11_draw_18 : rx_ins mX11_draw 18 = some (7, 19, 0, 0, 0, []) := rx_at tbX11_draw ndX11_draw (j := 10) rfl
theorem iX11_draw_19 : rx_ins mX11_draw 19 = some (21, 20, 0, 0, 0, []) := rx_at tbX11_draw ndX11_draw (j := 11) rfl
theorem iX11_draw_20 : rx_ins mX11_draw 20 = some (3, 21, 0, 0, 0, []) := rx_at tbX11_draw ndX11_draw (j := 12) rfl
theorem iX11_draw_21 : rx_ins mX11_draw 21 = some (18, 24, 0, 11, 0, [(9, 124)]) := rx_at tbX11_draw ndX11_draw (j := 13) rfl
theorem iX11_draw_24 : rx_ins mX11_draw 24 = some (1, 25, 0, 0, 0, []) := rx_at tbX11_draw ndX11_draw (j := 14) rfl
theorem iX11_draw_25 : rx_ins mX11_draw 25 = some (20, 26, 0, 0, 0, []) := rx_at tbX11_draw ndX11_draw (j := 15) rfl
theorem iX11_draw_26 : rx_ins mX11_draw 26 = some (1, 28, 8, 1, 0, []) := rx_at tbX11_draw ndX11_draw (j := 16) rfl
theorem iX11_draw_28 : rx_ins mX11_draw 28 = some (7, 29, 0, 8, 0, []) := rx_at tbX11_draw ndX11_draw (j := 17) rfl
theorem iX11_draw_29 : rx_ins mX11_draw 29 = some (29, 30, 0, 0, 0, []) := rx_at tbX11_draw ndX11_draw (j := 18) rfl
theorem iX11_drawsPost_0 : rx_ins mX11_drawsPost 0 = some (3, 1, 0, 0, 0, []) := rx_at tbX11_drawsPost ndX11_drawsPost (j := 0) rfl
theorem iX11_drawsPost_1 : rx_ins mX11_drawsPost 1 = some (28, 4, 13, 206, 1, [(310, 250)]) := rx_at tbX11_drawsPost ndX11_drawsPost (j := 1) rfl
theorem iX11_drawsPost_4 : rx_ins mX11_drawsPost 4 = some (1, 6, 100, 1, 0, []) := rx_at tbX11_drawsPost ndX11_drawsPost (j := 2) rfl
theorem iX11_drawsPost_6 : rx_ins mX11_drawsPost 6 = some (8, 7, 0, 1, 0, []) := rx_at tbX11_drawsPost ndX11_drawsPost (j := 3) rfl
theorem iX11_drawsPost_7 : rx_ins mX11_drawsPost 7 = some (4, 8, 0, 1, 0, []) := rx_at tbX11_drawsPost ndX11_drawsPost (j := 4) rfl
theorem iX11_drawsPost_8 : rx_ins mX11_drawsPost 8 = some (3, 9, 0, 0, 0, []) := rx_at tbX11_drawsPost ndX11_drawsPost (j := 5) rfl
theorem iX11_drawsPost_9 : rx_ins mX11_drawsPost 9 = some (28, 12, 13, 206, 1, [(310, 250)]) := rx_at tbX11_drawsPost ndX11_drawsPost (j := 6) rfl
theorem iX11_drawsPost_12 : rx_ins mX11_drawsPost 12 = some (1, 14, 100, 1, 0, []) := rx_at tbX11_drawsPost ndX11_drawsPost (j := 7) rfl
theorem iX11_drawsPost_14 : rx_ins mX11_drawsPost 14 = some (8, 15, 0, 1, 0, []) := rx_at tbX11_drawsPost ndX11_drawsPost (j := 8) rfl
theorem iX11_drawsPost_15 : rx_ins mX11_drawsPost 15 = some (4, 16, 0, 2, 0, []) := rx_at tbX11_drawsPost ndX11_drawsPost (j := 9) rfl
theorem iX11_drawsPost_16 : rx_ins mX11_drawsPost 16 = some (3, 17, 0, 0, 0, []) := rx_at tbX11_drawsPost ndX11_drawsPost (j := 10) rfl
theorem iX11_drawsPost_17 : rx_ins mX11_drawsPost 17 = some (18, 20, 0, 11, 0, [(9, 124)]) := rx_at tbX11_drawsPost ndX11_drawsPost (j := 11) rfl
theorem iX11_drawsPost_20 : rx_ins mX11_drawsPost 20 = some (1, 21, 1, 0, 0, []) := rx_at tbX11_drawsPost ndX11_drawsPost (j := 12) rfl
theorem iX11_drawsPost_21 : rx_ins mX11_drawsPost 21 = some (20, 22, 0, 0, 0, []) := rx_at tbX11_drawsPost ndX11_drawsPost (j := 13) rfl
theorem iX11_drawsPost_22 : rx_ins mX11_drawsPost 22 = some (1, 24, 8, 1, 0, []) := rx_at tbX11_drawsPost ndX11_drawsPost (j := 14) rfl
theorem iX11_drawsPost_24 : rx_ins mX11_drawsPost 24 = some (14, 27, 25, 3, 49, []) := rx_at tbX11_drawsPost ndX11_drawsPost (j := 15) rfl
theorem iX11_drawsPost_49 : rx_ins mX11_drawsPost 49 = some (1, 50, 0, 0, 0, []) := rx_at tbX11_drawsPost ndX11_drawsPost (j := 28) rfl
theorem iX11_drawsPost_50 : rx_ins mX11_drawsPost 50 = some (29, 51, 0, 0, 0, []) := rx_at tbX11_drawsPost ndX11_drawsPost (j := 29) rfl
theorem iX11_drawsPost_27 : rx_ins mX11_drawsPost 27 = some (3, 28, 0, 0, 0, []) := rx_at tbX11_drawsPost ndX11_drawsPost (j := 16) rfl
theorem iX11_drawsPost_28 : rx_ins mX11_drawsPost 28 = some (2, 29, 0, 1, 0, []) := rx_at tbX11_drawsPost ndX11_drawsPost (j := 17) rfl
theorem iX11_drawsPost_29 : rx_ins mX11_drawsPost 29 = some (2, 30, 0, 2, 0, []) := rx_at tbX11_drawsPost ndX11_drawsPost (j := 18) rfl
theorem iX11_drawsPost_30 : rx_ins mX11_drawsPost 30 = some (28, 33, 13, 144, 3, [(131, 203)]) := rx_at tbX11_drawsPost ndX11_drawsPost (j := 19) rfl
theorem iX11_drawsPost_33 : rx_ins mX11_drawsPost 33 = some (13, 36, 16, 3, 49, []) := rx_at tbX11_drawsPost ndX11_drawsPost (j := 20) rfl
theorem iX11_drawsPost_36 : rx_ins mX11_drawsPost 36 = some (3, 37, 0, 0, 0, []) := rx_at tbX11_drawsPost ndX11_drawsPost (j := 21) rfl
theorem iX11_drawsPost_37 : rx_ins mX11_drawsPost 37 = some (2, 38, 0, 1, 0, []) := rx_at tbX11_drawsPost ndX11_drawsPost (j := 22) rfl
theorem iX11_drawsPost_38 : rx_ins mX11_drawsPost 38 = some (2, 39, 0, 2, 0, []) := rx_at tbX11_drawsPost ndX11_drawsPost (j := 23) rfl
theorem iX11_drawsPost_39 : rx_ins mX11_drawsPost 39 = some (28, 42, 13, 146, 3, [(136, 204)]) := rx_at tbX11_drawsPost ndX11_drawsPost (j := 24) rfl
theorem iX11_drawsPost_42 : rx_ins mX11_drawsPost 42 = some (13, 45, 7, 2, 49, []) := rx_at tbX11_drawsPost ndX11_drawsPost (j := 25) rfl
theorem iX11_drawsPost_45 : rx_ins mX11_drawsPost 45 = some (1, 46, 1, 0, 0, []) := rx_at tbX11_drawsPost ndX11_drawsPost (j := 26) rfl
theorem iX11_drawsPost_46 : rx_ins mX11_drawsPost 46 = some (15, 49, 4, 0, 50, []) := rx_at tbX11_drawsPost ndX11_drawsPost (j := 27) rfl
theorem iX11_drawsRoad_0 : rx_ins mX11_drawsRoad 0 = some (3, 1, 0, 0, 0, []) := rx_at tbX11_drawsRoad ndX11_drawsRoad (j := 0) rfl
theorem iX11_drawsRoad_1 : rx_ins mX11_drawsRoad 1 = some (28, 4, 13, 206, 1, [(310, 250)]) := rx_at tbX11_drawsRoad ndX11_drawsRoad (j := 1) rfl
theorem iX11_drawsRoad_4 : rx_ins mX11_drawsRoad 4 = some (3, 5, 0, 0, 0, []) := rx_at tbX11_drawsRoad ndX11_drawsRoad (j := 2) rfl
theorem iX11_drawsRoad_5 : rx_ins mX11_drawsRoad 5 = some (18, 8, 0, 11, 0, [(9, 124)]) := rx_at tbX11_drawsRoad ndX11_drawsRoad (j := 3) rfl
theorem iX11_drawsRoad_8 : rx_ins mX11_drawsRoad 8 = some (1, 9, 1, 0, 0, []) := rx_at tbX11_drawsRoad ndX11_drawsRoad (j := 4) rfl
theorem iX11_drawsRoad_9 : rx_ins mX11_drawsRoad 9 = some (20, 10, 0, 0, 0, []) := rx_at tbX11_drawsRoad ndX11_drawsRoad (j := 5) rfl
theorem iX11_drawsRoad_10 : rx_ins mX11_drawsRoad 10 = some (8, 11, 0, 1, 0, []) := rx_at tbX11_drawsRoad ndX11_drawsRoad (j := 6) rfl
theorem iX11_drawsRoad_11 : rx_ins mX11_drawsRoad 11 = some (4, 12, 0, 1, 0, []) := rx_at tbX11_drawsRoad ndX11_drawsRoad (j := 7) rfl
theorem iX11_drawsRoad_12 : rx_ins mX11_drawsRoad 12 = some (3, 13, 0, 0, 0, []) := rx_at tbX11_drawsRoad ndX11_drawsRoad (j := 8) rfl
theorem iX11_drawsRoad_13 : rx_ins mX11_drawsRoad 13 = some (28, 16, 13, 206, 1, [(310, 250)]) := rx_at tbX11_drawsRoad ndX11_drawsRoad (j := 9) rfl
theorem iX11_drawsRoad_16 : rx_ins mX11_drawsRoad 16 = some (3, 17, 0, 0, 0, []) := rx_at tbX11_drawsRoad ndX11_drawsRoad (j := 10) rfl
theorem iX11_drawsRoad_17 : rx_ins mX11_drawsRoad 17 = some (18, 20, 0, 11, 0, [(9, 124)]) := rx_at tbX11_drawsRoad ndX11_drawsRoad (j := 11) rfl
theorem iX11_drawsRoad_20 : rx_ins mX11_drawsRoad 20 = some (1, 21, 1, 0, 0, []) := rx_at tbX11_drawsRoad ndX11_drawsRoad (j := 12) rfl
theorem iX11_drawsRoad_21 : rx_ins mX11_drawsRoad 21 = some (20, 22, 0, 0, 0, []) := rx_at tbX11_drawsRoad ndX11_drawsRoad (j := 13) rfl
theorem iX11_drawsRoad_22 : rx_ins mX11_drawsRoad 22 = some (8, 23, 0, 1, 0, []) := rx_at tbX11_drawsRoad ndX11_drawsRoad (j := 14) rfl
theorem iX11_drawsRoad_23 : rx_ins mX11_drawsRoad 23 = some (4, 24, 0, 2, 0, []) := rx_at tbX11_drawsRoad ndX11_drawsRoad (j := 15) rfl
theorem iX11_drawsRoad_24 : rx_ins mX11_drawsRoad 24 = some (2, 25, 0, 1, 0, []) := rx_at tbX11_drawsRoad ndX11_drawsRoad (j := 16) rfl
theorem iX11_drawsRoad_25 : rx_ins mX11_drawsRoad 25 = some (2, 26, 0, 2, 0, []) := rx_at tbX11_drawsRoad ndX11_drawsRoad (j := 17) rfl
theorem iX11_drawsRoad_26 : rx_ins mX11_drawsRoad 26 = some (14, 29, 23, 0, 49, []) := rx_at tbX11_drawsRoad ndX11_drawsRoad (j := 18) rfl
theorem iX11_drawsRoad_49 : rx_ins mX11_drawsRoad 49 = some (1, 50, 0, 0, 0, []) := rx_at tbX11_drawsRoad ndX11_drawsRoad (j := 30) rfl
theorem iX11_drawsRoad_50 : rx_ins mX11_drawsRoad 50 = some (29, 51, 0, 0, 0, []) := rx_at tbX11_drawsRoad ndX11_drawsRoad (j := 31) rfl
theorem iX11_drawsRoad_29 : rx_ins mX11_drawsRoad 29 = some (3, 30, 0, 0, 0, []) := rx_at tbX11_drawsRoad ndX11_drawsRoad (j := 19) rfl
theorem iX11_drawsRoad_30 : rx_ins mX11_drawsRoad 30 = some (2, 31, 0, 1, 0, []) := rx_at tbX11_drawsRoad ndX11_drawsRoad (j := 20) rfl
theorem iX11_drawsRoad_31 : rx_ins mX11_drawsRoad 31 = some (2, 32, 0, 2, 0, []) := rx_at tbX11_drawsRoad ndX11_drawsRoad (j := 21) rfl
theorem iX11_drawsRoad_32 : rx_ins mX11_drawsRoad 32 = some (28, 35, 13, 153, 3, [(158, 211)]) := rx_at tbX11_drawsRoad ndX11_drawsRoad (j := 22) rfl
theorem iX11_drawsRoad_35 : rx_ins mX11_drawsRoad 35 = some (13, 38, 14, 1, 49, []) := rx_at tbX11_drawsRoad ndX11_drawsRoad (j := 23) rfl
theorem iX11_drawsRoad_38 : rx_ins mX11_drawsRoad 38 = some (3, 39, 0, 0, 0, []) := rx_at tbX11_drawsRoad ndX11_drawsRoad (j := 24) rfl
theorem iX11_drawsRoad_39 : rx_ins mX11_drawsRoad 39 = some (18, 42, 0, 11, 0, [(9, 124)]) := rx_at tbX11_drawsRoad ndX11_drawsRoad (j := 25) rfl
theorem iX11_drawsRoad_42 : rx_ins mX11_drawsRoad 42 = some (1, 43, 2, 0, 0, []) := rx_at tbX11_drawsRoad ndX11_drawsRoad (j := 26) rfl
theorem iX11_drawsRoad_43 : rx_ins mX11_drawsRoad 43 = some (20, 44, 0, 0, 0, []) := rx_at tbX11_drawsRoad ndX11_drawsRoad (j := 27) rfl
theorem iX11_drawsRoad_44 : rx_ins mX11_drawsRoad 44 = some (1, 46, 18, 1, 0, []) := rx_at tbX11_drawsRoad ndX11_drawsRoad (j := 28) rfl
theorem iX11_drawsRoad_46 : rx_ins mX11_drawsRoad 46 = some (14, 49, 5, 1, 51, []) := rx_at tbX11_drawsRoad ndX11_drawsRoad (j := 29) rfl
theorem iX11_drawsRoad_51 : rx_ins mX11_drawsRoad 51 = some (3, 52, 0, 0, 0, []) := rx_at tbX11_drawsRoad ndX11_drawsRoad (j := 32) rfl
theorem iX11_drawsRoad_52 : rx_ins mX11_drawsRoad 52 = some (1, 53, 0, 0, 0, []) := rx_at tbX11_drawsRoad ndX11_drawsRoad (j := 33) rfl
theorem iX11_drawsRoad_53 : rx_ins mX11_drawsRoad 53 = some (2, 54, 0, 1, 0, []) := rx_at tbX11_drawsRoad ndX11_drawsRoad (j := 34) rfl
theorem iX11_drawsRoad_54 : rx_ins mX11_drawsRoad 54 = some (2, 55, 0, 2, 0, []) := rx_at tbX11_drawsRoad ndX11_drawsRoad (j := 35) rfl
theorem iX11_drawsRoad_55 : rx_ins mX11_drawsRoad 55 = some (1, 56, 1, 0, 0, []) := rx_at tbX11_drawsRoad ndX11_drawsRoad (j := 36) rfl
theorem iX11_drawsRoad_56 : rx_ins mX11_drawsRoad 56 = some (3, 57, 0, 0, 0, []) := rx_at tbX11_drawsRoad ndX11_drawsRoad (j := 37) rfl
theorem iX11_drawsRoad_57 : rx_ins mX11_drawsRoad 57 = some (28, 60, 13, 206, 1, [(310, 250)]) := rx_at tbX11_drawsRoad ndX11_drawsRoad (j := 38) rfl
theorem iX11_drawsRoad_60 : rx_ins mX11_drawsRoad 60 = some (1, 62, 9, 1, 0, []) := rx_at tbX11_drawsRoad ndX11_drawsRoad (j := 39) rfl
theorem iX11_drawsRoad_62 : rx_ins mX11_drawsRoad 62 = some (8, 63, 0, 1, 0, []) := rx_at tbX11_drawsRoad ndX11_drawsRoad (j := 40) rfl
theorem iX11_drawsRoad_63 : rx_ins mX11_drawsRoad 63 = some (7, 64, 0, 0, 0, []) := rx_at tbX11_drawsRoad ndX11_drawsRoad (j := 41) rfl
theorem iX11_drawsRoad_64 : rx_ins mX11_drawsRoad 64 = some (28, 67, 13, 154, 5, [(161, 212)]) := rx_at tbX11_drawsRoad ndX11_drawsRoad (j := 42) rfl
theorem iX11_drawsRoad_67 : rx_ins mX11_drawsRoad 67 = some (13, 70, 7, 2, 74, []) := rx_at tbX11_drawsRoad ndX11_drawsRoad (j := 43) rfl
theorem iX11_drawsRoad_74 : rx_ins mX11_drawsRoad 74 = some (1, 75, 0, 0, 0, []) := rx_at tbX11_drawsRoad ndX11_drawsRoad (j := 46) rfl
theorem iX11_drawsRoad_75 : rx_ins mX11_drawsRoad 75 = some (29, 76, 0, 0, 0, []) := rx_at tbX11_drawsRoad ndX11_drawsRoad (j := 47) rfl
theorem iX11_drawsRoad_70 : rx_ins mX11_drawsRoad 70 = some (1, 71, 1, 0, 0, []) := rx_at tbX11_drawsRoad ndX11_drawsRoad (j := 44) rfl
theorem iX11_drawsRoad_71 : rx_ins mX11_drawsRoad 71 = some (15, 74, 4, 0, 75, []) := rx_at tbX11_drawsRoad ndX11_drawsRoad (j := 45) rfl
set_option maxRecDepth 20000 in
set_option maxHeartbeats 4000000 in
theorem bX11_cross (L d : Nat) (x1 : Int) (x2 : Int) (σ : rx_St) (K : Int → rx_St → Prop)
    (H : rx_CI L d mX11_isRoad [.inr 125, .inl x1] σ (fun v2 σ1 => if v2 = 0 then (K (-1000000001) σ1) else (rx_CI L d mX11_isRoad [.inr 125, .inl x2] σ1 (fun v5 σ4 => if v5 = 0 then (K (-1000000001) σ4) else (if x1 ≠ x2 then (rx_CI L d mX11_doCross [.inr 125, .inl x1, .inl x2] σ4 (fun v9 σ8 => if v9 = 0 then (K 0 σ8) else (K 1 σ8))) else (K (-1000000001) σ4)))))) :
    rx_CI L (d + 1) mX11_cross [.inr 125, .inl x1, .inl x2] σ K := by
  refine rx_CI.of (la := [some (.inr 125), some (.inl x1), some (.inl x2)]) rfl ?_
  refine g_al iX11_cross_0 rfl ?_
  refine g_il iX11_cross_1 rfl ?_
  refine g_ci (as := [.inr 125, .inl x1]) (rest := []) iX11_cross_2 rfl rfl (Nat.le_of_ble_eq_true rfl) (Or.inr ⟨_, _, rfl, oo_11_125⟩) (rx_CI.imp H (fun v2 σ1 H => ?_))
  by_cases c3 : v2 = 0
  · rw [if_pos c3] at H
    refine g_if0t iX11_cross_5 c3 ?_
    refine g_c iX11_cross_21 ?_
    exact g_ri iX11_cross_23 (Or.inl rfl) H
  · rw [if_neg c3] at H
    refine g_if0f iX11_cross_5 c3 ?_
    refine g_al iX11_cross_8 rfl ?_
    refine g_il iX11_cross_9 rfl ?_
    refine g_ci (as := [.inr 125, .inl x2]) (rest := []) iX11_cross_10 rfl rfl (Nat.le_of_ble_eq_true rfl) (Or.inr ⟨_, _, rfl, oo_11_125⟩) (rx_CI.imp H (fun v5 σ4 H => ?_))
    by_cases c6 : v5 = 0
    · rw [if_pos c6] at H
      refine g_if0t iX11_cross_13 c6 ?_
      refine g_c iX11_cross_21 ?_
      exact g_ri iX11_cross_23 (Or.inl rfl) H
    · rw [if_neg c6] at H
      refine g_if0f iX11_cross_13 c6 ?_
      refine g_il iX11_cross_16 rfl ?_
      refine g_il iX11_cross_17 rfl ?_
      by_cases c7 : x1 ≠ x2
      · rw [if_pos c7] at H
        refine g_ic1t iX11_cross_18 c7 ?_
        refine g_al iX11_cross_24 rfl ?_
        refine g_il iX11_cross_25 rfl ?_
        refine g_il iX11_cross_26 rfl ?_
        refine g_ci (as := [.inr 125, .inl x1, .inl x2]) (rest := []) iX11_cross_27 rfl rfl (Nat.le_of_ble_eq_true rfl) (Or.inr ⟨_, _, rfl, oo_11_125⟩) (rx_CI.imp H (fun v9 σ8 H => ?_))
        by_cases c10 : v9 = 0
        · rw [if_pos c10] at H
          refine g_if0t iX11_cross_30 c10 ?_
          refine g_c iX11_cross_37 ?_
          exact g_ri iX11_cross_38 (Or.inl rfl) H
        · rw [if_neg c10] at H
          refine g_if0f iX11_cross_30 c10 ?_
          refine g_c iX11_cross_33 ?_
          refine g_goto iX11_cross_34 ?_
          exact g_ri iX11_cross_38 (Or.inl rfl) H
      · rw [if_neg c7] at H
        refine g_ic1f iX11_cross_18 c7 ?_
        refine g_c iX11_cross_21 ?_
        exact g_ri iX11_cross_23 (Or.inl rfl) H
set_option maxRecDepth 20000 in
set_option maxHeartbeats 4000000 in
theorem bX11_straightly (L d : Nat) (x1 : Int) (x2 : Int) (σ : rx_St) (K : Int → rx_St → Prop)
    (H : rx_Go L (d + 1) mX11_straightly 5 [some (.inr 125), some (.inl x1), some (.inl x2), some (.inl 0), some (.inl 0), none, none] [] σ (rx_PI K)) :
    rx_CI L (d + 1) mX11_straightly [.inr 125, .inl x1, .inl x2] σ K := by
  refine rx_CI.of (la := [some (.inr 125), some (.inl x1), some (.inl x2), none, none, none, none]) rfl ?_
  refine g_c iX11_straightly_0 ?_
  refine g_is iX11_straightly_1 (Nat.le_of_ble_eq_true rfl) ?_
  refine rx_Go.ls (la := [some (.inr 125), some (.inl x1), some (.inl x2), some (.inl 0), none, none, none]) rfl ?_
  refine g_c iX11_straightly_2 ?_
  refine g_is iX11_straightly_3 (Nat.le_of_ble_eq_true rfl) ?_
  refine rx_Go.ls (la := [some (.inr 125), some (.inl x1), some (.inl x2), some (.inl 0), some (.inl 0), none, none]) rfl ?_
  exact H
set_option maxRecDepth 20000 in
set_option maxHeartbeats 4000000 in
theorem bX11_straightly_5 (L d : Nat) (x1 : Int) (x2 : Int) (x3 : Int) (x4 : Int) (q5 : Option rx_V) (q6 : Option rx_V) (σ : rx_St) (K : Int → rx_St → Prop)
    (H : if (σ 126 2) ≤ x4 then (K x3 σ) else (rx_Go L (d + 1) mX11_straightly 22 [some (.inr 125), some (.inl x1), some (.inl x2), some (.inl x3), some (.inl x4), some (.inl (rx_w (x4 + 1))), q6] [] σ (rx_PI K))) :
    rx_Go L (d + 1) mX11_straightly 5 [some (.inr 125), some (.inl x1), some (.inl x2), some (.inl x3), some (.inl x4), q5, q6] [] σ (rx_PI K) := by
  refine g_il iX11_straightly_5 rfl ?_
  refine g_al iX11_straightly_7 rfl ?_
  refine g_gr iX11_straightly_8 fr_11_0_125 ?_
  refine g_c iX11_straightly_11 ?_
  refine g_ld iX11_straightly_12 (ln_126 L) (by decide) ?_
  by_cases c1 : (σ 126 2) ≤ x4
  · rw [if_pos c1] at H
    refine g_ic3t iX11_straightly_13 c1 ?_
    refine g_il iX11_straightly_112 rfl ?_
    exact g_ri iX11_straightly_113 (Or.inl rfl) H
  · rw [if_neg c1] at H
    refine g_ic3f iX11_straightly_13 c1 ?_
    refine g_il iX11_straightly_16 rfl ?_
    refine g_c iX11_straightly_18 ?_
    refine g_add iX11_straightly_19 ?_
    refine g_is iX11_straightly_20 (Nat.le_of_ble_eq_true rfl) ?_
    refine rx_Go.ls (la := [some (.inr 125), some (.inl x1), some (.inl x2), some (.inl x3), some (.inl x4), some (.inl (rx_w (x4 + 1))), q6]) rfl ?_
    exact H
set_option maxRecDepth 20000 in
set_option maxHeartbeats 4000000 in
theorem bX11_straightly_22 (L d : Nat) (x1 : Int) (x2 : Int) (x3 : Int) (x4 : Int) (x5 : Int) (q6 : Option rx_V) (σ : rx_St) (K : Int → rx_St → Prop)
    (H : if (σ 126 2) ≤ x5 then (rx_Go L (d + 1) mX11_straightly 5 [some (.inr 125), some (.inl x1), some (.inl x2), some (.inl x3), some (.inl (rx_w (x4 + 1))), some (.inl x5), q6] [] σ (rx_PI K)) else (if x2 < 0 then (rx_Go L (d + 1) mX11_straightly 49 [some (.inr 125), some (.inl x1), some (.inl x2), some (.inl x3), some (.inl x4), some (.inl x5), q6] [] σ (rx_PI K)) else (if x2 = x4 then (rx_Go L (d + 1) mX11_straightly 49 [some (.inr 125), some (.inl x1), some (.inl x2), some (.inl x3), some (.inl x4), some (.inl x5), q6] [] σ (rx_PI K)) else (if x2 ≠ x5 then (rx_Go L (d + 1) mX11_straightly 56 [some (.inr 125), some (.inl x1), some (.inl x2), some (.inl x3), some (.inl x4), some (.inl x5), some (.inl 0)] [] σ (rx_PI K)) else (rx_Go L (d + 1) mX11_straightly 49 [some (.inr 125), some (.inl x1), some (.inl x2), some (.inl x3), some (.inl x4), some (.inl x5), q6] [] σ (rx_PI K)))))) :
    rx_Go L (d + 1) mX11_straightly 22 [some (.inr 125), some (.inl x1), some (.inl x2), some (.inl x3), some (.inl x4), some (.inl x5), q6] [] σ (rx_PI K) := by
  refine g_il iX11_straightly_22 rfl ?_
  refine g_al iX11_straightly_24 rfl ?_
  refine g_gr iX11_straightly_25 fr_11_0_125 ?_
  refine g_c iX11_straightly_28 ?_
  refine g_ld iX11_straightly_29 (ln_126 L) (by decide) ?_
  by_cases c2 : (σ 126 2) ≤ x5
  · rw [if_pos c2] at H
    refine g_ic3t iX11_straightly_30 c2 ?_
    refine g_ii iX11_straightly_106 rfl ?_
    refine rx_Go.ls (la := [some (.inr 125), some (.inl x1), some (.inl x2), some (.inl x3), some (.inl (rx_w (x4 + 1))), some (.inl x5), q6]) rfl ?_
    refine g_goto iX11_straightly_109 ?_
    exact H
  · rw [if_neg c2] at H
    refine g_ic3f iX11_straightly_30 c2 ?_
    refine g_il iX11_straightly_33 rfl ?_
    by_cases c3 : x2 < 0
    · rw [if_pos c3] at H
      refine g_if2t iX11_straightly_34 c3 ?_
      exact H
    · rw [if_neg c3] at H
      refine g_if2f iX11_straightly_34 c3 ?_
      refine g_il iX11_straightly_37 rfl ?_
      refine g_il iX11_straightly_38 rfl ?_
      by_cases c4 : x2 = x4
      · rw [if_pos c4] at H
        refine g_ic0t iX11_straightly_40 c4 ?_
        exact H
      · rw [if_neg c4] at H
        refine g_ic0f iX11_straightly_40 c4 ?_
        refine g_il iX11_straightly_43 rfl ?_
        refine g_il iX11_straightly_44 rfl ?_
        by_cases c5 : x2 ≠ x5
        · rw [if_pos c5] at H
          refine g_ic1t iX11_straightly_46 c5 ?_
          refine g_c iX11_straightly_53 ?_
          refine g_is iX11_straightly_54 (Nat.le_of_ble_eq_true rfl) ?_
          refine rx_Go.ls (la := [some (.inr 125), some (.inl x1), some (.inl x2), some (.inl x3), some (.inl x4), some (.inl x5), some (.inl 0)]) rfl ?_
          exact H
        · rw [if_neg c5] at H
          refine g_ic1f iX11_straightly_46 c5 ?_
          exact H
set_option maxRecDepth 20000 in
set_option maxHeartbeats 4000000 in
theorem bX11_straightly_49 (L d : Nat) (x1 : Int) (x2 : Int) (x3 : Int) (x4 : Int) (x5 : Int) (q6 : Option rx_V) (σ : rx_St) (K : Int → rx_St → Prop)
    (H : rx_Go L (d + 1) mX11_straightly 56 [some (.inr 125), some (.inl x1), some (.inl x2), some (.inl x3), some (.inl x4), some (.inl x5), some (.inl 1)] [] σ (rx_PI K)) :
    rx_Go L (d + 1) mX11_straightly 49 [some (.inr 125), some (.inl x1), some (.inl x2), some (.inl x3), some (.inl x4), some (.inl x5), q6] [] σ (rx_PI K) := by
  refine g_c iX11_straightly_49 ?_
  refine g_goto iX11_straightly_50 ?_
  refine g_is iX11_straightly_54 (Nat.le_of_ble_eq_true rfl) ?_
  refine rx_Go.ls (la := [some (.inr 125), some (.inl x1), some (.inl x2), some (.inl x3), some (.inl x4), some (.inl x5), some (.inl 1)]) rfl ?_
  exact H
set_option maxRecDepth 20000 in
set_option maxHeartbeats 4000000 in
theorem bX11_straightly_56 (L d : Nat) (x1 : Int) (x2 : Int) (x3 : Int) (x4 : Int) (x5 : Int) (x6 : Int) (σ : rx_St) (K : Int → rx_St → Prop)
    (H : if x6 = 0 then (rx_Go L (d + 1) mX11_straightly 22 [some (.inr 125), some (.inl x1), some (.inl x2), some (.inl (rx_w (x3 + 0))), some (.inl x4), some (.inl (rx_w (x5 + 1))), some (.inl x6)] [] σ (rx_PI K)) else (rx_CI L d mX11_doCross [.inr 125, .inl x4, .inl x5] σ (fun v8 σ7 => if v8 = 0 then (rx_Go L (d + 1) mX11_straightly 22 [some (.inr 125), some (.inl x1), some (.inl x2), some (.inl (rx_w (x3 + 0))), some (.inl x4), some (.inl (rx_w (x5 + 1))), some (.inl x6)] [] σ7 (rx_PI K)) else (if x1 = 0 then (rx_Go L (d + 1) mX11_straightly 22 [some (.inr 125), some (.inl x1), some (.inl x2), some (.inl (rx_w (x3 + 1))), some (.inl x4), some (.inl (rx_w (x5 + 1))), some (.inl x6)] [] σ7 (rx_PI K)) else ((0 ≤ (rx_w ((rx_w (18 * x4)) + x5)) ∧ (rx_w ((rx_w (18 * x4)) + x5)) < 324) ∧ (rx_Go L (d + 1) mX11_straightly 22 [some (.inr 125), some (.inl x1), some (.inl x2), some (.inl (rx_w (x3 + (σ7 130 (rx_w ((rx_w (18 * x4)) + x5)))))), some (.inl x4), some (.inl (rx_w (x5 + 1))), some (.inl x6)] [] σ7 (rx_PI K))))))) :
    rx_Go L (d + 1) mX11_straightly 56 [some (.inr 125), some (.inl x1), some (.inl x2), some (.inl x3), some (.inl x4), some (.inl x5), some (.inl x6)] [] σ (rx_PI K) := by
  refine g_il iX11_straightly_56 rfl ?_
  refine g_il iX11_straightly_57 rfl ?_
  by_cases c6 : x6 = 0
  · rw [if_pos c6] at H
    refine g_if0t iX11_straightly_59 c6 ?_
    refine g_c iX11_straightly_97 ?_
    refine g_add iX11_straightly_98 ?_
    refine g_is iX11_straightly_99 (Nat.le_of_ble_eq_true rfl) ?_
    refine rx_Go.ls (la := [some (.inr 125), some (.inl x1), some (.inl x2), some (.inl (rx_w (x3 + 0))), some (.inl x4), some (.inl x5), some (.inl x6)]) rfl ?_
    refine g_ii iX11_straightly_100 rfl ?_
    refine rx_Go.ls (la := [some (.inr 125), some (.inl x1), some (.inl x2), some (.inl (rx_w (x3 + 0))), some (.inl x4), some (.inl (rx_w (x5 + 1))), some (.inl x6)]) rfl ?_
    refine g_goto iX11_straightly_103 ?_
    exact H
  · rw [if_neg c6] at H
    refine g_if0f iX11_straightly_59 c6 ?_
    refine g_al iX11_straightly_62 rfl ?_
    refine g_il iX11_straightly_63 rfl ?_
    refine g_il iX11_straightly_65 rfl ?_
    refine g_ci (as := [.inr 125, .inl x4, .inl x5]) (rest := [.inl x3]) iX11_straightly_67 rfl rfl (Nat.le_of_ble_eq_true rfl) (Or.inr ⟨_, _, rfl, oo_11_125⟩) (rx_CI.imp H (fun v8 σ7 H => ?_))
    by_cases c9 : v8 = 0
    · rw [if_pos c9] at H
      refine g_if0t iX11_straightly_70 c9 ?_
      refine g_c iX11_straightly_97 ?_
      refine g_add iX11_straightly_98 ?_
      refine g_is iX11_straightly_99 (Nat.le_of_ble_eq_true rfl) ?_
      refine rx_Go.ls (la := [some (.inr 125), some (.inl x1), some (.inl x2), some (.inl (rx_w (x3 + 0))), some (.inl x4), some (.inl x5), some (.inl x6)]) rfl ?_
      refine g_ii iX11_straightly_100 rfl ?_
      refine rx_Go.ls (la := [some (.inr 125), some (.inl x1), some (.inl x2), some (.inl (rx_w (x3 + 0))), some (.inl x4), some (.inl (rx_w (x5 + 1))), some (.inl x6)]) rfl ?_
      refine g_goto iX11_straightly_103 ?_
      exact H
    · rw [if_neg c9] at H
      refine g_if0f iX11_straightly_70 c9 ?_
      refine g_il iX11_straightly_73 rfl ?_
      by_cases c10 : x1 = 0
      · rw [if_pos c10] at H
        refine g_if0t iX11_straightly_74 c10 ?_
        refine g_c iX11_straightly_93 ?_
        refine g_goto iX11_straightly_94 ?_
        refine g_add iX11_straightly_98 ?_
        refine g_is iX11_straightly_99 (Nat.le_of_ble_eq_true rfl) ?_
        refine rx_Go.ls (la := [some (.inr 125), some (.inl x1), some (.inl x2), some (.inl (rx_w (x3 + 1))), some (.inl x4), some (.inl x5), some (.inl x6)]) rfl ?_
        refine g_ii iX11_straightly_100 rfl ?_
        refine rx_Go.ls (la := [some (.inr 125), some (.inl x1), some (.inl x2), some (.inl (rx_w (x3 + 1))), some (.inl x4), some (.inl (rx_w (x5 + 1))), some (.inl x6)]) rfl ?_
        refine g_goto iX11_straightly_103 ?_
        exact H
      · rw [if_neg c10] at H
        refine g_if0f iX11_straightly_74 c10 ?_
        refine g_al iX11_straightly_77 rfl ?_
        refine g_gr iX11_straightly_78 fr_11_5_125 ?_
        refine g_c iX11_straightly_81 ?_
        refine g_il iX11_straightly_83 rfl ?_
        refine g_mul iX11_straightly_85 ?_
        refine g_il iX11_straightly_86 rfl ?_
        refine g_add iX11_straightly_88 ?_
        obtain ⟨o11, H⟩ := H
        refine g_ld iX11_straightly_89 (ln_130 L) o11 ?_
        refine g_goto iX11_straightly_90 ?_
        refine g_add iX11_straightly_98 ?_
        refine g_is iX11_straightly_99 (Nat.le_of_ble_eq_true rfl) ?_
        refine rx_Go.ls (la := [some (.inr 125), some (.inl x1), some (.inl x2), some (.inl (rx_w (x3 + (σ7 130 (rx_w ((rx_w (18 * x4)) + x5)))))), some (.inl x4), some (.inl x5), some (.inl x6)]) rfl ?_
        refine g_ii iX11_straightly_100 rfl ?_
        refine rx_Go.ls (la := [some (.inr 125), some (.inl x1), some (.inl x2), some (.inl (rx_w (x3 + (σ7 130 (rx_w ((rx_w (18 * x4)) + x5)))))), some (.inl x4), some (.inl (rx_w (x5 + 1))), some (.inl x6)]) rfl ?_
        refine g_goto iX11_straightly_103 ?_
        exact H
set_option maxRecDepth 20000 in
set_option maxHeartbeats 4000000 in
theorem bX11_straight (L d : Nat) (x1 : Int) (σ : rx_St) (K : Int → rx_St → Prop)
    (H : rx_CI L d mX11_in [.inl x1, .inl 0, .inl 2] σ (fun v2 σ1 => if v2 ≠ 0 then (rx_CV L d mX11_findPairs [.inr 125] σ1 (fun σ4 => if 2 ≤ x1 then (rx_CI L d mX11_straightly [.inr 125, .inl 0, .inl (-1)] σ4 (fun v7 σ6 => if v7 ≠ 0 then (rx_Go L (d + 1) mX11_straight 56 [some (.inr 125), some (.inl x1), some (.inl 0), some (.inl (-1)), some (.inl 0), none] [] σ6 (rx_PI K)) else (K (-1000000005) σ6))) else (if x1 ≠ 1 then (rx_CI L d mX11_straightly [.inr 125, .inl 0, .inl (-1)] σ4 (fun v11 σ10 => K v11 σ10)) else (rx_CI L d mX11_straightly [.inr 125, .inl 1, .inl (-1)] σ4 (fun v13 σ12 => K v13 σ12))))) else (K (-1000000001) σ1))) :
    rx_CI L (d + 1) mX11_straight [.inr 125, .inl x1] σ K := by
  refine rx_CI.of (la := [some (.inr 125), some (.inl x1), none, none, none, none]) rfl ?_
  refine g_il iX11_straight_0 rfl ?_
  refine g_c iX11_straight_1 ?_
  refine g_c iX11_straight_2 ?_
  refine g_ci (as := [.inl x1, .inl 0, .inl 2]) (rest := []) iX11_straight_3 rfl rfl (Nat.le_of_ble_eq_true rfl) (Or.inl (by decide)) (rx_CI.imp H (fun v2 σ1 H => ?_))
  by_cases c3 : v2 ≠ 0
  · rw [if_pos c3] at H
    refine g_if1t iX11_straight_6 c3 ?_
    refine g_al iX11_straight_12 rfl ?_
    refine g_cv (as := [.inr 125]) (rest := []) iX11_straight_13 rfl rfl (Nat.le_of_ble_eq_true rfl) (Or.inr ⟨_, _, rfl, oo_11_125⟩) (rx_CV.imp H (fun σ4 H => ?_))
    refine g_il iX11_straight_16 rfl ?_
    refine g_c iX11_straight_17 ?_
    by_cases c5 : 2 ≤ x1
    · rw [if_pos c5] at H
      refine g_ic3t iX11_straight_18 c5 ?_
      refine g_al iX11_straight_37 rfl ?_
      refine g_c iX11_straight_38 ?_
      refine g_c iX11_straight_39 ?_
      refine g_ci (as := [.inr 125, .inl 0, .inl (-1)]) (rest := []) iX11_straight_40 rfl rfl (Nat.le_of_ble_eq_true rfl) (Or.inr ⟨_, _, rfl, oo_11_125⟩) (rx_CI.imp H (fun v7 σ6 H => ?_))
      by_cases c8 : v7 ≠ 0
      · rw [if_pos c8] at H
        refine g_if1t iX11_straight_43 c8 ?_
        refine g_c iX11_straight_49 ?_
        refine g_is iX11_straight_50 (Nat.le_of_ble_eq_true rfl) ?_
        refine rx_Go.ls (la := [some (.inr 125), some (.inl x1), some (.inl 0), none, none, none]) rfl ?_
        refine g_c iX11_straight_51 ?_
        refine g_is iX11_straight_52 (Nat.le_of_ble_eq_true rfl) ?_
        refine rx_Go.ls (la := [some (.inr 125), some (.inl x1), some (.inl 0), some (.inl (-1)), none, none]) rfl ?_
        refine g_c iX11_straight_53 ?_
        refine g_is iX11_straight_54 (Nat.le_of_ble_eq_true rfl) ?_
        refine rx_Go.ls (la := [some (.inr 125), some (.inl x1), some (.inl 0), some (.inl (-1)), some (.inl 0), none]) rfl ?_
        exact H
      · rw [if_neg c8] at H
        refine g_if1f iX11_straight_43 c8 ?_
        refine g_c iX11_straight_46 ?_
        exact g_ri iX11_straight_48 (Or.inl rfl) H
    · rw [if_neg c5] at H
      refine g_ic3f iX11_straight_18 c5 ?_
      refine g_al iX11_straight_21 rfl ?_
      refine g_il iX11_straight_22 rfl ?_
      refine g_c iX11_straight_23 ?_
      by_cases c9 : x1 ≠ 1
      · rw [if_pos c9] at H
        refine g_ic1t iX11_straight_24 c9 ?_
        refine g_c iX11_straight_31 ?_
        refine g_c iX11_straight_32 ?_
        refine g_ci (as := [.inr 125, .inl 0, .inl (-1)]) (rest := []) iX11_straight_33 rfl rfl (Nat.le_of_ble_eq_true rfl) (Or.inr ⟨_, _, rfl, oo_11_125⟩) (rx_CI.imp H (fun v11 σ10 H => ?_))
        exact g_ri iX11_straight_36 (Or.inl rfl) H
      · rw [if_neg c9] at H
        refine g_ic1f iX11_straight_24 c9 ?_
        refine g_c iX11_straight_27 ?_
        refine g_goto iX11_straight_28 ?_
        refine g_c iX11_straight_32 ?_
        refine g_ci (as := [.inr 125, .inl 1, .inl (-1)]) (rest := []) iX11_straight_33 rfl rfl (Nat.le_of_ble_eq_true rfl) (Or.inr ⟨_, _, rfl, oo_11_125⟩) (rx_CI.imp H (fun v13 σ12 H => ?_))
        exact g_ri iX11_straight_36 (Or.inl rfl) H
  · rw [if_neg c3] at H
    refine g_if1f iX11_straight_6 c3 ?_
    refine g_c iX11_straight_9 ?_
    exact g_ri iX11_straight_11 (Or.inl rfl) H
set_option maxRecDepth 20000 in
set_option maxHeartbeats 4000000 in
theorem bX11_straight_56 (L d : Nat) (q1 : Option rx_V) (x2 : Int) (x3 : Int) (x4 : Int) (q5 : Option rx_V) (σ : rx_St) (K : Int → rx_St → Prop)
    (H : if (σ 126 2) ≤ x4 then (K x2 σ) else (rx_CI L d mX11_straightly [.inr 125, .inl 1, .inl x4] σ (fun v16 σ15 => if v16 ≤ x3 then (rx_Go L (d + 1) mX11_straight 56 [some (.inr 125), q1, some (.inl x2), some (.inl x3), some (.inl (rx_w (x4 + 1))), some (.inl v16)] [] σ15 (rx_PI K)) else (rx_Go L (d + 1) mX11_straight 56 [some (.inr 125), q1, some (.inl x4), some (.inl v16), some (.inl (rx_w (x4 + 1))), some (.inl v16)] [] σ15 (rx_PI K))))) :
    rx_Go L (d + 1) mX11_straight 56 [some (.inr 125), q1, some (.inl x2), some (.inl x3), some (.inl x4), q5] [] σ (rx_PI K) := by
  refine g_il iX11_straight_56 rfl ?_
  refine g_al iX11_straight_58 rfl ?_
  refine g_gr iX11_straight_59 fr_11_0_125 ?_
  refine g_c iX11_straight_62 ?_
  refine g_ld iX11_straight_63 (ln_126 L) (by decide) ?_
  by_cases c14 : (σ 126 2) ≤ x4
  · rw [if_pos c14] at H
    refine g_ic3t iX11_straight_64 c14 ?_
    refine g_il iX11_straight_108 rfl ?_
    exact g_ri iX11_straight_109 (Or.inl rfl) H
  · rw [if_neg c14] at H
    refine g_ic3f iX11_straight_64 c14 ?_
    refine g_al iX11_straight_67 rfl ?_
    refine g_c iX11_straight_68 ?_
    refine g_il iX11_straight_69 rfl ?_
    refine g_ci (as := [.inr 125, .inl 1, .inl x4]) (rest := []) iX11_straight_71 rfl rfl (Nat.le_of_ble_eq_true rfl) (Or.inr ⟨_, _, rfl, oo_11_125⟩) (rx_CI.imp H (fun v16 σ15 H => ?_))
    refine g_is iX11_straight_74 (Nat.le_of_ble_eq_true rfl) ?_
    refine rx_Go.ls (la := [some (.inr 125), q1, some (.inl x2), some (.inl x3), some (.inl x4), some (.inl v16)]) rfl ?_
    refine g_il iX11_straight_76 rfl ?_
    refine g_il iX11_straight_78 rfl ?_
    by_cases c17 : v16 ≤ x3
    · rw [if_pos c17] at H
      refine g_ic5t iX11_straight_79 c17 ?_
      refine g_il iX11_straight_87 rfl ?_
      refine g_is iX11_straight_88 (Nat.le_of_ble_eq_true rfl) ?_
      refine rx_Go.ls (la := [some (.inr 125), q1, some (.inl x2), some (.inl x3), some (.inl x4), some (.inl v16)]) rfl ?_
      refine g_il iX11_straight_89 rfl ?_
      refine g_il iX11_straight_91 rfl ?_
      refine g_ic5t iX11_straight_92 c17 ?_
      refine g_il iX11_straight_100 rfl ?_
      refine g_is iX11_straight_101 (Nat.le_of_ble_eq_true rfl) ?_
      refine rx_Go.ls (la := [some (.inr 125), q1, some (.inl x2), some (.inl x3), some (.inl x4), some (.inl v16)]) rfl ?_
      refine g_ii iX11_straight_102 rfl ?_
      refine rx_Go.ls (la := [some (.inr 125), q1, some (.inl x2), some (.inl x3), some (.inl (rx_w (x4 + 1))), some (.inl v16)]) rfl ?_
      refine g_goto iX11_straight_105 ?_
      exact H
    · rw [if_neg c17] at H
      refine g_ic5f iX11_straight_79 c17 ?_
      refine g_il iX11_straight_82 rfl ?_
      refine g_goto iX11_straight_84 ?_
      refine g_is iX11_straight_88 (Nat.le_of_ble_eq_true rfl) ?_
      refine rx_Go.ls (la := [some (.inr 125), q1, some (.inl x4), some (.inl x3), some (.inl x4), some (.inl v16)]) rfl ?_
      refine g_il iX11_straight_89 rfl ?_
      refine g_il iX11_straight_91 rfl ?_
      refine g_ic5f iX11_straight_92 c17 ?_
      refine g_il iX11_straight_95 rfl ?_
      refine g_goto iX11_straight_97 ?_
      refine g_is iX11_straight_101 (Nat.le_of_ble_eq_true rfl) ?_
      refine rx_Go.ls (la := [some (.inr 125), q1, some (.inl x4), some (.inl v16), some (.inl x4), some (.inl v16)]) rfl ?_
      refine g_ii iX11_straight_102 rfl ?_
      refine rx_Go.ls (la := [some (.inr 125), q1, some (.inl x4), some (.inl v16), some (.inl (rx_w (x4 + 1))), some (.inl v16)]) rfl ?_
      refine g_goto iX11_straight_105 ?_
      exact H
set_option maxRecDepth 20000 in
set_option maxHeartbeats 4000000 in
theorem bX11_isParted (L d : Nat)  (σ : rx_St) (K : Int → rx_St → Prop)
    (H : rx_Go L (d + 1) mX11_isParted 2 [some (.inr 125), some (.inl 0), none, none, none, none, none] [] σ (rx_PI K)) :
    rx_CI L (d + 1) mX11_isParted [.inr 125] σ K := by
  refine rx_CI.of (la := [some (.inr 125), none, none, none, none, none, none]) rfl ?_
  refine g_c iX11_isParted_0 ?_
  refine g_is iX11_isParted_1 (Nat.le_of_ble_eq_true rfl) ?_
  refine rx_Go.ls (la := [some (.inr 125), some (.inl 0), none, none, none, none, none]) rfl ?_
  exact H
set_option maxRecDepth 20000 in
set_option maxHeartbeats 4000000 in
theorem bX11_isParted_2 (L d : Nat) (x1 : Int) (q2 : Option rx_V) (q3 : Option rx_V) (q4 : Option rx_V) (q5 : Option rx_V) (q6 : Option rx_V) (σ : rx_St) (K : Int → rx_St → Prop)
    (H : if 8 ≤ x1 then (rx_Go L (d + 1) mX11_isParted 25 [some (.inr 125), some (.inl 1), some (.inl 0), q3, q4, q5, q6] [] σ (rx_PI K)) else ((0 ≤ x1 ∧ x1 < 8) ∧ (rx_Go L (d + 1) mX11_isParted 2 [some (.inr 125), some (.inl (rx_w (x1 + 1))), q2, q3, q4, q5, q6] [] (rx_up σ 131 x1 0) (rx_PI K)))) :
    rx_Go L (d + 1) mX11_isParted 2 [some (.inr 125), some (.inl x1), q2, q3, q4, q5, q6] [] σ (rx_PI K) := by
  refine g_il iX11_isParted_2 rfl ?_
  refine g_c iX11_isParted_3 ?_
  by_cases c1 : 8 ≤ x1
  · rw [if_pos c1] at H
    refine g_ic3t iX11_isParted_5 c1 ?_
    refine g_c iX11_isParted_21 ?_
    refine g_is iX11_isParted_22 (Nat.le_of_ble_eq_true rfl) ?_
    refine rx_Go.ls (la := [some (.inr 125), some (.inl 1), q2, q3, q4, q5, q6]) rfl ?_
    refine g_c iX11_isParted_23 ?_
    refine g_is iX11_isParted_24 (Nat.le_of_ble_eq_true rfl) ?_
    refine rx_Go.ls (la := [some (.inr 125), some (.inl 1), some (.inl 0), q3, q4, q5, q6]) rfl ?_
    exact H
  · rw [if_neg c1] at H
    refine g_ic3f iX11_isParted_5 c1 ?_
    refine g_al iX11_isParted_8 rfl ?_
    refine g_gr iX11_isParted_9 fr_11_6_125 ?_
    refine g_il iX11_isParted_12 rfl ?_
    refine g_c iX11_isParted_13 ?_
    obtain ⟨o2, H⟩ := H
    refine g_st iX11_isParted_14 (ln_131 L) (by decide) o2 rfl ?_
    refine g_ii iX11_isParted_15 rfl ?_
    refine rx_Go.ls (la := [some (.inr 125), some (.inl (rx_w (x1 + 1))), q2, q3, q4, q5, q6]) rfl ?_
    refine g_goto iX11_isParted_18 ?_
    exact H
set_option maxRecDepth 20000 in
set_option maxHeartbeats 4000000 in
theorem bX11_isParted_25 (L d : Nat) (x1 : Int) (x2 : Int) (q3 : Option rx_V) (q4 : Option rx_V) (q5 : Option rx_V) (q6 : Option rx_V) (σ : rx_St) (K : Int → rx_St → Prop)
    (H : if (σ 126 1) ≤ x2 then ((x1 = 0 ∨ x1 = 1) ∧ K x1 σ) else ((0 ≤ x2 ∧ x2 < 8) ∧ (if (σ 131 x2) ≠ 0 then (rx_Go L (d + 1) mX11_isParted 60 [some (.inr 125), some (.inl x1), some (.inl x2), q3, q4, q5, q6] [] (rx_up σ 131 x2 (σ 131 x2)) (rx_PI K)) else (rx_Go L (d + 1) mX11_isParted 60 [some (.inr 125), some (.inl x1), some (.inl x2), q3, q4, q5, q6] [] (rx_up σ 131 x2 1) (rx_PI K))))) :
    rx_Go L (d + 1) mX11_isParted 25 [some (.inr 125), some (.inl x1), some (.inl x2), q3, q4, q5, q6] [] σ (rx_PI K) := by
  refine g_il iX11_isParted_25 rfl ?_
  refine g_al iX11_isParted_26 rfl ?_
  refine g_gr iX11_isParted_27 fr_11_0_125 ?_
  refine g_c iX11_isParted_30 ?_
  refine g_ld iX11_isParted_31 (ln_126 L) (by decide) ?_
  by_cases c3 : (σ 126 1) ≤ x2
  · rw [if_pos c3] at H
    refine g_ic3t iX11_isParted_32 c3 ?_
    refine g_il iX11_isParted_236 rfl ?_
    exact g_ri iX11_isParted_237 (Or.inr H.1) H.2
  · rw [if_neg c3] at H
    refine g_ic3f iX11_isParted_32 c3 ?_
    refine g_al iX11_isParted_35 rfl ?_
    refine g_gr iX11_isParted_36 fr_11_6_125 ?_
    refine g_il iX11_isParted_39 rfl ?_
    refine g_al iX11_isParted_40 rfl ?_
    refine g_gr iX11_isParted_41 fr_11_6_125 ?_
    refine g_il iX11_isParted_44 rfl ?_
    obtain ⟨o4, H⟩ := H
    refine g_ld iX11_isParted_45 (ln_131 L) o4 ?_
    by_cases c5 : (σ 131 x2) ≠ 0
    · rw [if_pos c5] at H
      refine g_if1t iX11_isParted_46 c5 ?_
      refine g_al iX11_isParted_53 rfl ?_
      refine g_gr iX11_isParted_54 fr_11_6_125 ?_
      refine g_il iX11_isParted_57 rfl ?_
      refine g_ld iX11_isParted_58 (ln_131 L) o4 ?_
      refine g_st iX11_isParted_59 (ln_131 L) (by decide) o4 rfl ?_
      exact H
    · rw [if_neg c5] at H
      refine g_if1f iX11_isParted_46 c5 ?_
      refine g_c iX11_isParted_49 ?_
      refine g_goto iX11_isParted_50 ?_
      refine g_st iX11_isParted_59 (ln_131 L) (by decide) o4 rfl ?_
      exact H
set_option maxRecDepth 20000 in
set_option maxHeartbeats 4000000 in
theorem bX11_isParted_60 (L d : Nat) (x1 : Int) (x2 : Int) (q3 : Option rx_V) (q4 : Option rx_V) (q5 : Option rx_V) (q6 : Option rx_V) (σ : rx_St) (K : Int → rx_St → Prop)
    (H : rx_Go L (d + 1) mX11_isParted 62 [some (.inr 125), some (.inl x1), some (.inl x2), some (.inl 1), q4, q5, q6] [] σ (rx_PI K)) :
    rx_Go L (d + 1) mX11_isParted 60 [some (.inr 125), some (.inl x1), some (.inl x2), q3, q4, q5, q6] [] σ (rx_PI K) := by
  refine g_c iX11_isParted_60 ?_
  refine g_is iX11_isParted_61 (Nat.le_of_ble_eq_true rfl) ?_
  refine rx_Go.ls (la := [some (.inr 125), some (.inl x1), some (.inl x2), some (.inl 1), q4, q5, q6]) rfl ?_
  exact H
set_option maxRecDepth 20000 in
set_option maxHeartbeats 4000000 in
theorem bX11_isParted_62 (L d : Nat) (x1 : Int) (x2 : Int) (x3 : Int) (q4 : Option rx_V) (q5 : Option rx_V) (q6 : Option rx_V) (σ : rx_St) (K : Int → rx_St → Prop)
    (H : if x3 = 0 then (rx_Go L (d + 1) mX11_isParted 25 [some (.inr 125), some (.inl x1), some (.inl (rx_w (x2 + 1))), some (.inl x3), q4, q5, q6] [] σ (rx_PI K)) else (rx_Go L (d + 1) mX11_isParted 71 [some (.inr 125), some (.inl x1), some (.inl x2), some (.inl 0), some (.inl 0), q5, q6] [] σ (rx_PI K))) :
    rx_Go L (d + 1) mX11_isParted 62 [some (.inr 125), some (.inl x1), some (.inl x2), some (.inl x3), q4, q5, q6] [] σ (rx_PI K) := by
  refine g_il iX11_isParted_62 rfl ?_
  by_cases c6 : x3 = 0
  · rw [if_pos c6] at H
    refine g_if0t iX11_isParted_63 c6 ?_
    refine g_ii iX11_isParted_230 rfl ?_
    refine rx_Go.ls (la := [some (.inr 125), some (.inl x1), some (.inl (rx_w (x2 + 1))), some (.inl x3), q4, q5, q6]) rfl ?_
    refine g_goto iX11_isParted_233 ?_
    exact H
  · rw [if_neg c6] at H
    refine g_if0f iX11_isParted_63 c6 ?_
    refine g_c iX11_isParted_66 ?_
    refine g_is iX11_isParted_67 (Nat.le_of_ble_eq_true rfl) ?_
    refine rx_Go.ls (la := [some (.inr 125), some (.inl x1), some (.inl x2), some (.inl 0), q4, q5, q6]) rfl ?_
    refine g_c iX11_isParted_68 ?_
    refine g_is iX11_isParted_69 (Nat.le_of_ble_eq_true rfl) ?_
    refine rx_Go.ls (la := [some (.inr 125), some (.inl x1), some (.inl x2), some (.inl 0), some (.inl 0), q5, q6]) rfl ?_
    exact H
set_option maxRecDepth 20000 in
set_option maxHeartbeats 4000000 in
theorem bX11_isParted_71 (L d : Nat) (x1 : Int) (x2 : Int) (x3 : Int) (x4 : Int) (q5 : Option rx_V) (q6 : Option rx_V) (σ : rx_St) (K : Int → rx_St → Prop)
    (H : if (σ 126 2) ≤ x4 then (rx_Go L (d + 1) mX11_isParted 62 [some (.inr 125), some (.inl x1), some (.inl x2), some (.inl x3), some (.inl x4), q5, q6] [] σ (rx_PI K)) else (rx_CI L d mX11_lesser [.inr 125, .inl x4] σ (fun v9 σ8 => (0 ≤ v9 ∧ v9 < 8) ∧ (rx_CI L d mX11_greater [.inr 125, .inl x4] σ8 (fun v12 σ11 => (0 ≤ v12 ∧ v12 < 8) ∧ (if x1 = 0 then (rx_Go L (d + 1) mX11_isParted 128 [some (.inr 125), some (.inl x1), some (.inl x2), some (.inl x3), some (.inl x4), some (.inl (σ8 131 v9)), some (.inl (σ11 131 v12))] [] σ11 (rx_PI K)) else (if (σ8 131 v9) = 0 then (rx_Go L (d + 1) mX11_isParted 124 [some (.inr 125), some (.inl x1), some (.inl x2), some (.inl x3), some (.inl x4), some (.inl (σ8 131 v9)), some (.inl (σ11 131 v12))] [] σ11 (rx_PI K)) else (if (σ8 131 v9) = (σ11 131 v12) then (rx_Go L (d + 1) mX11_isParted 128 [some (.inr 125), some (.inl x1), some (.inl x2), some (.inl x3), some (.inl x4), some (.inl (σ8 131 v9)), some (.inl (σ11 131 v12))] [] σ11 (rx_PI K)) else (rx_Go L (d + 1) mX11_isParted 124 [some (.inr 125), some (.inl x1), some (.inl x2), some (.inl x3), some (.inl x4), some (.inl (σ8 131 v9)), some (.inl (σ11 131 v12))] [] σ11 (rx_PI K)))))))))) :
    rx_Go L (d + 1) mX11_isParted 71 [some (.inr 125), some (.inl x1), some (.inl x2), some (.inl x3), some (.inl x4), q5, q6] [] σ (rx_PI K) := by
  refine g_il iX11_isParted_71 rfl ?_
  refine g_al iX11_isParted_73 rfl ?_
  refine g_gr iX11_isParted_74 fr_11_0_125 ?_
  refine g_c iX11_isParted_77 ?_
  refine g_ld iX11_isParted_78 (ln_126 L) (by decide) ?_
  by_cases c7 : (σ 126 2) ≤ x4
  · rw [if_pos c7] at H
    refine g_ic3t iX11_isParted_79 c7 ?_
    refine g_goto iX11_isParted_227 ?_
    exact H
  · rw [if_neg c7] at H
    refine g_ic3f iX11_isParted_79 c7 ?_
    refine g_al iX11_isParted_82 rfl ?_
    refine g_gr iX11_isParted_83 fr_11_6_125 ?_
    refine g_al iX11_isParted_86 rfl ?_
    refine g_il iX11_isParted_87 rfl ?_
    refine g_ci (as := [.inr 125, .inl x4]) (rest := [.inr 131]) iX11_isParted_89 rfl rfl (Nat.le_of_ble_eq_true rfl) (Or.inr ⟨_, _, rfl, oo_11_125⟩) (rx_CI.imp H (fun v9 σ8 H => ?_))
    obtain ⟨o10, H⟩ := H
    refine g_ld iX11_isParted_92 (ln_131 L) o10 ?_
    refine g_is iX11_isParted_93 (Nat.le_of_ble_eq_true rfl) ?_
    refine rx_Go.ls (la := [some (.inr 125), some (.inl x1), some (.inl x2), some (.inl x3), some (.inl x4), some (.inl (σ8 131 v9)), q6]) rfl ?_
    refine g_al iX11_isParted_95 rfl ?_
    refine g_gr iX11_isParted_96 fr_11_6_125 ?_
    refine g_al iX11_isParted_99 rfl ?_
    refine g_il iX11_isParted_100 rfl ?_
    refine g_ci (as := [.inr 125, .inl x4]) (rest := [.inr 131]) iX11_isParted_102 rfl rfl (Nat.le_of_ble_eq_true rfl) (Or.inr ⟨_, _, rfl, oo_11_125⟩) (rx_CI.imp H (fun v12 σ11 H => ?_))
    obtain ⟨o13, H⟩ := H
    refine g_ld iX11_isParted_105 (ln_131 L) o13 ?_
    refine g_is iX11_isParted_106 (Nat.le_of_ble_eq_true rfl) ?_
    refine rx_Go.ls (la := [some (.inr 125), some (.inl x1), some (.inl x2), some (.inl x3), some (.inl x4), some (.inl (σ8 131 v9)), some (.inl (σ11 131 v12))]) rfl ?_
    refine g_il iX11_isParted_108 rfl ?_
    by_cases c14 : x1 = 0
    · rw [if_pos c14] at H
      refine g_if0t iX11_isParted_109 c14 ?_
      exact H
    · rw [if_neg c14] at H
      refine g_if0f iX11_isParted_109 c14 ?_
      refine g_il iX11_isParted_112 rfl ?_
      by_cases c15 : (σ8 131 v9) = 0
      · rw [if_pos c15] at H
        refine g_if0t iX11_isParted_114 c15 ?_
        exact H
      · rw [if_neg c15] at H
        refine g_if0f iX11_isParted_114 c15 ?_
        refine g_il iX11_isParted_117 rfl ?_
        refine g_il iX11_isParted_119 rfl ?_
        by_cases c16 : (σ8 131 v9) = (σ11 131 v12)
        · rw [if_pos c16] at H
          refine g_ic0t iX11_isParted_121 c16 ?_
          exact H
        · rw [if_neg c16] at H
          refine g_ic0f iX11_isParted_121 c16 ?_
          exact H
set_option maxRecDepth 20000 in
set_option maxHeartbeats 4000000 in
theorem bX11_isParted_128 (L d : Nat) (q1 : Option rx_V) (x2 : Int) (x3 : Int) (x4 : Int) (x5 : Int) (x6 : Int) (σ : rx_St) (K : Int → rx_St → Prop)
    (H : rx_Go L (d + 1) mX11_isParted 130 [some (.inr 125), some (.inl 0), some (.inl x2), some (.inl x3), some (.inl x4), some (.inl x5), some (.inl x6)] [] σ (rx_PI K)) :
    rx_Go L (d + 1) mX11_isParted 128 [some (.inr 125), q1, some (.inl x2), some (.inl x3), some (.inl x4), some (.inl x5), some (.inl x6)] [] σ (rx_PI K) := by
  refine g_c iX11_isParted_128 ?_
  refine g_is iX11_isParted_129 (Nat.le_of_ble_eq_true rfl) ?_
  refine rx_Go.ls (la := [some (.inr 125), some (.inl 0), some (.inl x2), some (.inl x3), some (.inl x4), some (.inl x5), some (.inl x6)]) rfl ?_
  exact H
set_option maxRecDepth 20000 in
set_option maxHeartbeats 4000000 in
theorem bX11_isParted_124 (L d : Nat) (q1 : Option rx_V) (x2 : Int) (x3 : Int) (x4 : Int) (x5 : Int) (x6 : Int) (σ : rx_St) (K : Int → rx_St → Prop)
    (H : rx_Go L (d + 1) mX11_isParted 130 [some (.inr 125), some (.inl 1), some (.inl x2), some (.inl x3), some (.inl x4), some (.inl x5), some (.inl x6)] [] σ (rx_PI K)) :
    rx_Go L (d + 1) mX11_isParted 124 [some (.inr 125), q1, some (.inl x2), some (.inl x3), some (.inl x4), some (.inl x5), some (.inl x6)] [] σ (rx_PI K) := by
  refine g_c iX11_isParted_124 ?_
  refine g_goto iX11_isParted_125 ?_
  refine g_is iX11_isParted_129 (Nat.le_of_ble_eq_true rfl) ?_
  refine rx_Go.ls (la := [some (.inr 125), some (.inl 1), some (.inl x2), some (.inl x3), some (.inl x4), some (.inl x5), some (.inl x6)]) rfl ?_
  exact H
set_option maxRecDepth 20000 in
set_option maxHeartbeats 4000000 in
theorem bX11_isParted_130 (L d : Nat) (x1 : Int) (x2 : Int) (x3 : Int) (x4 : Int) (x5 : Int) (x6 : Int) (σ : rx_St) (K : Int → rx_St → Prop)
    (H : if x3 ≠ 0 then (rx_Go L (d + 1) mX11_isParted 157 [some (.inr 125), some (.inl x1), some (.inl x2), some (.inl x3), some (.inl x4), some (.inl x5), some (.inl x6)] [] σ (rx_PI K)) else (if x5 ≠ 0 then (if x6 ≠ 0 then (rx_Go L (d + 1) mX11_isParted 163 [some (.inr 125), some (.inl x1), some (.inl x2), some (.inl 0), some (.inl x4), some (.inl x5), some (.inl x6)] [] σ (rx_PI K)) else (rx_Go L (d + 1) mX11_isParted 157 [some (.inr 125), some (.inl x1), some (.inl x2), some (.inl x3), some (.inl x4), some (.inl x5), some (.inl x6)] [] σ (rx_PI K))) else (if x6 ≠ 0 then (rx_Go L (d + 1) mX11_isParted 157 [some (.inr 125), some (.inl x1), some (.inl x2), some (.inl x3), some (.inl x4), some (.inl x5), some (.inl x6)] [] σ (rx_PI K)) else (rx_Go L (d + 1) mX11_isParted 163 [some (.inr 125), some (.inl x1), some (.inl x2), some (.inl 0), some (.inl x4), some (.inl x5), some (.inl x6)] [] σ (rx_PI K))))) :
    rx_Go L (d + 1) mX11_isParted 130 [some (.inr 125), some (.inl x1), some (.inl x2), some (.inl x3), some (.inl x4), some (.inl x5), some (.inl x6)] [] σ (rx_PI K) := by
  refine g_il iX11_isParted_130 rfl ?_
  by_cases c17 : x3 ≠ 0
  · rw [if_pos c17] at H
    refine g_if1t iX11_isParted_131 c17 ?_
    exact H
  · rw [if_neg c17] at H
    refine g_if1f iX11_isParted_131 c17 ?_
    refine g_il iX11_isParted_134 rfl ?_
    by_cases c18 : x5 ≠ 0
    · rw [if_pos c18] at H
      refine g_if1t iX11_isParted_136 c18 ?_
      refine g_c iX11_isParted_143 ?_
      refine g_il iX11_isParted_144 rfl ?_
      by_cases c19 : x6 ≠ 0
      · rw [if_pos c19] at H
        refine g_if1t iX11_isParted_146 c19 ?_
        refine g_c iX11_isParted_153 ?_
        refine g_ic0t iX11_isParted_154 (by decide) ?_
        refine g_c iX11_isParted_161 ?_
        refine g_is iX11_isParted_162 (Nat.le_of_ble_eq_true rfl) ?_
        refine rx_Go.ls (la := [some (.inr 125), some (.inl x1), some (.inl x2), some (.inl 0), some (.inl x4), some (.inl x5), some (.inl x6)]) rfl ?_
        exact H
      · rw [if_neg c19] at H
        refine g_if1f iX11_isParted_146 c19 ?_
        refine g_c iX11_isParted_149 ?_
        refine g_goto iX11_isParted_150 ?_
        refine g_ic0f iX11_isParted_154 (by decide) ?_
        exact H
    · rw [if_neg c18] at H
      refine g_if1f iX11_isParted_136 c18 ?_
      refine g_c iX11_isParted_139 ?_
      refine g_goto iX11_isParted_140 ?_
      refine g_il iX11_isParted_144 rfl ?_
      by_cases c20 : x6 ≠ 0
      · rw [if_pos c20] at H
        refine g_if1t iX11_isParted_146 c20 ?_
        refine g_c iX11_isParted_153 ?_
        refine g_ic0f iX11_isParted_154 (by decide) ?_
        exact H
      · rw [if_neg c20] at H
        refine g_if1f iX11_isParted_146 c20 ?_
        refine g_c iX11_isParted_149 ?_
        refine g_goto iX11_isParted_150 ?_
        refine g_ic0t iX11_isParted_154 (by decide) ?_
        refine g_c iX11_isParted_161 ?_
        refine g_is iX11_isParted_162 (Nat.le_of_ble_eq_true rfl) ?_
        refine rx_Go.ls (la := [some (.inr 125), some (.inl x1), some (.inl x2), some (.inl 0), some (.inl x4), some (.inl x5), some (.inl x6)]) rfl ?_
        exact H
set_option maxRecDepth 20000 in
set_option maxHeartbeats 4000000 in
theorem bX11_isParted_157 (L d : Nat) (x1 : Int) (x2 : Int) (q3 : Option rx_V) (x4 : Int) (x5 : Int) (x6 : Int) (σ : rx_St) (K : Int → rx_St → Prop)
    (H : rx_Go L (d + 1) mX11_isParted 163 [some (.inr 125), some (.inl x1), some (.inl x2), some (.inl 1), some (.inl x4), some (.inl x5), some (.inl x6)] [] σ (rx_PI K)) :
    rx_Go L (d + 1) mX11_isParted 157 [some (.inr 125), some (.inl x1), some (.inl x2), q3, some (.inl x4), some (.inl x5), some (.inl x6)] [] σ (rx_PI K) := by
  refine g_c iX11_isParted_157 ?_
  refine g_goto iX11_isParted_158 ?_
  refine g_is iX11_isParted_162 (Nat.le_of_ble_eq_true rfl) ?_
  refine rx_Go.ls (la := [some (.inr 125), some (.inl x1), some (.inl x2), some (.inl 1), some (.inl x4), some (.inl x5), some (.inl x6)]) rfl ?_
  exact H
set_option maxRecDepth 20000 in
set_option maxHeartbeats 4000000 in
theorem bX11_isParted_163 (L d : Nat) (x1 : Int) (x2 : Int) (x3 : Int) (x4 : Int) (x5 : Int) (x6 : Int) (σ : rx_St) (K : Int → rx_St → Prop)
    (H : rx_CI L d mX11_lesser [.inr 125, .inl x4] σ (fun v22 σ21 => if x5 ≠ 0 then ((0 ≤ v22 ∧ v22 < 8) ∧ (rx_Go L (d + 1) mX11_isParted 192 [some (.inr 125), some (.inl x1), some (.inl x2), some (.inl x3), some (.inl x4), some (.inl x5), some (.inl x6)] [] (rx_up σ21 131 v22 x5) (rx_PI K))) else (if x6 = 0 then ((0 ≤ v22 ∧ v22 < 8) ∧ (rx_Go L (d + 1) mX11_isParted 192 [some (.inr 125), some (.inl x1), some (.inl x2), some (.inl x3), some (.inl x4), some (.inl x5), some (.inl x6)] [] (rx_up σ21 131 v22 x5) (rx_PI K))) else ((0 ≤ v22 ∧ v22 < 8) ∧ (rx_Go L (d + 1) mX11_isParted 192 [some (.inr 125), some (.inl x1), some (.inl x2), some (.inl x3), some (.inl x4), some (.inl x5), some (.inl x6)] [] (rx_up σ21 131 v22 (rx_w (-x6))) (rx_PI K)))))) :
    rx_Go L (d + 1) mX11_isParted 163 [some (.inr 125), some (.inl x1), some (.inl x2), some (.inl x3), some (.inl x4), some (.inl x5), some (.inl x6)] [] σ (rx_PI K) := by
  refine g_al iX11_isParted_163 rfl ?_
  refine g_gr iX11_isParted_164 fr_11_6_125 ?_
  refine g_al iX11_isParted_167 rfl ?_
  refine g_il iX11_isParted_168 rfl ?_
  refine g_ci (as := [.inr 125, .inl x4]) (rest := [.inr 131]) iX11_isParted_170 rfl rfl (Nat.le_of_ble_eq_true rfl) (Or.inr ⟨_, _, rfl, oo_11_125⟩) (rx_CI.imp H (fun v22 σ21 H => ?_))
  refine g_il iX11_isParted_173 rfl ?_
  by_cases c23 : x5 ≠ 0
  · rw [if_pos c23] at H
    refine g_if1t iX11_isParted_175 c23 ?_
    refine g_il iX11_isParted_189 rfl ?_
    obtain ⟨o24, H⟩ := H
    refine g_st iX11_isParted_191 (ln_131 L) (by decide) o24 rfl ?_
    exact H
  · rw [if_neg c23] at H
    refine g_if1f iX11_isParted_175 c23 ?_
    refine g_il iX11_isParted_178 rfl ?_
    by_cases c25 : x6 = 0
    · rw [if_pos c25] at H
      refine g_if0t iX11_isParted_180 c25 ?_
      refine g_il iX11_isParted_189 rfl ?_
      obtain ⟨o26, H⟩ := H
      refine g_st iX11_isParted_191 (ln_131 L) (by decide) o26 rfl ?_
      exact H
    · rw [if_neg c25] at H
      refine g_if0f iX11_isParted_180 c25 ?_
      refine g_il iX11_isParted_183 rfl ?_
      refine g_neg iX11_isParted_185 ?_
      refine g_goto iX11_isParted_186 ?_
      obtain ⟨o27, H⟩ := H
      refine g_st iX11_isParted_191 (ln_131 L) (by decide) o27 rfl ?_
      exact H
set_option maxRecDepth 20000 in
set_option maxHeartbeats 4000000 in
theorem bX11_isParted_192 (L d : Nat) (x1 : Int) (x2 : Int) (x3 : Int) (x4 : Int) (x5 : Int) (x6 : Int) (σ : rx_St) (K : Int → rx_St → Prop)
    (H : rx_CI L d mX11_greater [.inr 125, .inl x4] σ (fun v29 σ28 => if x6 ≠ 0 then ((0 ≤ v29 ∧ v29 < 8) ∧ (rx_Go L (d + 1) mX11_isParted 221 [some (.inr 125), some (.inl x1), some (.inl x2), some (.inl x3), some (.inl x4), some (.inl x5), some (.inl x6)] [] (rx_up σ28 131 v29 x6) (rx_PI K))) else (if x5 = 0 then ((0 ≤ v29 ∧ v29 < 8) ∧ (rx_Go L (d + 1) mX11_isParted 221 [some (.inr 125), some (.inl x1), some (.inl x2), some (.inl x3), some (.inl x4), some (.inl x5), some (.inl x6)] [] (rx_up σ28 131 v29 x6) (rx_PI K))) else ((0 ≤ v29 ∧ v29 < 8) ∧ (rx_Go L (d + 1) mX11_isParted 221 [some (.inr 125), some (.inl x1), some (.inl x2), some (.inl x3), some (.inl x4), some (.inl x5), some (.inl x6)] [] (rx_up σ28 131 v29 (rx_w (-x5))) (rx_PI K)))))) :
    rx_Go L (d + 1) mX11_isParted 192 [some (.inr 125), some (.inl x1), some (.inl x2), some (.inl x3), some (.inl x4), some (.inl x5), some (.inl x6)] [] σ (rx_PI K) := by
  refine g_al iX11_isParted_192 rfl ?_
  refine g_gr iX11_isParted_193 fr_11_6_125 ?_
  refine g_al iX11_isParted_196 rfl ?_
  refine g_il iX11_isParted_197 rfl ?_
  refine g_ci (as := [.inr 125, .inl x4]) (rest := [.inr 131]) iX11_isParted_199 rfl rfl (Nat.le_of_ble_eq_true rfl) (Or.inr ⟨_, _, rfl, oo_11_125⟩) (rx_CI.imp H (fun v29 σ28 H => ?_))
  refine g_il iX11_isParted_202 rfl ?_
  by_cases c30 : x6 ≠ 0
  · rw [if_pos c30] at H
    refine g_if1t iX11_isParted_204 c30 ?_
    refine g_il iX11_isParted_218 rfl ?_
    obtain ⟨o31, H⟩ := H
    refine g_st iX11_isParted_220 (ln_131 L) (by decide) o31 rfl ?_
    exact H
  · rw [if_neg c30] at H
    refine g_if1f iX11_isParted_204 c30 ?_
    refine g_il iX11_isParted_207 rfl ?_
    by_cases c32 : x5 = 0
    · rw [if_pos c32] at H
      refine g_if0t iX11_isParted_209 c32 ?_
      refine g_il iX11_isParted_218 rfl ?_
      obtain ⟨o33, H⟩ := H
      refine g_st iX11_isParted_220 (ln_131 L) (by decide) o33 rfl ?_
      exact H
    · rw [if_neg c32] at H
      refine g_if0f iX11_isParted_209 c32 ?_
      refine g_il iX11_isParted_212 rfl ?_
      refine g_neg iX11_isParted_214 ?_
      refine g_goto iX11_isParted_215 ?_
      obtain ⟨o34, H⟩ := H
      refine g_st iX11_isParted_220 (ln_131 L) (by decide) o34 rfl ?_
      exact H
set_option maxRecDepth 20000 in
set_option maxHeartbeats 4000000 in
theorem bX11_isParted_221 (L d : Nat) (x1 : Int) (x2 : Int) (x3 : Int) (x4 : Int) (q5 : Option rx_V) (q6 : Option rx_V) (σ : rx_St) (K : Int → rx_St → Prop)
    (H : rx_Go L (d + 1) mX11_isParted 71 [some (.inr 125), some (.inl x1), some (.inl x2), some (.inl x3), some (.inl (rx_w (x4 + 1))), q5, q6] [] σ (rx_PI K)) :
    rx_Go L (d + 1) mX11_isParted 221 [some (.inr 125), some (.inl x1), some (.inl x2), some (.inl x3), some (.inl x4), q5, q6] [] σ (rx_PI K) := by
  refine g_ii iX11_isParted_221 rfl ?_
  refine rx_Go.ls (la := [some (.inr 125), some (.inl x1), some (.inl x2), some (.inl x3), some (.inl (rx_w (x4 + 1))), q5, q6]) rfl ?_
  refine g_goto iX11_isParted_224 ?_
  exact H
set_option maxRecDepth 20000 in
set_option maxHeartbeats 4000000 in
theorem bX11_bound (L d : Nat)  (σ : rx_St) (K : Int → rx_St → Prop)
    (H : if 3 ≤ (σ 126 1) then (rx_CI L d mX11_isParted [.inr 125] σ (fun v3 σ2 => if v3 = 0 then (K (rx_mx 0 (rx_w ((rx_w ((σ 126 2) - (rx_w (3 * (σ 126 1))))) + 6))) σ2) else (K (rx_mx (rx_mx 0 (rx_w ((rx_w ((σ 126 2) - (rx_w (3 * (σ 126 1))))) + 6))) (rx_w ((rx_w ((σ2 126 2) - (rx_w (2 * (σ2 126 1))))) + 4))) σ2))) else (K 0 σ)) :
    rx_CI L (d + 1) mX11_bound [.inr 125] σ K := by
  refine rx_CI.of (la := [some (.inr 125), none]) rfl ?_
  refine g_al iX11_bound_0 rfl ?_
  refine g_gr iX11_bound_1 fr_11_0_125 ?_
  refine g_c iX11_bound_4 ?_
  refine g_ld iX11_bound_5 (ln_126 L) (by decide) ?_
  refine g_c iX11_bound_6 ?_
  by_cases c1 : 3 ≤ (σ 126 1)
  · rw [if_pos c1] at H
    refine g_ic3t iX11_bound_7 c1 ?_
    refine g_c iX11_bound_12 ?_
    refine g_al iX11_bound_13 rfl ?_
    refine g_gr iX11_bound_14 fr_11_0_125 ?_
    refine g_c iX11_bound_17 ?_
    refine g_ld iX11_bound_18 (ln_126 L) (by decide) ?_
    refine g_c iX11_bound_19 ?_
    refine g_al iX11_bound_20 rfl ?_
    refine g_gr iX11_bound_21 fr_11_0_125 ?_
    refine g_c iX11_bound_24 ?_
    refine g_ld iX11_bound_25 (ln_126 L) (by decide) ?_
    refine g_mul iX11_bound_26 ?_
    refine g_sub iX11_bound_27 ?_
    refine g_c iX11_bound_28 ?_
    refine g_add iX11_bound_30 ?_
    refine g_mx iX11_bound_31 (Nat.le_of_ble_eq_true rfl) ?_
    refine g_is iX11_bound_34 (Nat.le_of_ble_eq_true rfl) ?_
    refine rx_Go.ls (la := [some (.inr 125), some (.inl (rx_mx 0 (rx_w ((rx_w ((σ 126 2) - (rx_w (3 * (σ 126 1))))) + 6))))]) rfl ?_
    refine g_al iX11_bound_35 rfl ?_
    refine g_ci (as := [.inr 125]) (rest := []) iX11_bound_36 rfl rfl (Nat.le_of_ble_eq_true rfl) (Or.inr ⟨_, _, rfl, oo_11_125⟩) (rx_CI.imp H (fun v3 σ2 H => ?_))
    by_cases c4 : v3 = 0
    · rw [if_pos c4] at H
      refine g_if0t iX11_bound_39 c4 ?_
      refine g_il iX11_bound_66 rfl ?_
      exact g_ri iX11_bound_67 (Or.inl rfl) H
    · rw [if_neg c4] at H
      refine g_if0f iX11_bound_39 c4 ?_
      refine g_il iX11_bound_42 rfl ?_
      refine g_al iX11_bound_43 rfl ?_
      refine g_gr iX11_bound_44 fr_11_0_125 ?_
      refine g_c iX11_bound_47 ?_
      refine g_ld iX11_bound_48 (ln_126 L) (by decide) ?_
      refine g_c iX11_bound_49 ?_
      refine g_al iX11_bound_50 rfl ?_
      refine g_gr iX11_bound_51 fr_11_0_125 ?_
      refine g_c iX11_bound_54 ?_
      refine g_ld iX11_bound_55 (ln_126 L) (by decide) ?_
      refine g_mul iX11_bound_56 ?_
      refine g_sub iX11_bound_57 ?_
      refine g_c iX11_bound_58 ?_
      refine g_add iX11_bound_59 ?_
      refine g_mx iX11_bound_60 (Nat.le_of_ble_eq_true rfl) ?_
      refine g_goto iX11_bound_63 ?_
      exact g_ri iX11_bound_67 (Or.inl rfl) H
  · rw [if_neg c1] at H
    refine g_ic3f iX11_bound_7 c1 ?_
    refine g_c iX11_bound_10 ?_
    exact g_ri iX11_bound_11 (Or.inl rfl) H
set_option maxRecDepth 20000 in
set_option maxHeartbeats 4000000 in
theorem bX11_swap (L d : Nat) (x1 : Int) (x2 : Int) (σ : rx_St) (K : rx_St → Prop)
    (H : rx_Go L d mX11_swap 2 [some (.inr 125), some (.inl x1), some (.inl x2), some (.inl 0), none] [] σ (rx_PV K)) :
    rx_CV L d mX11_swap [.inr 125, .inl x1, .inl x2] σ K := by
  refine rx_CV.of (la := [some (.inr 125), some (.inl x1), some (.inl x2), none, none]) rfl ?_
  refine g_c iX11_swap_0 ?_
  refine g_is iX11_swap_1 (Nat.le_of_ble_eq_true rfl) ?_
  refine rx_Go.ls (la := [some (.inr 125), some (.inl x1), some (.inl x2), some (.inl 0), none]) rfl ?_
  exact H
set_option maxRecDepth 20000 in
set_option maxHeartbeats 4000000 in
theorem bX11_swap_2 (L d : Nat) (x1 : Int) (x2 : Int) (x3 : Int) (q4 : Option rx_V) (σ : rx_St) (K : rx_St → Prop)
    (H : if 2 ≤ x3 then (K σ) else ((0 ≤ (rx_w ((rx_w (4 + (rx_w (3 * x1)))) + x3)) ∧ (rx_w ((rx_w (4 + (rx_w (3 * x1)))) + x3)) < 1498) ∧ ((0 ≤ (rx_w ((rx_w (4 + (rx_w (3 * x2)))) + x3)) ∧ (rx_w ((rx_w (4 + (rx_w (3 * x2)))) + x3)) < 1498) ∧ (rx_Go L d mX11_swap 2 [some (.inr 125), some (.inl x1), some (.inl x2), some (.inl (rx_w (x3 + 1))), some (.inl (σ 126 (rx_w ((rx_w (4 + (rx_w (3 * x1)))) + x3))))] [] (rx_up (rx_up σ 126 (rx_w ((rx_w (4 + (rx_w (3 * x1)))) + x3)) (σ 126 (rx_w ((rx_w (4 + (rx_w (3 * x2)))) + x3)))) 126 (rx_w ((rx_w (4 + (rx_w (3 * x2)))) + x3)) (σ 126 (rx_w ((rx_w (4 + (rx_w (3 * x1)))) + x3)))) (rx_PV K))))) :
    rx_Go L d mX11_swap 2 [some (.inr 125), some (.inl x1), some (.inl x2), some (.inl x3), q4] [] σ (rx_PV K) := by
  refine g_il iX11_swap_2 rfl ?_
  refine g_c iX11_swap_3 ?_
  by_cases c1 : 2 ≤ x3
  · rw [if_pos c1] at H
    refine g_ic3t iX11_swap_4 c1 ?_
    exact g_rv iX11_swap_65 H
  · rw [if_neg c1] at H
    refine g_ic3f iX11_swap_4 c1 ?_
    refine g_al iX11_swap_7 rfl ?_
    refine g_gr iX11_swap_8 fr_11_0_125 ?_
    refine g_c iX11_swap_11 ?_
    refine g_c iX11_swap_12 ?_
    refine g_il iX11_swap_13 rfl ?_
    refine g_mul iX11_swap_14 ?_
    refine g_add iX11_swap_15 ?_
    refine g_il iX11_swap_16 rfl ?_
    refine g_add iX11_swap_17 ?_
    obtain ⟨o2, H⟩ := H
    refine g_ld iX11_swap_18 (ln_126 L) o2 ?_
    refine g_is iX11_swap_19 (Nat.le_of_ble_eq_true rfl) ?_
    refine rx_Go.ls (la := [some (.inr 125), some (.inl x1), some (.inl x2), some (.inl x3), some (.inl (σ 126 (rx_w ((rx_w (4 + (rx_w (3 * x1)))) + x3))))]) rfl ?_
    refine g_al iX11_swap_21 rfl ?_
    refine g_gr iX11_swap_22 fr_11_0_125 ?_
    refine g_c iX11_swap_25 ?_
    refine g_c iX11_swap_26 ?_
    refine g_il iX11_swap_27 rfl ?_
    refine g_mul iX11_swap_28 ?_
    refine g_add iX11_swap_29 ?_
    refine g_il iX11_swap_30 rfl ?_
    refine g_add iX11_swap_31 ?_
    refine g_al iX11_swap_32 rfl ?_
    refine g_gr iX11_swap_33 fr_11_0_125 ?_
    refine g_c iX11_swap_36 ?_
    refine g_c iX11_swap_37 ?_
    refine g_il iX11_swap_38 rfl ?_
    refine g_mul iX11_swap_39 ?_
    refine g_add iX11_swap_40 ?_
    refine g_il iX11_swap_41 rfl ?_
    refine g_add iX11_swap_42 ?_
    obtain ⟨o3, H⟩ := H
    refine g_ld iX11_swap_43 (ln_126 L) o3 ?_
    refine g_st iX11_swap_44 (ln_126 L) (by decide) o2 rfl ?_
    refine g_al iX11_swap_45 rfl ?_
    refine g_gr iX11_swap_46 fr_11_0_125 ?_
    refine g_c iX11_swap_49 ?_
    refine g_c iX11_swap_50 ?_
    refine g_il iX11_swap_51 rfl ?_
    refine g_mul iX11_swap_52 ?_
    refine g_add iX11_swap_53 ?_
    refine g_il iX11_swap_54 rfl ?_
    refine g_add iX11_swap_55 ?_
    refine g_il iX11_swap_56 rfl ?_
    refine g_st iX11_swap_58 (ln_126 L) (by decide) o3 rfl ?_
    refine g_ii iX11_swap_59 rfl ?_
    refine rx_Go.ls (la := [some (.inr 125), some (.inl x1), some (.inl x2), some (.inl (rx_w (x3 + 1))), some (.inl (σ 126 (rx_w ((rx_w (4 + (rx_w (3 * x1)))) + x3))))]) rfl ?_
    refine g_goto iX11_swap_62 ?_
    exact H
set_option maxRecDepth 20000 in
set_option maxHeartbeats 4000000 in
theorem bX11_costBehind (L d : Nat) (x1 : Int) (x2 : Int) (σ : rx_St) (K : Int → rx_St → Prop)
    (H : rx_CV L d mX11_swap [.inr 125, .inl x1, .inl x2] σ (fun σ1 => rx_CI L d mX11_straightly [.inr 125, .inl 1, .inl (-1)] σ1 (fun v3 σ2 => rx_CV L d mX11_swap [.inr 125, .inl x1, .inl x2] σ2 (fun σ4 => K v3 σ4)))) :
    rx_CI L (d + 1) mX11_costBehind [.inr 125, .inl x1, .inl x2] σ K := by
  refine rx_CI.of (la := [some (.inr 125), some (.inl x1), some (.inl x2), none]) rfl ?_
  refine g_al iX11_costBehind_0 rfl ?_
  refine g_il iX11_costBehind_1 rfl ?_
  refine g_il iX11_costBehind_2 rfl ?_
  refine g_cv (as := [.inr 125, .inl x1, .inl x2]) (rest := []) iX11_costBehind_3 rfl rfl (Nat.le_of_ble_eq_true rfl) (Or.inr ⟨_, _, rfl, oo_11_125⟩) (rx_CV.imp H (fun σ1 H => ?_))
  refine g_al iX11_costBehind_6 rfl ?_
  refine g_c iX11_costBehind_7 ?_
  refine g_c iX11_costBehind_8 ?_
  refine g_ci (as := [.inr 125, .inl 1, .inl (-1)]) (rest := []) iX11_costBehind_9 rfl rfl (Nat.le_of_ble_eq_true rfl) (Or.inr ⟨_, _, rfl, oo_11_125⟩) (rx_CI.imp H (fun v3 σ2 H => ?_))
  refine g_is iX11_costBehind_12 (Nat.le_of_ble_eq_true rfl) ?_
  refine rx_Go.ls (la := [some (.inr 125), some (.inl x1), some (.inl x2), some (.inl v3)]) rfl ?_
  refine g_al iX11_costBehind_13 rfl ?_
  refine g_il iX11_costBehind_14 rfl ?_
  refine g_il iX11_costBehind_15 rfl ?_
  refine g_cv (as := [.inr 125, .inl x1, .inl x2]) (rest := []) iX11_costBehind_16 rfl rfl (Nat.le_of_ble_eq_true rfl) (Or.inr ⟨_, _, rfl, oo_11_125⟩) (rx_CV.imp H (fun σ4 H => ?_))
  refine g_il iX11_costBehind_19 rfl ?_
  exact g_ri iX11_costBehind_20 (Or.inl rfl) H
set_option maxRecDepth 20000 in
set_option maxHeartbeats 4000000 in
theorem bX11_would (L d : Nat) (x1 : Int) (x2 : Int) (σ : rx_St) (K : Int → rx_St → Prop)
    (H : rx_CI L d mX11_isPost [.inr 125, .inl x1] σ (fun v2 σ1 => if v2 = 0 then (K (-1000000001) σ1) else (rx_CI L d mX11_isPost [.inr 125, .inl x2] σ1 (fun v5 σ4 => if v5 = 0 then (K (-1000000001) σ4) else (if x1 ≠ x2 then (rx_CV L d mX11_findPairs [.inr 125] σ4 (fun σ8 => rx_CI L d mX11_costBehind [.inr 125, .inl x1, .inl x2] σ8 (fun v10 σ9 => rx_CI L d mX11_straightly [.inr 125, .inl 1, .inl (-1)] σ9 (fun v12 σ11 => K (rx_w (v10 - v12)) σ11)))) else (K (-1000000001) σ4)))))) :
    rx_CI L (d + 1) mX11_would [.inr 125, .inl x1, .inl x2] σ K := by
  refine rx_CI.of (la := [some (.inr 125), some (.inl x1), some (.inl x2)]) rfl ?_
  refine g_al iX11_would_0 rfl ?_
  refine g_il iX11_would_1 rfl ?_
  refine g_ci (as := [.inr 125, .inl x1]) (rest := []) iX11_would_2 rfl rfl (Nat.le_of_ble_eq_true rfl) (Or.inr ⟨_, _, rfl, oo_11_125⟩) (rx_CI.imp H (fun v2 σ1 H => ?_))
  by_cases c3 : v2 = 0
  · rw [if_pos c3] at H
    refine g_if0t iX11_would_5 c3 ?_
    refine g_c iX11_would_21 ?_
    exact g_ri iX11_would_23 (Or.inl rfl) H
  · rw [if_neg c3] at H
    refine g_if0f iX11_would_5 c3 ?_
    refine g_al iX11_would_8 rfl ?_
    refine g_il iX11_would_9 rfl ?_
    refine g_ci (as := [.inr 125, .inl x2]) (rest := []) iX11_would_10 rfl rfl (Nat.le_of_ble_eq_true rfl) (Or.inr ⟨_, _, rfl, oo_11_125⟩) (rx_CI.imp H (fun v5 σ4 H => ?_))
    by_cases c6 : v5 = 0
    · rw [if_pos c6] at H
      refine g_if0t iX11_would_13 c6 ?_
      refine g_c iX11_would_21 ?_
      exact g_ri iX11_would_23 (Or.inl rfl) H
    · rw [if_neg c6] at H
      refine g_if0f iX11_would_13 c6 ?_
      refine g_il iX11_would_16 rfl ?_
      refine g_il iX11_would_17 rfl ?_
      by_cases c7 : x1 ≠ x2
      · rw [if_pos c7] at H
        refine g_ic1t iX11_would_18 c7 ?_
        refine g_al iX11_would_24 rfl ?_
        refine g_cv (as := [.inr 125]) (rest := []) iX11_would_25 rfl rfl (Nat.le_of_ble_eq_true rfl) (Or.inr ⟨_, _, rfl, oo_11_125⟩) (rx_CV.imp H (fun σ8 H => ?_))
        refine g_al iX11_would_28 rfl ?_
        refine g_il iX11_would_29 rfl ?_
        refine g_il iX11_would_30 rfl ?_
        refine g_ci (as := [.inr 125, .inl x1, .inl x2]) (rest := []) iX11_would_31 rfl rfl (Nat.le_of_ble_eq_true rfl) (Or.inr ⟨_, _, rfl, oo_11_125⟩) (rx_CI.imp H (fun v10 σ9 H => ?_))
        refine g_al iX11_would_34 rfl ?_
        refine g_c iX11_would_35 ?_
        refine g_c iX11_would_36 ?_
        refine g_ci (as := [.inr 125, .inl 1, .inl (-1)]) (rest := [.inl v10]) iX11_would_37 rfl rfl (Nat.le_of_ble_eq_true rfl) (Or.inr ⟨_, _, rfl, oo_11_125⟩) (rx_CI.imp H (fun v12 σ11 H => ?_))
        refine g_sub iX11_would_40 ?_
        exact g_ri iX11_would_41 (Or.inl rfl) H
      · rw [if_neg c7] at H
        refine g_ic1f iX11_would_18 c7 ?_
        refine g_c iX11_would_21 ?_
        exact g_ri iX11_would_23 (Or.inl rfl) H
set_option maxRecDepth 20000 in
set_option maxHeartbeats 4000000 in
theorem bX11_maySwap (L d : Nat) (x1 : Int) (x2 : Int) (σ : rx_St) (K : Int → rx_St → Prop)
    (H : rx_CI L d mX11_counts [.inr 125, .inl 2] σ (fun v2 σ1 => if v2 < 0 then (K 1 (rx_up (rx_up σ1 149 0 x1) 149 1 x2)) else (rx_CI L d mX11_worksOut [.inr 125, .inl v2] (rx_up (rx_up σ1 149 0 x1) 149 1 x2) (fun v5 σ4 => if v5 = 0 then (K 0 σ4) else (K 1 σ4))))) :
    rx_CI L (d + 1) mX11_maySwap [.inr 125, .inl x1, .inl x2] σ K := by
  refine rx_CI.of (la := [some (.inr 125), some (.inl x1), some (.inl x2), none]) rfl ?_
  refine g_al iX11_maySwap_0 rfl ?_
  refine g_c iX11_maySwap_1 ?_
  refine g_ci (as := [.inr 125, .inl 2]) (rest := []) iX11_maySwap_2 rfl rfl (Nat.le_of_ble_eq_true rfl) (Or.inr ⟨_, _, rfl, oo_11_125⟩) (rx_CI.imp H (fun v2 σ1 H => ?_))
  refine g_is iX11_maySwap_5 (Nat.le_of_ble_eq_true rfl) ?_
  refine rx_Go.ls (la := [some (.inr 125), some (.inl x1), some (.inl x2), some (.inl v2)]) rfl ?_
  refine g_al iX11_maySwap_6 rfl ?_
  refine g_gr iX11_maySwap_7 fr_11_38_125 ?_
  refine g_c iX11_maySwap_10 ?_
  refine g_il iX11_maySwap_11 rfl ?_
  refine g_st iX11_maySwap_12 (ln_149 L) (by decide) (by decide) rfl ?_
  refine g_al iX11_maySwap_13 rfl ?_
  refine g_gr iX11_maySwap_14 fr_11_38_125 ?_
  refine g_c iX11_maySwap_17 ?_
  refine g_il iX11_maySwap_18 rfl ?_
  refine g_st iX11_maySwap_19 (ln_149 L) (by decide) (by decide) rfl ?_
  refine g_il iX11_maySwap_20 rfl ?_
  by_cases c3 : v2 < 0
  · rw [if_pos c3] at H
    refine g_if2t iX11_maySwap_21 c3 ?_
    refine g_c iX11_maySwap_32 ?_
    refine g_goto iX11_maySwap_33 ?_
    exact g_ri iX11_maySwap_37 (by decide) H
  · rw [if_neg c3] at H
    refine g_if2f iX11_maySwap_21 c3 ?_
    refine g_al iX11_maySwap_24 rfl ?_
    refine g_il iX11_maySwap_25 rfl ?_
    refine g_ci (as := [.inr 125, .inl v2]) (rest := []) iX11_maySwap_26 rfl rfl (Nat.le_of_ble_eq_true rfl) (Or.inr ⟨_, _, rfl, oo_11_125⟩) (rx_CI.imp H (fun v5 σ4 H => ?_))
    by_cases c6 : v5 = 0
    · rw [if_pos c6] at H
      refine g_if0t iX11_maySwap_29 c6 ?_
      refine g_c iX11_maySwap_36 ?_
      exact g_ri iX11_maySwap_37 (by decide) H
    · rw [if_neg c6] at H
      refine g_if0f iX11_maySwap_29 c6 ?_
      refine g_c iX11_maySwap_32 ?_
      refine g_goto iX11_maySwap_33 ?_
      exact g_ri iX11_maySwap_37 (by decide) H
set_option maxRecDepth 20000 in
set_option maxHeartbeats 4000000 in
theorem bX11_findSwap (L d : Nat)  (σ : rx_St) (K : rx_St → Prop)
    (H : rx_CV L d mX11_findPairs [.inr 125] σ (fun σ1 => rx_CI L d mX11_straightly [.inr 125, .inl 1, .inl (-1)] (rx_up σ1 125 7 (-1)) (fun v3 σ2 => rx_Go L (d + 1) mX11_findSwap 21 [some (.inr 125), some (.inl 0), none, none] [] (rx_up σ2 125 8 v3) (rx_PV K)))) :
    rx_CV L (d + 1) mX11_findSwap [.inr 125] σ K := by
  refine rx_CV.of (la := [some (.inr 125), none, none, none]) rfl ?_
  refine g_al iX11_findSwap_0 rfl ?_
  refine g_cv (as := [.inr 125]) (rest := []) iX11_findSwap_1 rfl rfl (Nat.le_of_ble_eq_true rfl) (Or.inr ⟨_, _, rfl, oo_11_125⟩) (rx_CV.imp H (fun σ1 H => ?_))
  refine g_al iX11_findSwap_4 rfl ?_
  refine g_c iX11_findSwap_5 ?_
  refine g_pf (kI := 7) rfl iX11_findSwap_6 fi_11_7_125 (Or.inl rfl) ?_
  refine g_al iX11_findSwap_9 rfl ?_
  refine g_al iX11_findSwap_10 rfl ?_
  refine g_c iX11_findSwap_11 ?_
  refine g_c iX11_findSwap_12 ?_
  refine g_ci (as := [.inr 125, .inl 1, .inl (-1)]) (rest := [.inr 125]) iX11_findSwap_13 rfl rfl (Nat.le_of_ble_eq_true rfl) (Or.inr ⟨_, _, rfl, oo_11_125⟩) (rx_CI.imp H (fun v3 σ2 H => ?_))
  refine g_pf (kI := 8) rfl iX11_findSwap_16 fi_11_8_125 (Or.inl rfl) ?_
  refine g_c iX11_findSwap_19 ?_
  refine g_is iX11_findSwap_20 (Nat.le_of_ble_eq_true rfl) ?_
  refine rx_Go.ls (la := [some (.inr 125), some (.inl 0), none, none]) rfl ?_
  exact H
set_option maxRecDepth 20000 in
set_option maxHeartbeats 4000000 in
theorem bX11_findSwap_21 (L d : Nat) (x1 : Int) (q2 : Option rx_V) (q3 : Option rx_V) (σ : rx_St) (K : rx_St → Prop)
    (H : if (σ 126 1) ≤ x1 then (K σ) else (rx_Go L (d + 1) mX11_findSwap 35 [some (.inr 125), some (.inl x1), some (.inl (rx_w (x1 + 1))), q3] [] σ (rx_PV K))) :
    rx_Go L (d + 1) mX11_findSwap 21 [some (.inr 125), some (.inl x1), q2, q3] [] σ (rx_PV K) := by
  refine g_il iX11_findSwap_21 rfl ?_
  refine g_al iX11_findSwap_22 rfl ?_
  refine g_gr iX11_findSwap_23 fr_11_0_125 ?_
  refine g_c iX11_findSwap_26 ?_
  refine g_ld iX11_findSwap_27 (ln_126 L) (by decide) ?_
  by_cases c4 : (σ 126 1) ≤ x1
  · rw [if_pos c4] at H
    refine g_ic3t iX11_findSwap_28 c4 ?_
    exact g_rv iX11_findSwap_125 H
  · rw [if_neg c4] at H
    refine g_ic3f iX11_findSwap_28 c4 ?_
    refine g_il iX11_findSwap_31 rfl ?_
    refine g_c iX11_findSwap_32 ?_
    refine g_add iX11_findSwap_33 ?_
    refine g_is iX11_findSwap_34 (Nat.le_of_ble_eq_true rfl) ?_
    refine rx_Go.ls (la := [some (.inr 125), some (.inl x1), some (.inl (rx_w (x1 + 1))), q3]) rfl ?_
    exact H
set_option maxRecDepth 20000 in
set_option maxHeartbeats 4000000 in
theorem bX11_findSwap_35 (L d : Nat) (x1 : Int) (x2 : Int) (q3 : Option rx_V) (σ : rx_St) (K : rx_St → Prop)
    (H : if (σ 126 1) ≤ x2 then (rx_Go L (d + 1) mX11_findSwap 21 [some (.inr 125), some (.inl (rx_w (x1 + 1))), some (.inl x2), q3] [] σ (rx_PV K)) else (rx_CI L d mX11_maySwap [.inr 125, .inl x1, .inl x2] σ (fun v7 σ6 => if v7 = 0 then (rx_Go L (d + 1) mX11_findSwap 68 [some (.inr 125), some (.inl x1), some (.inl x2), some (.inl (σ6 125 8))] [] σ6 (rx_PV K)) else (rx_CI L d mX11_costBehind [.inr 125, .inl x1, .inl x2] σ6 (fun v10 σ9 => rx_Go L (d + 1) mX11_findSwap 68 [some (.inr 125), some (.inl x1), some (.inl x2), some (.inl v10)] [] σ9 (rx_PV K)))))) :
    rx_Go L (d + 1) mX11_findSwap 35 [some (.inr 125), some (.inl x1), some (.inl x2), q3] [] σ (rx_PV K) := by
  refine g_il iX11_findSwap_35 rfl ?_
  refine g_al iX11_findSwap_36 rfl ?_
  refine g_gr iX11_findSwap_37 fr_11_0_125 ?_
  refine g_c iX11_findSwap_40 ?_
  refine g_ld iX11_findSwap_41 (ln_126 L) (by decide) ?_
  by_cases c5 : (σ 126 1) ≤ x2
  · rw [if_pos c5] at H
    refine g_ic3t iX11_findSwap_42 c5 ?_
    refine g_ii iX11_findSwap_119 rfl ?_
    refine rx_Go.ls (la := [some (.inr 125), some (.inl (rx_w (x1 + 1))), some (.inl x2), q3]) rfl ?_
    refine g_goto iX11_findSwap_122 ?_
    exact H
  · rw [if_neg c5] at H
    refine g_ic3f iX11_findSwap_42 c5 ?_
    refine g_al iX11_findSwap_45 rfl ?_
    refine g_il iX11_findSwap_46 rfl ?_
    refine g_il iX11_findSwap_47 rfl ?_
    refine g_ci (as := [.inr 125, .inl x1, .inl x2]) (rest := []) iX11_findSwap_48 rfl rfl (Nat.le_of_ble_eq_true rfl) (Or.inr ⟨_, _, rfl, oo_11_125⟩) (rx_CI.imp H (fun v7 σ6 H => ?_))
    by_cases c8 : v7 = 0
    · rw [if_pos c8] at H
      refine g_if0t iX11_findSwap_51 c8 ?_
      refine g_al iX11_findSwap_63 rfl ?_
      refine g_gf (kI := 8) rfl iX11_findSwap_64 fi_11_8_125 ?_
      refine g_is iX11_findSwap_67 (Nat.le_of_ble_eq_true rfl) ?_
      refine rx_Go.ls (la := [some (.inr 125), some (.inl x1), some (.inl x2), some (.inl (σ6 125 8))]) rfl ?_
      exact H
    · rw [if_neg c8] at H
      refine g_if0f iX11_findSwap_51 c8 ?_
      refine g_al iX11_findSwap_54 rfl ?_
      refine g_il iX11_findSwap_55 rfl ?_
      refine g_il iX11_findSwap_56 rfl ?_
      refine g_ci (as := [.inr 125, .inl x1, .inl x2]) (rest := []) iX11_findSwap_57 rfl rfl (Nat.le_of_ble_eq_true rfl) (Or.inr ⟨_, _, rfl, oo_11_125⟩) (rx_CI.imp H (fun v10 σ9 H => ?_))
      refine g_goto iX11_findSwap_60 ?_
      refine g_is iX11_findSwap_67 (Nat.le_of_ble_eq_true rfl) ?_
      refine rx_Go.ls (la := [some (.inr 125), some (.inl x1), some (.inl x2), some (.inl v10)]) rfl ?_
      exact H
set_option maxRecDepth 20000 in
set_option maxHeartbeats 4000000 in
theorem bX11_findSwap_68 (L d : Nat) (x1 : Int) (x2 : Int) (x3 : Int) (σ : rx_St) (K : rx_St → Prop)
    (H : if (σ 125 8) ≤ x3 then (rx_Go L (d + 1) mX11_findSwap 93 [some (.inr 125), some (.inl x1), some (.inl x2), some (.inl x3)] [] (rx_up σ 125 7 (σ 125 7)) (rx_PV K)) else (rx_Go L (d + 1) mX11_findSwap 93 [some (.inr 125), some (.inl x1), some (.inl x2), some (.inl x3)] [] (rx_up σ 125 7 (rx_w ((rx_w (10 * x1)) + x2))) (rx_PV K))) :
    rx_Go L (d + 1) mX11_findSwap 68 [some (.inr 125), some (.inl x1), some (.inl x2), some (.inl x3)] [] σ (rx_PV K) := by
  refine g_al iX11_findSwap_68 rfl ?_
  refine g_il iX11_findSwap_69 rfl ?_
  refine g_al iX11_findSwap_70 rfl ?_
  refine g_gf (kI := 8) rfl iX11_findSwap_71 fi_11_8_125 ?_
  by_cases c11 : (σ 125 8) ≤ x3
  · rw [if_pos c11] at H
    refine g_ic3t iX11_findSwap_74 c11 ?_
    refine g_al iX11_findSwap_86 rfl ?_
    refine g_gf (kI := 7) rfl iX11_findSwap_87 fi_11_7_125 ?_
    refine g_pf (kI := 7) rfl iX11_findSwap_90 fi_11_7_125 (Or.inl rfl) ?_
    exact H
  · rw [if_neg c11] at H
    refine g_ic3f iX11_findSwap_74 c11 ?_
    refine g_c iX11_findSwap_77 ?_
    refine g_il iX11_findSwap_79 rfl ?_
    refine g_mul iX11_findSwap_80 ?_
    refine g_il iX11_findSwap_81 rfl ?_
    refine g_add iX11_findSwap_82 ?_
    refine g_goto iX11_findSwap_83 ?_
    refine g_pf (kI := 7) rfl iX11_findSwap_90 fi_11_7_125 (Or.inl rfl) ?_
    exact H
set_option maxRecDepth 20000 in
set_option maxHeartbeats 4000000 in
theorem bX11_findSwap_93 (L d : Nat) (x1 : Int) (x2 : Int) (x3 : Int) (σ : rx_St) (K : rx_St → Prop)
    (H : if (σ 125 8) ≤ x3 then (rx_Go L (d + 1) mX11_findSwap 113 [some (.inr 125), some (.inl x1), some (.inl x2), some (.inl x3)] [] (rx_up σ 125 8 (σ 125 8)) (rx_PV K)) else (rx_Go L (d + 1) mX11_findSwap 113 [some (.inr 125), some (.inl x1), some (.inl x2), some (.inl x3)] [] (rx_up σ 125 8 x3) (rx_PV K))) :
    rx_Go L (d + 1) mX11_findSwap 93 [some (.inr 125), some (.inl x1), some (.inl x2), some (.inl x3)] [] σ (rx_PV K) := by
  refine g_al iX11_findSwap_93 rfl ?_
  refine g_il iX11_findSwap_94 rfl ?_
  refine g_al iX11_findSwap_95 rfl ?_
  refine g_gf (kI := 8) rfl iX11_findSwap_96 fi_11_8_125 ?_
  by_cases c12 : (σ 125 8) ≤ x3
  · rw [if_pos c12] at H
    refine g_ic3t iX11_findSwap_99 c12 ?_
    refine g_al iX11_findSwap_106 rfl ?_
    refine g_gf (kI := 8) rfl iX11_findSwap_107 fi_11_8_125 ?_
    refine g_pf (kI := 8) rfl iX11_findSwap_110 fi_11_8_125 (Or.inl rfl) ?_
    exact H
  · rw [if_neg c12] at H
    refine g_ic3f iX11_findSwap_99 c12 ?_
    refine g_il iX11_findSwap_102 rfl ?_
    refine g_goto iX11_findSwap_103 ?_
    refine g_pf (kI := 8) rfl iX11_findSwap_110 fi_11_8_125 (Or.inl rfl) ?_
    exact H
set_option maxRecDepth 20000 in
set_option maxHeartbeats 4000000 in
theorem bX11_findSwap_113 (L d : Nat) (x1 : Int) (x2 : Int) (q3 : Option rx_V) (σ : rx_St) (K : rx_St → Prop)
    (H : rx_Go L (d + 1) mX11_findSwap 35 [some (.inr 125), some (.inl x1), some (.inl (rx_w (x2 + 1))), q3] [] σ (rx_PV K)) :
    rx_Go L (d + 1) mX11_findSwap 113 [some (.inr 125), some (.inl x1), some (.inl x2), q3] [] σ (rx_PV K) := by
  refine g_ii iX11_findSwap_113 rfl ?_
  refine rx_Go.ls (la := [some (.inr 125), some (.inl x1), some (.inl (rx_w (x2 + 1))), q3]) rfl ?_
  refine g_goto iX11_findSwap_116 ?_
  exact H
set_option maxRecDepth 20000 in
set_option maxHeartbeats 4000000 in
theorem bX11_best (L d : Nat) (x1 : Int) (σ : rx_St) (K : Int → rx_St → Prop)
    (H : rx_CI L d mX11_in [.inl x1, .inl 0, .inl 1] σ (fun v2 σ1 => if v2 ≠ 0 then (rx_CV L d mX11_findSwap [.inr 125] σ1 (fun σ4 => if 0 ≤ (σ4 125 7) then (if x1 ≠ 0 then (K (σ4 125 8) σ4) else (K (σ4 125 7) σ4)) else (K (-1000000005) σ4))) else (K (-1000000001) σ1))) :
    rx_CI L (d + 1) mX11_best [.inr 125, .inl x1] σ K := by
  refine rx_CI.of (la := [some (.inr 125), some (.inl x1)]) rfl ?_
  refine g_il iX11_best_0 rfl ?_
  refine g_c iX11_best_1 ?_
  refine g_c iX11_best_2 ?_
  refine g_ci (as := [.inl x1, .inl 0, .inl 1]) (rest := []) iX11_best_3 rfl rfl (Nat.le_of_ble_eq_true rfl) (Or.inl (by decide)) (rx_CI.imp H (fun v2 σ1 H => ?_))
  by_cases c3 : v2 ≠ 0
  · rw [if_pos c3] at H
    refine g_if1t iX11_best_6 c3 ?_
    refine g_al iX11_best_12 rfl ?_
    refine g_cv (as := [.inr 125]) (rest := []) iX11_best_13 rfl rfl (Nat.le_of_ble_eq_true rfl) (Or.inr ⟨_, _, rfl, oo_11_125⟩) (rx_CV.imp H (fun σ4 H => ?_))
    refine g_al iX11_best_16 rfl ?_
    refine g_gf (kI := 7) rfl iX11_best_17 fi_11_7_125 ?_
    by_cases c5 : 0 ≤ (σ4 125 7)
    · rw [if_pos c5] at H
      refine g_if3t iX11_best_20 c5 ?_
      refine g_il iX11_best_28 rfl ?_
      by_cases c6 : x1 ≠ 0
      · rw [if_pos c6] at H
        refine g_if1t iX11_best_29 c6 ?_
        refine g_al iX11_best_39 rfl ?_
        refine g_gf (kI := 8) rfl iX11_best_40 fi_11_8_125 ?_
        exact g_ri iX11_best_43 (Or.inl rfl) H
      · rw [if_neg c6] at H
        refine g_if1f iX11_best_29 c6 ?_
        refine g_al iX11_best_32 rfl ?_
        refine g_gf (kI := 7) rfl iX11_best_33 fi_11_7_125 ?_
        refine g_goto iX11_best_36 ?_
        exact g_ri iX11_best_43 (Or.inl rfl) H
    · rw [if_neg c5] at H
      refine g_if3f iX11_best_20 c5 ?_
      refine g_c iX11_best_23 ?_
      refine g_goto iX11_best_25 ?_
      exact g_ri iX11_best_43 (Or.inl rfl) H
  · rw [if_neg c3] at H
    refine g_if1f iX11_best_6 c3 ?_
    refine g_c iX11_best_9 ?_
    exact g_ri iX11_best_11 (Or.inl rfl) H
set_option maxRecDepth 20000 in
set_option maxHeartbeats 4000000 in
theorem bX11_swaps (L d : Nat) (x1 : Int) (σ : rx_St) (K : Int → rx_St → Prop)
    (H : rx_CI L d mX11_in [.inl x1, .inl 1, .inl 30] σ (fun v2 σ1 => if v2 ≠ 0 then (rx_Go L (d + 1) mX11_swaps 17 [some (.inr 125), some (.inl x1), some (.inl 0), some (.inl 1)] [] σ1 (rx_PI K)) else (K (-1000000001) σ1))) :
    rx_CI L (d + 1) mX11_swaps [.inr 125, .inl x1] σ K := by
  refine rx_CI.of (la := [some (.inr 125), some (.inl x1), none, none]) rfl ?_
  refine g_il iX11_swaps_0 rfl ?_
  refine g_c iX11_swaps_1 ?_
  refine g_c iX11_swaps_2 ?_
  refine g_ci (as := [.inl x1, .inl 1, .inl 30]) (rest := []) iX11_swaps_4 rfl rfl (Nat.le_of_ble_eq_true rfl) (Or.inl (by decide)) (rx_CI.imp H (fun v2 σ1 H => ?_))
  by_cases c3 : v2 ≠ 0
  · rw [if_pos c3] at H
    refine g_if1t iX11_swaps_7 c3 ?_
    refine g_c iX11_swaps_13 ?_
    refine g_is iX11_swaps_14 (Nat.le_of_ble_eq_true rfl) ?_
    refine rx_Go.ls (la := [some (.inr 125), some (.inl x1), some (.inl 0), none]) rfl ?_
    refine g_c iX11_swaps_15 ?_
    refine g_is iX11_swaps_16 (Nat.le_of_ble_eq_true rfl) ?_
    refine rx_Go.ls (la := [some (.inr 125), some (.inl x1), some (.inl 0), some (.inl 1)]) rfl ?_
    exact H
  · rw [if_neg c3] at H
    refine g_if1f iX11_swaps_7 c3 ?_
    refine g_c iX11_swaps_10 ?_
    exact g_ri iX11_swaps_12 (Or.inl rfl) H
set_option maxRecDepth 20000 in
set_option maxHeartbeats 4000000 in
theorem bX11_swaps_17 (L d : Nat) (x1 : Int) (x2 : Int) (x3 : Int) (σ : rx_St) (K : Int → rx_St → Prop)
    (H : if x3 = 0 then (K x2 σ) else (if x1 ≤ x2 then (K x2 σ) else (rx_CV L d mX11_findSwap [.inr 125] σ (fun σ6 => if (σ6 125 7) < 0 then (rx_Go L (d + 1) mX11_swaps 17 [some (.inr 125), some (.inl x1), some (.inl x2), some (.inl 0)] [] σ6 (rx_PI K)) else (rx_CV L d mX11_swap [.inr 125, .inl (rx_w (Int.tdiv (σ6 125 7) 10)), .inl (Int.tmod (σ6 125 7) 10)] σ6 (fun σ8 => rx_Go L (d + 1) mX11_swaps 17 [some (.inr 125), some (.inl x1), some (.inl (rx_w (x2 + 1))), some (.inl 1)] [] σ8 (rx_PI K))))))) :
    rx_Go L (d + 1) mX11_swaps 17 [some (.inr 125), some (.inl x1), some (.inl x2), some (.inl x3)] [] σ (rx_PI K) := by
  refine g_il iX11_swaps_17 rfl ?_
  by_cases c4 : x3 = 0
  · rw [if_pos c4] at H
    refine g_if0t iX11_swaps_18 c4 ?_
    refine g_il iX11_swaps_71 rfl ?_
    exact g_ri iX11_swaps_72 (Or.inl rfl) H
  · rw [if_neg c4] at H
    refine g_if0f iX11_swaps_18 c4 ?_
    refine g_il iX11_swaps_21 rfl ?_
    refine g_il iX11_swaps_22 rfl ?_
    by_cases c5 : x1 ≤ x2
    · rw [if_pos c5] at H
      refine g_ic3t iX11_swaps_23 c5 ?_
      refine g_il iX11_swaps_71 rfl ?_
      exact g_ri iX11_swaps_72 (Or.inl rfl) H
    · rw [if_neg c5] at H
      refine g_ic3f iX11_swaps_23 c5 ?_
      refine g_al iX11_swaps_26 rfl ?_
      refine g_cv (as := [.inr 125]) (rest := []) iX11_swaps_27 rfl rfl (Nat.le_of_ble_eq_true rfl) (Or.inr ⟨_, _, rfl, oo_11_125⟩) (rx_CV.imp H (fun σ6 H => ?_))
      refine g_al iX11_swaps_30 rfl ?_
      refine g_gf (kI := 7) rfl iX11_swaps_31 fi_11_7_125 ?_
      by_cases c7 : (σ6 125 7) < 0
      · rw [if_pos c7] at H
        refine g_if2t iX11_swaps_34 c7 ?_
        refine g_c iX11_swaps_41 ?_
        refine g_is iX11_swaps_42 (Nat.le_of_ble_eq_true rfl) ?_
        refine rx_Go.ls (la := [some (.inr 125), some (.inl x1), some (.inl x2), some (.inl 0)]) rfl ?_
        refine g_il iX11_swaps_43 rfl ?_
        refine g_if0t iX11_swaps_44 (by decide) ?_
        exact H
      · rw [if_neg c7] at H
        refine g_if2f iX11_swaps_34 c7 ?_
        refine g_c iX11_swaps_37 ?_
        refine g_goto iX11_swaps_38 ?_
        refine g_is iX11_swaps_42 (Nat.le_of_ble_eq_true rfl) ?_
        refine rx_Go.ls (la := [some (.inr 125), some (.inl x1), some (.inl x2), some (.inl 1)]) rfl ?_
        refine g_il iX11_swaps_43 rfl ?_
        refine g_if0f iX11_swaps_44 (by decide) ?_
        refine g_al iX11_swaps_47 rfl ?_
        refine g_al iX11_swaps_48 rfl ?_
        refine g_gf (kI := 7) rfl iX11_swaps_49 fi_11_7_125 ?_
        refine g_c iX11_swaps_52 ?_
        refine g_div iX11_swaps_54 (by decide) ?_
        refine g_al iX11_swaps_55 rfl ?_
        refine g_gf (kI := 7) rfl iX11_swaps_56 fi_11_7_125 ?_
        refine g_c iX11_swaps_59 ?_
        refine g_rem iX11_swaps_61 (by decide) ?_
        refine g_cv (as := [.inr 125, .inl (rx_w (Int.tdiv (σ6 125 7) 10)), .inl (Int.tmod (σ6 125 7) 10)]) (rest := []) iX11_swaps_62 rfl rfl (Nat.le_of_ble_eq_true rfl) (Or.inr ⟨_, _, rfl, oo_11_125⟩) (rx_CV.imp H (fun σ8 H => ?_))
        refine g_ii iX11_swaps_65 rfl ?_
        refine rx_Go.ls (la := [some (.inr 125), some (.inl x1), some (.inl (rx_w (x2 + 1))), some (.inl 1)]) rfl ?_
        refine g_goto iX11_swaps_68 ?_
        exact H
set_option maxRecDepth 20000 in
set_option maxHeartbeats 4000000 in
theorem bX11_line (L d : Nat) (x1 : Int) (σ : rx_St) (K : Int → rx_St → Prop)
    (H : rx_CI L d mX11_isSheet [.inl x1] σ (fun v2 σ1 => if v2 ≠ 0 then ((0 ≤ x1 ∧ x1 < 4) ∧ (if 0 ≤ (σ1 150 x1) then (if (σ1 151 x1) = (σ1 126 1) then (rx_Go L (d + 1) mX11_line 47 [some (.inr 125), some (.inl x1), some (.inl 0), some (.inl 1), some (.inl 0), none] [] σ1 (rx_PI K)) else (K (-1000000014) σ1)) else (K (-1000000011) σ1))) else (K (-1000000001) σ1))) :
    rx_CI L (d + 1) mX11_line [.inr 125, .inl x1] σ K := by
  refine rx_CI.of (la := [some (.inr 125), some (.inl x1), none, none, none, none]) rfl ?_
  refine g_il iX11_line_0 rfl ?_
  refine g_ci (as := [.inl x1]) (rest := []) iX11_line_1 rfl rfl (Nat.le_of_ble_eq_true rfl) (Or.inl (by decide)) (rx_CI.imp H (fun v2 σ1 H => ?_))
  by_cases c3 : v2 ≠ 0
  · rw [if_pos c3] at H
    refine g_if1t iX11_line_4 c3 ?_
    refine g_al iX11_line_10 rfl ?_
    refine g_gr iX11_line_11 fr_11_39_125 ?_
    refine g_il iX11_line_14 rfl ?_
    obtain ⟨o4, H⟩ := H
    refine g_ld iX11_line_15 (ln_150 L) o4 ?_
    by_cases c5 : 0 ≤ (σ1 150 x1)
    · rw [if_pos c5] at H
      refine g_if3t iX11_line_16 c5 ?_
      refine g_al iX11_line_22 rfl ?_
      refine g_gr iX11_line_23 fr_11_40_125 ?_
      refine g_il iX11_line_26 rfl ?_
      refine g_ld iX11_line_27 (ln_151 L) o4 ?_
      refine g_al iX11_line_28 rfl ?_
      refine g_gr iX11_line_29 fr_11_0_125 ?_
      refine g_c iX11_line_32 ?_
      refine g_ld iX11_line_33 (ln_126 L) (by decide) ?_
      by_cases c6 : (σ1 151 x1) = (σ1 126 1)
      · rw [if_pos c6] at H
        refine g_ic0t iX11_line_34 c6 ?_
        refine g_c iX11_line_40 ?_
        refine g_is iX11_line_41 (Nat.le_of_ble_eq_true rfl) ?_
        refine rx_Go.ls (la := [some (.inr 125), some (.inl x1), some (.inl 0), none, none, none]) rfl ?_
        refine g_c iX11_line_42 ?_
        refine g_is iX11_line_43 (Nat.le_of_ble_eq_true rfl) ?_
        refine rx_Go.ls (la := [some (.inr 125), some (.inl x1), some (.inl 0), some (.inl 1), none, none]) rfl ?_
        refine g_c iX11_line_44 ?_
        refine g_is iX11_line_45 (Nat.le_of_ble_eq_true rfl) ?_
        refine rx_Go.ls (la := [some (.inr 125), some (.inl x1), some (.inl 0), some (.inl 1), some (.inl 0), none]) rfl ?_
        exact H
      · rw [if_neg c6] at H
        refine g_ic0f iX11_line_34 c6 ?_
        refine g_c iX11_line_37 ?_
        exact g_ri iX11_line_39 (Or.inl rfl) H
    · rw [if_neg c5] at H
      refine g_if3f iX11_line_16 c5 ?_
      refine g_c iX11_line_19 ?_
      exact g_ri iX11_line_21 (Or.inl rfl) H
  · rw [if_neg c3] at H
    refine g_if1f iX11_line_4 c3 ?_
    refine g_c iX11_line_7 ?_
    exact g_ri iX11_line_9 (Or.inl rfl) H
set_option maxRecDepth 20000 in
set_option maxHeartbeats 4000000 in
theorem bX11_line_47 (L d : Nat) (x1 : Int) (x2 : Int) (x3 : Int) (x4 : Int) (q5 : Option rx_V) (σ : rx_St) (K : Int → rx_St → Prop)
    (H : if 8 ≤ x4 then (rx_Go L (d + 1) mX11_line 71 [some (.inr 125), some (.inl x1), some (.inl x2), some (.inl x3), some (.inl 0), q5] [] σ (rx_PI K)) else ((0 ≤ x4 ∧ x4 < 8) ∧ (rx_Go L (d + 1) mX11_line 47 [some (.inr 125), some (.inl x1), some (.inl x2), some (.inl x3), some (.inl (rx_w (x4 + 1))), q5] [] (rx_up σ 132 x4 0) (rx_PI K)))) :
    rx_Go L (d + 1) mX11_line 47 [some (.inr 125), some (.inl x1), some (.inl x2), some (.inl x3), some (.inl x4), q5] [] σ (rx_PI K) := by
  refine g_il iX11_line_47 rfl ?_
  refine g_c iX11_line_49 ?_
  by_cases c7 : 8 ≤ x4
  · rw [if_pos c7] at H
    refine g_ic3t iX11_line_51 c7 ?_
    refine g_c iX11_line_68 ?_
    refine g_is iX11_line_69 (Nat.le_of_ble_eq_true rfl) ?_
    refine rx_Go.ls (la := [some (.inr 125), some (.inl x1), some (.inl x2), some (.inl x3), some (.inl 0), q5]) rfl ?_
    exact H
  · rw [if_neg c7] at H
    refine g_ic3f iX11_line_51 c7 ?_
    refine g_al iX11_line_54 rfl ?_
    refine g_gr iX11_line_55 fr_11_9_125 ?_
    refine g_il iX11_line_58 rfl ?_
    refine g_c iX11_line_60 ?_
    obtain ⟨o8, H⟩ := H
    refine g_st iX11_line_61 (ln_132 L) (by decide) o8 rfl ?_
    refine g_ii iX11_line_62 rfl ?_
    refine rx_Go.ls (la := [some (.inr 125), some (.inl x1), some (.inl x2), some (.inl x3), some (.inl (rx_w (x4 + 1))), q5]) rfl ?_
    refine g_goto iX11_line_65 ?_
    exact H
set_option maxRecDepth 20000 in
set_option maxHeartbeats 4000000 in
theorem bX11_line_71 (L d : Nat) (x1 : Int) (x2 : Int) (x3 : Int) (x4 : Int) (q5 : Option rx_V) (σ : rx_St) (K : Int → rx_St → Prop)
    (H : if (σ 126 1) ≤ x4 then (if x2 ≠ 0 then (rx_Go L (d + 1) mX11_line 176 [some (.inr 125), some (.inl x1), some (.inl x2), some (.inl x3), some (.inl x4), q5] [] σ (rx_PI K)) else (if x3 ≠ 0 then (rx_Go L (d + 1) mX11_line 191 [some (.inr 125), some (.inl x1), some (.inl x2), some (.inl x3), some (.inl 0), q5] [] σ (rx_PI K)) else (rx_Go L (d + 1) mX11_line 176 [some (.inr 125), some (.inl x1), some (.inl x2), some (.inl x3), some (.inl x4), q5] [] σ (rx_PI K)))) else ((0 ≤ (rx_w ((rx_w (24 * x1)) + x4)) ∧ (rx_w ((rx_w (24 * x1)) + x4)) < 96) ∧ (if x2 ≠ 0 then (rx_Go L (d + 1) mX11_line 107 [some (.inr 125), some (.inl x1), some (.inl x2), some (.inl x3), some (.inl x4), some (.inl (σ 152 (rx_w ((rx_w (24 * x1)) + x4))))] [] σ (rx_PI K)) else (if (σ 152 (rx_w ((rx_w (24 * x1)) + x4))) ≠ (-1000000005) then (rx_Go L (d + 1) mX11_line 113 [some (.inr 125), some (.inl x1), some (.inl 0), some (.inl x3), some (.inl x4), some (.inl (σ 152 (rx_w ((rx_w (24 * x1)) + x4))))] [] σ (rx_PI K)) else (rx_Go L (d + 1) mX11_line 107 [some (.inr 125), some (.inl x1), some (.inl x2), some (.inl x3), some (.inl x4), some (.inl (σ 152 (rx_w ((rx_w (24 * x1)) + x4))))] [] σ (rx_PI K)))))) :
    rx_Go L (d + 1) mX11_line 71 [some (.inr 125), some (.inl x1), some (.inl x2), some (.inl x3), some (.inl x4), q5] [] σ (rx_PI K) := by
  refine g_il iX11_line_71 rfl ?_
  refine g_al iX11_line_73 rfl ?_
  refine g_gr iX11_line_74 fr_11_0_125 ?_
  refine g_c iX11_line_77 ?_
  refine g_ld iX11_line_78 (ln_126 L) (by decide) ?_
  by_cases c9 : (σ 126 1) ≤ x4
  · rw [if_pos c9] at H
    refine g_ic3t iX11_line_79 c9 ?_
    refine g_il iX11_line_168 rfl ?_
    by_cases c10 : x2 ≠ 0
    · rw [if_pos c10] at H
      refine g_if1t iX11_line_169 c10 ?_
      exact H
    · rw [if_neg c10] at H
      refine g_if1f iX11_line_169 c10 ?_
      refine g_il iX11_line_172 rfl ?_
      by_cases c11 : x3 ≠ 0
      · rw [if_pos c11] at H
        refine g_if1t iX11_line_173 c11 ?_
        refine g_c iX11_line_188 ?_
        refine g_is iX11_line_189 (Nat.le_of_ble_eq_true rfl) ?_
        refine rx_Go.ls (la := [some (.inr 125), some (.inl x1), some (.inl x2), some (.inl x3), some (.inl 0), q5]) rfl ?_
        exact H
      · rw [if_neg c11] at H
        refine g_if1f iX11_line_173 c11 ?_
        exact H
  · rw [if_neg c9] at H
    refine g_ic3f iX11_line_79 c9 ?_
    refine g_al iX11_line_82 rfl ?_
    refine g_gr iX11_line_83 fr_11_41_125 ?_
    refine g_c iX11_line_86 ?_
    refine g_il iX11_line_88 rfl ?_
    refine g_mul iX11_line_89 ?_
    refine g_il iX11_line_90 rfl ?_
    refine g_add iX11_line_92 ?_
    obtain ⟨o12, H⟩ := H
    refine g_ld iX11_line_93 (ln_152 L) o12 ?_
    refine g_is iX11_line_94 (Nat.le_of_ble_eq_true rfl) ?_
    refine rx_Go.ls (la := [some (.inr 125), some (.inl x1), some (.inl x2), some (.inl x3), some (.inl x4), some (.inl (σ 152 (rx_w ((rx_w (24 * x1)) + x4))))]) rfl ?_
    refine g_il iX11_line_96 rfl ?_
    by_cases c13 : x2 ≠ 0
    · rw [if_pos c13] at H
      refine g_if1t iX11_line_97 c13 ?_
      exact H
    · rw [if_neg c13] at H
      refine g_if1f iX11_line_97 c13 ?_
      refine g_il iX11_line_100 rfl ?_
      refine g_c iX11_line_102 ?_
      by_cases c14 : (σ 152 (rx_w ((rx_w (24 * x1)) + x4))) ≠ (-1000000005)
      · rw [if_pos c14] at H
        refine g_ic1t iX11_line_104 c14 ?_
        refine g_c iX11_line_111 ?_
        refine g_is iX11_line_112 (Nat.le_of_ble_eq_true rfl) ?_
        refine rx_Go.ls (la := [some (.inr 125), some (.inl x1), some (.inl 0), some (.inl x3), some (.inl x4), some (.inl (σ 152 (rx_w ((rx_w (24 * x1)) + x4))))]) rfl ?_
        exact H
      · rw [if_neg c14] at H
        refine g_ic1f iX11_line_104 c14 ?_
        exact H
set_option maxRecDepth 20000 in
set_option maxHeartbeats 4000000 in
theorem bX11_line_176 (L d : Nat) (q0 : Option rx_V) (q1 : Option rx_V) (x2 : Int) (q3 : Option rx_V) (q4 : Option rx_V) (q5 : Option rx_V) (σ : rx_St) (K : Int → rx_St → Prop)
    (H : if x2 = 0 then (K (-1000000001) σ) else (K (-1000000012) σ)) :
    rx_Go L (d + 1) mX11_line 176 [q0, q1, some (.inl x2), q3, q4, q5] [] σ (rx_PI K) := by
  refine g_il iX11_line_176 rfl ?_
  by_cases c15 : x2 = 0
  · rw [if_pos c15] at H
    refine g_if0t iX11_line_177 c15 ?_
    refine g_c iX11_line_185 ?_
    exact g_ri iX11_line_187 (Or.inl rfl) H
  · rw [if_neg c15] at H
    refine g_if0f iX11_line_177 c15 ?_
    refine g_c iX11_line_180 ?_
    refine g_goto iX11_line_182 ?_
    exact g_ri iX11_line_187 (Or.inl rfl) H
set_option maxRecDepth 20000 in
set_option maxHeartbeats 4000000 in
theorem bX11_line_191 (L d : Nat) (x1 : Int) (q2 : Option rx_V) (q3 : Option rx_V) (x4 : Int) (q5 : Option rx_V) (σ : rx_St) (K : Int → rx_St → Prop)
    (H : if (σ 126 1) ≤ x4 then (K (σ 126 1) σ) else ((0 ≤ (rx_w ((rx_w (24 * x1)) + x4)) ∧ (rx_w ((rx_w (24 * x1)) + x4)) < 96) ∧ ((0 ≤ (rx_w (28 + x4)) ∧ (rx_w (28 + x4)) < 1498) ∧ (rx_Go L (d + 1) mX11_line 191 [some (.inr 125), some (.inl x1), q2, q3, some (.inl (rx_w (x4 + 1))), q5] [] (rx_up σ 126 (rx_w (28 + x4)) (σ 152 (rx_w ((rx_w (24 * x1)) + x4)))) (rx_PI K))))) :
    rx_Go L (d + 1) mX11_line 191 [some (.inr 125), some (.inl x1), q2, q3, some (.inl x4), q5] [] σ (rx_PI K) := by
  refine g_il iX11_line_191 rfl ?_
  refine g_al iX11_line_193 rfl ?_
  refine g_gr iX11_line_194 fr_11_0_125 ?_
  refine g_c iX11_line_197 ?_
  refine g_ld iX11_line_198 (ln_126 L) (by decide) ?_
  by_cases c16 : (σ 126 1) ≤ x4
  · rw [if_pos c16] at H
    refine g_ic3t iX11_line_199 c16 ?_
    refine g_al iX11_line_230 rfl ?_
    refine g_gr iX11_line_231 fr_11_0_125 ?_
    refine g_c iX11_line_234 ?_
    refine g_ld iX11_line_235 (ln_126 L) (by decide) ?_
    exact g_ri iX11_line_236 (Or.inl rfl) H
  · rw [if_neg c16] at H
    refine g_ic3f iX11_line_199 c16 ?_
    refine g_al iX11_line_202 rfl ?_
    refine g_gr iX11_line_203 fr_11_0_125 ?_
    refine g_c iX11_line_206 ?_
    refine g_il iX11_line_208 rfl ?_
    refine g_add iX11_line_210 ?_
    refine g_al iX11_line_211 rfl ?_
    refine g_gr iX11_line_212 fr_11_41_125 ?_
    refine g_c iX11_line_215 ?_
    refine g_il iX11_line_217 rfl ?_
    refine g_mul iX11_line_218 ?_
    refine g_il iX11_line_219 rfl ?_
    refine g_add iX11_line_221 ?_
    obtain ⟨o17, H⟩ := H
    refine g_ld iX11_line_222 (ln_152 L) o17 ?_
    obtain ⟨o18, H⟩ := H
    refine g_st iX11_line_223 (ln_126 L) (by decide) o18 rfl ?_
    refine g_ii iX11_line_224 rfl ?_
    refine rx_Go.ls (la := [some (.inr 125), some (.inl x1), q2, q3, some (.inl (rx_w (x4 + 1))), q5]) rfl ?_
    refine g_goto iX11_line_227 ?_
    exact H
set_option maxRecDepth 20000 in
set_option maxHeartbeats 4000000 in
theorem bX11_line_107 (L d : Nat) (x1 : Int) (q2 : Option rx_V) (x3 : Int) (x4 : Int) (x5 : Int) (σ : rx_St) (K : Int → rx_St → Prop)
    (H : rx_Go L (d + 1) mX11_line 113 [some (.inr 125), some (.inl x1), some (.inl 1), some (.inl x3), some (.inl x4), some (.inl x5)] [] σ (rx_PI K)) :
    rx_Go L (d + 1) mX11_line 107 [some (.inr 125), some (.inl x1), q2, some (.inl x3), some (.inl x4), some (.inl x5)] [] σ (rx_PI K) := by
  refine g_c iX11_line_107 ?_
  refine g_goto iX11_line_108 ?_
  refine g_is iX11_line_112 (Nat.le_of_ble_eq_true rfl) ?_
  refine rx_Go.ls (la := [some (.inr 125), some (.inl x1), some (.inl 1), some (.inl x3), some (.inl x4), some (.inl x5)]) rfl ?_
  exact H
set_option maxRecDepth 20000 in
set_option maxHeartbeats 4000000 in
theorem bX11_line_113 (L d : Nat) (x1 : Int) (x2 : Int) (x3 : Int) (x4 : Int) (x5 : Int) (σ : rx_St) (K : Int → rx_St → Prop)
    (H : if x3 = 0 then (rx_Go L (d + 1) mX11_line 146 [some (.inr 125), some (.inl x1), some (.inl x2), some (.inl x3), some (.inl x4), some (.inl x5)] [] σ (rx_PI K)) else (rx_CI L d mX11_isPost [.inr 125, .inl x5] σ (fun v21 σ20 => if v21 = 0 then (rx_Go L (d + 1) mX11_line 146 [some (.inr 125), some (.inl x1), some (.inl x2), some (.inl x3), some (.inl x4), some (.inl x5)] [] σ20 (rx_PI K)) else (rx_CI L d mX11_within [.inl x5, .inl 0, .inl 7] σ20 (fun v24 σ23 => (0 ≤ v24 ∧ v24 < 8) ∧ (if (σ23 132 v24) ≠ 0 then (rx_Go L (d + 1) mX11_line 146 [some (.inr 125), some (.inl x1), some (.inl x2), some (.inl x3), some (.inl x4), some (.inl x5)] [] σ23 (rx_PI K)) else (rx_Go L (d + 1) mX11_line 148 [some (.inr 125), some (.inl x1), some (.inl x2), some (.inl 1), some (.inl x4), some (.inl x5)] [] σ23 (rx_PI K)))))))) :
    rx_Go L (d + 1) mX11_line 113 [some (.inr 125), some (.inl x1), some (.inl x2), some (.inl x3), some (.inl x4), some (.inl x5)] [] σ (rx_PI K) := by
  refine g_il iX11_line_113 rfl ?_
  by_cases c19 : x3 = 0
  · rw [if_pos c19] at H
    refine g_if0t iX11_line_114 c19 ?_
    exact H
  · rw [if_neg c19] at H
    refine g_if0f iX11_line_114 c19 ?_
    refine g_al iX11_line_117 rfl ?_
    refine g_il iX11_line_118 rfl ?_
    refine g_ci (as := [.inr 125, .inl x5]) (rest := []) iX11_line_120 rfl rfl (Nat.le_of_ble_eq_true rfl) (Or.inr ⟨_, _, rfl, oo_11_125⟩) (rx_CI.imp H (fun v21 σ20 H => ?_))
    by_cases c22 : v21 = 0
    · rw [if_pos c22] at H
      refine g_if0t iX11_line_123 c22 ?_
      exact H
    · rw [if_neg c22] at H
      refine g_if0f iX11_line_123 c22 ?_
      refine g_al iX11_line_126 rfl ?_
      refine g_gr iX11_line_127 fr_11_9_125 ?_
      refine g_il iX11_line_130 rfl ?_
      refine g_c iX11_line_132 ?_
      refine g_c iX11_line_133 ?_
      refine g_ci (as := [.inl x5, .inl 0, .inl 7]) (rest := [.inr 132]) iX11_line_135 rfl rfl (Nat.le_of_ble_eq_true rfl) (Or.inl (by decide)) (rx_CI.imp H (fun v24 σ23 H => ?_))
      obtain ⟨o25, H⟩ := H
      refine g_ld iX11_line_138 (ln_132 L) o25 ?_
      by_cases c26 : (σ23 132 v24) ≠ 0
      · rw [if_pos c26] at H
        refine g_if1t iX11_line_139 c26 ?_
        exact H
      · rw [if_neg c26] at H
        refine g_if1f iX11_line_139 c26 ?_
        refine g_c iX11_line_142 ?_
        refine g_goto iX11_line_143 ?_
        refine g_is iX11_line_147 (Nat.le_of_ble_eq_true rfl) ?_
        refine rx_Go.ls (la := [some (.inr 125), some (.inl x1), some (.inl x2), some (.inl 1), some (.inl x4), some (.inl x5)]) rfl ?_
        exact H
set_option maxRecDepth 20000 in
set_option maxHeartbeats 4000000 in
theorem bX11_line_146 (L d : Nat) (x1 : Int) (x2 : Int) (q3 : Option rx_V) (x4 : Int) (x5 : Int) (σ : rx_St) (K : Int → rx_St → Prop)
    (H : rx_Go L (d + 1) mX11_line 148 [some (.inr 125), some (.inl x1), some (.inl x2), some (.inl 0), some (.inl x4), some (.inl x5)] [] σ (rx_PI K)) :
    rx_Go L (d + 1) mX11_line 146 [some (.inr 125), some (.inl x1), some (.inl x2), q3, some (.inl x4), some (.inl x5)] [] σ (rx_PI K) := by
  refine g_c iX11_line_146 ?_
  refine g_is iX11_line_147 (Nat.le_of_ble_eq_true rfl) ?_
  refine rx_Go.ls (la := [some (.inr 125), some (.inl x1), some (.inl x2), some (.inl 0), some (.inl x4), some (.inl x5)]) rfl ?_
  exact H
set_option maxRecDepth 20000 in
set_option maxHeartbeats 4000000 in
theorem bX11_line_148 (L d : Nat) (x1 : Int) (x2 : Int) (x3 : Int) (x4 : Int) (x5 : Int) (σ : rx_St) (K : Int → rx_St → Prop)
    (H : rx_CI L d mX11_within [.inl x5, .inl 0, .inl 7] σ (fun v28 σ27 => (0 ≤ v28 ∧ v28 < 8) ∧ (rx_Go L (d + 1) mX11_line 71 [some (.inr 125), some (.inl x1), some (.inl x2), some (.inl x3), some (.inl (rx_w (x4 + 1))), some (.inl x5)] [] (rx_up σ27 132 v28 1) (rx_PI K)))) :
    rx_Go L (d + 1) mX11_line 148 [some (.inr 125), some (.inl x1), some (.inl x2), some (.inl x3), some (.inl x4), some (.inl x5)] [] σ (rx_PI K) := by
  refine g_al iX11_line_148 rfl ?_
  refine g_gr iX11_line_149 fr_11_9_125 ?_
  refine g_il iX11_line_152 rfl ?_
  refine g_c iX11_line_154 ?_
  refine g_c iX11_line_155 ?_
  refine g_ci (as := [.inl x5, .inl 0, .inl 7]) (rest := [.inr 132]) iX11_line_157 rfl rfl (Nat.le_of_ble_eq_true rfl) (Or.inl (by decide)) (rx_CI.imp H (fun v28 σ27 H => ?_))
  refine g_c iX11_line_160 ?_
  obtain ⟨o29, H⟩ := H
  refine g_st iX11_line_161 (ln_132 L) (by decide) o29 rfl ?_
  refine g_ii iX11_line_162 rfl ?_
  refine rx_Go.ls (la := [some (.inr 125), some (.inl x1), some (.inl x2), some (.inl x3), some (.inl (rx_w (x4 + 1))), some (.inl x5)]) rfl ?_
  refine g_goto iX11_line_165 ?_
  exact H
set_option maxRecDepth 20000 in
set_option maxHeartbeats 4000000 in
theorem bX11_at (L d : Nat) (x1 : Int) (σ : rx_St) (K : Int → rx_St → Prop)
    (H : rx_CI L d mX11_isPost [.inr 125, .inl x1] σ (fun v2 σ1 => if v2 = 0 then (K (-1000000001) σ1) else ((0 ≤ (rx_w (28 + x1)) ∧ (rx_w (28 + x1)) < 1498) ∧ (K (σ1 126 (rx_w (28 + x1))) σ1)))) :
    rx_CI L (d + 1) mX11_at [.inr 125, .inl x1] σ K := by
  refine rx_CI.of (la := [some (.inr 125), some (.inl x1)]) rfl ?_
  refine g_al iX11_at_0 rfl ?_
  refine g_il iX11_at_1 rfl ?_
  refine g_ci (as := [.inr 125, .inl x1]) (rest := []) iX11_at_2 rfl rfl (Nat.le_of_ble_eq_true rfl) (Or.inr ⟨_, _, rfl, oo_11_125⟩) (rx_CI.imp H (fun v2 σ1 H => ?_))
  by_cases c3 : v2 = 0
  · rw [if_pos c3] at H
    refine g_if0t iX11_at_5 c3 ?_
    refine g_c iX11_at_20 ?_
    exact g_ri iX11_at_22 (Or.inl rfl) H
  · rw [if_neg c3] at H
    refine g_if0f iX11_at_5 c3 ?_
    refine g_al iX11_at_8 rfl ?_
    refine g_gr iX11_at_9 fr_11_0_125 ?_
    refine g_c iX11_at_12 ?_
    refine g_il iX11_at_14 rfl ?_
    refine g_add iX11_at_15 ?_
    obtain ⟨o4, H⟩ := H
    refine g_ld iX11_at_16 (ln_126 L) o4 ?_
    refine g_goto iX11_at_17 ?_
    exact g_ri iX11_at_22 (Or.inl rfl) H
set_option maxRecDepth 20000 in
set_option maxHeartbeats 4000000 in
theorem bX11_findPlaces (L d : Nat)  (σ : rx_St) (K : rx_St → Prop)
    (H : rx_Go L d mX11_findPlaces 2 [some (.inr 125), some (.inl 0)] [] σ (rx_PV K)) :
    rx_CV L d mX11_findPlaces [.inr 125] σ K := by
  refine rx_CV.of (la := [some (.inr 125), none]) rfl ?_
  refine g_c iX11_findPlaces_0 ?_
  refine g_is iX11_findPlaces_1 (Nat.le_of_ble_eq_true rfl) ?_
  refine rx_Go.ls (la := [some (.inr 125), some (.inl 0)]) rfl ?_
  exact H
set_option maxRecDepth 20000 in
set_option maxHeartbeats 4000000 in
theorem bX11_findPlaces_2 (L d : Nat) (x1 : Int) (σ : rx_St) (K : rx_St → Prop)
    (H : if (σ 126 1) ≤ x1 then (K σ) else ((0 ≤ (rx_w (28 + x1)) ∧ (rx_w (28 + x1)) < 1498) ∧ ((0 ≤ (σ 126 (rx_w (28 + x1))) ∧ (σ 126 (rx_w (28 + x1))) < 8) ∧ (rx_Go L d mX11_findPlaces 2 [some (.inr 125), some (.inl (rx_w (x1 + 1)))] [] (rx_up σ 133 (σ 126 (rx_w (28 + x1))) x1) (rx_PV K))))) :
    rx_Go L d mX11_findPlaces 2 [some (.inr 125), some (.inl x1)] [] σ (rx_PV K) := by
  refine g_il iX11_findPlaces_2 rfl ?_
  refine g_al iX11_findPlaces_3 rfl ?_
  refine g_gr iX11_findPlaces_4 fr_11_0_125 ?_
  refine g_c iX11_findPlaces_7 ?_
  refine g_ld iX11_findPlaces_8 (ln_126 L) (by decide) ?_
  by_cases c1 : (σ 126 1) ≤ x1
  · rw [if_pos c1] at H
    refine g_ic3t iX11_findPlaces_9 c1 ?_
    exact g_rv iX11_findPlaces_33 H
  · rw [if_neg c1] at H
    refine g_ic3f iX11_findPlaces_9 c1 ?_
    refine g_al iX11_findPlaces_12 rfl ?_
    refine g_gr iX11_findPlaces_13 fr_11_10_125 ?_
    refine g_al iX11_findPlaces_16 rfl ?_
    refine g_gr iX11_findPlaces_17 fr_11_0_125 ?_
    refine g_c iX11_findPlaces_20 ?_
    refine g_il iX11_findPlaces_22 rfl ?_
    refine g_add iX11_findPlaces_23 ?_
    obtain ⟨o2, H⟩ := H
    refine g_ld iX11_findPlaces_24 (ln_126 L) o2 ?_
    refine g_il iX11_findPlaces_25 rfl ?_
    obtain ⟨o3, H⟩ := H
    refine g_st iX11_findPlaces_26 (ln_133 L) (by decide) o3 rfl ?_
    refine g_ii iX11_findPlaces_27 rfl ?_
    refine rx_Go.ls (la := [some (.inr 125), some (.inl (rx_w (x1 + 1)))]) rfl ?_
    refine g_goto iX11_findPlaces_30 ?_
    exact H
set_option maxRecDepth 20000 in
set_option maxHeartbeats 4000000 in
theorem bX11_isWithin (L d : Nat) (x1 : Int) (x2 : Int) (x3 : Int) (σ : rx_St) (K : Int → rx_St → Prop)
    (H : if x1 ≤ (rx_mn x2 x3) then (K 0 σ) else (if (rx_mx x2 x3) ≤ x1 then (K 0 σ) else (K 1 σ))) :
    rx_CI L d mX11_isWithin [.inr 125, .inl x1, .inl x2, .inl x3] σ K := by
  refine rx_CI.of (la := [some (.inr 125), some (.inl x1), some (.inl x2), some (.inl x3)]) rfl ?_
  refine g_il iX11_isWithin_0 rfl ?_
  refine g_il iX11_isWithin_1 rfl ?_
  refine g_il iX11_isWithin_2 rfl ?_
  refine g_mn iX11_isWithin_3 (Nat.le_of_ble_eq_true rfl) ?_
  by_cases c1 : x1 ≤ (rx_mn x2 x3)
  · rw [if_pos c1] at H
    refine g_ic5t iX11_isWithin_6 c1 ?_
    refine g_c iX11_isWithin_22 ?_
    exact g_ri iX11_isWithin_23 (by decide) H
  · rw [if_neg c1] at H
    refine g_ic5f iX11_isWithin_6 c1 ?_
    refine g_il iX11_isWithin_9 rfl ?_
    refine g_il iX11_isWithin_10 rfl ?_
    refine g_il iX11_isWithin_11 rfl ?_
    refine g_mx iX11_isWithin_12 (Nat.le_of_ble_eq_true rfl) ?_
    by_cases c2 : (rx_mx x2 x3) ≤ x1
    · rw [if_pos c2] at H
      refine g_ic3t iX11_isWithin_15 c2 ?_
      refine g_c iX11_isWithin_22 ?_
      exact g_ri iX11_isWithin_23 (by decide) H
    · rw [if_neg c2] at H
      refine g_ic3f iX11_isWithin_15 c2 ?_
      refine g_c iX11_isWithin_18 ?_
      refine g_goto iX11_isWithin_19 ?_
      exact g_ri iX11_isWithin_23 (by decide) H
set_option maxRecDepth 20000 in
set_option maxHeartbeats 4000000 in
theorem bX11_doPass (L d : Nat) (x1 : Int) (x2 : Int) (σ : rx_St) (K : Int → rx_St → Prop)
    (H : rx_CI L d mX11_lesser [.inr 125, .inl x1] σ (fun v2 σ1 => (0 ≤ v2 ∧ v2 < 8) ∧ (rx_CI L d mX11_greater [.inr 125, .inl x1] σ1 (fun v5 σ4 => (0 ≤ v5 ∧ v5 < 8) ∧ (rx_CI L d mX11_areApart [.inr 125, .inl x1, .inl x2] σ4 (fun v8 σ7 => if v8 = 0 then (K 0 σ7) else (rx_CI L d mX11_lesser [.inr 125, .inl x2] σ7 (fun v11 σ10 => (0 ≤ v11 ∧ v11 < 8) ∧ (rx_CI L d mX11_isWithin [.inr 125, .inl (σ10 133 v11), .inl (σ1 133 v2), .inl (σ4 133 v5)] σ10 (fun v14 σ13 => rx_CI L d mX11_greater [.inr 125, .inl x2] σ13 (fun v16 σ15 => (0 ≤ v16 ∧ v16 < 8) ∧ (rx_CI L d mX11_isWithin [.inr 125, .inl (σ15 133 v16), .inl (σ1 133 v2), .inl (σ4 133 v5)] σ15 (fun v19 σ18 => if v14 = v19 then (K 0 σ18) else (K 1 σ18)))))))))))))) :
    rx_CI L (d + 1) mX11_doPass [.inr 125, .inl x1, .inl x2] σ K := by
  refine rx_CI.of (la := [some (.inr 125), some (.inl x1), some (.inl x2), none, none]) rfl ?_
  refine g_al iX11_doPass_0 rfl ?_
  refine g_gr iX11_doPass_1 fr_11_10_125 ?_
  refine g_al iX11_doPass_4 rfl ?_
  refine g_il iX11_doPass_5 rfl ?_
  refine g_ci (as := [.inr 125, .inl x1]) (rest := [.inr 133]) iX11_doPass_6 rfl rfl (Nat.le_of_ble_eq_true rfl) (Or.inr ⟨_, _, rfl, oo_11_125⟩) (rx_CI.imp H (fun v2 σ1 H => ?_))
  obtain ⟨o3, H⟩ := H
  refine g_ld iX11_doPass_9 (ln_133 L) o3 ?_
  refine g_is iX11_doPass_10 (Nat.le_of_ble_eq_true rfl) ?_
  refine rx_Go.ls (la := [some (.inr 125), some (.inl x1), some (.inl x2), some (.inl (σ1 133 v2)), none]) rfl ?_
  refine g_al iX11_doPass_11 rfl ?_
  refine g_gr iX11_doPass_12 fr_11_10_125 ?_
  refine g_al iX11_doPass_15 rfl ?_
  refine g_il iX11_doPass_16 rfl ?_
  refine g_ci (as := [.inr 125, .inl x1]) (rest := [.inr 133]) iX11_doPass_17 rfl rfl (Nat.le_of_ble_eq_true rfl) (Or.inr ⟨_, _, rfl, oo_11_125⟩) (rx_CI.imp H (fun v5 σ4 H => ?_))
  obtain ⟨o6, H⟩ := H
  refine g_ld iX11_doPass_20 (ln_133 L) o6 ?_
  refine g_is iX11_doPass_21 (Nat.le_of_ble_eq_true rfl) ?_
  refine rx_Go.ls (la := [some (.inr 125), some (.inl x1), some (.inl x2), some (.inl (σ1 133 v2)), some (.inl (σ4 133 v5))]) rfl ?_
  refine g_al iX11_doPass_23 rfl ?_
  refine g_il iX11_doPass_24 rfl ?_
  refine g_il iX11_doPass_25 rfl ?_
  refine g_ci (as := [.inr 125, .inl x1, .inl x2]) (rest := []) iX11_doPass_26 rfl rfl (Nat.le_of_ble_eq_true rfl) (Or.inr ⟨_, _, rfl, oo_11_125⟩) (rx_CI.imp H (fun v8 σ7 H => ?_))
  by_cases c9 : v8 = 0
  · rw [if_pos c9] at H
    refine g_if0t iX11_doPass_29 c9 ?_
    refine g_c iX11_doPass_73 ?_
    exact g_ri iX11_doPass_74 (by decide) H
  · rw [if_neg c9] at H
    refine g_if0f iX11_doPass_29 c9 ?_
    refine g_al iX11_doPass_32 rfl ?_
    refine g_al iX11_doPass_33 rfl ?_
    refine g_gr iX11_doPass_34 fr_11_10_125 ?_
    refine g_al iX11_doPass_37 rfl ?_
    refine g_il iX11_doPass_38 rfl ?_
    refine g_ci (as := [.inr 125, .inl x2]) (rest := [.inr 133, .inr 125]) iX11_doPass_39 rfl rfl (Nat.le_of_ble_eq_true rfl) (Or.inr ⟨_, _, rfl, oo_11_125⟩) (rx_CI.imp H (fun v11 σ10 H => ?_))
    obtain ⟨o12, H⟩ := H
    refine g_ld iX11_doPass_42 (ln_133 L) o12 ?_
    refine g_il iX11_doPass_43 rfl ?_
    refine g_il iX11_doPass_44 rfl ?_
    refine g_ci (as := [.inr 125, .inl (σ10 133 v11), .inl (σ1 133 v2), .inl (σ4 133 v5)]) (rest := []) iX11_doPass_46 rfl rfl (Nat.le_of_ble_eq_true rfl) (Or.inr ⟨_, _, rfl, oo_11_125⟩) (rx_CI.imp H (fun v14 σ13 H => ?_))
    refine g_al iX11_doPass_49 rfl ?_
    refine g_al iX11_doPass_50 rfl ?_
    refine g_gr iX11_doPass_51 fr_11_10_125 ?_
    refine g_al iX11_doPass_54 rfl ?_
    refine g_il iX11_doPass_55 rfl ?_
    refine g_ci (as := [.inr 125, .inl x2]) (rest := [.inr 133, .inr 125, .inl v14]) iX11_doPass_56 rfl rfl (Nat.le_of_ble_eq_true rfl) (Or.inr ⟨_, _, rfl, oo_11_125⟩) (rx_CI.imp H (fun v16 σ15 H => ?_))
    obtain ⟨o17, H⟩ := H
    refine g_ld iX11_doPass_59 (ln_133 L) o17 ?_
    refine g_il iX11_doPass_60 rfl ?_
    refine g_il iX11_doPass_61 rfl ?_
    refine g_ci (as := [.inr 125, .inl (σ15 133 v16), .inl (σ1 133 v2), .inl (σ4 133 v5)]) (rest := [.inl v14]) iX11_doPass_63 rfl rfl (Nat.le_of_ble_eq_true rfl) (Or.inr ⟨_, _, rfl, oo_11_125⟩) (rx_CI.imp H (fun v19 σ18 H => ?_))
    by_cases c20 : v14 = v19
    · rw [if_pos c20] at H
      refine g_ic0t iX11_doPass_66 c20 ?_
      refine g_c iX11_doPass_73 ?_
      exact g_ri iX11_doPass_74 (by decide) H
    · rw [if_neg c20] at H
      refine g_ic0f iX11_doPass_66 c20 ?_
      refine g_c iX11_doPass_69 ?_
      refine g_goto iX11_doPass_70 ?_
      exact g_ri iX11_doPass_74 (by decide) H
set_option maxRecDepth 20000 in
set_option maxHeartbeats 4000000 in
theorem bX11_book (L d : Nat) (x1 : Int) (σ : rx_St) (K : Int → rx_St → Prop)
    (H : rx_CI L d mX11_in [.inl x1, .inl 0, .inl 1] σ (fun v2 σ1 => if v2 ≠ 0 then (rx_CV L d mX11_findPairs [.inr 125] σ1 (fun σ4 => rx_CV L d mX11_findPlaces [.inr 125] σ4 (fun σ5 => rx_Go L (d + 1) mX11_book 24 [some (.inr 125), some (.inl x1), some (.inl 0), some (.inl 0), none, none] [] σ5 (rx_PI K)))) else (K (-1000000001) σ1))) :
    rx_CI L (d + 1) mX11_book [.inr 125, .inl x1] σ K := by
  refine rx_CI.of (la := [some (.inr 125), some (.inl x1), none, none, none, none]) rfl ?_
  refine g_il iX11_book_0 rfl ?_
  refine g_c iX11_book_1 ?_
  refine g_c iX11_book_2 ?_
  refine g_ci (as := [.inl x1, .inl 0, .inl 1]) (rest := []) iX11_book_3 rfl rfl (Nat.le_of_ble_eq_true rfl) (Or.inl (by decide)) (rx_CI.imp H (fun v2 σ1 H => ?_))
  by_cases c3 : v2 ≠ 0
  · rw [if_pos c3] at H
    refine g_if1t iX11_book_6 c3 ?_
    refine g_al iX11_book_12 rfl ?_
    refine g_cv (as := [.inr 125]) (rest := []) iX11_book_13 rfl rfl (Nat.le_of_ble_eq_true rfl) (Or.inr ⟨_, _, rfl, oo_11_125⟩) (rx_CV.imp H (fun σ4 H => ?_))
    refine g_al iX11_book_16 rfl ?_
    refine g_cv (as := [.inr 125]) (rest := []) iX11_book_17 rfl rfl (Nat.le_of_ble_eq_true rfl) (Or.inr ⟨_, _, rfl, oo_11_125⟩) (rx_CV.imp H (fun σ5 H => ?_))
    refine g_c iX11_book_20 ?_
    refine g_is iX11_book_21 (Nat.le_of_ble_eq_true rfl) ?_
    refine rx_Go.ls (la := [some (.inr 125), some (.inl x1), some (.inl 0), none, none, none]) rfl ?_
    refine g_c iX11_book_22 ?_
    refine g_is iX11_book_23 (Nat.le_of_ble_eq_true rfl) ?_
    refine rx_Go.ls (la := [some (.inr 125), some (.inl x1), some (.inl 0), some (.inl 0), none, none]) rfl ?_
    exact H
  · rw [if_neg c3] at H
    refine g_if1f iX11_book_6 c3 ?_
    refine g_c iX11_book_9 ?_
    exact g_ri iX11_book_11 (Or.inl rfl) H
set_option maxRecDepth 20000 in
set_option maxHeartbeats 4000000 in
theorem bX11_book_24 (L d : Nat) (x1 : Int) (x2 : Int) (x3 : Int) (q4 : Option rx_V) (q5 : Option rx_V) (σ : rx_St) (K : Int → rx_St → Prop)
    (H : if (σ 126 2) ≤ x3 then (K x2 σ) else (rx_Go L (d + 1) mX11_book 39 [some (.inr 125), some (.inl x1), some (.inl x2), some (.inl x3), some (.inl (rx_w (x3 + 1))), q5] [] σ (rx_PI K))) :
    rx_Go L (d + 1) mX11_book 24 [some (.inr 125), some (.inl x1), some (.inl x2), some (.inl x3), q4, q5] [] σ (rx_PI K) := by
  refine g_il iX11_book_24 rfl ?_
  refine g_al iX11_book_25 rfl ?_
  refine g_gr iX11_book_26 fr_11_0_125 ?_
  refine g_c iX11_book_29 ?_
  refine g_ld iX11_book_30 (ln_126 L) (by decide) ?_
  by_cases c6 : (σ 126 2) ≤ x3
  · rw [if_pos c6] at H
    refine g_ic3t iX11_book_31 c6 ?_
    refine g_il iX11_book_128 rfl ?_
    exact g_ri iX11_book_129 (Or.inl rfl) H
  · rw [if_neg c6] at H
    refine g_ic3f iX11_book_31 c6 ?_
    refine g_il iX11_book_34 rfl ?_
    refine g_c iX11_book_35 ?_
    refine g_add iX11_book_36 ?_
    refine g_is iX11_book_37 (Nat.le_of_ble_eq_true rfl) ?_
    refine rx_Go.ls (la := [some (.inr 125), some (.inl x1), some (.inl x2), some (.inl x3), some (.inl (rx_w (x3 + 1))), q5]) rfl ?_
    exact H
set_option maxRecDepth 20000 in
set_option maxHeartbeats 4000000 in
theorem bX11_book_39 (L d : Nat) (x1 : Int) (x2 : Int) (x3 : Int) (x4 : Int) (q5 : Option rx_V) (σ : rx_St) (K : Int → rx_St → Prop)
    (H : if (σ 126 2) ≤ x4 then (rx_Go L (d + 1) mX11_book 24 [some (.inr 125), some (.inl x1), some (.inl x2), some (.inl (rx_w (x3 + 1))), some (.inl x4), q5] [] σ (rx_PI K)) else (rx_CI L d mX11_of [.inr 125, .inl x3, .inl 4] σ (fun v9 σ8 => rx_CI L d mX11_of [.inr 125, .inl x4, .inl 4] σ8 (fun v11 σ10 => if v9 ≠ v11 then (rx_Go L (d + 1) mX11_book 39 [some (.inr 125), some (.inl x1), some (.inl (rx_w (x2 + 0))), some (.inl x3), some (.inl (rx_w (x4 + 1))), some (.inl 0)] [] σ10 (rx_PI K)) else (rx_CI L d mX11_doPass [.inr 125, .inl x3, .inl x4] σ10 (fun v14 σ13 => if v14 = 0 then (rx_Go L (d + 1) mX11_book 39 [some (.inr 125), some (.inl x1), some (.inl (rx_w (x2 + 0))), some (.inl x3), some (.inl (rx_w (x4 + 1))), some (.inl 0)] [] σ13 (rx_PI K)) else (if x1 ≠ 1 then (rx_Go L (d + 1) mX11_book 39 [some (.inr 125), some (.inl x1), some (.inl (rx_w (x2 + 1))), some (.inl x3), some (.inl (rx_w (x4 + 1))), some (.inl 1)] [] σ13 (rx_PI K)) else ((0 ≤ (rx_w ((rx_w (18 * x3)) + x4)) ∧ (rx_w ((rx_w (18 * x3)) + x4)) < 324) ∧ (rx_Go L (d + 1) mX11_book 39 [some (.inr 125), some (.inl x1), some (.inl (rx_w (x2 + (σ13 130 (rx_w ((rx_w (18 * x3)) + x4)))))), some (.inl x3), some (.inl (rx_w (x4 + 1))), some (.inl 1)] [] σ13 (rx_PI K)))))))))) :
    rx_Go L (d + 1) mX11_book 39 [some (.inr 125), some (.inl x1), some (.inl x2), some (.inl x3), some (.inl x4), q5] [] σ (rx_PI K) := by
  refine g_il iX11_book_39 rfl ?_
  refine g_al iX11_book_41 rfl ?_
  refine g_gr iX11_book_42 fr_11_0_125 ?_
  refine g_c iX11_book_45 ?_
  refine g_ld iX11_book_46 (ln_126 L) (by decide) ?_
  by_cases c7 : (σ 126 2) ≤ x4
  · rw [if_pos c7] at H
    refine g_ic3t iX11_book_47 c7 ?_
    refine g_ii iX11_book_122 rfl ?_
    refine rx_Go.ls (la := [some (.inr 125), some (.inl x1), some (.inl x2), some (.inl (rx_w (x3 + 1))), some (.inl x4), q5]) rfl ?_
    refine g_goto iX11_book_125 ?_
    exact H
  · rw [if_neg c7] at H
    refine g_ic3f iX11_book_47 c7 ?_
    refine g_al iX11_book_50 rfl ?_
    refine g_il iX11_book_51 rfl ?_
    refine g_c iX11_book_52 ?_
    refine g_ci (as := [.inr 125, .inl x3, .inl 4]) (rest := []) iX11_book_53 rfl rfl (Nat.le_of_ble_eq_true rfl) (Or.inr ⟨_, _, rfl, oo_11_125⟩) (rx_CI.imp H (fun v9 σ8 H => ?_))
    refine g_al iX11_book_56 rfl ?_
    refine g_il iX11_book_57 rfl ?_
    refine g_c iX11_book_59 ?_
    refine g_ci (as := [.inr 125, .inl x4, .inl 4]) (rest := [.inl v9]) iX11_book_60 rfl rfl (Nat.le_of_ble_eq_true rfl) (Or.inr ⟨_, _, rfl, oo_11_125⟩) (rx_CI.imp H (fun v11 σ10 H => ?_))
    by_cases c12 : v9 ≠ v11
    · rw [if_pos c12] at H
      refine g_ic1t iX11_book_63 c12 ?_
      refine g_c iX11_book_80 ?_
      refine g_is iX11_book_81 (Nat.le_of_ble_eq_true rfl) ?_
      refine rx_Go.ls (la := [some (.inr 125), some (.inl x1), some (.inl x2), some (.inl x3), some (.inl x4), some (.inl 0)]) rfl ?_
      refine g_il iX11_book_83 rfl ?_
      refine g_il iX11_book_84 rfl ?_
      refine g_if0t iX11_book_86 (by decide) ?_
      refine g_c iX11_book_113 ?_
      refine g_add iX11_book_114 ?_
      refine g_is iX11_book_115 (Nat.le_of_ble_eq_true rfl) ?_
      refine rx_Go.ls (la := [some (.inr 125), some (.inl x1), some (.inl (rx_w (x2 + 0))), some (.inl x3), some (.inl x4), some (.inl 0)]) rfl ?_
      refine g_ii iX11_book_116 rfl ?_
      refine rx_Go.ls (la := [some (.inr 125), some (.inl x1), some (.inl (rx_w (x2 + 0))), some (.inl x3), some (.inl (rx_w (x4 + 1))), some (.inl 0)]) rfl ?_
      refine g_goto iX11_book_119 ?_
      exact H
    · rw [if_neg c12] at H
      refine g_ic1f iX11_book_63 c12 ?_
      refine g_al iX11_book_66 rfl ?_
      refine g_il iX11_book_67 rfl ?_
      refine g_il iX11_book_68 rfl ?_
      refine g_ci (as := [.inr 125, .inl x3, .inl x4]) (rest := []) iX11_book_70 rfl rfl (Nat.le_of_ble_eq_true rfl) (Or.inr ⟨_, _, rfl, oo_11_125⟩) (rx_CI.imp H (fun v14 σ13 H => ?_))
      by_cases c15 : v14 = 0
      · rw [if_pos c15] at H
        refine g_if0t iX11_book_73 c15 ?_
        refine g_c iX11_book_80 ?_
        refine g_is iX11_book_81 (Nat.le_of_ble_eq_true rfl) ?_
        refine rx_Go.ls (la := [some (.inr 125), some (.inl x1), some (.inl x2), some (.inl x3), some (.inl x4), some (.inl 0)]) rfl ?_
        refine g_il iX11_book_83 rfl ?_
        refine g_il iX11_book_84 rfl ?_
        refine g_if0t iX11_book_86 (by decide) ?_
        refine g_c iX11_book_113 ?_
        refine g_add iX11_book_114 ?_
        refine g_is iX11_book_115 (Nat.le_of_ble_eq_true rfl) ?_
        refine rx_Go.ls (la := [some (.inr 125), some (.inl x1), some (.inl (rx_w (x2 + 0))), some (.inl x3), some (.inl x4), some (.inl 0)]) rfl ?_
        refine g_ii iX11_book_116 rfl ?_
        refine rx_Go.ls (la := [some (.inr 125), some (.inl x1), some (.inl (rx_w (x2 + 0))), some (.inl x3), some (.inl (rx_w (x4 + 1))), some (.inl 0)]) rfl ?_
        refine g_goto iX11_book_119 ?_
        exact H
      · rw [if_neg c15] at H
        refine g_if0f iX11_book_73 c15 ?_
        refine g_c iX11_book_76 ?_
        refine g_goto iX11_book_77 ?_
        refine g_is iX11_book_81 (Nat.le_of_ble_eq_true rfl) ?_
        refine rx_Go.ls (la := [some (.inr 125), some (.inl x1), some (.inl x2), some (.inl x3), some (.inl x4), some (.inl 1)]) rfl ?_
        refine g_il iX11_book_83 rfl ?_
        refine g_il iX11_book_84 rfl ?_
        refine g_if0f iX11_book_86 (by decide) ?_
        refine g_il iX11_book_89 rfl ?_
        refine g_c iX11_book_90 ?_
        by_cases c16 : x1 ≠ 1
        · rw [if_pos c16] at H
          refine g_ic1t iX11_book_91 c16 ?_
          refine g_c iX11_book_109 ?_
          refine g_goto iX11_book_110 ?_
          refine g_add iX11_book_114 ?_
          refine g_is iX11_book_115 (Nat.le_of_ble_eq_true rfl) ?_
          refine rx_Go.ls (la := [some (.inr 125), some (.inl x1), some (.inl (rx_w (x2 + 1))), some (.inl x3), some (.inl x4), some (.inl 1)]) rfl ?_
          refine g_ii iX11_book_116 rfl ?_
          refine rx_Go.ls (la := [some (.inr 125), some (.inl x1), some (.inl (rx_w (x2 + 1))), some (.inl x3), some (.inl (rx_w (x4 + 1))), some (.inl 1)]) rfl ?_
          refine g_goto iX11_book_119 ?_
          exact H
        · rw [if_neg c16] at H
          refine g_ic1f iX11_book_91 c16 ?_
          refine g_al iX11_book_94 rfl ?_
          refine g_gr iX11_book_95 fr_11_5_125 ?_
          refine g_c iX11_book_98 ?_
          refine g_il iX11_book_100 rfl ?_
          refine g_mul iX11_book_101 ?_
          refine g_il iX11_book_102 rfl ?_
          refine g_add iX11_book_104 ?_
          obtain ⟨o17, H⟩ := H
          refine g_ld iX11_book_105 (ln_130 L) o17 ?_
          refine g_goto iX11_book_106 ?_
          refine g_add iX11_book_114 ?_
          refine g_is iX11_book_115 (Nat.le_of_ble_eq_true rfl) ?_
          refine rx_Go.ls (la := [some (.inr 125), some (.inl x1), some (.inl (rx_w (x2 + (σ13 130 (rx_w ((rx_w (18 * x3)) + x4)))))), some (.inl x3), some (.inl x4), some (.inl 1)]) rfl ?_
          refine g_ii iX11_book_116 rfl ?_
          refine rx_Go.ls (la := [some (.inr 125), some (.inl x1), some (.inl (rx_w (x2 + (σ13 130 (rx_w ((rx_w (18 * x3)) + x4)))))), some (.inl x3), some (.inl (rx_w (x4 + 1))), some (.inl 1)]) rfl ?_
          refine g_goto iX11_book_119 ?_
          exact H
set_option maxRecDepth 20000 in
set_option maxHeartbeats 4000000 in
theorem bX11_findPasses (L d : Nat)  (σ : rx_St) (K : rx_St → Prop)
    (H : rx_CV L d mX11_findPlaces [.inr 125] σ (fun σ1 => rx_Go L (d + 1) mX11_findPasses 6 [some (.inr 125), some (.inl 0), none] [] σ1 (rx_PV K))) :
    rx_CV L (d + 1) mX11_findPasses [.inr 125] σ K := by
  refine rx_CV.of (la := [some (.inr 125), none, none]) rfl ?_
  refine g_al iX11_findPasses_0 rfl ?_
  refine g_cv (as := [.inr 125]) (rest := []) iX11_findPasses_1 rfl rfl (Nat.le_of_ble_eq_true rfl) (Or.inr ⟨_, _, rfl, oo_11_125⟩) (rx_CV.imp H (fun σ1 H => ?_))
  refine g_c iX11_findPasses_4 ?_
  refine g_is iX11_findPasses_5 (Nat.le_of_ble_eq_true rfl) ?_
  refine rx_Go.ls (la := [some (.inr 125), some (.inl 0), none]) rfl ?_
  exact H
set_option maxRecDepth 20000 in
set_option maxHeartbeats 4000000 in
theorem bX11_findPasses_6 (L d : Nat) (x1 : Int) (q2 : Option rx_V) (σ : rx_St) (K : rx_St → Prop)
    (H : if (σ 126 2) ≤ x1 then (K σ) else ((0 ≤ x1 ∧ x1 < 18) ∧ (rx_Go L (d + 1) mX11_findPasses 25 [some (.inr 125), some (.inl x1), some (.inl 0)] [] (rx_up σ 134 x1 0) (rx_PV K)))) :
    rx_Go L (d + 1) mX11_findPasses 6 [some (.inr 125), some (.inl x1), q2] [] σ (rx_PV K) := by
  refine g_il iX11_findPasses_6 rfl ?_
  refine g_al iX11_findPasses_7 rfl ?_
  refine g_gr iX11_findPasses_8 fr_11_0_125 ?_
  refine g_c iX11_findPasses_11 ?_
  refine g_ld iX11_findPasses_12 (ln_126 L) (by decide) ?_
  by_cases c2 : (σ 126 2) ≤ x1
  · rw [if_pos c2] at H
    refine g_ic3t iX11_findPasses_13 c2 ?_
    exact g_rv iX11_findPasses_77 H
  · rw [if_neg c2] at H
    refine g_ic3f iX11_findPasses_13 c2 ?_
    refine g_al iX11_findPasses_16 rfl ?_
    refine g_gr iX11_findPasses_17 fr_11_11_125 ?_
    refine g_il iX11_findPasses_20 rfl ?_
    refine g_c iX11_findPasses_21 ?_
    obtain ⟨o3, H⟩ := H
    refine g_st iX11_findPasses_22 (ln_134 L) (by decide) o3 rfl ?_
    refine g_c iX11_findPasses_23 ?_
    refine g_is iX11_findPasses_24 (Nat.le_of_ble_eq_true rfl) ?_
    refine rx_Go.ls (la := [some (.inr 125), some (.inl x1), some (.inl 0)]) rfl ?_
    exact H
set_option maxRecDepth 20000 in
set_option maxHeartbeats 4000000 in
theorem bX11_findPasses_25 (L d : Nat) (x1 : Int) (x2 : Int) (σ : rx_St) (K : rx_St → Prop)
    (H : if (σ 126 2) ≤ x2 then (rx_Go L (d + 1) mX11_findPasses 6 [some (.inr 125), some (.inl (rx_w (x1 + 1))), some (.inl x2)] [] σ (rx_PV K)) else ((0 ≤ x1 ∧ x1 < 18) ∧ (if x2 = x1 then (rx_Go L (d + 1) mX11_findPasses 25 [some (.inr 125), some (.inl x1), some (.inl (rx_w (x2 + 1)))] [] (rx_up σ 134 x1 (rx_alu 4 (σ 134 x1) 0)) (rx_PV K)) else (rx_CI L d mX11_doPass [.inr 125, .inl x1, .inl x2] σ (fun v8 σ7 => if v8 = 0 then (rx_Go L (d + 1) mX11_findPasses 25 [some (.inr 125), some (.inl x1), some (.inl (rx_w (x2 + 1)))] [] (rx_up σ7 134 x1 (rx_alu 4 (σ 134 x1) 0)) (rx_PV K)) else (rx_Go L (d + 1) mX11_findPasses 25 [some (.inr 125), some (.inl x1), some (.inl (rx_w (x2 + 1)))] [] (rx_up σ7 134 x1 (rx_alu 4 (σ 134 x1) (rx_alu 6 1 x2))) (rx_PV K))))))) :
    rx_Go L (d + 1) mX11_findPasses 25 [some (.inr 125), some (.inl x1), some (.inl x2)] [] σ (rx_PV K) := by
  refine g_il iX11_findPasses_25 rfl ?_
  refine g_al iX11_findPasses_26 rfl ?_
  refine g_gr iX11_findPasses_27 fr_11_0_125 ?_
  refine g_c iX11_findPasses_30 ?_
  refine g_ld iX11_findPasses_31 (ln_126 L) (by decide) ?_
  by_cases c4 : (σ 126 2) ≤ x2
  · rw [if_pos c4] at H
    refine g_ic3t iX11_findPasses_32 c4 ?_
    refine g_ii iX11_findPasses_71 rfl ?_
    refine rx_Go.ls (la := [some (.inr 125), some (.inl (rx_w (x1 + 1))), some (.inl x2)]) rfl ?_
    refine g_goto iX11_findPasses_74 ?_
    exact H
  · rw [if_neg c4] at H
    refine g_ic3f iX11_findPasses_32 c4 ?_
    refine g_al iX11_findPasses_35 rfl ?_
    refine g_gr iX11_findPasses_36 fr_11_11_125 ?_
    refine g_il iX11_findPasses_39 rfl ?_
    refine g_dup2 iX11_findPasses_40 ?_
    obtain ⟨o5, H⟩ := H
    refine g_ld iX11_findPasses_41 (ln_134 L) o5 ?_
    refine g_il iX11_findPasses_42 rfl ?_
    refine g_il iX11_findPasses_43 rfl ?_
    by_cases c6 : x2 = x1
    · rw [if_pos c6] at H
      refine g_ic0t iX11_findPasses_44 c6 ?_
      refine g_c iX11_findPasses_62 ?_
      refine g_bit iX11_findPasses_63 ?_
      refine g_st iX11_findPasses_64 (ln_134 L) (by decide) o5 rfl ?_
      refine g_ii iX11_findPasses_65 rfl ?_
      refine rx_Go.ls (la := [some (.inr 125), some (.inl x1), some (.inl (rx_w (x2 + 1)))]) rfl ?_
      refine g_goto iX11_findPasses_68 ?_
      exact H
    · rw [if_neg c6] at H
      refine g_ic0f iX11_findPasses_44 c6 ?_
      refine g_al iX11_findPasses_47 rfl ?_
      refine g_il iX11_findPasses_48 rfl ?_
      refine g_il iX11_findPasses_49 rfl ?_
      refine g_ci (as := [.inr 125, .inl x1, .inl x2]) (rest := [.inl (σ 134 x1), .inl x1, .inr 134]) iX11_findPasses_50 rfl rfl (Nat.le_of_ble_eq_true rfl) (Or.inr ⟨_, _, rfl, oo_11_125⟩) (rx_CI.imp H (fun v8 σ7 H => ?_))
      by_cases c9 : v8 = 0
      · rw [if_pos c9] at H
        refine g_if0t iX11_findPasses_53 c9 ?_
        refine g_c iX11_findPasses_62 ?_
        refine g_bit iX11_findPasses_63 ?_
        refine g_st iX11_findPasses_64 (ln_134 L) (by decide) o5 rfl ?_
        refine g_ii iX11_findPasses_65 rfl ?_
        refine rx_Go.ls (la := [some (.inr 125), some (.inl x1), some (.inl (rx_w (x2 + 1)))]) rfl ?_
        refine g_goto iX11_findPasses_68 ?_
        exact H
      · rw [if_neg c9] at H
        refine g_if0f iX11_findPasses_53 c9 ?_
        refine g_c iX11_findPasses_56 ?_
        refine g_il iX11_findPasses_57 rfl ?_
        refine g_bit iX11_findPasses_58 ?_
        refine g_goto iX11_findPasses_59 ?_
        refine g_bit iX11_findPasses_63 ?_
        refine g_st iX11_findPasses_64 (ln_134 L) (by decide) o5 rfl ?_
        refine g_ii iX11_findPasses_65 rfl ?_
        refine rx_Go.ls (la := [some (.inr 125), some (.inl x1), some (.inl (rx_w (x2 + 1)))]) rfl ?_
        refine g_goto iX11_findPasses_68 ?_
        exact H
set_option maxRecDepth 20000 in
set_option maxHeartbeats 4000000 in
theorem bX11_hasTwo (L d : Nat) (x1 : Int) (σ : rx_St) (K : Int → rx_St → Prop)
    (H : rx_Go L d mX11_hasTwo 2 [some (.inr 125), some (.inl x1), some (.inl 0)] [] σ (rx_PI K)) :
    rx_CI L d mX11_hasTwo [.inr 125, .inl x1] σ K := by
  refine rx_CI.of (la := [some (.inr 125), some (.inl x1), none]) rfl ?_
  refine g_c iX11_hasTwo_0 ?_
  refine g_is iX11_hasTwo_1 (Nat.le_of_ble_eq_true rfl) ?_
  refine rx_Go.ls (la := [some (.inr 125), some (.inl x1), some (.inl 0)]) rfl ?_
  exact H
set_option maxRecDepth 20000 in
set_option maxHeartbeats 4000000 in
theorem bX11_hasTwo_2 (L d : Nat) (x1 : Int) (x2 : Int) (σ : rx_St) (K : Int → rx_St → Prop)
    (H : if (σ 126 2) ≤ x2 then (K 0 σ) else (if (rx_alu 3 (rx_alu 7 x1 x2) 1) ≠ 1 then (rx_Go L d mX11_hasTwo 2 [some (.inr 125), some (.inl x1), some (.inl (rx_w (x2 + 1)))] [] σ (rx_PI K)) else ((0 ≤ x2 ∧ x2 < 18) ∧ (if (rx_alu 3 x1 (σ 134 x2)) = 0 then (rx_Go L d mX11_hasTwo 2 [some (.inr 125), some (.inl x1), some (.inl (rx_w (x2 + 1)))] [] σ (rx_PI K)) else (K 1 σ))))) :
    rx_Go L d mX11_hasTwo 2 [some (.inr 125), some (.inl x1), some (.inl x2)] [] σ (rx_PI K) := by
  refine g_il iX11_hasTwo_2 rfl ?_
  refine g_al iX11_hasTwo_3 rfl ?_
  refine g_gr iX11_hasTwo_4 fr_11_0_125 ?_
  refine g_c iX11_hasTwo_7 ?_
  refine g_ld iX11_hasTwo_8 (ln_126 L) (by decide) ?_
  by_cases c1 : (σ 126 2) ≤ x2
  · rw [if_pos c1] at H
    refine g_ic3t iX11_hasTwo_9 c1 ?_
    refine g_c iX11_hasTwo_40 ?_
    exact g_ri iX11_hasTwo_41 (by decide) H
  · rw [if_neg c1] at H
    refine g_ic3f iX11_hasTwo_9 c1 ?_
    refine g_il iX11_hasTwo_12 rfl ?_
    refine g_il iX11_hasTwo_13 rfl ?_
    refine g_bit iX11_hasTwo_14 ?_
    refine g_c iX11_hasTwo_15 ?_
    refine g_bit iX11_hasTwo_16 ?_
    refine g_c iX11_hasTwo_17 ?_
    by_cases c2 : (rx_alu 3 (rx_alu 7 x1 x2) 1) ≠ 1
    · rw [if_pos c2] at H
      refine g_ic1t iX11_hasTwo_18 c2 ?_
      refine g_ii iX11_hasTwo_34 rfl ?_
      refine rx_Go.ls (la := [some (.inr 125), some (.inl x1), some (.inl (rx_w (x2 + 1)))]) rfl ?_
      refine g_goto iX11_hasTwo_37 ?_
      exact H
    · rw [if_neg c2] at H
      refine g_ic1f iX11_hasTwo_18 c2 ?_
      refine g_il iX11_hasTwo_21 rfl ?_
      refine g_al iX11_hasTwo_22 rfl ?_
      refine g_gr iX11_hasTwo_23 fr_11_11_125 ?_
      refine g_il iX11_hasTwo_26 rfl ?_
      obtain ⟨o3, H⟩ := H
      refine g_ld iX11_hasTwo_27 (ln_134 L) o3 ?_
      refine g_bit iX11_hasTwo_28 ?_
      by_cases c4 : (rx_alu 3 x1 (σ 134 x2)) = 0
      · rw [if_pos c4] at H
        refine g_if0t iX11_hasTwo_29 c4 ?_
        refine g_ii iX11_hasTwo_34 rfl ?_
        refine rx_Go.ls (la := [some (.inr 125), some (.inl x1), some (.inl (rx_w (x2 + 1)))]) rfl ?_
        refine g_goto iX11_hasTwo_37 ?_
        exact H
      · rw [if_neg c4] at H
        refine g_if0f iX11_hasTwo_29 c4 ?_
        refine g_c iX11_hasTwo_32 ?_
        exact g_ri iX11_hasTwo_33 (by decide) H
set_option maxRecDepth 20000 in
set_option maxHeartbeats 4000000 in
theorem bX11_mutual (L d : Nat)  (σ : rx_St) (K : Int → rx_St → Prop)
    (H : if (σ 126 2) ≤ 0 then (rx_Go L (d + 1) mX11_mutual 17 [some (.inr 125), some (.inl 0), some (.inl 0), none, none] [] σ (rx_PI K)) else (rx_Go L (d + 1) mX11_mutual 17 [some (.inr 125), some (.inl 1), some (.inl 0), none, none] [] σ (rx_PI K))) :
    rx_CI L (d + 1) mX11_mutual [.inr 125] σ K := by
  refine rx_CI.of (la := [some (.inr 125), none, none, none, none]) rfl ?_
  refine g_al iX11_mutual_0 rfl ?_
  refine g_gr iX11_mutual_1 fr_11_0_125 ?_
  refine g_c iX11_mutual_4 ?_
  refine g_ld iX11_mutual_5 (ln_126 L) (by decide) ?_
  by_cases c1 : (σ 126 2) ≤ 0
  · rw [if_pos c1] at H
    refine g_if5t iX11_mutual_6 c1 ?_
    refine g_c iX11_mutual_13 ?_
    refine g_is iX11_mutual_14 (Nat.le_of_ble_eq_true rfl) ?_
    refine rx_Go.ls (la := [some (.inr 125), some (.inl 0), none, none, none]) rfl ?_
    refine g_c iX11_mutual_15 ?_
    refine g_is iX11_mutual_16 (Nat.le_of_ble_eq_true rfl) ?_
    refine rx_Go.ls (la := [some (.inr 125), some (.inl 0), some (.inl 0), none, none]) rfl ?_
    exact H
  · rw [if_neg c1] at H
    refine g_if5f iX11_mutual_6 c1 ?_
    refine g_c iX11_mutual_9 ?_
    refine g_goto iX11_mutual_10 ?_
    refine g_is iX11_mutual_14 (Nat.le_of_ble_eq_true rfl) ?_
    refine rx_Go.ls (la := [some (.inr 125), some (.inl 1), none, none, none]) rfl ?_
    refine g_c iX11_mutual_15 ?_
    refine g_is iX11_mutual_16 (Nat.le_of_ble_eq_true rfl) ?_
    refine rx_Go.ls (la := [some (.inr 125), some (.inl 1), some (.inl 0), none, none]) rfl ?_
    exact H
set_option maxRecDepth 20000 in
set_option maxHeartbeats 4000000 in
theorem bX11_mutual_17 (L d : Nat) (x1 : Int) (x2 : Int) (q3 : Option rx_V) (q4 : Option rx_V) (σ : rx_St) (K : Int → rx_St → Prop)
    (H : if (σ 126 2) ≤ x2 then (K x1 σ) else ((0 ≤ x2 ∧ x2 < 18) ∧ (if (σ 134 x2) = 0 then (rx_Go L (d + 1) mX11_mutual 50 [some (.inr 125), some (.inl x1), some (.inl x2), some (.inl (rx_w (x2 + 1))), q4] [] σ (rx_PI K)) else (rx_Go L (d + 1) mX11_mutual 50 [some (.inr 125), some (.inl (rx_mx x1 2)), some (.inl x2), some (.inl (rx_w (x2 + 1))), q4] [] σ (rx_PI K))))) :
    rx_Go L (d + 1) mX11_mutual 17 [some (.inr 125), some (.inl x1), some (.inl x2), q3, q4] [] σ (rx_PI K) := by
  refine g_il iX11_mutual_17 rfl ?_
  refine g_al iX11_mutual_18 rfl ?_
  refine g_gr iX11_mutual_19 fr_11_0_125 ?_
  refine g_c iX11_mutual_22 ?_
  refine g_ld iX11_mutual_23 (ln_126 L) (by decide) ?_
  by_cases c2 : (σ 126 2) ≤ x2
  · rw [if_pos c2] at H
    refine g_ic3t iX11_mutual_24 c2 ?_
    refine g_il iX11_mutual_140 rfl ?_
    exact g_ri iX11_mutual_141 (Or.inl rfl) H
  · rw [if_neg c2] at H
    refine g_ic3f iX11_mutual_24 c2 ?_
    refine g_al iX11_mutual_27 rfl ?_
    refine g_gr iX11_mutual_28 fr_11_11_125 ?_
    refine g_il iX11_mutual_31 rfl ?_
    obtain ⟨o3, H⟩ := H
    refine g_ld iX11_mutual_32 (ln_134 L) o3 ?_
    by_cases c4 : (σ 134 x2) = 0
    · rw [if_pos c4] at H
      refine g_if0t iX11_mutual_33 c4 ?_
      refine g_il iX11_mutual_44 rfl ?_
      refine g_is iX11_mutual_45 (Nat.le_of_ble_eq_true rfl) ?_
      refine rx_Go.ls (la := [some (.inr 125), some (.inl x1), some (.inl x2), q3, q4]) rfl ?_
      refine g_il iX11_mutual_46 rfl ?_
      refine g_c iX11_mutual_47 ?_
      refine g_add iX11_mutual_48 ?_
      refine g_is iX11_mutual_49 (Nat.le_of_ble_eq_true rfl) ?_
      refine rx_Go.ls (la := [some (.inr 125), some (.inl x1), some (.inl x2), some (.inl (rx_w (x2 + 1))), q4]) rfl ?_
      exact H
    · rw [if_neg c4] at H
      refine g_if0f iX11_mutual_33 c4 ?_
      refine g_il iX11_mutual_36 rfl ?_
      refine g_c iX11_mutual_37 ?_
      refine g_mx iX11_mutual_38 (Nat.le_of_ble_eq_true rfl) ?_
      refine g_goto iX11_mutual_41 ?_
      refine g_is iX11_mutual_45 (Nat.le_of_ble_eq_true rfl) ?_
      refine rx_Go.ls (la := [some (.inr 125), some (.inl (rx_mx x1 2)), some (.inl x2), q3, q4]) rfl ?_
      refine g_il iX11_mutual_46 rfl ?_
      refine g_c iX11_mutual_47 ?_
      refine g_add iX11_mutual_48 ?_
      refine g_is iX11_mutual_49 (Nat.le_of_ble_eq_true rfl) ?_
      refine rx_Go.ls (la := [some (.inr 125), some (.inl (rx_mx x1 2)), some (.inl x2), some (.inl (rx_w (x2 + 1))), q4]) rfl ?_
      exact H
set_option maxRecDepth 20000 in
set_option maxHeartbeats 4000000 in
theorem bX11_mutual_50 (L d : Nat) (x1 : Int) (x2 : Int) (x3 : Int) (q4 : Option rx_V) (σ : rx_St) (K : Int → rx_St → Prop)
    (H : if (σ 126 2) ≤ x3 then (rx_Go L (d + 1) mX11_mutual 17 [some (.inr 125), some (.inl x1), some (.inl (rx_w (x2 + 1))), some (.inl x3), q4] [] σ (rx_PI K)) else ((0 ≤ x2 ∧ x2 < 18) ∧ (if (rx_alu 3 (rx_alu 7 (σ 134 x2) x3) 1) ≠ 1 then (rx_Go L (d + 1) mX11_mutual 50 [some (.inr 125), some (.inl x1), some (.inl x2), some (.inl (rx_w (x3 + 1))), some (.inl 0)] [] σ (rx_PI K)) else ((0 ≤ x3 ∧ x3 < 18) ∧ (if (rx_alu 3 (σ 134 x2) (σ 134 x3)) = 0 then (rx_Go L (d + 1) mX11_mutual 50 [some (.inr 125), some (.inl x1), some (.inl x2), some (.inl (rx_w (x3 + 1))), some (.inl (rx_alu 3 (σ 134 x2) (σ 134 x3)))] [] σ (rx_PI K)) else (rx_CI L d mX11_hasTwo [.inr 125, .inl (rx_alu 3 (σ 134 x2) (σ 134 x3))] σ (fun v11 σ10 => if v11 = 0 then (rx_Go L (d + 1) mX11_mutual 50 [some (.inr 125), some (.inl (rx_mx x1 3)), some (.inl x2), some (.inl (rx_w (x3 + 1))), some (.inl (rx_alu 3 (σ 134 x2) (σ 134 x3)))] [] σ10 (rx_PI K)) else (rx_Go L (d + 1) mX11_mutual 50 [some (.inr 125), some (.inl 4), some (.inl x2), some (.inl (rx_w (x3 + 1))), some (.inl (rx_alu 3 (σ 134 x2) (σ 134 x3)))] [] σ10 (rx_PI K))))))))) :
    rx_Go L (d + 1) mX11_mutual 50 [some (.inr 125), some (.inl x1), some (.inl x2), some (.inl x3), q4] [] σ (rx_PI K) := by
  refine g_il iX11_mutual_50 rfl ?_
  refine g_al iX11_mutual_51 rfl ?_
  refine g_gr iX11_mutual_52 fr_11_0_125 ?_
  refine g_c iX11_mutual_55 ?_
  refine g_ld iX11_mutual_56 (ln_126 L) (by decide) ?_
  by_cases c5 : (σ 126 2) ≤ x3
  · rw [if_pos c5] at H
    refine g_ic3t iX11_mutual_57 c5 ?_
    refine g_ii iX11_mutual_134 rfl ?_
    refine rx_Go.ls (la := [some (.inr 125), some (.inl x1), some (.inl (rx_w (x2 + 1))), some (.inl x3), q4]) rfl ?_
    refine g_goto iX11_mutual_137 ?_
    exact H
  · rw [if_neg c5] at H
    refine g_ic3f iX11_mutual_57 c5 ?_
    refine g_al iX11_mutual_60 rfl ?_
    refine g_gr iX11_mutual_61 fr_11_11_125 ?_
    refine g_il iX11_mutual_64 rfl ?_
    obtain ⟨o6, H⟩ := H
    refine g_ld iX11_mutual_65 (ln_134 L) o6 ?_
    refine g_il iX11_mutual_66 rfl ?_
    refine g_bit iX11_mutual_67 ?_
    refine g_c iX11_mutual_68 ?_
    refine g_bit iX11_mutual_69 ?_
    refine g_c iX11_mutual_70 ?_
    by_cases c7 : (rx_alu 3 (rx_alu 7 (σ 134 x2) x3) 1) ≠ 1
    · rw [if_pos c7] at H
      refine g_ic1t iX11_mutual_71 c7 ?_
      refine g_c iX11_mutual_90 ?_
      refine g_is iX11_mutual_91 (Nat.le_of_ble_eq_true rfl) ?_
      refine rx_Go.ls (la := [some (.inr 125), some (.inl x1), some (.inl x2), some (.inl x3), some (.inl 0)]) rfl ?_
      refine g_il iX11_mutual_93 rfl ?_
      refine g_if0t iX11_mutual_95 (by decide) ?_
      refine g_il iX11_mutual_106 rfl ?_
      refine g_is iX11_mutual_107 (Nat.le_of_ble_eq_true rfl) ?_
      refine rx_Go.ls (la := [some (.inr 125), some (.inl x1), some (.inl x2), some (.inl x3), some (.inl 0)]) rfl ?_
      refine g_il iX11_mutual_108 rfl ?_
      refine g_if0t iX11_mutual_110 (by decide) ?_
      refine g_il iX11_mutual_126 rfl ?_
      refine g_is iX11_mutual_127 (Nat.le_of_ble_eq_true rfl) ?_
      refine rx_Go.ls (la := [some (.inr 125), some (.inl x1), some (.inl x2), some (.inl x3), some (.inl 0)]) rfl ?_
      refine g_ii iX11_mutual_128 rfl ?_
      refine rx_Go.ls (la := [some (.inr 125), some (.inl x1), some (.inl x2), some (.inl (rx_w (x3 + 1))), some (.inl 0)]) rfl ?_
      refine g_goto iX11_mutual_131 ?_
      exact H
    · rw [if_neg c7] at H
      refine g_ic1f iX11_mutual_71 c7 ?_
      refine g_al iX11_mutual_74 rfl ?_
      refine g_gr iX11_mutual_75 fr_11_11_125 ?_
      refine g_il iX11_mutual_78 rfl ?_
      refine g_ld iX11_mutual_79 (ln_134 L) o6 ?_
      refine g_al iX11_mutual_80 rfl ?_
      refine g_gr iX11_mutual_81 fr_11_11_125 ?_
      refine g_il iX11_mutual_84 rfl ?_
      obtain ⟨o8, H⟩ := H
      refine g_ld iX11_mutual_85 (ln_134 L) o8 ?_
      refine g_bit iX11_mutual_86 ?_
      refine g_goto iX11_mutual_87 ?_
      refine g_is iX11_mutual_91 (Nat.le_of_ble_eq_true rfl) ?_
      refine rx_Go.ls (la := [some (.inr 125), some (.inl x1), some (.inl x2), some (.inl x3), some (.inl (rx_alu 3 (σ 134 x2) (σ 134 x3)))]) rfl ?_
      refine g_il iX11_mutual_93 rfl ?_
      by_cases c9 : (rx_alu 3 (σ 134 x2) (σ 134 x3)) = 0
      · rw [if_pos c9] at H
        refine g_if0t iX11_mutual_95 c9 ?_
        refine g_il iX11_mutual_106 rfl ?_
        refine g_is iX11_mutual_107 (Nat.le_of_ble_eq_true rfl) ?_
        refine rx_Go.ls (la := [some (.inr 125), some (.inl x1), some (.inl x2), some (.inl x3), some (.inl (rx_alu 3 (σ 134 x2) (σ 134 x3)))]) rfl ?_
        refine g_il iX11_mutual_108 rfl ?_
        refine g_if0t iX11_mutual_110 c9 ?_
        refine g_il iX11_mutual_126 rfl ?_
        refine g_is iX11_mutual_127 (Nat.le_of_ble_eq_true rfl) ?_
        refine rx_Go.ls (la := [some (.inr 125), some (.inl x1), some (.inl x2), some (.inl x3), some (.inl (rx_alu 3 (σ 134 x2) (σ 134 x3)))]) rfl ?_
        refine g_ii iX11_mutual_128 rfl ?_
        refine rx_Go.ls (la := [some (.inr 125), some (.inl x1), some (.inl x2), some (.inl (rx_w (x3 + 1))), some (.inl (rx_alu 3 (σ 134 x2) (σ 134 x3)))]) rfl ?_
        refine g_goto iX11_mutual_131 ?_
        exact H
      · rw [if_neg c9] at H
        refine g_if0f iX11_mutual_95 c9 ?_
        refine g_il iX11_mutual_98 rfl ?_
        refine g_c iX11_mutual_99 ?_
        refine g_mx iX11_mutual_100 (Nat.le_of_ble_eq_true rfl) ?_
        refine g_goto iX11_mutual_103 ?_
        refine g_is iX11_mutual_107 (Nat.le_of_ble_eq_true rfl) ?_
        refine rx_Go.ls (la := [some (.inr 125), some (.inl (rx_mx x1 3)), some (.inl x2), some (.inl x3), some (.inl (rx_alu 3 (σ 134 x2) (σ 134 x3)))]) rfl ?_
        refine g_il iX11_mutual_108 rfl ?_
        refine g_if0f iX11_mutual_110 c9 ?_
        refine g_al iX11_mutual_113 rfl ?_
        refine g_il iX11_mutual_114 rfl ?_
        refine g_ci (as := [.inr 125, .inl (rx_alu 3 (σ 134 x2) (σ 134 x3))]) (rest := []) iX11_mutual_116 rfl rfl (Nat.le_of_ble_eq_true rfl) (Or.inr ⟨_, _, rfl, oo_11_125⟩) (rx_CI.imp H (fun v11 σ10 H => ?_))
        by_cases c12 : v11 = 0
        · rw [if_pos c12] at H
          refine g_if0t iX11_mutual_119 c12 ?_
          refine g_il iX11_mutual_126 rfl ?_
          refine g_is iX11_mutual_127 (Nat.le_of_ble_eq_true rfl) ?_
          refine rx_Go.ls (la := [some (.inr 125), some (.inl (rx_mx x1 3)), some (.inl x2), some (.inl x3), some (.inl (rx_alu 3 (σ 134 x2) (σ 134 x3)))]) rfl ?_
          refine g_ii iX11_mutual_128 rfl ?_
          refine rx_Go.ls (la := [some (.inr 125), some (.inl (rx_mx x1 3)), some (.inl x2), some (.inl (rx_w (x3 + 1))), some (.inl (rx_alu 3 (σ 134 x2) (σ 134 x3)))]) rfl ?_
          refine g_goto iX11_mutual_131 ?_
          exact H
        · rw [if_neg c12] at H
          refine g_if0f iX11_mutual_119 c12 ?_
          refine g_c iX11_mutual_122 ?_
          refine g_goto iX11_mutual_123 ?_
          refine g_is iX11_mutual_127 (Nat.le_of_ble_eq_true rfl) ?_
          refine rx_Go.ls (la := [some (.inr 125), some (.inl 4), some (.inl x2), some (.inl x3), some (.inl (rx_alu 3 (σ 134 x2) (σ 134 x3)))]) rfl ?_
          refine g_ii iX11_mutual_128 rfl ?_
          refine rx_Go.ls (la := [some (.inr 125), some (.inl 4), some (.inl x2), some (.inl (rx_w (x3 + 1))), some (.inl (rx_alu 3 (σ 134 x2) (σ 134 x3)))]) rfl ?_
          refine g_goto iX11_mutual_131 ?_
          exact H
set_option maxRecDepth 20000 in
set_option maxHeartbeats 4000000 in
theorem bX11_fitsPage (L d : Nat) (x1 : Int) (σ : rx_St) (K : Int → rx_St → Prop)
    (H : rx_Go L d mX11_fitsPage 4 [some (.inr 125), some (.inl x1), some (.inl 1), some (.inl 0)] [] σ (rx_PI K)) :
    rx_CI L d mX11_fitsPage [.inr 125, .inl x1] σ K := by
  refine rx_CI.of (la := [some (.inr 125), some (.inl x1), none, none]) rfl ?_
  refine g_c iX11_fitsPage_0 ?_
  refine g_is iX11_fitsPage_1 (Nat.le_of_ble_eq_true rfl) ?_
  refine rx_Go.ls (la := [some (.inr 125), some (.inl x1), some (.inl 1), none]) rfl ?_
  refine g_c iX11_fitsPage_2 ?_
  refine g_is iX11_fitsPage_3 (Nat.le_of_ble_eq_true rfl) ?_
  refine rx_Go.ls (la := [some (.inr 125), some (.inl x1), some (.inl 1), some (.inl 0)]) rfl ?_
  exact H
set_option maxRecDepth 20000 in
set_option maxHeartbeats 4000000 in
theorem bX11_fitsPage_4 (L d : Nat) (x1 : Int) (x2 : Int) (x3 : Int) (σ : rx_St) (K : Int → rx_St → Prop)
    (H : if x1 ≤ x3 then ((x2 = 0 ∨ x2 = 1) ∧ K x2 σ) else (if x2 = 0 then (rx_Go L d mX11_fitsPage 4 [some (.inr 125), some (.inl x1), some (.inl 0), some (.inl (rx_w (x3 + 1)))] [] σ (rx_PI K)) else ((0 ≤ x3 ∧ x3 < 18) ∧ ((0 ≤ x1 ∧ x1 < 18) ∧ (if (σ 135 x3) ≠ (σ 135 x1) then (rx_Go L d mX11_fitsPage 4 [some (.inr 125), some (.inl x1), some (.inl 1), some (.inl (rx_w (x3 + 1)))] [] σ (rx_PI K)) else (if (rx_alu 3 (rx_alu 7 (σ 134 x1) x3) 1) ≠ 0 then (rx_Go L d mX11_fitsPage 4 [some (.inr 125), some (.inl x1), some (.inl 0), some (.inl (rx_w (x3 + 1)))] [] σ (rx_PI K)) else (rx_Go L d mX11_fitsPage 4 [some (.inr 125), some (.inl x1), some (.inl 1), some (.inl (rx_w (x3 + 1)))] [] σ (rx_PI K)))))))) :
    rx_Go L d mX11_fitsPage 4 [some (.inr 125), some (.inl x1), some (.inl x2), some (.inl x3)] [] σ (rx_PI K) := by
  refine g_il iX11_fitsPage_4 rfl ?_
  refine g_il iX11_fitsPage_5 rfl ?_
  by_cases c1 : x1 ≤ x3
  · rw [if_pos c1] at H
    refine g_ic3t iX11_fitsPage_6 c1 ?_
    refine g_il iX11_fitsPage_53 rfl ?_
    exact g_ri iX11_fitsPage_54 (Or.inr H.1) H.2
  · rw [if_neg c1] at H
    refine g_ic3f iX11_fitsPage_6 c1 ?_
    refine g_il iX11_fitsPage_9 rfl ?_
    by_cases c2 : x2 = 0
    · rw [if_pos c2] at H
      refine g_if0t iX11_fitsPage_10 c2 ?_
      refine g_c iX11_fitsPage_45 ?_
      refine g_is iX11_fitsPage_46 (Nat.le_of_ble_eq_true rfl) ?_
      refine rx_Go.ls (la := [some (.inr 125), some (.inl x1), some (.inl 0), some (.inl x3)]) rfl ?_
      refine g_ii iX11_fitsPage_47 rfl ?_
      refine rx_Go.ls (la := [some (.inr 125), some (.inl x1), some (.inl 0), some (.inl (rx_w (x3 + 1)))]) rfl ?_
      refine g_goto iX11_fitsPage_50 ?_
      exact H
    · rw [if_neg c2] at H
      refine g_if0f iX11_fitsPage_10 c2 ?_
      refine g_al iX11_fitsPage_13 rfl ?_
      refine g_gr iX11_fitsPage_14 fr_11_12_125 ?_
      refine g_il iX11_fitsPage_17 rfl ?_
      obtain ⟨o3, H⟩ := H
      refine g_ld iX11_fitsPage_18 (ln_135 L) o3 ?_
      refine g_al iX11_fitsPage_19 rfl ?_
      refine g_gr iX11_fitsPage_20 fr_11_12_125 ?_
      refine g_il iX11_fitsPage_23 rfl ?_
      obtain ⟨o4, H⟩ := H
      refine g_ld iX11_fitsPage_24 (ln_135 L) o4 ?_
      by_cases c5 : (σ 135 x3) ≠ (σ 135 x1)
      · rw [if_pos c5] at H
        refine g_ic1t iX11_fitsPage_25 c5 ?_
        refine g_c iX11_fitsPage_41 ?_
        refine g_goto iX11_fitsPage_42 ?_
        refine g_is iX11_fitsPage_46 (Nat.le_of_ble_eq_true rfl) ?_
        refine rx_Go.ls (la := [some (.inr 125), some (.inl x1), some (.inl 1), some (.inl x3)]) rfl ?_
        refine g_ii iX11_fitsPage_47 rfl ?_
        refine rx_Go.ls (la := [some (.inr 125), some (.inl x1), some (.inl 1), some (.inl (rx_w (x3 + 1)))]) rfl ?_
        refine g_goto iX11_fitsPage_50 ?_
        exact H
      · rw [if_neg c5] at H
        refine g_ic1f iX11_fitsPage_25 c5 ?_
        refine g_al iX11_fitsPage_28 rfl ?_
        refine g_gr iX11_fitsPage_29 fr_11_11_125 ?_
        refine g_il iX11_fitsPage_32 rfl ?_
        refine g_ld iX11_fitsPage_33 (ln_134 L) o4 ?_
        refine g_il iX11_fitsPage_34 rfl ?_
        refine g_bit iX11_fitsPage_35 ?_
        refine g_c iX11_fitsPage_36 ?_
        refine g_bit iX11_fitsPage_37 ?_
        by_cases c6 : (rx_alu 3 (rx_alu 7 (σ 134 x1) x3) 1) ≠ 0
        · rw [if_pos c6] at H
          refine g_if1t iX11_fitsPage_38 c6 ?_
          refine g_c iX11_fitsPage_45 ?_
          refine g_is iX11_fitsPage_46 (Nat.le_of_ble_eq_true rfl) ?_
          refine rx_Go.ls (la := [some (.inr 125), some (.inl x1), some (.inl 0), some (.inl x3)]) rfl ?_
          refine g_ii iX11_fitsPage_47 rfl ?_
          refine rx_Go.ls (la := [some (.inr 125), some (.inl x1), some (.inl 0), some (.inl (rx_w (x3 + 1)))]) rfl ?_
          refine g_goto iX11_fitsPage_50 ?_
          exact H
        · rw [if_neg c6] at H
          refine g_if1f iX11_fitsPage_38 c6 ?_
          refine g_c iX11_fitsPage_41 ?_
          refine g_goto iX11_fitsPage_42 ?_
          refine g_is iX11_fitsPage_46 (Nat.le_of_ble_eq_true rfl) ?_
          refine rx_Go.ls (la := [some (.inr 125), some (.inl x1), some (.inl 1), some (.inl x3)]) rfl ?_
          refine g_ii iX11_fitsPage_47 rfl ?_
          refine rx_Go.ls (la := [some (.inr 125), some (.inl x1), some (.inl 1), some (.inl (rx_w (x3 + 1)))]) rfl ?_
          refine g_goto iX11_fitsPage_50 ?_
          exact H
set_option maxRecDepth 20000 in
set_option maxHeartbeats 4000000 in
theorem bX11_lastPage (L d : Nat) (x1 : Int) (σ : rx_St) (K : Int → rx_St → Prop)
    (H : rx_Go L d mX11_lastPage 4 [some (.inr 125), some (.inl x1), some (.inl (-1)), some (.inl 0)] [] σ (rx_PI K)) :
    rx_CI L d mX11_lastPage [.inr 125, .inl x1] σ K := by
  refine rx_CI.of (la := [some (.inr 125), some (.inl x1), none, none]) rfl ?_
  refine g_c iX11_lastPage_0 ?_
  refine g_is iX11_lastPage_1 (Nat.le_of_ble_eq_true rfl) ?_
  refine rx_Go.ls (la := [some (.inr 125), some (.inl x1), some (.inl (-1)), none]) rfl ?_
  refine g_c iX11_lastPage_2 ?_
  refine g_is iX11_lastPage_3 (Nat.le_of_ble_eq_true rfl) ?_
  refine rx_Go.ls (la := [some (.inr 125), some (.inl x1), some (.inl (-1)), some (.inl 0)]) rfl ?_
  exact H
set_option maxRecDepth 20000 in
set_option maxHeartbeats 4000000 in
theorem bX11_lastPage_4 (L d : Nat) (x1 : Int) (x2 : Int) (x3 : Int) (σ : rx_St) (K : Int → rx_St → Prop)
    (H : if x1 ≤ x3 then (K x2 σ) else ((0 ≤ x3 ∧ x3 < 18) ∧ (rx_Go L d mX11_lastPage 4 [some (.inr 125), some (.inl x1), some (.inl (rx_mx x2 (σ 135 x3))), some (.inl (rx_w (x3 + 1)))] [] σ (rx_PI K)))) :
    rx_Go L d mX11_lastPage 4 [some (.inr 125), some (.inl x1), some (.inl x2), some (.inl x3)] [] σ (rx_PI K) := by
  refine g_il iX11_lastPage_4 rfl ?_
  refine g_il iX11_lastPage_5 rfl ?_
  by_cases c1 : x1 ≤ x3
  · rw [if_pos c1] at H
    refine g_ic3t iX11_lastPage_6 c1 ?_
    refine g_il iX11_lastPage_26 rfl ?_
    exact g_ri iX11_lastPage_27 (Or.inl rfl) H
  · rw [if_neg c1] at H
    refine g_ic3f iX11_lastPage_6 c1 ?_
    refine g_il iX11_lastPage_9 rfl ?_
    refine g_al iX11_lastPage_10 rfl ?_
    refine g_gr iX11_lastPage_11 fr_11_12_125 ?_
    refine g_il iX11_lastPage_14 rfl ?_
    obtain ⟨o2, H⟩ := H
    refine g_ld iX11_lastPage_15 (ln_135 L) o2 ?_
    refine g_mx iX11_lastPage_16 (Nat.le_of_ble_eq_true rfl) ?_
    refine g_is iX11_lastPage_19 (Nat.le_of_ble_eq_true rfl) ?_
    refine rx_Go.ls (la := [some (.inr 125), some (.inl x1), some (.inl (rx_mx x2 (σ 135 x3))), some (.inl x3)]) rfl ?_
    refine g_ii iX11_lastPage_20 rfl ?_
    refine rx_Go.ls (la := [some (.inr 125), some (.inl x1), some (.inl (rx_mx x2 (σ 135 x3))), some (.inl (rx_w (x3 + 1)))]) rfl ?_
    refine g_goto iX11_lastPage_23 ?_
    exact H
set_option maxRecDepth 20000 in
set_option maxHeartbeats 4000000 in
theorem bX11_fillsPages (L d : Nat) (x1 : Int) (σ : rx_St) (K : Int → rx_St → Prop)
    (H : if (σ 126 2) ≤ 0 then (rx_Go L (d + 1) mX11_fillsPages 18 [some (.inr 125), some (.inl x1), some (.inl 0), none] [] σ (rx_PI K)) else (rx_Go L (d + 1) mX11_fillsPages 18 [some (.inr 125), some (.inl x1), some (.inl 0), none] [] (rx_up σ 135 0 (-1)) (rx_PI K))) :
    rx_CI L (d + 1) mX11_fillsPages [.inr 125, .inl x1] σ K := by
  refine rx_CI.of (la := [some (.inr 125), some (.inl x1), none, none]) rfl ?_
  refine g_c iX11_fillsPages_0 ?_
  refine g_is iX11_fillsPages_1 (Nat.le_of_ble_eq_true rfl) ?_
  refine rx_Go.ls (la := [some (.inr 125), some (.inl x1), some (.inl 0), none]) rfl ?_
  refine g_al iX11_fillsPages_2 rfl ?_
  refine g_gr iX11_fillsPages_3 fr_11_0_125 ?_
  refine g_c iX11_fillsPages_6 ?_
  refine g_ld iX11_fillsPages_7 (ln_126 L) (by decide) ?_
  by_cases c1 : (σ 126 2) ≤ 0
  · rw [if_pos c1] at H
    refine g_if5t iX11_fillsPages_8 c1 ?_
    exact H
  · rw [if_neg c1] at H
    refine g_if5f iX11_fillsPages_8 c1 ?_
    refine g_al iX11_fillsPages_11 rfl ?_
    refine g_gr iX11_fillsPages_12 fr_11_12_125 ?_
    refine g_c iX11_fillsPages_15 ?_
    refine g_c iX11_fillsPages_16 ?_
    refine g_st iX11_fillsPages_17 (ln_135 L) (by decide) (by decide) rfl ?_
    exact H
set_option maxRecDepth 20000 in
set_option maxHeartbeats 4000000 in
theorem bX11_fillsPages_18 (L d : Nat) (x1 : Int) (x2 : Int) (q3 : Option rx_V) (σ : rx_St) (K : Int → rx_St → Prop)
    (H : if x2 < 0 then (K 0 σ) else (if (σ 126 2) ≤ x2 then (K 1 σ) else (rx_CI L d mX11_lastPage [.inr 125, .inl x2] σ (fun v5 σ4 => (0 ≤ x2 ∧ x2 < 18) ∧ (rx_Go L (d + 1) mX11_fillsPages 56 [some (.inr 125), some (.inl x1), some (.inl x2), some (.inl (rx_mn (rx_w (x1 - 1)) (rx_w (v5 + 1))))] [] (rx_up σ4 135 x2 (rx_w ((σ4 135 x2) + 1))) (rx_PI K)))))) :
    rx_Go L (d + 1) mX11_fillsPages 18 [some (.inr 125), some (.inl x1), some (.inl x2), q3] [] σ (rx_PI K) := by
  refine g_il iX11_fillsPages_18 rfl ?_
  by_cases c2 : x2 < 0
  · rw [if_pos c2] at H
    refine g_if2t iX11_fillsPages_19 c2 ?_
    refine g_il iX11_fillsPages_126 rfl ?_
    refine g_if2t iX11_fillsPages_127 c2 ?_
    refine g_c iX11_fillsPages_134 ?_
    exact g_ri iX11_fillsPages_135 (by decide) H
  · rw [if_neg c2] at H
    refine g_if2f iX11_fillsPages_19 c2 ?_
    refine g_il iX11_fillsPages_22 rfl ?_
    refine g_al iX11_fillsPages_23 rfl ?_
    refine g_gr iX11_fillsPages_24 fr_11_0_125 ?_
    refine g_c iX11_fillsPages_27 ?_
    refine g_ld iX11_fillsPages_28 (ln_126 L) (by decide) ?_
    by_cases c3 : (σ 126 2) ≤ x2
    · rw [if_pos c3] at H
      refine g_ic3t iX11_fillsPages_29 c3 ?_
      refine g_il iX11_fillsPages_126 rfl ?_
      refine g_if2f iX11_fillsPages_127 c2 ?_
      refine g_c iX11_fillsPages_130 ?_
      refine g_goto iX11_fillsPages_131 ?_
      exact g_ri iX11_fillsPages_135 (by decide) H
    · rw [if_neg c3] at H
      refine g_ic3f iX11_fillsPages_29 c3 ?_
      refine g_il iX11_fillsPages_32 rfl ?_
      refine g_c iX11_fillsPages_33 ?_
      refine g_sub iX11_fillsPages_34 ?_
      refine g_al iX11_fillsPages_35 rfl ?_
      refine g_il iX11_fillsPages_36 rfl ?_
      refine g_ci (as := [.inr 125, .inl x2]) (rest := [.inl (rx_w (x1 - 1))]) iX11_fillsPages_37 rfl rfl (Nat.le_of_ble_eq_true rfl) (Or.inr ⟨_, _, rfl, oo_11_125⟩) (rx_CI.imp H (fun v5 σ4 H => ?_))
      refine g_c iX11_fillsPages_40 ?_
      refine g_add iX11_fillsPages_41 ?_
      refine g_mn iX11_fillsPages_42 (Nat.le_of_ble_eq_true rfl) ?_
      refine g_is iX11_fillsPages_45 (Nat.le_of_ble_eq_true rfl) ?_
      refine rx_Go.ls (la := [some (.inr 125), some (.inl x1), some (.inl x2), some (.inl (rx_mn (rx_w (x1 - 1)) (rx_w (v5 + 1))))]) rfl ?_
      refine g_al iX11_fillsPages_46 rfl ?_
      refine g_gr iX11_fillsPages_47 fr_11_12_125 ?_
      refine g_il iX11_fillsPages_50 rfl ?_
      refine g_dup2 iX11_fillsPages_51 ?_
      obtain ⟨o6, H⟩ := H
      refine g_ld iX11_fillsPages_52 (ln_135 L) o6 ?_
      refine g_c iX11_fillsPages_53 ?_
      refine g_add iX11_fillsPages_54 ?_
      refine g_st iX11_fillsPages_55 (ln_135 L) (by decide) o6 rfl ?_
      exact H
set_option maxRecDepth 20000 in
set_option maxHeartbeats 4000000 in
theorem bX11_fillsPages_56 (L d : Nat) (x1 : Int) (x2 : Int) (x3 : Int) (σ : rx_St) (K : Int → rx_St → Prop)
    (H : (0 ≤ x2 ∧ x2 < 18) ∧ (if x3 < (σ 135 x2) then (rx_Go L (d + 1) mX11_fillsPages 18 [some (.inr 125), some (.inl x1), some (.inl (rx_w (x2 + (-1)))), some (.inl x3)] [] σ (rx_PI K)) else (rx_CI L d mX11_fitsPage [.inr 125, .inl x2] σ (fun v10 σ9 => if v10 ≠ 0 then (if (σ9 135 x2) ≤ x3 then (if (σ9 126 2) ≤ (rx_w (x2 + 1)) then (rx_Go L (d + 1) mX11_fillsPages 18 [some (.inr 125), some (.inl x1), some (.inl (rx_w (x2 + 1))), some (.inl x3)] [] σ9 (rx_PI K)) else ((0 ≤ (rx_w (x2 + 1)) ∧ (rx_w (x2 + 1)) < 18) ∧ (rx_Go L (d + 1) mX11_fillsPages 18 [some (.inr 125), some (.inl x1), some (.inl (rx_w (x2 + 1))), some (.inl x3)] [] (rx_up σ9 135 (rx_w (x2 + 1)) (-1)) (rx_PI K)))) else (rx_Go L (d + 1) mX11_fillsPages 18 [some (.inr 125), some (.inl x1), some (.inl (rx_w (x2 + (-1)))), some (.inl x3)] [] σ9 (rx_PI K))) else (rx_Go L (d + 1) mX11_fillsPages 56 [some (.inr 125), some (.inl x1), some (.inl x2), some (.inl x3)] [] (rx_up σ9 135 x2 (rx_w ((σ9 135 x2) + 1))) (rx_PI K)))))) :
    rx_Go L (d + 1) mX11_fillsPages 56 [some (.inr 125), some (.inl x1), some (.inl x2), some (.inl x3)] [] σ (rx_PI K) := by
  refine g_al iX11_fillsPages_56 rfl ?_
  refine g_gr iX11_fillsPages_57 fr_11_12_125 ?_
  refine g_il iX11_fillsPages_60 rfl ?_
  obtain ⟨o7, H⟩ := H
  refine g_ld iX11_fillsPages_61 (ln_135 L) o7 ?_
  refine g_il iX11_fillsPages_62 rfl ?_
  by_cases c8 : x3 < (σ 135 x2)
  · rw [if_pos c8] at H
    refine g_ic4t iX11_fillsPages_63 c8 ?_
    refine g_al iX11_fillsPages_87 rfl ?_
    refine g_gr iX11_fillsPages_88 fr_11_12_125 ?_
    refine g_il iX11_fillsPages_91 rfl ?_
    refine g_ld iX11_fillsPages_92 (ln_135 L) o7 ?_
    refine g_il iX11_fillsPages_93 rfl ?_
    refine g_ic5f iX11_fillsPages_94 (Int.not_le.mpr c8) ?_
    refine g_ii iX11_fillsPages_97 rfl ?_
    refine rx_Go.ls (la := [some (.inr 125), some (.inl x1), some (.inl (rx_w (x2 + (-1)))), some (.inl x3)]) rfl ?_
    refine g_goto iX11_fillsPages_100 ?_
    refine g_goto iX11_fillsPages_123 ?_
    exact H
  · rw [if_neg c8] at H
    refine g_ic4f iX11_fillsPages_63 c8 ?_
    refine g_al iX11_fillsPages_66 rfl ?_
    refine g_il iX11_fillsPages_67 rfl ?_
    refine g_ci (as := [.inr 125, .inl x2]) (rest := []) iX11_fillsPages_68 rfl rfl (Nat.le_of_ble_eq_true rfl) (Or.inr ⟨_, _, rfl, oo_11_125⟩) (rx_CI.imp H (fun v10 σ9 H => ?_))
    by_cases c11 : v10 ≠ 0
    · rw [if_pos c11] at H
      refine g_if1t iX11_fillsPages_71 c11 ?_
      refine g_al iX11_fillsPages_87 rfl ?_
      refine g_gr iX11_fillsPages_88 fr_11_12_125 ?_
      refine g_il iX11_fillsPages_91 rfl ?_
      refine g_ld iX11_fillsPages_92 (ln_135 L) o7 ?_
      refine g_il iX11_fillsPages_93 rfl ?_
      by_cases c12 : (σ9 135 x2) ≤ x3
      · rw [if_pos c12] at H
        refine g_ic5t iX11_fillsPages_94 c12 ?_
        refine g_ii iX11_fillsPages_103 rfl ?_
        refine rx_Go.ls (la := [some (.inr 125), some (.inl x1), some (.inl (rx_w (x2 + 1))), some (.inl x3)]) rfl ?_
        refine g_il iX11_fillsPages_106 rfl ?_
        refine g_al iX11_fillsPages_107 rfl ?_
        refine g_gr iX11_fillsPages_108 fr_11_0_125 ?_
        refine g_c iX11_fillsPages_111 ?_
        refine g_ld iX11_fillsPages_112 (ln_126 L) (by decide) ?_
        by_cases c13 : (σ9 126 2) ≤ (rx_w (x2 + 1))
        · rw [if_pos c13] at H
          refine g_ic3t iX11_fillsPages_113 c13 ?_
          refine g_goto iX11_fillsPages_123 ?_
          exact H
        · rw [if_neg c13] at H
          refine g_ic3f iX11_fillsPages_113 c13 ?_
          refine g_al iX11_fillsPages_116 rfl ?_
          refine g_gr iX11_fillsPages_117 fr_11_12_125 ?_
          refine g_il iX11_fillsPages_120 rfl ?_
          refine g_c iX11_fillsPages_121 ?_
          obtain ⟨o14, H⟩ := H
          refine g_st iX11_fillsPages_122 (ln_135 L) (by decide) o14 rfl ?_
          refine g_goto iX11_fillsPages_123 ?_
          exact H
      · rw [if_neg c12] at H
        refine g_ic5f iX11_fillsPages_94 c12 ?_
        refine g_ii iX11_fillsPages_97 rfl ?_
        refine rx_Go.ls (la := [some (.inr 125), some (.inl x1), some (.inl (rx_w (x2 + (-1)))), some (.inl x3)]) rfl ?_
        refine g_goto iX11_fillsPages_100 ?_
        refine g_goto iX11_fillsPages_123 ?_
        exact H
    · rw [if_neg c11] at H
      refine g_if1f iX11_fillsPages_71 c11 ?_
      refine g_al iX11_fillsPages_74 rfl ?_
      refine g_gr iX11_fillsPages_75 fr_11_12_125 ?_
      refine g_il iX11_fillsPages_78 rfl ?_
      refine g_dup2 iX11_fillsPages_79 ?_
      refine g_ld iX11_fillsPages_80 (ln_135 L) o7 ?_
      refine g_c iX11_fillsPages_81 ?_
      refine g_add iX11_fillsPages_82 ?_
      refine g_st iX11_fillsPages_83 (ln_135 L) (by decide) o7 rfl ?_
      refine g_goto iX11_fillsPages_84 ?_
      exact H
set_option maxRecDepth 20000 in
set_option maxHeartbeats 4000000 in
theorem bX11_pages (L d : Nat) (x1 : Int) (σ : rx_St) (K : Int → rx_St → Prop)
    (H : rx_CI L d mX11_in [.inl x1, .inl (-1), .inl (rx_w ((σ 126 2) - 1))] σ (fun v2 σ1 => if v2 ≠ 0 then (rx_CV L d mX11_findPasses [.inr 125] σ1 (fun σ4 => rx_CI L d mX11_mutual [.inr 125] σ4 (fun v6 σ5 => rx_Go L (d + 1) mX11_pages 28 [some (.inr 125), some (.inl x1), some (.inl v6)] [] σ5 (rx_PI K)))) else (K (-1000000001) σ1))) :
    rx_CI L (d + 1) mX11_pages [.inr 125, .inl x1] σ K := by
  refine rx_CI.of (la := [some (.inr 125), some (.inl x1), none]) rfl ?_
  refine g_il iX11_pages_0 rfl ?_
  refine g_c iX11_pages_1 ?_
  refine g_al iX11_pages_2 rfl ?_
  refine g_gr iX11_pages_3 fr_11_0_125 ?_
  refine g_c iX11_pages_6 ?_
  refine g_ld iX11_pages_7 (ln_126 L) (by decide) ?_
  refine g_c iX11_pages_8 ?_
  refine g_sub iX11_pages_9 ?_
  refine g_ci (as := [.inl x1, .inl (-1), .inl (rx_w ((σ 126 2) - 1))]) (rest := []) iX11_pages_10 rfl rfl (Nat.le_of_ble_eq_true rfl) (Or.inl (by decide)) (rx_CI.imp H (fun v2 σ1 H => ?_))
  by_cases c3 : v2 ≠ 0
  · rw [if_pos c3] at H
    refine g_if1t iX11_pages_13 c3 ?_
    refine g_al iX11_pages_19 rfl ?_
    refine g_cv (as := [.inr 125]) (rest := []) iX11_pages_20 rfl rfl (Nat.le_of_ble_eq_true rfl) (Or.inr ⟨_, _, rfl, oo_11_125⟩) (rx_CV.imp H (fun σ4 H => ?_))
    refine g_al iX11_pages_23 rfl ?_
    refine g_ci (as := [.inr 125]) (rest := []) iX11_pages_24 rfl rfl (Nat.le_of_ble_eq_true rfl) (Or.inr ⟨_, _, rfl, oo_11_125⟩) (rx_CI.imp H (fun v6 σ5 H => ?_))
    refine g_is iX11_pages_27 (Nat.le_of_ble_eq_true rfl) ?_
    refine rx_Go.ls (la := [some (.inr 125), some (.inl x1), some (.inl v6)]) rfl ?_
    exact H
  · rw [if_neg c3] at H
    refine g_if1f iX11_pages_13 c3 ?_
    refine g_c iX11_pages_16 ?_
    exact g_ri iX11_pages_18 (Or.inl rfl) H
set_option maxRecDepth 20000 in
set_option maxHeartbeats 4000000 in
theorem bX11_pages_28 (L d : Nat) (x1 : Int) (x2 : Int) (σ : rx_St) (K : Int → rx_St → Prop)
    (H : rx_CI L d mX11_fillsPages [.inr 125, .inl x2] σ (fun v8 σ7 => if v8 ≠ 0 then (if 0 ≤ x1 then ((0 ≤ x1 ∧ x1 < 18) ∧ (K (σ7 135 x1) σ7)) else (K x2 σ7)) else (rx_Go L (d + 1) mX11_pages 28 [some (.inr 125), some (.inl x1), some (.inl (rx_w (x2 + 1)))] [] σ7 (rx_PI K)))) :
    rx_Go L (d + 1) mX11_pages 28 [some (.inr 125), some (.inl x1), some (.inl x2)] [] σ (rx_PI K) := by
  refine g_al iX11_pages_28 rfl ?_
  refine g_il iX11_pages_29 rfl ?_
  refine g_ci (as := [.inr 125, .inl x2]) (rest := []) iX11_pages_30 rfl rfl (Nat.le_of_ble_eq_true rfl) (Or.inr ⟨_, _, rfl, oo_11_125⟩) (rx_CI.imp H (fun v8 σ7 H => ?_))
  by_cases c9 : v8 ≠ 0
  · rw [if_pos c9] at H
    refine g_if1t iX11_pages_33 c9 ?_
    refine g_il iX11_pages_42 rfl ?_
    by_cases c10 : 0 ≤ x1
    · rw [if_pos c10] at H
      refine g_if3t iX11_pages_43 c10 ?_
      refine g_al iX11_pages_50 rfl ?_
      refine g_gr iX11_pages_51 fr_11_12_125 ?_
      refine g_il iX11_pages_54 rfl ?_
      obtain ⟨o11, H⟩ := H
      refine g_ld iX11_pages_55 (ln_135 L) o11 ?_
      exact g_ri iX11_pages_56 (Or.inl rfl) H
    · rw [if_neg c10] at H
      refine g_if3f iX11_pages_43 c10 ?_
      refine g_il iX11_pages_46 rfl ?_
      refine g_goto iX11_pages_47 ?_
      exact g_ri iX11_pages_56 (Or.inl rfl) H
  · rw [if_neg c9] at H
    refine g_if1f iX11_pages_33 c9 ?_
    refine g_ii iX11_pages_36 rfl ?_
    refine rx_Go.ls (la := [some (.inr 125), some (.inl x1), some (.inl (rx_w (x2 + 1)))]) rfl ?_
    refine g_goto iX11_pages_39 ?_
    exact H
set_option maxRecDepth 20000 in
set_option maxHeartbeats 4000000 in
theorem bX11_closes (L d : Nat) (x1 : Int) (x2 : Int) (σ : rx_St) (K : Int → rx_St → Prop)
    (H : rx_Go L (d + 1) mX11_closes 5 [some (.inr 125), some (.inl x1), some (.inl x2), some (.inl 0), some (.inl 0), none, none, none, none, none] [] σ (rx_PI K)) :
    rx_CI L (d + 1) mX11_closes [.inr 125, .inl x1, .inl x2] σ K := by
  refine rx_CI.of (la := [some (.inr 125), some (.inl x1), some (.inl x2), none, none, none, none, none, none, none]) rfl ?_
  refine g_c iX11_closes_0 ?_
  refine g_is iX11_closes_1 (Nat.le_of_ble_eq_true rfl) ?_
  refine rx_Go.ls (la := [some (.inr 125), some (.inl x1), some (.inl x2), some (.inl 0), none, none, none, none, none, none]) rfl ?_
  refine g_c iX11_closes_2 ?_
  refine g_is iX11_closes_3 (Nat.le_of_ble_eq_true rfl) ?_
  refine rx_Go.ls (la := [some (.inr 125), some (.inl x1), some (.inl x2), some (.inl 0), some (.inl 0), none, none, none, none, none]) rfl ?_
  exact H
set_option maxRecDepth 20000 in
set_option maxHeartbeats 4000000 in
theorem bX11_closes_5 (L d : Nat) (x1 : Int) (x2 : Int) (x3 : Int) (x4 : Int) (q5 : Option rx_V) (q6 : Option rx_V) (q7 : Option rx_V) (q8 : Option rx_V) (q9 : Option rx_V) (σ : rx_St) (K : Int → rx_St → Prop)
    (H : if (σ 126 2) ≤ x4 then (K x3 σ) else (rx_CI L d mX11_lesser [.inr 125, .inl x4] σ (fun v3 σ2 => if v3 ≠ x1 then (rx_CI L d mX11_lesser [.inr 125, .inl x4] σ2 (fun v6 σ5 => rx_Go L (d + 1) mX11_closes 43 [some (.inr 125), some (.inl x1), some (.inl x2), some (.inl x3), some (.inl x4), some (.inl v6), q6, q7, q8, q9] [] σ5 (rx_PI K))) else (rx_CI L d mX11_greater [.inr 125, .inl x4] σ2 (fun v8 σ7 => rx_Go L (d + 1) mX11_closes 43 [some (.inr 125), some (.inl x1), some (.inl x2), some (.inl x3), some (.inl x4), some (.inl v8), q6, q7, q8, q9] [] σ7 (rx_PI K)))))) :
    rx_Go L (d + 1) mX11_closes 5 [some (.inr 125), some (.inl x1), some (.inl x2), some (.inl x3), some (.inl x4), q5, q6, q7, q8, q9] [] σ (rx_PI K) := by
  refine g_il iX11_closes_5 rfl ?_
  refine g_al iX11_closes_7 rfl ?_
  refine g_gr iX11_closes_8 fr_11_0_125 ?_
  refine g_c iX11_closes_11 ?_
  refine g_ld iX11_closes_12 (ln_126 L) (by decide) ?_
  by_cases c1 : (σ 126 2) ≤ x4
  · rw [if_pos c1] at H
    refine g_ic3t iX11_closes_13 c1 ?_
    refine g_il iX11_closes_209 rfl ?_
    exact g_ri iX11_closes_210 (Or.inl rfl) H
  · rw [if_neg c1] at H
    refine g_ic3f iX11_closes_13 c1 ?_
    refine g_al iX11_closes_16 rfl ?_
    refine g_il iX11_closes_17 rfl ?_
    refine g_ci (as := [.inr 125, .inl x4]) (rest := []) iX11_closes_19 rfl rfl (Nat.le_of_ble_eq_true rfl) (Or.inr ⟨_, _, rfl, oo_11_125⟩) (rx_CI.imp H (fun v3 σ2 H => ?_))
    refine g_il iX11_closes_22 rfl ?_
    by_cases c4 : v3 ≠ x1
    · rw [if_pos c4] at H
      refine g_ic1t iX11_closes_23 c4 ?_
      refine g_al iX11_closes_35 rfl ?_
      refine g_il iX11_closes_36 rfl ?_
      refine g_ci (as := [.inr 125, .inl x4]) (rest := []) iX11_closes_38 rfl rfl (Nat.le_of_ble_eq_true rfl) (Or.inr ⟨_, _, rfl, oo_11_125⟩) (rx_CI.imp H (fun v6 σ5 H => ?_))
      refine g_is iX11_closes_41 (Nat.le_of_ble_eq_true rfl) ?_
      refine rx_Go.ls (la := [some (.inr 125), some (.inl x1), some (.inl x2), some (.inl x3), some (.inl x4), some (.inl v6), q6, q7, q8, q9]) rfl ?_
      exact H
    · rw [if_neg c4] at H
      refine g_ic1f iX11_closes_23 c4 ?_
      refine g_al iX11_closes_26 rfl ?_
      refine g_il iX11_closes_27 rfl ?_
      refine g_ci (as := [.inr 125, .inl x4]) (rest := []) iX11_closes_29 rfl rfl (Nat.le_of_ble_eq_true rfl) (Or.inr ⟨_, _, rfl, oo_11_125⟩) (rx_CI.imp H (fun v8 σ7 H => ?_))
      refine g_goto iX11_closes_32 ?_
      refine g_is iX11_closes_41 (Nat.le_of_ble_eq_true rfl) ?_
      refine rx_Go.ls (la := [some (.inr 125), some (.inl x1), some (.inl x2), some (.inl x3), some (.inl x4), some (.inl v8), q6, q7, q8, q9]) rfl ?_
      exact H
set_option maxRecDepth 20000 in
set_option maxHeartbeats 4000000 in
theorem bX11_closes_43 (L d : Nat) (x1 : Int) (x2 : Int) (x3 : Int) (x4 : Int) (x5 : Int) (q6 : Option rx_V) (q7 : Option rx_V) (q8 : Option rx_V) (q9 : Option rx_V) (σ : rx_St) (K : Int → rx_St → Prop)
    (H : rx_CI L d mX11_isFrom [.inr 125, .inl x4, .inl x1] σ (fun v10 σ9 => if v10 = 0 then (rx_Go L (d + 1) mX11_closes 203 [some (.inr 125), some (.inl x1), some (.inl x2), some (.inl x3), some (.inl x4), some (.inl x5), q6, q7, q8, q9] [] σ9 (rx_PI K)) else ((0 ≤ x5 ∧ x5 < 8) ∧ (if (σ9 133 x5) < 0 then (rx_Go L (d + 1) mX11_closes 203 [some (.inr 125), some (.inl x1), some (.inl x2), some (.inl x3), some (.inl x4), some (.inl x5), q6, q7, q8, q9] [] σ9 (rx_PI K)) else (rx_Go L (d + 1) mX11_closes 66 [some (.inr 125), some (.inl x1), some (.inl x2), some (.inl x3), some (.inl x4), some (.inl x5), some (.inl 0), q7, q8, q9] [] σ9 (rx_PI K)))))) :
    rx_Go L (d + 1) mX11_closes 43 [some (.inr 125), some (.inl x1), some (.inl x2), some (.inl x3), some (.inl x4), some (.inl x5), q6, q7, q8, q9] [] σ (rx_PI K) := by
  refine g_al iX11_closes_43 rfl ?_
  refine g_il iX11_closes_44 rfl ?_
  refine g_il iX11_closes_46 rfl ?_
  refine g_ci (as := [.inr 125, .inl x4, .inl x1]) (rest := []) iX11_closes_47 rfl rfl (Nat.le_of_ble_eq_true rfl) (Or.inr ⟨_, _, rfl, oo_11_125⟩) (rx_CI.imp H (fun v10 σ9 H => ?_))
  by_cases c11 : v10 = 0
  · rw [if_pos c11] at H
    refine g_if0t iX11_closes_50 c11 ?_
    exact H
  · rw [if_neg c11] at H
    refine g_if0f iX11_closes_50 c11 ?_
    refine g_al iX11_closes_53 rfl ?_
    refine g_gr iX11_closes_54 fr_11_10_125 ?_
    refine g_il iX11_closes_57 rfl ?_
    obtain ⟨o12, H⟩ := H
    refine g_ld iX11_closes_59 (ln_133 L) o12 ?_
    by_cases c13 : (σ9 133 x5) < 0
    · rw [if_pos c13] at H
      refine g_if2t iX11_closes_60 c13 ?_
      exact H
    · rw [if_neg c13] at H
      refine g_if2f iX11_closes_60 c13 ?_
      refine g_c iX11_closes_63 ?_
      refine g_is iX11_closes_64 (Nat.le_of_ble_eq_true rfl) ?_
      refine rx_Go.ls (la := [some (.inr 125), some (.inl x1), some (.inl x2), some (.inl x3), some (.inl x4), some (.inl x5), some (.inl 0), q7, q8, q9]) rfl ?_
      exact H
set_option maxRecDepth 20000 in
set_option maxHeartbeats 4000000 in
theorem bX11_closes_203 (L d : Nat) (x1 : Int) (x2 : Int) (x3 : Int) (x4 : Int) (q5 : Option rx_V) (q6 : Option rx_V) (q7 : Option rx_V) (q8 : Option rx_V) (q9 : Option rx_V) (σ : rx_St) (K : Int → rx_St → Prop)
    (H : rx_Go L (d + 1) mX11_closes 5 [some (.inr 125), some (.inl x1), some (.inl x2), some (.inl x3), some (.inl (rx_w (x4 + 1))), q5, q6, q7, q8, q9] [] σ (rx_PI K)) :
    rx_Go L (d + 1) mX11_closes 203 [some (.inr 125), some (.inl x1), some (.inl x2), some (.inl x3), some (.inl x4), q5, q6, q7, q8, q9] [] σ (rx_PI K) := by
  refine g_ii iX11_closes_203 rfl ?_
  refine rx_Go.ls (la := [some (.inr 125), some (.inl x1), some (.inl x2), some (.inl x3), some (.inl (rx_w (x4 + 1))), q5, q6, q7, q8, q9]) rfl ?_
  refine g_goto iX11_closes_206 ?_
  exact H
set_option maxRecDepth 20000 in
set_option maxHeartbeats 4000000 in
theorem bX11_closes_66 (L d : Nat) (x1 : Int) (x2 : Int) (x3 : Int) (x4 : Int) (x5 : Int) (x6 : Int) (q7 : Option rx_V) (q8 : Option rx_V) (q9 : Option rx_V) (σ : rx_St) (K : Int → rx_St → Prop)
    (H : if (σ 126 2) ≤ x6 then (rx_Go L (d + 1) mX11_closes 203 [some (.inr 125), some (.inl x1), some (.inl x2), some (.inl x3), some (.inl x4), some (.inl x5), some (.inl x6), q7, q8, q9] [] σ (rx_PI K)) else (rx_CI L d mX11_lesser [.inr 125, .inl x6] σ (fun v16 σ15 => (0 ≤ v16 ∧ v16 < 8) ∧ (rx_CI L d mX11_greater [.inr 125, .inl x6] σ15 (fun v19 σ18 => (0 ≤ v19 ∧ v19 < 8) ∧ (if 0 ≤ (σ15 133 v16) then (if 0 ≤ (σ18 133 v19) then (rx_Go L (d + 1) mX11_closes 158 [some (.inr 125), some (.inl x1), some (.inl x2), some (.inl x3), some (.inl x4), some (.inl x5), some (.inl x6), some (.inl (σ15 133 v16)), some (.inl (σ18 133 v19)), q9] [] σ18 (rx_PI K)) else ((0 ≤ x5 ∧ x5 < 8) ∧ (if (rx_mx (σ15 133 v16) (σ18 133 v19)) ≤ (σ18 133 x5) then (rx_Go L (d + 1) mX11_closes 158 [some (.inr 125), some (.inl x1), some (.inl x2), some (.inl x3), some (.inl x4), some (.inl x5), some (.inl x6), some (.inl (σ15 133 v16)), some (.inl (σ18 133 v19)), q9] [] σ18 (rx_PI K)) else (if x2 ≤ (rx_mx (σ15 133 v16) (σ18 133 v19)) then (rx_Go L (d + 1) mX11_closes 158 [some (.inr 125), some (.inl x1), some (.inl x2), some (.inl x3), some (.inl x4), some (.inl x5), some (.inl x6), some (.inl (σ15 133 v16)), some (.inl (σ18 133 v19)), q9] [] σ18 (rx_PI K)) else (rx_Go L (d + 1) mX11_closes 161 [some (.inr 125), some (.inl x1), some (.inl x2), some (.inl x3), some (.inl x4), some (.inl x5), some (.inl x6), some (.inl (σ15 133 v16)), some (.inl (σ18 133 v19)), some (.inl 1)] [] σ18 (rx_PI K)))))) else (if 0 ≤ (σ18 133 v19) then ((0 ≤ x5 ∧ x5 < 8) ∧ (if (rx_mx (σ15 133 v16) (σ18 133 v19)) ≤ (σ18 133 x5) then (rx_Go L (d + 1) mX11_closes 158 [some (.inr 125), some (.inl x1), some (.inl x2), some (.inl x3), some (.inl x4), some (.inl x5), some (.inl x6), some (.inl (σ15 133 v16)), some (.inl (σ18 133 v19)), q9] [] σ18 (rx_PI K)) else (if x2 ≤ (rx_mx (σ15 133 v16) (σ18 133 v19)) then (rx_Go L (d + 1) mX11_closes 158 [some (.inr 125), some (.inl x1), some (.inl x2), some (.inl x3), some (.inl x4), some (.inl x5), some (.inl x6), some (.inl (σ15 133 v16)), some (.inl (σ18 133 v19)), q9] [] σ18 (rx_PI K)) else (rx_Go L (d + 1) mX11_closes 161 [some (.inr 125), some (.inl x1), some (.inl x2), some (.inl x3), some (.inl x4), some (.inl x5), some (.inl x6), some (.inl (σ15 133 v16)), some (.inl (σ18 133 v19)), some (.inl 1)] [] σ18 (rx_PI K))))) else (rx_Go L (d + 1) mX11_closes 158 [some (.inr 125), some (.inl x1), some (.inl x2), some (.inl x3), some (.inl x4), some (.inl x5), some (.inl x6), some (.inl (σ15 133 v16)), some (.inl (σ18 133 v19)), q9] [] σ18 (rx_PI K))))))))) :
    rx_Go L (d + 1) mX11_closes 66 [some (.inr 125), some (.inl x1), some (.inl x2), some (.inl x3), some (.inl x4), some (.inl x5), some (.inl x6), q7, q8, q9] [] σ (rx_PI K) := by
  refine g_il iX11_closes_66 rfl ?_
  refine g_al iX11_closes_68 rfl ?_
  refine g_gr iX11_closes_69 fr_11_0_125 ?_
  refine g_c iX11_closes_72 ?_
  refine g_ld iX11_closes_73 (ln_126 L) (by decide) ?_
  by_cases c14 : (σ 126 2) ≤ x6
  · rw [if_pos c14] at H
    refine g_ic3t iX11_closes_74 c14 ?_
    exact H
  · rw [if_neg c14] at H
    refine g_ic3f iX11_closes_74 c14 ?_
    refine g_al iX11_closes_77 rfl ?_
    refine g_gr iX11_closes_78 fr_11_10_125 ?_
    refine g_al iX11_closes_81 rfl ?_
    refine g_il iX11_closes_82 rfl ?_
    refine g_ci (as := [.inr 125, .inl x6]) (rest := [.inr 133]) iX11_closes_84 rfl rfl (Nat.le_of_ble_eq_true rfl) (Or.inr ⟨_, _, rfl, oo_11_125⟩) (rx_CI.imp H (fun v16 σ15 H => ?_))
    obtain ⟨o17, H⟩ := H
    refine g_ld iX11_closes_87 (ln_133 L) o17 ?_
    refine g_is iX11_closes_88 (Nat.le_of_ble_eq_true rfl) ?_
    refine rx_Go.ls (la := [some (.inr 125), some (.inl x1), some (.inl x2), some (.inl x3), some (.inl x4), some (.inl x5), some (.inl x6), some (.inl (σ15 133 v16)), q8, q9]) rfl ?_
    refine g_al iX11_closes_90 rfl ?_
    refine g_gr iX11_closes_91 fr_11_10_125 ?_
    refine g_al iX11_closes_94 rfl ?_
    refine g_il iX11_closes_95 rfl ?_
    refine g_ci (as := [.inr 125, .inl x6]) (rest := [.inr 133]) iX11_closes_97 rfl rfl (Nat.le_of_ble_eq_true rfl) (Or.inr ⟨_, _, rfl, oo_11_125⟩) (rx_CI.imp H (fun v19 σ18 H => ?_))
    obtain ⟨o20, H⟩ := H
    refine g_ld iX11_closes_100 (ln_133 L) o20 ?_
    refine g_is iX11_closes_101 (Nat.le_of_ble_eq_true rfl) ?_
    refine rx_Go.ls (la := [some (.inr 125), some (.inl x1), some (.inl x2), some (.inl x3), some (.inl x4), some (.inl x5), some (.inl x6), some (.inl (σ15 133 v16)), some (.inl (σ18 133 v19)), q9]) rfl ?_
    refine g_il iX11_closes_103 rfl ?_
    by_cases c21 : 0 ≤ (σ15 133 v16)
    · rw [if_pos c21] at H
      refine g_if3t iX11_closes_105 c21 ?_
      refine g_c iX11_closes_112 ?_
      refine g_il iX11_closes_113 rfl ?_
      by_cases c22 : 0 ≤ (σ18 133 v19)
      · rw [if_pos c22] at H
        refine g_if3t iX11_closes_115 c22 ?_
        refine g_c iX11_closes_122 ?_
        refine g_ic0t iX11_closes_123 (by decide) ?_
        exact H
      · rw [if_neg c22] at H
        refine g_if3f iX11_closes_115 c22 ?_
        refine g_c iX11_closes_118 ?_
        refine g_goto iX11_closes_119 ?_
        refine g_ic0f iX11_closes_123 (by decide) ?_
        refine g_il iX11_closes_126 rfl ?_
        refine g_il iX11_closes_128 rfl ?_
        refine g_mx iX11_closes_130 (Nat.le_of_ble_eq_true rfl) ?_
        refine g_al iX11_closes_133 rfl ?_
        refine g_gr iX11_closes_134 fr_11_10_125 ?_
        refine g_il iX11_closes_137 rfl ?_
        obtain ⟨o23, H⟩ := H
        refine g_ld iX11_closes_139 (ln_133 L) o23 ?_
        by_cases c24 : (rx_mx (σ15 133 v16) (σ18 133 v19)) ≤ (σ18 133 x5)
        · rw [if_pos c24] at H
          refine g_ic5t iX11_closes_140 c24 ?_
          exact H
        · rw [if_neg c24] at H
          refine g_ic5f iX11_closes_140 c24 ?_
          refine g_il iX11_closes_143 rfl ?_
          refine g_il iX11_closes_145 rfl ?_
          refine g_mx iX11_closes_147 (Nat.le_of_ble_eq_true rfl) ?_
          refine g_il iX11_closes_150 rfl ?_
          by_cases c25 : x2 ≤ (rx_mx (σ15 133 v16) (σ18 133 v19))
          · rw [if_pos c25] at H
            refine g_ic3t iX11_closes_151 c25 ?_
            exact H
          · rw [if_neg c25] at H
            refine g_ic3f iX11_closes_151 c25 ?_
            refine g_c iX11_closes_154 ?_
            refine g_goto iX11_closes_155 ?_
            refine g_is iX11_closes_159 (Nat.le_of_ble_eq_true rfl) ?_
            refine rx_Go.ls (la := [some (.inr 125), some (.inl x1), some (.inl x2), some (.inl x3), some (.inl x4), some (.inl x5), some (.inl x6), some (.inl (σ15 133 v16)), some (.inl (σ18 133 v19)), some (.inl 1)]) rfl ?_
            exact H
    · rw [if_neg c21] at H
      refine g_if3f iX11_closes_105 c21 ?_
      refine g_c iX11_closes_108 ?_
      refine g_goto iX11_closes_109 ?_
      refine g_il iX11_closes_113 rfl ?_
      by_cases c26 : 0 ≤ (σ18 133 v19)
      · rw [if_pos c26] at H
        refine g_if3t iX11_closes_115 c26 ?_
        refine g_c iX11_closes_122 ?_
        refine g_ic0f iX11_closes_123 (by decide) ?_
        refine g_il iX11_closes_126 rfl ?_
        refine g_il iX11_closes_128 rfl ?_
        refine g_mx iX11_closes_130 (Nat.le_of_ble_eq_true rfl) ?_
        refine g_al iX11_closes_133 rfl ?_
        refine g_gr iX11_closes_134 fr_11_10_125 ?_
        refine g_il iX11_closes_137 rfl ?_
        obtain ⟨o27, H⟩ := H
        refine g_ld iX11_closes_139 (ln_133 L) o27 ?_
        by_cases c28 : (rx_mx (σ15 133 v16) (σ18 133 v19)) ≤ (σ18 133 x5)
        · rw [if_pos c28] at H
          refine g_ic5t iX11_closes_140 c28 ?_
          exact H
        · rw [if_neg c28] at H
          refine g_ic5f iX11_closes_140 c28 ?_
          refine g_il iX11_closes_143 rfl ?_
          refine g_il iX11_closes_145 rfl ?_
          refine g_mx iX11_closes_147 (Nat.le_of_ble_eq_true rfl) ?_
          refine g_il iX11_closes_150 rfl ?_
          by_cases c29 : x2 ≤ (rx_mx (σ15 133 v16) (σ18 133 v19))
          · rw [if_pos c29] at H
            refine g_ic3t iX11_closes_151 c29 ?_
            exact H
          · rw [if_neg c29] at H
            refine g_ic3f iX11_closes_151 c29 ?_
            refine g_c iX11_closes_154 ?_
            refine g_goto iX11_closes_155 ?_
            refine g_is iX11_closes_159 (Nat.le_of_ble_eq_true rfl) ?_
            refine rx_Go.ls (la := [some (.inr 125), some (.inl x1), some (.inl x2), some (.inl x3), some (.inl x4), some (.inl x5), some (.inl x6), some (.inl (σ15 133 v16)), some (.inl (σ18 133 v19)), some (.inl 1)]) rfl ?_
            exact H
      · rw [if_neg c26] at H
        refine g_if3f iX11_closes_115 c26 ?_
        refine g_c iX11_closes_118 ?_
        refine g_goto iX11_closes_119 ?_
        refine g_ic0t iX11_closes_123 (by decide) ?_
        exact H
set_option maxRecDepth 20000 in
set_option maxHeartbeats 4000000 in
theorem bX11_closes_158 (L d : Nat) (x1 : Int) (x2 : Int) (x3 : Int) (x4 : Int) (x5 : Int) (x6 : Int) (q7 : Option rx_V) (q8 : Option rx_V) (q9 : Option rx_V) (σ : rx_St) (K : Int → rx_St → Prop)
    (H : rx_Go L (d + 1) mX11_closes 161 [some (.inr 125), some (.inl x1), some (.inl x2), some (.inl x3), some (.inl x4), some (.inl x5), some (.inl x6), q7, q8, some (.inl 0)] [] σ (rx_PI K)) :
    rx_Go L (d + 1) mX11_closes 158 [some (.inr 125), some (.inl x1), some (.inl x2), some (.inl x3), some (.inl x4), some (.inl x5), some (.inl x6), q7, q8, q9] [] σ (rx_PI K) := by
  refine g_c iX11_closes_158 ?_
  refine g_is iX11_closes_159 (Nat.le_of_ble_eq_true rfl) ?_
  refine rx_Go.ls (la := [some (.inr 125), some (.inl x1), some (.inl x2), some (.inl x3), some (.inl x4), some (.inl x5), some (.inl x6), q7, q8, some (.inl 0)]) rfl ?_
  exact H
set_option maxRecDepth 20000 in
set_option maxHeartbeats 4000000 in
theorem bX11_closes_161 (L d : Nat) (x1 : Int) (x2 : Int) (x3 : Int) (x4 : Int) (x5 : Int) (x6 : Int) (q7 : Option rx_V) (q8 : Option rx_V) (x9 : Int) (σ : rx_St) (K : Int → rx_St → Prop)
    (H : if x9 = 0 then (rx_Go L (d + 1) mX11_closes 66 [some (.inr 125), some (.inl x1), some (.inl x2), some (.inl (rx_w (x3 + 0))), some (.inl x4), some (.inl x5), some (.inl (rx_w (x6 + 1))), q7, q8, some (.inl x9)] [] σ (rx_PI K)) else (rx_CI L d mX11_areApart [.inr 125, .inl x4, .inl x6] σ (fun v32 σ31 => if v32 = 0 then (rx_Go L (d + 1) mX11_closes 66 [some (.inr 125), some (.inl x1), some (.inl x2), some (.inl (rx_w (x3 + 0))), some (.inl x4), some (.inl x5), some (.inl (rx_w (x6 + 1))), q7, q8, some (.inl x9)] [] σ31 (rx_PI K)) else ((0 ≤ (rx_w ((rx_w (18 * x4)) + x6)) ∧ (rx_w ((rx_w (18 * x4)) + x6)) < 324) ∧ (rx_Go L (d + 1) mX11_closes 66 [some (.inr 125), some (.inl x1), some (.inl x2), some (.inl (rx_w (x3 + (σ31 130 (rx_w ((rx_w (18 * x4)) + x6)))))), some (.inl x4), some (.inl x5), some (.inl (rx_w (x6 + 1))), q7, q8, some (.inl x9)] [] σ31 (rx_PI K)))))) :
    rx_Go L (d + 1) mX11_closes 161 [some (.inr 125), some (.inl x1), some (.inl x2), some (.inl x3), some (.inl x4), some (.inl x5), some (.inl x6), q7, q8, some (.inl x9)] [] σ (rx_PI K) := by
  refine g_il iX11_closes_161 rfl ?_
  refine g_il iX11_closes_162 rfl ?_
  by_cases c30 : x9 = 0
  · rw [if_pos c30] at H
    refine g_if0t iX11_closes_164 c30 ?_
    refine g_c iX11_closes_194 ?_
    refine g_add iX11_closes_195 ?_
    refine g_is iX11_closes_196 (Nat.le_of_ble_eq_true rfl) ?_
    refine rx_Go.ls (la := [some (.inr 125), some (.inl x1), some (.inl x2), some (.inl (rx_w (x3 + 0))), some (.inl x4), some (.inl x5), some (.inl x6), q7, q8, some (.inl x9)]) rfl ?_
    refine g_ii iX11_closes_197 rfl ?_
    refine rx_Go.ls (la := [some (.inr 125), some (.inl x1), some (.inl x2), some (.inl (rx_w (x3 + 0))), some (.inl x4), some (.inl x5), some (.inl (rx_w (x6 + 1))), q7, q8, some (.inl x9)]) rfl ?_
    refine g_goto iX11_closes_200 ?_
    exact H
  · rw [if_neg c30] at H
    refine g_if0f iX11_closes_164 c30 ?_
    refine g_al iX11_closes_167 rfl ?_
    refine g_il iX11_closes_168 rfl ?_
    refine g_il iX11_closes_170 rfl ?_
    refine g_ci (as := [.inr 125, .inl x4, .inl x6]) (rest := [.inl x3]) iX11_closes_172 rfl rfl (Nat.le_of_ble_eq_true rfl) (Or.inr ⟨_, _, rfl, oo_11_125⟩) (rx_CI.imp H (fun v32 σ31 H => ?_))
    by_cases c33 : v32 = 0
    · rw [if_pos c33] at H
      refine g_if0t iX11_closes_175 c33 ?_
      refine g_c iX11_closes_194 ?_
      refine g_add iX11_closes_195 ?_
      refine g_is iX11_closes_196 (Nat.le_of_ble_eq_true rfl) ?_
      refine rx_Go.ls (la := [some (.inr 125), some (.inl x1), some (.inl x2), some (.inl (rx_w (x3 + 0))), some (.inl x4), some (.inl x5), some (.inl x6), q7, q8, some (.inl x9)]) rfl ?_
      refine g_ii iX11_closes_197 rfl ?_
      refine rx_Go.ls (la := [some (.inr 125), some (.inl x1), some (.inl x2), some (.inl (rx_w (x3 + 0))), some (.inl x4), some (.inl x5), some (.inl (rx_w (x6 + 1))), q7, q8, some (.inl x9)]) rfl ?_
      refine g_goto iX11_closes_200 ?_
      exact H
    · rw [if_neg c33] at H
      refine g_if0f iX11_closes_175 c33 ?_
      refine g_al iX11_closes_178 rfl ?_
      refine g_gr iX11_closes_179 fr_11_5_125 ?_
      refine g_c iX11_closes_182 ?_
      refine g_il iX11_closes_184 rfl ?_
      refine g_mul iX11_closes_186 ?_
      refine g_il iX11_closes_187 rfl ?_
      refine g_add iX11_closes_189 ?_
      obtain ⟨o34, H⟩ := H
      refine g_ld iX11_closes_190 (ln_130 L) o34 ?_
      refine g_goto iX11_closes_191 ?_
      refine g_add iX11_closes_195 ?_
      refine g_is iX11_closes_196 (Nat.le_of_ble_eq_true rfl) ?_
      refine rx_Go.ls (la := [some (.inr 125), some (.inl x1), some (.inl x2), some (.inl (rx_w (x3 + (σ31 130 (rx_w ((rx_w (18 * x4)) + x6)))))), some (.inl x4), some (.inl x5), some (.inl x6), q7, q8, some (.inl x9)]) rfl ?_
      refine g_ii iX11_closes_197 rfl ?_
      refine rx_Go.ls (la := [some (.inr 125), some (.inl x1), some (.inl x2), some (.inl (rx_w (x3 + (σ31 130 (rx_w ((rx_w (18 * x4)) + x6)))))), some (.inl x4), some (.inl x5), some (.inl (rx_w (x6 + 1))), q7, q8, some (.inl x9)]) rfl ?_
      refine g_goto iX11_closes_200 ?_
      exact H
set_option maxRecDepth 20000 in
set_option maxHeartbeats 4000000 in
theorem bX11_findBestLine (L d : Nat)  (σ : rx_St) (K : rx_St → Prop)
    (H : rx_CV L d mX11_findPairs [.inr 125] σ (fun σ1 => rx_Go L (d + 1) mX11_findBestLine 13 [some (.inr 125), some (.inl (σ1 126 1)), some (.inl 0), none] [] σ1 (rx_PV K))) :
    rx_CV L (d + 1) mX11_findBestLine [.inr 125] σ K := by
  refine rx_CV.of (la := [some (.inr 125), none, none, none]) rfl ?_
  refine g_al iX11_findBestLine_0 rfl ?_
  refine g_cv (as := [.inr 125]) (rest := []) iX11_findBestLine_1 rfl rfl (Nat.le_of_ble_eq_true rfl) (Or.inr ⟨_, _, rfl, oo_11_125⟩) (rx_CV.imp H (fun σ1 H => ?_))
  refine g_al iX11_findBestLine_4 rfl ?_
  refine g_gr iX11_findBestLine_5 fr_11_0_125 ?_
  refine g_c iX11_findBestLine_8 ?_
  refine g_ld iX11_findBestLine_9 (ln_126 L) (by decide) ?_
  refine g_is iX11_findBestLine_10 (Nat.le_of_ble_eq_true rfl) ?_
  refine rx_Go.ls (la := [some (.inr 125), some (.inl (σ1 126 1)), none, none]) rfl ?_
  refine g_c iX11_findBestLine_11 ?_
  refine g_is iX11_findBestLine_12 (Nat.le_of_ble_eq_true rfl) ?_
  refine rx_Go.ls (la := [some (.inr 125), some (.inl (σ1 126 1)), some (.inl 0), none]) rfl ?_
  exact H
set_option maxRecDepth 20000 in
set_option maxHeartbeats 4000000 in
theorem bX11_findBestLine_13 (L d : Nat) (x1 : Int) (x2 : Int) (q3 : Option rx_V) (σ : rx_St) (K : rx_St → Prop)
    (H : if 8 ≤ x2 then (rx_Go L (d + 1) mX11_findBestLine 67 [some (.inr 125), some (.inl x1), some (.inl 1), q3] [] (rx_up (rx_up (rx_up (rx_up (rx_up σ 125 16 (-1)) 136 0 0) 133 0 0) 137 1 0) 136 1 0) (rx_PV K)) else ((0 ≤ x2 ∧ x2 < 8) ∧ (rx_Go L (d + 1) mX11_findBestLine 13 [some (.inr 125), some (.inl x1), some (.inl (rx_w (x2 + 1))), q3] [] (rx_up σ 133 x2 (-1)) (rx_PV K)))) :
    rx_Go L (d + 1) mX11_findBestLine 13 [some (.inr 125), some (.inl x1), some (.inl x2), q3] [] σ (rx_PV K) := by
  refine g_il iX11_findBestLine_13 rfl ?_
  refine g_c iX11_findBestLine_14 ?_
  by_cases c2 : 8 ≤ x2
  · rw [if_pos c2] at H
    refine g_ic3t iX11_findBestLine_16 c2 ?_
    refine g_al iX11_findBestLine_32 rfl ?_
    refine g_c iX11_findBestLine_33 ?_
    refine g_pf (kI := 16) rfl iX11_findBestLine_34 fi_11_16_125 (Or.inl rfl) ?_
    refine g_al iX11_findBestLine_37 rfl ?_
    refine g_gr iX11_findBestLine_38 fr_11_13_125 ?_
    refine g_c iX11_findBestLine_41 ?_
    refine g_c iX11_findBestLine_42 ?_
    refine g_st iX11_findBestLine_43 (ln_136 L) (by decide) (by decide) rfl ?_
    refine g_al iX11_findBestLine_44 rfl ?_
    refine g_gr iX11_findBestLine_45 fr_11_10_125 ?_
    refine g_c iX11_findBestLine_48 ?_
    refine g_c iX11_findBestLine_49 ?_
    refine g_st iX11_findBestLine_50 (ln_133 L) (by decide) (by decide) rfl ?_
    refine g_al iX11_findBestLine_51 rfl ?_
    refine g_gr iX11_findBestLine_52 fr_11_14_125 ?_
    refine g_c iX11_findBestLine_55 ?_
    refine g_c iX11_findBestLine_56 ?_
    refine g_st iX11_findBestLine_57 (ln_137 L) (by decide) (by decide) rfl ?_
    refine g_al iX11_findBestLine_58 rfl ?_
    refine g_gr iX11_findBestLine_59 fr_11_13_125 ?_
    refine g_c iX11_findBestLine_62 ?_
    refine g_c iX11_findBestLine_63 ?_
    refine g_st iX11_findBestLine_64 (ln_136 L) (by decide) (by decide) rfl ?_
    refine g_c iX11_findBestLine_65 ?_
    refine g_is iX11_findBestLine_66 (Nat.le_of_ble_eq_true rfl) ?_
    refine rx_Go.ls (la := [some (.inr 125), some (.inl x1), some (.inl 1), q3]) rfl ?_
    exact H
  · rw [if_neg c2] at H
    refine g_ic3f iX11_findBestLine_16 c2 ?_
    refine g_al iX11_findBestLine_19 rfl ?_
    refine g_gr iX11_findBestLine_20 fr_11_10_125 ?_
    refine g_il iX11_findBestLine_23 rfl ?_
    refine g_c iX11_findBestLine_24 ?_
    obtain ⟨o3, H⟩ := H
    refine g_st iX11_findBestLine_25 (ln_133 L) (by decide) o3 rfl ?_
    refine g_ii iX11_findBestLine_26 rfl ?_
    refine rx_Go.ls (la := [some (.inr 125), some (.inl x1), some (.inl (rx_w (x2 + 1))), q3]) rfl ?_
    refine g_goto iX11_findBestLine_29 ?_
    exact H
set_option maxRecDepth 20000 in
set_option maxHeartbeats 4000000 in
theorem bX11_findBestLine_67 (L d : Nat) (x1 : Int) (x2 : Int) (q3 : Option rx_V) (σ : rx_St) (K : rx_St → Prop)
    (H : if x2 ≤ 0 then (K σ) else (if x2 ≠ x1 then (rx_Go L (d + 1) mX11_findBestLine 114 [some (.inr 125), some (.inl x1), some (.inl x2), q3] [] σ (rx_PV K)) else ((0 ≤ x1 ∧ x1 < 9) ∧ (rx_Go L (d + 1) mX11_findBestLine 88 [some (.inr 125), some (.inl x1), some (.inl x2), some (.inl 0)] [] (rx_up σ 125 16 (σ 137 x1)) (rx_PV K))))) :
    rx_Go L (d + 1) mX11_findBestLine 67 [some (.inr 125), some (.inl x1), some (.inl x2), q3] [] σ (rx_PV K) := by
  refine g_il iX11_findBestLine_67 rfl ?_
  by_cases c4 : x2 ≤ 0
  · rw [if_pos c4] at H
    refine g_if5t iX11_findBestLine_68 c4 ?_
    exact g_rv iX11_findBestLine_279 H
  · rw [if_neg c4] at H
    refine g_if5f iX11_findBestLine_68 c4 ?_
    refine g_il iX11_findBestLine_71 rfl ?_
    refine g_il iX11_findBestLine_72 rfl ?_
    by_cases c5 : x2 ≠ x1
    · rw [if_pos c5] at H
      refine g_ic1t iX11_findBestLine_73 c5 ?_
      exact H
    · rw [if_neg c5] at H
      refine g_ic1f iX11_findBestLine_73 c5 ?_
      refine g_al iX11_findBestLine_76 rfl ?_
      refine g_al iX11_findBestLine_77 rfl ?_
      refine g_gr iX11_findBestLine_78 fr_11_14_125 ?_
      refine g_il iX11_findBestLine_81 rfl ?_
      obtain ⟨o6, H⟩ := H
      refine g_ld iX11_findBestLine_82 (ln_137 L) o6 ?_
      refine g_pf (kI := 16) rfl iX11_findBestLine_83 fi_11_16_125 (Or.inl rfl) ?_
      refine g_c iX11_findBestLine_86 ?_
      refine g_is iX11_findBestLine_87 (Nat.le_of_ble_eq_true rfl) ?_
      refine rx_Go.ls (la := [some (.inr 125), some (.inl x1), some (.inl x2), some (.inl 0)]) rfl ?_
      exact H
set_option maxRecDepth 20000 in
set_option maxHeartbeats 4000000 in
theorem bX11_findBestLine_114 (L d : Nat) (x1 : Int) (x2 : Int) (q3 : Option rx_V) (σ : rx_St) (K : rx_St → Prop)
    (H : if x2 ≤ 0 then (rx_Go L (d + 1) mX11_findBestLine 67 [some (.inr 125), some (.inl x1), some (.inl x2), q3] [] σ (rx_PV K)) else ((0 ≤ x2 ∧ x2 < 9) ∧ (if (σ 136 x2) ≤ 0 then ((0 ≤ (σ 136 x2) ∧ (σ 136 x2) < 8) ∧ (rx_Go L (d + 1) mX11_findBestLine 143 [some (.inr 125), some (.inl x1), some (.inl x2), q3] [] (rx_up σ 133 (σ 136 x2) 0) (rx_PV K))) else ((0 ≤ (σ 136 x2) ∧ (σ 136 x2) < 8) ∧ (rx_Go L (d + 1) mX11_findBestLine 143 [some (.inr 125), some (.inl x1), some (.inl x2), q3] [] (rx_up σ 133 (σ 136 x2) (-1)) (rx_PV K)))))) :
    rx_Go L (d + 1) mX11_findBestLine 114 [some (.inr 125), some (.inl x1), some (.inl x2), q3] [] σ (rx_PV K) := by
  refine g_il iX11_findBestLine_114 rfl ?_
  by_cases c7 : x2 ≤ 0
  · rw [if_pos c7] at H
    refine g_if5t iX11_findBestLine_115 c7 ?_
    exact H
  · rw [if_neg c7] at H
    refine g_if5f iX11_findBestLine_115 c7 ?_
    refine g_al iX11_findBestLine_118 rfl ?_
    refine g_gr iX11_findBestLine_119 fr_11_10_125 ?_
    refine g_al iX11_findBestLine_122 rfl ?_
    refine g_gr iX11_findBestLine_123 fr_11_13_125 ?_
    refine g_il iX11_findBestLine_126 rfl ?_
    obtain ⟨o8, H⟩ := H
    refine g_ld iX11_findBestLine_127 (ln_136 L) o8 ?_
    refine g_al iX11_findBestLine_128 rfl ?_
    refine g_gr iX11_findBestLine_129 fr_11_13_125 ?_
    refine g_il iX11_findBestLine_132 rfl ?_
    refine g_ld iX11_findBestLine_133 (ln_136 L) o8 ?_
    by_cases c9 : (σ 136 x2) ≤ 0
    · rw [if_pos c9] at H
      refine g_if5t iX11_findBestLine_134 c9 ?_
      refine g_c iX11_findBestLine_141 ?_
      obtain ⟨o10, H⟩ := H
      refine g_st iX11_findBestLine_142 (ln_133 L) (by decide) o10 rfl ?_
      exact H
    · rw [if_neg c9] at H
      refine g_if5f iX11_findBestLine_134 c9 ?_
      refine g_c iX11_findBestLine_137 ?_
      refine g_goto iX11_findBestLine_138 ?_
      obtain ⟨o11, H⟩ := H
      refine g_st iX11_findBestLine_142 (ln_133 L) (by decide) o11 rfl ?_
      exact H
set_option maxRecDepth 20000 in
set_option maxHeartbeats 4000000 in
theorem bX11_findBestLine_88 (L d : Nat) (x1 : Int) (x2 : Int) (x3 : Int) (σ : rx_St) (K : rx_St → Prop)
    (H : if x1 ≤ x3 then (rx_Go L (d + 1) mX11_findBestLine 114 [some (.inr 125), some (.inl x1), some (.inl (rx_w (x2 + (-1)))), some (.inl x3)] [] σ (rx_PV K)) else ((0 ≤ x3 ∧ x3 < 9) ∧ ((0 ≤ x3 ∧ x3 < 8) ∧ (rx_Go L (d + 1) mX11_findBestLine 88 [some (.inr 125), some (.inl x1), some (.inl x2), some (.inl (rx_w (x3 + 1)))] [] (rx_up σ 138 x3 (σ 136 x3)) (rx_PV K))))) :
    rx_Go L (d + 1) mX11_findBestLine 88 [some (.inr 125), some (.inl x1), some (.inl x2), some (.inl x3)] [] σ (rx_PV K) := by
  refine g_il iX11_findBestLine_88 rfl ?_
  refine g_il iX11_findBestLine_89 rfl ?_
  by_cases c12 : x1 ≤ x3
  · rw [if_pos c12] at H
    refine g_ic3t iX11_findBestLine_90 c12 ?_
    refine g_ii iX11_findBestLine_111 rfl ?_
    refine rx_Go.ls (la := [some (.inr 125), some (.inl x1), some (.inl (rx_w (x2 + (-1)))), some (.inl x3)]) rfl ?_
    exact H
  · rw [if_neg c12] at H
    refine g_ic3f iX11_findBestLine_90 c12 ?_
    refine g_al iX11_findBestLine_93 rfl ?_
    refine g_gr iX11_findBestLine_94 fr_11_15_125 ?_
    refine g_il iX11_findBestLine_97 rfl ?_
    refine g_al iX11_findBestLine_98 rfl ?_
    refine g_gr iX11_findBestLine_99 fr_11_13_125 ?_
    refine g_il iX11_findBestLine_102 rfl ?_
    obtain ⟨o13, H⟩ := H
    refine g_ld iX11_findBestLine_103 (ln_136 L) o13 ?_
    obtain ⟨o14, H⟩ := H
    refine g_st iX11_findBestLine_104 (ln_138 L) (by decide) o14 rfl ?_
    refine g_ii iX11_findBestLine_105 rfl ?_
    refine rx_Go.ls (la := [some (.inr 125), some (.inl x1), some (.inl x2), some (.inl (rx_w (x3 + 1)))]) rfl ?_
    refine g_goto iX11_findBestLine_108 ?_
    exact H
set_option maxRecDepth 20000 in
set_option maxHeartbeats 4000000 in
theorem bX11_findBestLine_143 (L d : Nat) (x1 : Int) (x2 : Int) (q3 : Option rx_V) (σ : rx_St) (K : rx_St → Prop)
    (H : (0 ≤ x2 ∧ x2 < 9) ∧ (rx_Go L (d + 1) mX11_findBestLine 153 [some (.inr 125), some (.inl x1), some (.inl x2), q3] [] (rx_up σ 136 x2 (rx_w ((σ 136 x2) + 1))) (rx_PV K))) :
    rx_Go L (d + 1) mX11_findBestLine 143 [some (.inr 125), some (.inl x1), some (.inl x2), q3] [] σ (rx_PV K) := by
  refine g_al iX11_findBestLine_143 rfl ?_
  refine g_gr iX11_findBestLine_144 fr_11_13_125 ?_
  refine g_il iX11_findBestLine_147 rfl ?_
  refine g_dup2 iX11_findBestLine_148 ?_
  obtain ⟨o15, H⟩ := H
  refine g_ld iX11_findBestLine_149 (ln_136 L) o15 ?_
  refine g_c iX11_findBestLine_150 ?_
  refine g_add iX11_findBestLine_151 ?_
  refine g_st iX11_findBestLine_152 (ln_136 L) (by decide) o15 rfl ?_
  exact H
set_option maxRecDepth 20000 in
set_option maxHeartbeats 4000000 in
theorem bX11_findBestLine_153 (L d : Nat) (x1 : Int) (x2 : Int) (q3 : Option rx_V) (σ : rx_St) (K : rx_St → Prop)
    (H : (0 ≤ x2 ∧ x2 < 9) ∧ (if x1 ≤ (σ 136 x2) then (rx_Go L (d + 1) mX11_findBestLine 190 [some (.inr 125), some (.inl x1), some (.inl x2), q3] [] σ (rx_PV K)) else ((0 ≤ (σ 136 x2) ∧ (σ 136 x2) < 8) ∧ (if (σ 133 (σ 136 x2)) < 0 then (rx_Go L (d + 1) mX11_findBestLine 190 [some (.inr 125), some (.inl x1), some (.inl x2), q3] [] σ (rx_PV K)) else (rx_Go L (d + 1) mX11_findBestLine 153 [some (.inr 125), some (.inl x1), some (.inl x2), q3] [] (rx_up σ 136 x2 (rx_w ((σ 136 x2) + 1))) (rx_PV K)))))) :
    rx_Go L (d + 1) mX11_findBestLine 153 [some (.inr 125), some (.inl x1), some (.inl x2), q3] [] σ (rx_PV K) := by
  refine g_al iX11_findBestLine_153 rfl ?_
  refine g_gr iX11_findBestLine_154 fr_11_13_125 ?_
  refine g_il iX11_findBestLine_157 rfl ?_
  obtain ⟨o16, H⟩ := H
  refine g_ld iX11_findBestLine_158 (ln_136 L) o16 ?_
  refine g_il iX11_findBestLine_159 rfl ?_
  by_cases c17 : x1 ≤ (σ 136 x2)
  · rw [if_pos c17] at H
    refine g_ic3t iX11_findBestLine_160 c17 ?_
    exact H
  · rw [if_neg c17] at H
    refine g_ic3f iX11_findBestLine_160 c17 ?_
    refine g_al iX11_findBestLine_163 rfl ?_
    refine g_gr iX11_findBestLine_164 fr_11_10_125 ?_
    refine g_al iX11_findBestLine_167 rfl ?_
    refine g_gr iX11_findBestLine_168 fr_11_13_125 ?_
    refine g_il iX11_findBestLine_171 rfl ?_
    refine g_ld iX11_findBestLine_172 (ln_136 L) o16 ?_
    obtain ⟨o18, H⟩ := H
    refine g_ld iX11_findBestLine_173 (ln_133 L) o18 ?_
    by_cases c19 : (σ 133 (σ 136 x2)) < 0
    · rw [if_pos c19] at H
      refine g_if2t iX11_findBestLine_174 c19 ?_
      exact H
    · rw [if_neg c19] at H
      refine g_if2f iX11_findBestLine_174 c19 ?_
      refine g_al iX11_findBestLine_177 rfl ?_
      refine g_gr iX11_findBestLine_178 fr_11_13_125 ?_
      refine g_il iX11_findBestLine_181 rfl ?_
      refine g_dup2 iX11_findBestLine_182 ?_
      refine g_ld iX11_findBestLine_183 (ln_136 L) o16 ?_
      refine g_c iX11_findBestLine_184 ?_
      refine g_add iX11_findBestLine_185 ?_
      refine g_st iX11_findBestLine_186 (ln_136 L) (by decide) o16 rfl ?_
      refine g_goto iX11_findBestLine_187 ?_
      exact H
set_option maxRecDepth 20000 in
set_option maxHeartbeats 4000000 in
theorem bX11_findBestLine_190 (L d : Nat) (x1 : Int) (x2 : Int) (q3 : Option rx_V) (σ : rx_St) (K : rx_St → Prop)
    (H : (0 ≤ x2 ∧ x2 < 9) ∧ (if (σ 136 x2) ≠ x1 then (rx_CI L d mX11_closes [.inr 125, .inl (σ 136 x2), .inl x2] σ (fun v23 σ22 => (0 ≤ (σ22 136 x2) ∧ (σ22 136 x2) < 8) ∧ (if ((rx_up σ22 133 (σ22 136 x2) x2) 125 16) < 0 then (rx_Go L (d + 1) mX11_findBestLine 259 [some (.inr 125), some (.inl x1), some (.inl x2), some (.inl (rx_w ((σ 137 x2) + v23)))] [] (rx_up σ22 133 (σ22 136 x2) x2) (rx_PV K)) else (if ((rx_up σ22 133 (σ22 136 x2) x2) 125 16) ≤ (rx_w ((σ 137 x2) + v23)) then (rx_Go L (d + 1) mX11_findBestLine 276 [some (.inr 125), some (.inl x1), some (.inl x2), some (.inl (rx_w ((σ 137 x2) + v23)))] [] (rx_up σ22 133 (σ22 136 x2) x2) (rx_PV K)) else (rx_Go L (d + 1) mX11_findBestLine 259 [some (.inr 125), some (.inl x1), some (.inl x2), some (.inl (rx_w ((σ 137 x2) + v23)))] [] (rx_up σ22 133 (σ22 136 x2) x2) (rx_PV K)))))) else (rx_Go L (d + 1) mX11_findBestLine 67 [some (.inr 125), some (.inl x1), some (.inl (rx_w (x2 + (-1)))), q3] [] (rx_up σ 136 x2 0) (rx_PV K)))) :
    rx_Go L (d + 1) mX11_findBestLine 190 [some (.inr 125), some (.inl x1), some (.inl x2), q3] [] σ (rx_PV K) := by
  refine g_al iX11_findBestLine_190 rfl ?_
  refine g_gr iX11_findBestLine_191 fr_11_13_125 ?_
  refine g_il iX11_findBestLine_194 rfl ?_
  obtain ⟨o20, H⟩ := H
  refine g_ld iX11_findBestLine_195 (ln_136 L) o20 ?_
  refine g_il iX11_findBestLine_196 rfl ?_
  by_cases c21 : (σ 136 x2) ≠ x1
  · rw [if_pos c21] at H
    refine g_ic1t iX11_findBestLine_197 c21 ?_
    refine g_al iX11_findBestLine_213 rfl ?_
    refine g_gr iX11_findBestLine_214 fr_11_14_125 ?_
    refine g_il iX11_findBestLine_217 rfl ?_
    refine g_ld iX11_findBestLine_218 (ln_137 L) o20 ?_
    refine g_al iX11_findBestLine_219 rfl ?_
    refine g_al iX11_findBestLine_220 rfl ?_
    refine g_gr iX11_findBestLine_221 fr_11_13_125 ?_
    refine g_il iX11_findBestLine_224 rfl ?_
    refine g_ld iX11_findBestLine_225 (ln_136 L) o20 ?_
    refine g_il iX11_findBestLine_226 rfl ?_
    refine g_ci (as := [.inr 125, .inl (σ 136 x2), .inl x2]) (rest := [.inl (σ 137 x2)]) iX11_findBestLine_227 rfl rfl (Nat.le_of_ble_eq_true rfl) (Or.inr ⟨_, _, rfl, oo_11_125⟩) (rx_CI.imp H (fun v23 σ22 H => ?_))
    refine g_add iX11_findBestLine_230 ?_
    refine g_is iX11_findBestLine_231 (Nat.le_of_ble_eq_true rfl) ?_
    refine rx_Go.ls (la := [some (.inr 125), some (.inl x1), some (.inl x2), some (.inl (rx_w ((σ 137 x2) + v23)))]) rfl ?_
    refine g_al iX11_findBestLine_232 rfl ?_
    refine g_gr iX11_findBestLine_233 fr_11_10_125 ?_
    refine g_al iX11_findBestLine_236 rfl ?_
    refine g_gr iX11_findBestLine_237 fr_11_13_125 ?_
    refine g_il iX11_findBestLine_240 rfl ?_
    refine g_ld iX11_findBestLine_241 (ln_136 L) o20 ?_
    refine g_il iX11_findBestLine_242 rfl ?_
    obtain ⟨o24, H⟩ := H
    refine g_st iX11_findBestLine_243 (ln_133 L) (by decide) o24 rfl ?_
    refine g_al iX11_findBestLine_244 rfl ?_
    refine g_gf (kI := 16) rfl iX11_findBestLine_245 fi_11_16_125 ?_
    by_cases c25 : ((rx_up σ22 133 (σ22 136 x2) x2) 125 16) < 0
    · rw [if_pos c25] at H
      refine g_if2t iX11_findBestLine_248 c25 ?_
      exact H
    · rw [if_neg c25] at H
      refine g_if2f iX11_findBestLine_248 c25 ?_
      refine g_il iX11_findBestLine_251 rfl ?_
      refine g_al iX11_findBestLine_252 rfl ?_
      refine g_gf (kI := 16) rfl iX11_findBestLine_253 fi_11_16_125 ?_
      by_cases c26 : ((rx_up σ22 133 (σ22 136 x2) x2) 125 16) ≤ (rx_w ((σ 137 x2) + v23))
      · rw [if_pos c26] at H
        refine g_ic3t iX11_findBestLine_256 c26 ?_
        exact H
      · rw [if_neg c26] at H
        refine g_ic3f iX11_findBestLine_256 c26 ?_
        exact H
  · rw [if_neg c21] at H
    refine g_ic1f iX11_findBestLine_197 c21 ?_
    refine g_al iX11_findBestLine_200 rfl ?_
    refine g_gr iX11_findBestLine_201 fr_11_13_125 ?_
    refine g_il iX11_findBestLine_204 rfl ?_
    refine g_c iX11_findBestLine_205 ?_
    refine g_st iX11_findBestLine_206 (ln_136 L) (by decide) o20 rfl ?_
    refine g_ii iX11_findBestLine_207 rfl ?_
    refine rx_Go.ls (la := [some (.inr 125), some (.inl x1), some (.inl (rx_w (x2 + (-1)))), q3]) rfl ?_
    refine g_goto iX11_findBestLine_210 ?_
    exact H
set_option maxRecDepth 20000 in
set_option maxHeartbeats 4000000 in
theorem bX11_findBestLine_259 (L d : Nat) (x1 : Int) (x2 : Int) (x3 : Int) (σ : rx_St) (K : rx_St → Prop)
    (H : (0 ≤ (rx_w (x2 + 1)) ∧ (rx_w (x2 + 1)) < 9) ∧ (rx_Go L (d + 1) mX11_findBestLine 276 [some (.inr 125), some (.inl x1), some (.inl (rx_w (x2 + 1))), some (.inl x3)] [] (rx_up (rx_up σ 137 (rx_w (x2 + 1)) x3) 136 (rx_w (x2 + 1)) 0) (rx_PV K))) :
    rx_Go L (d + 1) mX11_findBestLine 259 [some (.inr 125), some (.inl x1), some (.inl x2), some (.inl x3)] [] σ (rx_PV K) := by
  refine g_ii iX11_findBestLine_259 rfl ?_
  refine rx_Go.ls (la := [some (.inr 125), some (.inl x1), some (.inl (rx_w (x2 + 1))), some (.inl x3)]) rfl ?_
  refine g_al iX11_findBestLine_262 rfl ?_
  refine g_gr iX11_findBestLine_263 fr_11_14_125 ?_
  refine g_il iX11_findBestLine_266 rfl ?_
  refine g_il iX11_findBestLine_267 rfl ?_
  obtain ⟨o27, H⟩ := H
  refine g_st iX11_findBestLine_268 (ln_137 L) (by decide) o27 rfl ?_
  refine g_al iX11_findBestLine_269 rfl ?_
  refine g_gr iX11_findBestLine_270 fr_11_13_125 ?_
  refine g_il iX11_findBestLine_273 rfl ?_
  refine g_c iX11_findBestLine_274 ?_
  refine g_st iX11_findBestLine_275 (ln_136 L) (by decide) o27 rfl ?_
  exact H
set_option maxRecDepth 20000 in
set_option maxHeartbeats 4000000 in
theorem bX11_findBestLine_276 (L d : Nat) (x1 : Int) (x2 : Int) (q3 : Option rx_V) (σ : rx_St) (K : rx_St → Prop)
    (H : rx_Go L (d + 1) mX11_findBestLine 67 [some (.inr 125), some (.inl x1), some (.inl x2), q3] [] σ (rx_PV K)) :
    rx_Go L (d + 1) mX11_findBestLine 276 [some (.inr 125), some (.inl x1), some (.inl x2), q3] [] σ (rx_PV K) := by
  refine g_goto iX11_findBestLine_276 ?_
  exact H
set_option maxRecDepth 20000 in
set_option maxHeartbeats 4000000 in
theorem bX11_bestLine (L d : Nat) (x1 : Int) (σ : rx_St) (K : Int → rx_St → Prop)
    (H : if (-1) ≤ x1 then (if (σ 126 1) ≠ 0 then (if x1 < (σ 126 1) then (rx_CV L d mX11_findBestLine [.inr 125] σ (fun σ4 => if 0 ≤ x1 then ((0 ≤ x1 ∧ x1 < 8) ∧ (K (σ4 138 x1) σ4)) else (K (σ4 125 16) σ4))) else (K (-1000000005) σ)) else (K (-1000000002) σ)) else (K (-1000000001) σ)) :
    rx_CI L (d + 1) mX11_bestLine [.inr 125, .inl x1] σ K := by
  refine rx_CI.of (la := [some (.inr 125), some (.inl x1)]) rfl ?_
  refine g_il iX11_bestLine_0 rfl ?_
  refine g_c iX11_bestLine_1 ?_
  by_cases c1 : (-1) ≤ x1
  · rw [if_pos c1] at H
    refine g_ic3t iX11_bestLine_2 c1 ?_
    refine g_al iX11_bestLine_8 rfl ?_
    refine g_gr iX11_bestLine_9 fr_11_0_125 ?_
    refine g_c iX11_bestLine_12 ?_
    refine g_ld iX11_bestLine_13 (ln_126 L) (by decide) ?_
    by_cases c2 : (σ 126 1) ≠ 0
    · rw [if_pos c2] at H
      refine g_if1t iX11_bestLine_14 c2 ?_
      refine g_il iX11_bestLine_20 rfl ?_
      refine g_al iX11_bestLine_21 rfl ?_
      refine g_gr iX11_bestLine_22 fr_11_0_125 ?_
      refine g_c iX11_bestLine_25 ?_
      refine g_ld iX11_bestLine_26 (ln_126 L) (by decide) ?_
      by_cases c3 : x1 < (σ 126 1)
      · rw [if_pos c3] at H
        refine g_ic2t iX11_bestLine_27 c3 ?_
        refine g_al iX11_bestLine_33 rfl ?_
        refine g_cv (as := [.inr 125]) (rest := []) iX11_bestLine_34 rfl rfl (Nat.le_of_ble_eq_true rfl) (Or.inr ⟨_, _, rfl, oo_11_125⟩) (rx_CV.imp H (fun σ4 H => ?_))
        refine g_il iX11_bestLine_37 rfl ?_
        by_cases c5 : 0 ≤ x1
        · rw [if_pos c5] at H
          refine g_if3t iX11_bestLine_38 c5 ?_
          refine g_al iX11_bestLine_48 rfl ?_
          refine g_gr iX11_bestLine_49 fr_11_15_125 ?_
          refine g_il iX11_bestLine_52 rfl ?_
          obtain ⟨o6, H⟩ := H
          refine g_ld iX11_bestLine_53 (ln_138 L) o6 ?_
          exact g_ri iX11_bestLine_54 (Or.inl rfl) H
        · rw [if_neg c5] at H
          refine g_if3f iX11_bestLine_38 c5 ?_
          refine g_al iX11_bestLine_41 rfl ?_
          refine g_gf (kI := 16) rfl iX11_bestLine_42 fi_11_16_125 ?_
          refine g_goto iX11_bestLine_45 ?_
          exact g_ri iX11_bestLine_54 (Or.inl rfl) H
      · rw [if_neg c3] at H
        refine g_ic2f iX11_bestLine_27 c3 ?_
        refine g_c iX11_bestLine_30 ?_
        exact g_ri iX11_bestLine_32 (Or.inl rfl) H
    · rw [if_neg c2] at H
      refine g_if1f iX11_bestLine_14 c2 ?_
      refine g_c iX11_bestLine_17 ?_
      exact g_ri iX11_bestLine_19 (Or.inl rfl) H
  · rw [if_neg c1] at H
    refine g_ic3f iX11_bestLine_2 c1 ?_
    refine g_c iX11_bestLine_5 ?_
    exact g_ri iX11_bestLine_7 (Or.inl rfl) H
set_option maxRecDepth 20000 in
set_option maxHeartbeats 4000000 in
theorem bX11_layerFrom (L d : Nat) (x1 : Int) (σ : rx_St) (K : Int → rx_St → Prop)
    (H : rx_CI L d mX11_lesser [.inr 125, .inl x1] σ (fun v2 σ1 => rx_CI L d mX11_layerOf [.inr 125, .inl v2] σ1 (fun v4 σ3 => rx_CI L d mX11_greater [.inr 125, .inl x1] σ3 (fun v6 σ5 => rx_CI L d mX11_layerOf [.inr 125, .inl v6] σ5 (fun v8 σ7 => if v4 ≠ (rx_w (v8 + 1)) then (if v8 ≠ (rx_w (v4 + 1)) then (K (-1) σ7) else (K v4 σ7)) else (K v8 σ7)))))) :
    rx_CI L (d + 1) mX11_layerFrom [.inr 125, .inl x1] σ K := by
  refine rx_CI.of (la := [some (.inr 125), some (.inl x1), none, none]) rfl ?_
  refine g_al iX11_layerFrom_0 rfl ?_
  refine g_al iX11_layerFrom_1 rfl ?_
  refine g_il iX11_layerFrom_2 rfl ?_
  refine g_ci (as := [.inr 125, .inl x1]) (rest := [.inr 125]) iX11_layerFrom_3 rfl rfl (Nat.le_of_ble_eq_true rfl) (Or.inr ⟨_, _, rfl, oo_11_125⟩) (rx_CI.imp H (fun v2 σ1 H => ?_))
  refine g_ci (as := [.inr 125, .inl v2]) (rest := []) iX11_layerFrom_6 rfl rfl (Nat.le_of_ble_eq_true rfl) (Or.inr ⟨_, _, rfl, oo_11_125⟩) (rx_CI.imp H (fun v4 σ3 H => ?_))
  refine g_is iX11_layerFrom_9 (Nat.le_of_ble_eq_true rfl) ?_
  refine rx_Go.ls (la := [some (.inr 125), some (.inl x1), some (.inl v4), none]) rfl ?_
  refine g_al iX11_layerFrom_10 rfl ?_
  refine g_al iX11_layerFrom_11 rfl ?_
  refine g_il iX11_layerFrom_12 rfl ?_
  refine g_ci (as := [.inr 125, .inl x1]) (rest := [.inr 125]) iX11_layerFrom_13 rfl rfl (Nat.le_of_ble_eq_true rfl) (Or.inr ⟨_, _, rfl, oo_11_125⟩) (rx_CI.imp H (fun v6 σ5 H => ?_))
  refine g_ci (as := [.inr 125, .inl v6]) (rest := []) iX11_layerFrom_16 rfl rfl (Nat.le_of_ble_eq_true rfl) (Or.inr ⟨_, _, rfl, oo_11_125⟩) (rx_CI.imp H (fun v8 σ7 H => ?_))
  refine g_is iX11_layerFrom_19 (Nat.le_of_ble_eq_true rfl) ?_
  refine rx_Go.ls (la := [some (.inr 125), some (.inl x1), some (.inl v4), some (.inl v8)]) rfl ?_
  refine g_il iX11_layerFrom_20 rfl ?_
  refine g_il iX11_layerFrom_21 rfl ?_
  refine g_c iX11_layerFrom_22 ?_
  refine g_add iX11_layerFrom_23 ?_
  by_cases c9 : v4 ≠ (rx_w (v8 + 1))
  · rw [if_pos c9] at H
    refine g_ic1t iX11_layerFrom_24 c9 ?_
    refine g_il iX11_layerFrom_31 rfl ?_
    refine g_il iX11_layerFrom_32 rfl ?_
    refine g_c iX11_layerFrom_33 ?_
    refine g_add iX11_layerFrom_34 ?_
    by_cases c10 : v8 ≠ (rx_w (v4 + 1))
    · rw [if_pos c10] at H
      refine g_ic1t iX11_layerFrom_35 c10 ?_
      refine g_c iX11_layerFrom_42 ?_
      exact g_ri iX11_layerFrom_43 (Or.inl rfl) H
    · rw [if_neg c10] at H
      refine g_ic1f iX11_layerFrom_35 c10 ?_
      refine g_il iX11_layerFrom_38 rfl ?_
      refine g_goto iX11_layerFrom_39 ?_
      exact g_ri iX11_layerFrom_43 (Or.inl rfl) H
  · rw [if_neg c9] at H
    refine g_ic1f iX11_layerFrom_24 c9 ?_
    refine g_il iX11_layerFrom_27 rfl ?_
    refine g_goto iX11_layerFrom_28 ?_
    exact g_ri iX11_layerFrom_43 (Or.inl rfl) H
set_option maxRecDepth 20000 in
set_option maxHeartbeats 4000000 in
theorem bX11_endIn (L d : Nat) (x1 : Int) (x2 : Int) (σ : rx_St) (K : Int → rx_St → Prop)
    (H : rx_CI L d mX11_lesser [.inr 125, .inl x1] σ (fun v2 σ1 => rx_CI L d mX11_layerOf [.inr 125, .inl v2] σ1 (fun v4 σ3 => if v4 ≠ x2 then (rx_CI L d mX11_greater [.inr 125, .inl x1] σ3 (fun v7 σ6 => (0 ≤ v7 ∧ v7 < 8) ∧ (K (σ6 133 v7) σ6))) else (rx_CI L d mX11_lesser [.inr 125, .inl x1] σ3 (fun v10 σ9 => (0 ≤ v10 ∧ v10 < 8) ∧ (K (σ9 133 v10) σ9)))))) :
    rx_CI L (d + 1) mX11_endIn [.inr 125, .inl x1, .inl x2] σ K := by
  refine rx_CI.of (la := [some (.inr 125), some (.inl x1), some (.inl x2)]) rfl ?_
  refine g_al iX11_endIn_0 rfl ?_
  refine g_gr iX11_endIn_1 fr_11_10_125 ?_
  refine g_al iX11_endIn_4 rfl ?_
  refine g_al iX11_endIn_5 rfl ?_
  refine g_il iX11_endIn_6 rfl ?_
  refine g_ci (as := [.inr 125, .inl x1]) (rest := [.inr 125, .inr 133]) iX11_endIn_7 rfl rfl (Nat.le_of_ble_eq_true rfl) (Or.inr ⟨_, _, rfl, oo_11_125⟩) (rx_CI.imp H (fun v2 σ1 H => ?_))
  refine g_ci (as := [.inr 125, .inl v2]) (rest := [.inr 133]) iX11_endIn_10 rfl rfl (Nat.le_of_ble_eq_true rfl) (Or.inr ⟨_, _, rfl, oo_11_125⟩) (rx_CI.imp H (fun v4 σ3 H => ?_))
  refine g_il iX11_endIn_13 rfl ?_
  by_cases c5 : v4 ≠ x2
  · rw [if_pos c5] at H
    refine g_ic1t iX11_endIn_14 c5 ?_
    refine g_al iX11_endIn_25 rfl ?_
    refine g_il iX11_endIn_26 rfl ?_
    refine g_ci (as := [.inr 125, .inl x1]) (rest := [.inr 133]) iX11_endIn_27 rfl rfl (Nat.le_of_ble_eq_true rfl) (Or.inr ⟨_, _, rfl, oo_11_125⟩) (rx_CI.imp H (fun v7 σ6 H => ?_))
    obtain ⟨o8, H⟩ := H
    refine g_ld iX11_endIn_30 (ln_133 L) o8 ?_
    exact g_ri iX11_endIn_31 (Or.inl rfl) H
  · rw [if_neg c5] at H
    refine g_ic1f iX11_endIn_14 c5 ?_
    refine g_al iX11_endIn_17 rfl ?_
    refine g_il iX11_endIn_18 rfl ?_
    refine g_ci (as := [.inr 125, .inl x1]) (rest := [.inr 133]) iX11_endIn_19 rfl rfl (Nat.le_of_ble_eq_true rfl) (Or.inr ⟨_, _, rfl, oo_11_125⟩) (rx_CI.imp H (fun v10 σ9 H => ?_))
    refine g_goto iX11_endIn_22 ?_
    obtain ⟨o11, H⟩ := H
    refine g_ld iX11_endIn_30 (ln_133 L) o11 ?_
    exact g_ri iX11_endIn_31 (Or.inl rfl) H
set_option maxRecDepth 20000 in
set_option maxHeartbeats 4000000 in
theorem bX11_layered (L d : Nat) (x1 : Int) (σ : rx_St) (K : Int → rx_St → Prop)
    (H : rx_Go L (d + 1) mX11_layered 4 [some (.inr 125), some (.inl x1), some (.inl 0), some (.inl 0), none, none, none] [] σ (rx_PI K)) :
    rx_CI L (d + 1) mX11_layered [.inr 125, .inl x1] σ K := by
  refine rx_CI.of (la := [some (.inr 125), some (.inl x1), none, none, none, none, none]) rfl ?_
  refine g_c iX11_layered_0 ?_
  refine g_is iX11_layered_1 (Nat.le_of_ble_eq_true rfl) ?_
  refine rx_Go.ls (la := [some (.inr 125), some (.inl x1), some (.inl 0), none, none, none, none]) rfl ?_
  refine g_c iX11_layered_2 ?_
  refine g_is iX11_layered_3 (Nat.le_of_ble_eq_true rfl) ?_
  refine rx_Go.ls (la := [some (.inr 125), some (.inl x1), some (.inl 0), some (.inl 0), none, none, none]) rfl ?_
  exact H
set_option maxRecDepth 20000 in
set_option maxHeartbeats 4000000 in
theorem bX11_layered_4 (L d : Nat) (x1 : Int) (x2 : Int) (x3 : Int) (q4 : Option rx_V) (q5 : Option rx_V) (q6 : Option rx_V) (σ : rx_St) (K : Int → rx_St → Prop)
    (H : if (σ 126 2) ≤ x3 then (K x2 σ) else (rx_CI L d mX11_layerFrom [.inr 125, .inl x3] σ (fun v3 σ2 => rx_Go L (d + 1) mX11_layered 26 [some (.inr 125), some (.inl x1), some (.inl x2), some (.inl x3), some (.inl v3), some (.inl (rx_w (x3 + 1))), q6] [] σ2 (rx_PI K)))) :
    rx_Go L (d + 1) mX11_layered 4 [some (.inr 125), some (.inl x1), some (.inl x2), some (.inl x3), q4, q5, q6] [] σ (rx_PI K) := by
  refine g_il iX11_layered_4 rfl ?_
  refine g_al iX11_layered_5 rfl ?_
  refine g_gr iX11_layered_6 fr_11_0_125 ?_
  refine g_c iX11_layered_9 ?_
  refine g_ld iX11_layered_10 (ln_126 L) (by decide) ?_
  by_cases c1 : (σ 126 2) ≤ x3
  · rw [if_pos c1] at H
    refine g_ic3t iX11_layered_11 c1 ?_
    refine g_il iX11_layered_167 rfl ?_
    exact g_ri iX11_layered_168 (Or.inl rfl) H
  · rw [if_neg c1] at H
    refine g_ic3f iX11_layered_11 c1 ?_
    refine g_al iX11_layered_14 rfl ?_
    refine g_il iX11_layered_15 rfl ?_
    refine g_ci (as := [.inr 125, .inl x3]) (rest := []) iX11_layered_16 rfl rfl (Nat.le_of_ble_eq_true rfl) (Or.inr ⟨_, _, rfl, oo_11_125⟩) (rx_CI.imp H (fun v3 σ2 H => ?_))
    refine g_is iX11_layered_19 (Nat.le_of_ble_eq_true rfl) ?_
    refine rx_Go.ls (la := [some (.inr 125), some (.inl x1), some (.inl x2), some (.inl x3), some (.inl v3), q5, q6]) rfl ?_
    refine g_il iX11_layered_21 rfl ?_
    refine g_c iX11_layered_22 ?_
    refine g_add iX11_layered_23 ?_
    refine g_is iX11_layered_24 (Nat.le_of_ble_eq_true rfl) ?_
    refine rx_Go.ls (la := [some (.inr 125), some (.inl x1), some (.inl x2), some (.inl x3), some (.inl v3), some (.inl (rx_w (x3 + 1))), q6]) rfl ?_
    exact H
set_option maxRecDepth 20000 in
set_option maxHeartbeats 4000000 in
theorem bX11_layered_26 (L d : Nat) (x1 : Int) (x2 : Int) (x3 : Int) (x4 : Int) (x5 : Int) (q6 : Option rx_V) (σ : rx_St) (K : Int → rx_St → Prop)
    (H : if (σ 126 2) ≤ x5 then (rx_Go L (d + 1) mX11_layered 161 [some (.inr 125), some (.inl x1), some (.inl x2), some (.inl x3), some (.inl x4), some (.inl x5), q6] [] σ (rx_PI K)) else (if x4 < 0 then (rx_Go L (d + 1) mX11_layered 161 [some (.inr 125), some (.inl x1), some (.inl x2), some (.inl x3), some (.inl x4), some (.inl x5), q6] [] σ (rx_PI K)) else (rx_CI L d mX11_layerFrom [.inr 125, .inl x5] σ (fun v7 σ6 => if v7 ≠ x4 then (rx_Go L (d + 1) mX11_layered 155 [some (.inr 125), some (.inl x1), some (.inl x2), some (.inl x3), some (.inl x4), some (.inl x5), q6] [] σ6 (rx_PI K)) else (rx_CI L d mX11_areApart [.inr 125, .inl x3, .inl x5] σ6 (fun v10 σ9 => if v10 = 0 then (rx_Go L (d + 1) mX11_layered 155 [some (.inr 125), some (.inl x1), some (.inl x2), some (.inl x3), some (.inl x4), some (.inl x5), q6] [] σ9 (rx_PI K)) else (rx_CI L d mX11_endIn [.inr 125, .inl x3, .inl x4] σ9 (fun v13 σ12 => rx_CI L d mX11_endIn [.inr 125, .inl x5, .inl x4] σ12 (fun v15 σ14 => if v15 ≤ v13 then (rx_CI L d mX11_endIn [.inr 125, .inl x3, .inl (rx_w (x4 + 1))] σ14 (fun v18 σ17 => rx_CI L d mX11_endIn [.inr 125, .inl x5, .inl (rx_w (x4 + 1))] σ17 (fun v20 σ19 => if v20 ≤ v18 then (rx_Go L (d + 1) mX11_layered 123 [some (.inr 125), some (.inl x1), some (.inl x2), some (.inl x3), some (.inl x4), some (.inl x5), some (.inl 0)] [] σ19 (rx_PI K)) else (rx_Go L (d + 1) mX11_layered 123 [some (.inr 125), some (.inl x1), some (.inl x2), some (.inl x3), some (.inl x4), some (.inl x5), some (.inl 1)] [] σ19 (rx_PI K))))) else (rx_CI L d mX11_endIn [.inr 125, .inl x3, .inl (rx_w (x4 + 1))] σ14 (fun v23 σ22 => rx_CI L d mX11_endIn [.inr 125, .inl x5, .inl (rx_w (x4 + 1))] σ22 (fun v25 σ24 => if v25 ≤ v23 then (rx_Go L (d + 1) mX11_layered 123 [some (.inr 125), some (.inl x1), some (.inl x2), some (.inl x3), some (.inl x4), some (.inl x5), some (.inl 1)] [] σ24 (rx_PI K)) else (rx_Go L (d + 1) mX11_layered 123 [some (.inr 125), some (.inl x1), some (.inl x2), some (.inl x3), some (.inl x4), some (.inl x5), some (.inl 0)] [] σ24 (rx_PI K)))))))))))))) :
    rx_Go L (d + 1) mX11_layered 26 [some (.inr 125), some (.inl x1), some (.inl x2), some (.inl x3), some (.inl x4), some (.inl x5), q6] [] σ (rx_PI K) := by
  refine g_il iX11_layered_26 rfl ?_
  refine g_al iX11_layered_28 rfl ?_
  refine g_gr iX11_layered_29 fr_11_0_125 ?_
  refine g_c iX11_layered_32 ?_
  refine g_ld iX11_layered_33 (ln_126 L) (by decide) ?_
  by_cases c4 : (σ 126 2) ≤ x5
  · rw [if_pos c4] at H
    refine g_ic3t iX11_layered_34 c4 ?_
    exact H
  · rw [if_neg c4] at H
    refine g_ic3f iX11_layered_34 c4 ?_
    refine g_il iX11_layered_37 rfl ?_
    by_cases c5 : x4 < 0
    · rw [if_pos c5] at H
      refine g_if2t iX11_layered_39 c5 ?_
      exact H
    · rw [if_neg c5] at H
      refine g_if2f iX11_layered_39 c5 ?_
      refine g_al iX11_layered_42 rfl ?_
      refine g_il iX11_layered_43 rfl ?_
      refine g_ci (as := [.inr 125, .inl x5]) (rest := []) iX11_layered_45 rfl rfl (Nat.le_of_ble_eq_true rfl) (Or.inr ⟨_, _, rfl, oo_11_125⟩) (rx_CI.imp H (fun v7 σ6 H => ?_))
      refine g_il iX11_layered_48 rfl ?_
      by_cases c8 : v7 ≠ x4
      · rw [if_pos c8] at H
        refine g_ic1t iX11_layered_50 c8 ?_
        exact H
      · rw [if_neg c8] at H
        refine g_ic1f iX11_layered_50 c8 ?_
        refine g_al iX11_layered_53 rfl ?_
        refine g_il iX11_layered_54 rfl ?_
        refine g_il iX11_layered_55 rfl ?_
        refine g_ci (as := [.inr 125, .inl x3, .inl x5]) (rest := []) iX11_layered_57 rfl rfl (Nat.le_of_ble_eq_true rfl) (Or.inr ⟨_, _, rfl, oo_11_125⟩) (rx_CI.imp H (fun v10 σ9 H => ?_))
        by_cases c11 : v10 = 0
        · rw [if_pos c11] at H
          refine g_if0t iX11_layered_60 c11 ?_
          exact H
        · rw [if_neg c11] at H
          refine g_if0f iX11_layered_60 c11 ?_
          refine g_al iX11_layered_63 rfl ?_
          refine g_il iX11_layered_64 rfl ?_
          refine g_il iX11_layered_65 rfl ?_
          refine g_ci (as := [.inr 125, .inl x3, .inl x4]) (rest := []) iX11_layered_67 rfl rfl (Nat.le_of_ble_eq_true rfl) (Or.inr ⟨_, _, rfl, oo_11_125⟩) (rx_CI.imp H (fun v13 σ12 H => ?_))
          refine g_al iX11_layered_70 rfl ?_
          refine g_il iX11_layered_71 rfl ?_
          refine g_il iX11_layered_73 rfl ?_
          refine g_ci (as := [.inr 125, .inl x5, .inl x4]) (rest := [.inl v13]) iX11_layered_75 rfl rfl (Nat.le_of_ble_eq_true rfl) (Or.inr ⟨_, _, rfl, oo_11_125⟩) (rx_CI.imp H (fun v15 σ14 H => ?_))
          by_cases c16 : v15 ≤ v13
          · rw [if_pos c16] at H
            refine g_ic3t iX11_layered_78 c16 ?_
            refine g_c iX11_layered_85 ?_
            refine g_al iX11_layered_86 rfl ?_
            refine g_il iX11_layered_87 rfl ?_
            refine g_il iX11_layered_88 rfl ?_
            refine g_c iX11_layered_90 ?_
            refine g_add iX11_layered_91 ?_
            refine g_ci (as := [.inr 125, .inl x3, .inl (rx_w (x4 + 1))]) (rest := [.inl 0]) iX11_layered_92 rfl rfl (Nat.le_of_ble_eq_true rfl) (Or.inr ⟨_, _, rfl, oo_11_125⟩) (rx_CI.imp H (fun v18 σ17 H => ?_))
            refine g_al iX11_layered_95 rfl ?_
            refine g_il iX11_layered_96 rfl ?_
            refine g_il iX11_layered_98 rfl ?_
            refine g_c iX11_layered_100 ?_
            refine g_add iX11_layered_101 ?_
            refine g_ci (as := [.inr 125, .inl x5, .inl (rx_w (x4 + 1))]) (rest := [.inl v18, .inl 0]) iX11_layered_102 rfl rfl (Nat.le_of_ble_eq_true rfl) (Or.inr ⟨_, _, rfl, oo_11_125⟩) (rx_CI.imp H (fun v20 σ19 H => ?_))
            by_cases c21 : v20 ≤ v18
            · rw [if_pos c21] at H
              refine g_ic3t iX11_layered_105 c21 ?_
              refine g_c iX11_layered_112 ?_
              refine g_ic0t iX11_layered_113 (by decide) ?_
              refine g_c iX11_layered_120 ?_
              refine g_is iX11_layered_121 (Nat.le_of_ble_eq_true rfl) ?_
              refine rx_Go.ls (la := [some (.inr 125), some (.inl x1), some (.inl x2), some (.inl x3), some (.inl x4), some (.inl x5), some (.inl 0)]) rfl ?_
              exact H
            · rw [if_neg c21] at H
              refine g_ic3f iX11_layered_105 c21 ?_
              refine g_c iX11_layered_108 ?_
              refine g_goto iX11_layered_109 ?_
              refine g_ic0f iX11_layered_113 (by decide) ?_
              refine g_c iX11_layered_116 ?_
              refine g_goto iX11_layered_117 ?_
              refine g_is iX11_layered_121 (Nat.le_of_ble_eq_true rfl) ?_
              refine rx_Go.ls (la := [some (.inr 125), some (.inl x1), some (.inl x2), some (.inl x3), some (.inl x4), some (.inl x5), some (.inl 1)]) rfl ?_
              exact H
          · rw [if_neg c16] at H
            refine g_ic3f iX11_layered_78 c16 ?_
            refine g_c iX11_layered_81 ?_
            refine g_goto iX11_layered_82 ?_
            refine g_al iX11_layered_86 rfl ?_
            refine g_il iX11_layered_87 rfl ?_
            refine g_il iX11_layered_88 rfl ?_
            refine g_c iX11_layered_90 ?_
            refine g_add iX11_layered_91 ?_
            refine g_ci (as := [.inr 125, .inl x3, .inl (rx_w (x4 + 1))]) (rest := [.inl 1]) iX11_layered_92 rfl rfl (Nat.le_of_ble_eq_true rfl) (Or.inr ⟨_, _, rfl, oo_11_125⟩) (rx_CI.imp H (fun v23 σ22 H => ?_))
            refine g_al iX11_layered_95 rfl ?_
            refine g_il iX11_layered_96 rfl ?_
            refine g_il iX11_layered_98 rfl ?_
            refine g_c iX11_layered_100 ?_
            refine g_add iX11_layered_101 ?_
            refine g_ci (as := [.inr 125, .inl x5, .inl (rx_w (x4 + 1))]) (rest := [.inl v23, .inl 1]) iX11_layered_102 rfl rfl (Nat.le_of_ble_eq_true rfl) (Or.inr ⟨_, _, rfl, oo_11_125⟩) (rx_CI.imp H (fun v25 σ24 H => ?_))
            by_cases c26 : v25 ≤ v23
            · rw [if_pos c26] at H
              refine g_ic3t iX11_layered_105 c26 ?_
              refine g_c iX11_layered_112 ?_
              refine g_ic0f iX11_layered_113 (by decide) ?_
              refine g_c iX11_layered_116 ?_
              refine g_goto iX11_layered_117 ?_
              refine g_is iX11_layered_121 (Nat.le_of_ble_eq_true rfl) ?_
              refine rx_Go.ls (la := [some (.inr 125), some (.inl x1), some (.inl x2), some (.inl x3), some (.inl x4), some (.inl x5), some (.inl 1)]) rfl ?_
              exact H
            · rw [if_neg c26] at H
              refine g_ic3f iX11_layered_105 c26 ?_
              refine g_c iX11_layered_108 ?_
              refine g_goto iX11_layered_109 ?_
              refine g_ic0t iX11_layered_113 (by decide) ?_
              refine g_c iX11_layered_120 ?_
              refine g_is iX11_layered_121 (Nat.le_of_ble_eq_true rfl) ?_
              refine rx_Go.ls (la := [some (.inr 125), some (.inl x1), some (.inl x2), some (.inl x3), some (.inl x4), some (.inl x5), some (.inl 0)]) rfl ?_
              exact H
set_option maxRecDepth 20000 in
set_option maxHeartbeats 4000000 in
theorem bX11_layered_161 (L d : Nat) (x1 : Int) (x2 : Int) (x3 : Int) (q4 : Option rx_V) (q5 : Option rx_V) (q6 : Option rx_V) (σ : rx_St) (K : Int → rx_St → Prop)
    (H : rx_Go L (d + 1) mX11_layered 4 [some (.inr 125), some (.inl x1), some (.inl x2), some (.inl (rx_w (x3 + 1))), q4, q5, q6] [] σ (rx_PI K)) :
    rx_Go L (d + 1) mX11_layered 161 [some (.inr 125), some (.inl x1), some (.inl x2), some (.inl x3), q4, q5, q6] [] σ (rx_PI K) := by
  refine g_ii iX11_layered_161 rfl ?_
  refine rx_Go.ls (la := [some (.inr 125), some (.inl x1), some (.inl x2), some (.inl (rx_w (x3 + 1))), q4, q5, q6]) rfl ?_
  refine g_goto iX11_layered_164 ?_
  exact H
set_option maxRecDepth 20000 in
set_option maxHeartbeats 4000000 in
theorem bX11_layered_155 (L d : Nat) (x1 : Int) (x2 : Int) (x3 : Int) (x4 : Int) (x5 : Int) (q6 : Option rx_V) (σ : rx_St) (K : Int → rx_St → Prop)
    (H : rx_Go L (d + 1) mX11_layered 26 [some (.inr 125), some (.inl x1), some (.inl x2), some (.inl x3), some (.inl x4), some (.inl (rx_w (x5 + 1))), q6] [] σ (rx_PI K)) :
    rx_Go L (d + 1) mX11_layered 155 [some (.inr 125), some (.inl x1), some (.inl x2), some (.inl x3), some (.inl x4), some (.inl x5), q6] [] σ (rx_PI K) := by
  refine g_ii iX11_layered_155 rfl ?_
  refine rx_Go.ls (la := [some (.inr 125), some (.inl x1), some (.inl x2), some (.inl x3), some (.inl x4), some (.inl (rx_w (x5 + 1))), q6]) rfl ?_
  refine g_goto iX11_layered_158 ?_
  exact H
set_option maxRecDepth 20000 in
set_option maxHeartbeats 4000000 in
theorem bX11_layered_123 (L d : Nat) (x1 : Int) (x2 : Int) (x3 : Int) (x4 : Int) (x5 : Int) (x6 : Int) (σ : rx_St) (K : Int → rx_St → Prop)
    (H : if x6 = 0 then (rx_Go L (d + 1) mX11_layered 155 [some (.inr 125), some (.inl x1), some (.inl (rx_w (x2 + 0))), some (.inl x3), some (.inl x4), some (.inl x5), some (.inl x6)] [] σ (rx_PI K)) else (if x1 = 0 then (rx_Go L (d + 1) mX11_layered 155 [some (.inr 125), some (.inl x1), some (.inl (rx_w (x2 + 1))), some (.inl x3), some (.inl x4), some (.inl x5), some (.inl x6)] [] σ (rx_PI K)) else ((0 ≤ (rx_w ((rx_w (18 * x3)) + x5)) ∧ (rx_w ((rx_w (18 * x3)) + x5)) < 324) ∧ (rx_Go L (d + 1) mX11_layered 155 [some (.inr 125), some (.inl x1), some (.inl (rx_w (x2 + (σ 130 (rx_w ((rx_w (18 * x3)) + x5)))))), some (.inl x3), some (.inl x4), some (.inl x5), some (.inl x6)] [] σ (rx_PI K))))) :
    rx_Go L (d + 1) mX11_layered 123 [some (.inr 125), some (.inl x1), some (.inl x2), some (.inl x3), some (.inl x4), some (.inl x5), some (.inl x6)] [] σ (rx_PI K) := by
  refine g_il iX11_layered_123 rfl ?_
  refine g_il iX11_layered_124 rfl ?_
  by_cases c27 : x6 = 0
  · rw [if_pos c27] at H
    refine g_if0t iX11_layered_126 c27 ?_
    refine g_c iX11_layered_152 ?_
    refine g_add iX11_layered_153 ?_
    refine g_is iX11_layered_154 (Nat.le_of_ble_eq_true rfl) ?_
    refine rx_Go.ls (la := [some (.inr 125), some (.inl x1), some (.inl (rx_w (x2 + 0))), some (.inl x3), some (.inl x4), some (.inl x5), some (.inl x6)]) rfl ?_
    exact H
  · rw [if_neg c27] at H
    refine g_if0f iX11_layered_126 c27 ?_
    refine g_il iX11_layered_129 rfl ?_
    by_cases c28 : x1 = 0
    · rw [if_pos c28] at H
      refine g_if0t iX11_layered_130 c28 ?_
      refine g_c iX11_layered_148 ?_
      refine g_goto iX11_layered_149 ?_
      refine g_add iX11_layered_153 ?_
      refine g_is iX11_layered_154 (Nat.le_of_ble_eq_true rfl) ?_
      refine rx_Go.ls (la := [some (.inr 125), some (.inl x1), some (.inl (rx_w (x2 + 1))), some (.inl x3), some (.inl x4), some (.inl x5), some (.inl x6)]) rfl ?_
      exact H
    · rw [if_neg c28] at H
      refine g_if0f iX11_layered_130 c28 ?_
      refine g_al iX11_layered_133 rfl ?_
      refine g_gr iX11_layered_134 fr_11_5_125 ?_
      refine g_c iX11_layered_137 ?_
      refine g_il iX11_layered_139 rfl ?_
      refine g_mul iX11_layered_140 ?_
      refine g_il iX11_layered_141 rfl ?_
      refine g_add iX11_layered_143 ?_
      obtain ⟨o29, H⟩ := H
      refine g_ld iX11_layered_144 (ln_130 L) o29 ?_
      refine g_goto iX11_layered_145 ?_
      refine g_add iX11_layered_153 ?_
      refine g_is iX11_layered_154 (Nat.le_of_ble_eq_true rfl) ?_
      refine rx_Go.ls (la := [some (.inr 125), some (.inl x1), some (.inl (rx_w (x2 + (σ 130 (rx_w ((rx_w (18 * x3)) + x5)))))), some (.inl x3), some (.inl x4), some (.inl x5), some (.inl x6)]) rfl ?_
      exact H
set_option maxRecDepth 20000 in
set_option maxHeartbeats 4000000 in
theorem bX11_layers (L d : Nat) (x1 : Int) (σ : rx_St) (K : Int → rx_St → Prop)
    (H : rx_CI L d mX11_in [.inl x1, .inl 0, .inl 1] σ (fun v2 σ1 => if v2 ≠ 0 then (rx_CV L d mX11_findPairs [.inr 125] σ1 (fun σ4 => rx_CV L d mX11_findPlaces [.inr 125] σ4 (fun σ5 => if x1 ≠ 1 then (rx_CI L d mX11_layered [.inr 125, .inl 0] σ5 (fun v8 σ7 => K v8 σ7)) else (rx_CI L d mX11_layered [.inr 125, .inl 1] σ5 (fun v10 σ9 => K v10 σ9))))) else (K (-1000000001) σ1))) :
    rx_CI L (d + 1) mX11_layers [.inr 125, .inl x1] σ K := by
  refine rx_CI.of (la := [some (.inr 125), some (.inl x1)]) rfl ?_
  refine g_il iX11_layers_0 rfl ?_
  refine g_c iX11_layers_1 ?_
  refine g_c iX11_layers_2 ?_
  refine g_ci (as := [.inl x1, .inl 0, .inl 1]) (rest := []) iX11_layers_3 rfl rfl (Nat.le_of_ble_eq_true rfl) (Or.inl (by decide)) (rx_CI.imp H (fun v2 σ1 H => ?_))
  by_cases c3 : v2 ≠ 0
  · rw [if_pos c3] at H
    refine g_if1t iX11_layers_6 c3 ?_
    refine g_al iX11_layers_12 rfl ?_
    refine g_cv (as := [.inr 125]) (rest := []) iX11_layers_13 rfl rfl (Nat.le_of_ble_eq_true rfl) (Or.inr ⟨_, _, rfl, oo_11_125⟩) (rx_CV.imp H (fun σ4 H => ?_))
    refine g_al iX11_layers_16 rfl ?_
    refine g_cv (as := [.inr 125]) (rest := []) iX11_layers_17 rfl rfl (Nat.le_of_ble_eq_true rfl) (Or.inr ⟨_, _, rfl, oo_11_125⟩) (rx_CV.imp H (fun σ5 H => ?_))
    refine g_al iX11_layers_20 rfl ?_
    refine g_il iX11_layers_21 rfl ?_
    refine g_c iX11_layers_22 ?_
    by_cases c6 : x1 ≠ 1
    · rw [if_pos c6] at H
      refine g_ic1t iX11_layers_23 c6 ?_
      refine g_c iX11_layers_30 ?_
      refine g_ci (as := [.inr 125, .inl 0]) (rest := []) iX11_layers_31 rfl rfl (Nat.le_of_ble_eq_true rfl) (Or.inr ⟨_, _, rfl, oo_11_125⟩) (rx_CI.imp H (fun v8 σ7 H => ?_))
      exact g_ri iX11_layers_34 (Or.inl rfl) H
    · rw [if_neg c6] at H
      refine g_ic1f iX11_layers_23 c6 ?_
      refine g_c iX11_layers_26 ?_
      refine g_goto iX11_layers_27 ?_
      refine g_ci (as := [.inr 125, .inl 1]) (rest := []) iX11_layers_31 rfl rfl (Nat.le_of_ble_eq_true rfl) (Or.inr ⟨_, _, rfl, oo_11_125⟩) (rx_CI.imp H (fun v10 σ9 H => ?_))
      exact g_ri iX11_layers_34 (Or.inl rfl) H
  · rw [if_neg c3] at H
    refine g_if1f iX11_layers_6 c3 ?_
    refine g_c iX11_layers_9 ?_
    exact g_ri iX11_layers_11 (Or.inl rfl) H
set_option maxRecDepth 20000 in
set_option maxHeartbeats 4000000 in
theorem bX11_findMembers (L d : Nat) (x1 : Int) (σ : rx_St) (K : rx_St → Prop)
    (H : rx_Go L (d + 1) mX11_findMembers 9 [some (.inr 125), some (.inl x1), some (.inl 0), some (.inl 0)] [] (rx_up σ 125 20 0) (rx_PV K)) :
    rx_CV L (d + 1) mX11_findMembers [.inr 125, .inl x1] σ K := by
  refine rx_CV.of (la := [some (.inr 125), some (.inl x1), none, none]) rfl ?_
  refine g_al iX11_findMembers_0 rfl ?_
  refine g_c iX11_findMembers_1 ?_
  refine g_pf (kI := 20) rfl iX11_findMembers_2 fi_11_20_125 (Or.inl rfl) ?_
  refine g_c iX11_findMembers_5 ?_
  refine g_is iX11_findMembers_6 (Nat.le_of_ble_eq_true rfl) ?_
  refine rx_Go.ls (la := [some (.inr 125), some (.inl x1), some (.inl 0), none]) rfl ?_
  refine g_c iX11_findMembers_7 ?_
  refine g_is iX11_findMembers_8 (Nat.le_of_ble_eq_true rfl) ?_
  refine rx_Go.ls (la := [some (.inr 125), some (.inl x1), some (.inl 0), some (.inl 0)]) rfl ?_
  exact H
set_option maxRecDepth 20000 in
set_option maxHeartbeats 4000000 in
theorem bX11_findMembers_9 (L d : Nat) (x1 : Int) (x2 : Int) (x3 : Int) (σ : rx_St) (K : rx_St → Prop)
    (H : if (σ 126 1) ≤ x3 then (K σ) else (rx_CI L d mX11_layerOf [.inr 125, .inl x3] σ (fun v3 σ2 => if v3 ≠ x1 then ((0 ≤ (rx_w (28 + x3)) ∧ (rx_w (28 + x3)) < 1498) ∧ (rx_CI L d mX11_layerOf [.inr 125, .inl (σ2 126 (rx_w (28 + x3)))] σ2 (fun v7 σ6 => if v7 ≠ x1 then (rx_Go L (d + 1) mX11_findMembers 9 [some (.inr 125), some (.inl x1), some (.inl x2), some (.inl (rx_w (x3 + 1)))] [] σ6 (rx_PV K)) else ((0 ≤ x2 ∧ x2 < 8) ∧ (rx_Go L (d + 1) mX11_findMembers 9 [some (.inr 125), some (.inl x1), some (.inl (rx_w (x2 + 1))), some (.inl (rx_w (x3 + 1)))] [] (rx_up σ6 140 x2 x3) (rx_PV K)))))) else ((0 ≤ (σ2 125 20) ∧ (σ2 125 20) < 8) ∧ ((0 ≤ (rx_w (28 + x3)) ∧ (rx_w (28 + x3)) < 1498) ∧ (rx_CI L d mX11_layerOf [.inr 125, .inl ((rx_up (rx_up σ2 139 (σ2 125 20) x3) 125 20 (rx_w (((rx_up σ2 139 (σ2 125 20) x3) 125 20) + 1))) 126 (rx_w (28 + x3)))] (rx_up (rx_up σ2 139 (σ2 125 20) x3) 125 20 (rx_w (((rx_up σ2 139 (σ2 125 20) x3) 125 20) + 1))) (fun v13 σ12 => if v13 ≠ x1 then (rx_Go L (d + 1) mX11_findMembers 9 [some (.inr 125), some (.inl x1), some (.inl x2), some (.inl (rx_w (x3 + 1)))] [] σ12 (rx_PV K)) else ((0 ≤ x2 ∧ x2 < 8) ∧ (rx_Go L (d + 1) mX11_findMembers 9 [some (.inr 125), some (.inl x1), some (.inl (rx_w (x2 + 1))), some (.inl (rx_w (x3 + 1)))] [] (rx_up σ12 140 x2 x3) (rx_PV K)))))))))) :
    rx_Go L (d + 1) mX11_findMembers 9 [some (.inr 125), some (.inl x1), some (.inl x2), some (.inl x3)] [] σ (rx_PV K) := by
  refine g_il iX11_findMembers_9 rfl ?_
  refine g_al iX11_findMembers_10 rfl ?_
  refine g_gr iX11_findMembers_11 fr_11_0_125 ?_
  refine g_c iX11_findMembers_14 ?_
  refine g_ld iX11_findMembers_15 (ln_126 L) (by decide) ?_
  by_cases c1 : (σ 126 1) ≤ x3
  · rw [if_pos c1] at H
    refine g_ic3t iX11_findMembers_16 c1 ?_
    exact g_rv iX11_findMembers_81 H
  · rw [if_neg c1] at H
    refine g_ic3f iX11_findMembers_16 c1 ?_
    refine g_al iX11_findMembers_19 rfl ?_
    refine g_il iX11_findMembers_20 rfl ?_
    refine g_ci (as := [.inr 125, .inl x3]) (rest := []) iX11_findMembers_21 rfl rfl (Nat.le_of_ble_eq_true rfl) (Or.inr ⟨_, _, rfl, oo_11_125⟩) (rx_CI.imp H (fun v3 σ2 H => ?_))
    refine g_il iX11_findMembers_24 rfl ?_
    by_cases c4 : v3 ≠ x1
    · rw [if_pos c4] at H
      refine g_ic1t iX11_findMembers_25 c4 ?_
      refine g_al iX11_findMembers_48 rfl ?_
      refine g_al iX11_findMembers_49 rfl ?_
      refine g_gr iX11_findMembers_50 fr_11_0_125 ?_
      refine g_c iX11_findMembers_53 ?_
      refine g_il iX11_findMembers_55 rfl ?_
      refine g_add iX11_findMembers_56 ?_
      obtain ⟨o5, H⟩ := H
      refine g_ld iX11_findMembers_57 (ln_126 L) o5 ?_
      refine g_ci (as := [.inr 125, .inl (σ2 126 (rx_w (28 + x3)))]) (rest := []) iX11_findMembers_58 rfl rfl (Nat.le_of_ble_eq_true rfl) (Or.inr ⟨_, _, rfl, oo_11_125⟩) (rx_CI.imp H (fun v7 σ6 H => ?_))
      refine g_il iX11_findMembers_61 rfl ?_
      by_cases c8 : v7 ≠ x1
      · rw [if_pos c8] at H
        refine g_ic1t iX11_findMembers_62 c8 ?_
        refine g_ii iX11_findMembers_75 rfl ?_
        refine rx_Go.ls (la := [some (.inr 125), some (.inl x1), some (.inl x2), some (.inl (rx_w (x3 + 1)))]) rfl ?_
        refine g_goto iX11_findMembers_78 ?_
        exact H
      · rw [if_neg c8] at H
        refine g_ic1f iX11_findMembers_62 c8 ?_
        refine g_al iX11_findMembers_65 rfl ?_
        refine g_gr iX11_findMembers_66 fr_11_18_125 ?_
        refine g_il iX11_findMembers_69 rfl ?_
        refine g_il iX11_findMembers_70 rfl ?_
        obtain ⟨o9, H⟩ := H
        refine g_st iX11_findMembers_71 (ln_140 L) (by decide) o9 rfl ?_
        refine g_ii iX11_findMembers_72 rfl ?_
        refine rx_Go.ls (la := [some (.inr 125), some (.inl x1), some (.inl (rx_w (x2 + 1))), some (.inl x3)]) rfl ?_
        refine g_ii iX11_findMembers_75 rfl ?_
        refine rx_Go.ls (la := [some (.inr 125), some (.inl x1), some (.inl (rx_w (x2 + 1))), some (.inl (rx_w (x3 + 1)))]) rfl ?_
        refine g_goto iX11_findMembers_78 ?_
        exact H
    · rw [if_neg c4] at H
      refine g_ic1f iX11_findMembers_25 c4 ?_
      refine g_al iX11_findMembers_28 rfl ?_
      refine g_gr iX11_findMembers_29 fr_11_17_125 ?_
      refine g_al iX11_findMembers_32 rfl ?_
      refine g_gf (kI := 20) rfl iX11_findMembers_33 fi_11_20_125 ?_
      refine g_il iX11_findMembers_36 rfl ?_
      obtain ⟨o10, H⟩ := H
      refine g_st iX11_findMembers_37 (ln_139 L) (by decide) o10 rfl ?_
      refine g_al iX11_findMembers_38 rfl ?_
      refine g_dup iX11_findMembers_39 ?_
      refine g_gf (kI := 20) rfl iX11_findMembers_40 fi_11_20_125 ?_
      refine g_c iX11_findMembers_43 ?_
      refine g_add iX11_findMembers_44 ?_
      refine g_pf (kI := 20) rfl iX11_findMembers_45 fi_11_20_125 (Or.inl rfl) ?_
      refine g_al iX11_findMembers_48 rfl ?_
      refine g_al iX11_findMembers_49 rfl ?_
      refine g_gr iX11_findMembers_50 fr_11_0_125 ?_
      refine g_c iX11_findMembers_53 ?_
      refine g_il iX11_findMembers_55 rfl ?_
      refine g_add iX11_findMembers_56 ?_
      obtain ⟨o11, H⟩ := H
      refine g_ld iX11_findMembers_57 (ln_126 L) o11 ?_
      refine g_ci (as := [.inr 125, .inl ((rx_up (rx_up σ2 139 (σ2 125 20) x3) 125 20 (rx_w (((rx_up σ2 139 (σ2 125 20) x3) 125 20) + 1))) 126 (rx_w (28 + x3)))]) (rest := []) iX11_findMembers_58 rfl rfl (Nat.le_of_ble_eq_true rfl) (Or.inr ⟨_, _, rfl, oo_11_125⟩) (rx_CI.imp H (fun v13 σ12 H => ?_))
      refine g_il iX11_findMembers_61 rfl ?_
      by_cases c14 : v13 ≠ x1
      · rw [if_pos c14] at H
        refine g_ic1t iX11_findMembers_62 c14 ?_
        refine g_ii iX11_findMembers_75 rfl ?_
        refine rx_Go.ls (la := [some (.inr 125), some (.inl x1), some (.inl x2), some (.inl (rx_w (x3 + 1)))]) rfl ?_
        refine g_goto iX11_findMembers_78 ?_
        exact H
      · rw [if_neg c14] at H
        refine g_ic1f iX11_findMembers_62 c14 ?_
        refine g_al iX11_findMembers_65 rfl ?_
        refine g_gr iX11_findMembers_66 fr_11_18_125 ?_
        refine g_il iX11_findMembers_69 rfl ?_
        refine g_il iX11_findMembers_70 rfl ?_
        obtain ⟨o15, H⟩ := H
        refine g_st iX11_findMembers_71 (ln_140 L) (by decide) o15 rfl ?_
        refine g_ii iX11_findMembers_72 rfl ?_
        refine rx_Go.ls (la := [some (.inr 125), some (.inl x1), some (.inl (rx_w (x2 + 1))), some (.inl x3)]) rfl ?_
        refine g_ii iX11_findMembers_75 rfl ?_
        refine rx_Go.ls (la := [some (.inr 125), some (.inl x1), some (.inl (rx_w (x2 + 1))), some (.inl (rx_w (x3 + 1)))]) rfl ?_
        refine g_goto iX11_findMembers_78 ?_
        exact H
set_option maxRecDepth 20000 in
set_option maxHeartbeats 4000000 in
theorem bX11_sits (L d : Nat) (x1 : Int) (x2 : Int) (σ : rx_St) (K : rx_St → Prop)
    (H : rx_Go L d mX11_sits 18 [some (.inr 125), some (.inl x1), some (.inl x2), some (.inl x1), some (.inl x2), some (.inl (rx_w ((rx_alu 6 1 (σ 125 20)) - 1))), some (.inl 0), none, none] [] σ (rx_PV K)) :
    rx_CV L d mX11_sits [.inr 125, .inl x1, .inl x2] σ K := by
  refine rx_CV.of (la := [some (.inr 125), some (.inl x1), some (.inl x2), none, none, none, none, none, none]) rfl ?_
  refine g_il iX11_sits_0 rfl ?_
  refine g_is iX11_sits_1 (Nat.le_of_ble_eq_true rfl) ?_
  refine rx_Go.ls (la := [some (.inr 125), some (.inl x1), some (.inl x2), some (.inl x1), none, none, none, none, none]) rfl ?_
  refine g_il iX11_sits_2 rfl ?_
  refine g_is iX11_sits_3 (Nat.le_of_ble_eq_true rfl) ?_
  refine rx_Go.ls (la := [some (.inr 125), some (.inl x1), some (.inl x2), some (.inl x1), some (.inl x2), none, none, none, none]) rfl ?_
  refine g_c iX11_sits_5 ?_
  refine g_al iX11_sits_6 rfl ?_
  refine g_gf (kI := 20) rfl iX11_sits_7 fi_11_20_125 ?_
  refine g_bit iX11_sits_10 ?_
  refine g_c iX11_sits_11 ?_
  refine g_sub iX11_sits_12 ?_
  refine g_is iX11_sits_13 (Nat.le_of_ble_eq_true rfl) ?_
  refine rx_Go.ls (la := [some (.inr 125), some (.inl x1), some (.inl x2), some (.inl x1), some (.inl x2), some (.inl (rx_w ((rx_alu 6 1 (σ 125 20)) - 1))), none, none, none]) rfl ?_
  refine g_c iX11_sits_15 ?_
  refine g_is iX11_sits_16 (Nat.le_of_ble_eq_true rfl) ?_
  refine rx_Go.ls (la := [some (.inr 125), some (.inl x1), some (.inl x2), some (.inl x1), some (.inl x2), some (.inl (rx_w ((rx_alu 6 1 (σ 125 20)) - 1))), some (.inl 0), none, none]) rfl ?_
  exact H
set_option maxRecDepth 20000 in
set_option maxHeartbeats 4000000 in
theorem bX11_sits_18 (L d : Nat) (q1 : Option rx_V) (q2 : Option rx_V) (x3 : Int) (x4 : Int) (x5 : Int) (x6 : Int) (q7 : Option rx_V) (q8 : Option rx_V) (σ : rx_St) (K : rx_St → Prop)
    (H : if (σ 125 20) ≤ x6 then (K σ) else (¬ (rx_w ((σ 125 20) - x6)) = 0 ∧ (¬ (rx_w (Int.tdiv x4 (rx_w ((σ 125 20) - x6)))) = 0 ∧ (¬ (rx_w (Int.tdiv x4 (rx_w ((σ 125 20) - x6)))) = 0 ∧ (rx_Go L d mX11_sits 53 [some (.inr 125), q1, q2, some (.inl (Int.tmod x3 (rx_w (Int.tdiv x4 (rx_w ((σ 125 20) - x6)))))), some (.inl (rx_w (Int.tdiv x4 (rx_w ((σ 125 20) - x6))))), some (.inl x5), some (.inl x6), some (.inl (rx_w (Int.tdiv x3 (rx_w (Int.tdiv x4 (rx_w ((σ 125 20) - x6))))))), some (.inl 0)] [] σ (rx_PV K)))))) :
    rx_Go L d mX11_sits 18 [some (.inr 125), q1, q2, some (.inl x3), some (.inl x4), some (.inl x5), some (.inl x6), q7, q8] [] σ (rx_PV K) := by
  refine g_il iX11_sits_18 rfl ?_
  refine g_al iX11_sits_20 rfl ?_
  refine g_gf (kI := 20) rfl iX11_sits_21 fi_11_20_125 ?_
  by_cases c1 : (σ 125 20) ≤ x6
  · rw [if_pos c1] at H
    refine g_ic3t iX11_sits_24 c1 ?_
    exact g_rv iX11_sits_136 H
  · rw [if_neg c1] at H
    refine g_ic3f iX11_sits_24 c1 ?_
    refine g_il iX11_sits_27 rfl ?_
    refine g_al iX11_sits_29 rfl ?_
    refine g_gf (kI := 20) rfl iX11_sits_30 fi_11_20_125 ?_
    refine g_il iX11_sits_33 rfl ?_
    refine g_sub iX11_sits_35 ?_
    obtain ⟨o2, H⟩ := H
    refine g_div iX11_sits_36 o2 ?_
    refine g_is iX11_sits_37 (Nat.le_of_ble_eq_true rfl) ?_
    refine rx_Go.ls (la := [some (.inr 125), q1, q2, some (.inl x3), some (.inl (rx_w (Int.tdiv x4 (rx_w ((σ 125 20) - x6))))), some (.inl x5), some (.inl x6), q7, q8]) rfl ?_
    refine g_il iX11_sits_39 rfl ?_
    refine g_il iX11_sits_40 rfl ?_
    obtain ⟨o3, H⟩ := H
    refine g_div iX11_sits_42 o3 ?_
    refine g_is iX11_sits_43 (Nat.le_of_ble_eq_true rfl) ?_
    refine rx_Go.ls (la := [some (.inr 125), q1, q2, some (.inl x3), some (.inl (rx_w (Int.tdiv x4 (rx_w ((σ 125 20) - x6))))), some (.inl x5), some (.inl x6), some (.inl (rx_w (Int.tdiv x3 (rx_w (Int.tdiv x4 (rx_w ((σ 125 20) - x6))))))), q8]) rfl ?_
    refine g_il iX11_sits_45 rfl ?_
    refine g_il iX11_sits_46 rfl ?_
    obtain ⟨o4, H⟩ := H
    refine g_rem iX11_sits_48 o4 ?_
    refine g_is iX11_sits_49 (Nat.le_of_ble_eq_true rfl) ?_
    refine rx_Go.ls (la := [some (.inr 125), q1, q2, some (.inl (Int.tmod x3 (rx_w (Int.tdiv x4 (rx_w ((σ 125 20) - x6)))))), some (.inl (rx_w (Int.tdiv x4 (rx_w ((σ 125 20) - x6))))), some (.inl x5), some (.inl x6), some (.inl (rx_w (Int.tdiv x3 (rx_w (Int.tdiv x4 (rx_w ((σ 125 20) - x6))))))), q8]) rfl ?_
    refine g_c iX11_sits_50 ?_
    refine g_is iX11_sits_51 (Nat.le_of_ble_eq_true rfl) ?_
    refine rx_Go.ls (la := [some (.inr 125), q1, q2, some (.inl (Int.tmod x3 (rx_w (Int.tdiv x4 (rx_w ((σ 125 20) - x6)))))), some (.inl (rx_w (Int.tdiv x4 (rx_w ((σ 125 20) - x6))))), some (.inl x5), some (.inl x6), some (.inl (rx_w (Int.tdiv x3 (rx_w (Int.tdiv x4 (rx_w ((σ 125 20) - x6))))))), some (.inl 0)]) rfl ?_
    exact H
set_option maxRecDepth 20000 in
set_option maxHeartbeats 4000000 in
theorem bX11_sits_53 (L d : Nat) (q1 : Option rx_V) (q2 : Option rx_V) (x3 : Int) (x4 : Int) (x5 : Int) (x6 : Int) (x7 : Int) (x8 : Int) (σ : rx_St) (K : rx_St → Prop)
    (H : if (rx_alu 3 (rx_alu 7 x5 x8) 1) = 0 then (rx_Go L d mX11_sits 53 [some (.inr 125), q1, q2, some (.inl x3), some (.inl x4), some (.inl x5), some (.inl x6), some (.inl (rx_w (x7 - (rx_alu 3 (rx_alu 7 x5 x8) 1)))), some (.inl (rx_w (x8 + 1)))] [] σ (rx_PV K)) else (if x7 ≤ 0 then ((0 ≤ x8 ∧ x8 < 8) ∧ ((0 ≤ x6 ∧ x6 < 8) ∧ ((0 ≤ ((rx_up σ 141 x6 (σ 139 x8)) 139 x8) ∧ ((rx_up σ 141 x6 (σ 139 x8)) 139 x8) < 8) ∧ (rx_Go L d mX11_sits 18 [some (.inr 125), q1, q2, some (.inl x3), some (.inl x4), some (.inl (rx_alu 3 x5 (rx_alu 5 (rx_alu 6 1 x8) (-1)))), some (.inl (rx_w (x6 + 1))), some (.inl x7), some (.inl x8)] [] (rx_up (rx_up σ 141 x6 (σ 139 x8)) 133 ((rx_up σ 141 x6 (σ 139 x8)) 139 x8) ((rx_up σ 141 x6 (σ 139 x8)) 140 x6)) (rx_PV K))))) else (rx_Go L d mX11_sits 53 [some (.inr 125), q1, q2, some (.inl x3), some (.inl x4), some (.inl x5), some (.inl x6), some (.inl (rx_w (x7 - (rx_alu 3 (rx_alu 7 x5 x8) 1)))), some (.inl (rx_w (x8 + 1)))] [] σ (rx_PV K)))) :
    rx_Go L d mX11_sits 53 [some (.inr 125), q1, q2, some (.inl x3), some (.inl x4), some (.inl x5), some (.inl x6), some (.inl x7), some (.inl x8)] [] σ (rx_PV K) := by
  refine g_il iX11_sits_53 rfl ?_
  refine g_il iX11_sits_55 rfl ?_
  refine g_bit iX11_sits_57 ?_
  refine g_c iX11_sits_58 ?_
  refine g_bit iX11_sits_59 ?_
  by_cases c5 : (rx_alu 3 (rx_alu 7 x5 x8) 1) = 0
  · rw [if_pos c5] at H
    refine g_if0t iX11_sits_60 c5 ?_
    refine g_il iX11_sits_68 rfl ?_
    refine g_il iX11_sits_70 rfl ?_
    refine g_il iX11_sits_72 rfl ?_
    refine g_bit iX11_sits_74 ?_
    refine g_c iX11_sits_75 ?_
    refine g_bit iX11_sits_76 ?_
    refine g_sub iX11_sits_77 ?_
    refine g_is iX11_sits_78 (Nat.le_of_ble_eq_true rfl) ?_
    refine rx_Go.ls (la := [some (.inr 125), q1, q2, some (.inl x3), some (.inl x4), some (.inl x5), some (.inl x6), some (.inl (rx_w (x7 - (rx_alu 3 (rx_alu 7 x5 x8) 1)))), some (.inl x8)]) rfl ?_
    refine g_ii iX11_sits_80 rfl ?_
    refine rx_Go.ls (la := [some (.inr 125), q1, q2, some (.inl x3), some (.inl x4), some (.inl x5), some (.inl x6), some (.inl (rx_w (x7 - (rx_alu 3 (rx_alu 7 x5 x8) 1)))), some (.inl (rx_w (x8 + 1)))]) rfl ?_
    refine g_goto iX11_sits_83 ?_
    exact H
  · rw [if_neg c5] at H
    refine g_if0f iX11_sits_60 c5 ?_
    refine g_il iX11_sits_63 rfl ?_
    by_cases c6 : x7 ≤ 0
    · rw [if_pos c6] at H
      refine g_if5t iX11_sits_65 c6 ?_
      refine g_il iX11_sits_86 rfl ?_
      refine g_c iX11_sits_88 ?_
      refine g_il iX11_sits_89 rfl ?_
      refine g_bit iX11_sits_91 ?_
      refine g_c iX11_sits_92 ?_
      refine g_bit iX11_sits_93 ?_
      refine g_bit iX11_sits_94 ?_
      refine g_is iX11_sits_95 (Nat.le_of_ble_eq_true rfl) ?_
      refine rx_Go.ls (la := [some (.inr 125), q1, q2, some (.inl x3), some (.inl x4), some (.inl (rx_alu 3 x5 (rx_alu 5 (rx_alu 6 1 x8) (-1)))), some (.inl x6), some (.inl x7), some (.inl x8)]) rfl ?_
      refine g_al iX11_sits_97 rfl ?_
      refine g_gr iX11_sits_98 fr_11_19_125 ?_
      refine g_il iX11_sits_101 rfl ?_
      refine g_al iX11_sits_103 rfl ?_
      refine g_gr iX11_sits_104 fr_11_17_125 ?_
      refine g_il iX11_sits_107 rfl ?_
      obtain ⟨o7, H⟩ := H
      refine g_ld iX11_sits_109 (ln_139 L) o7 ?_
      obtain ⟨o8, H⟩ := H
      refine g_st iX11_sits_110 (ln_141 L) (by decide) o8 rfl ?_
      refine g_al iX11_sits_111 rfl ?_
      refine g_gr iX11_sits_112 fr_11_10_125 ?_
      refine g_al iX11_sits_115 rfl ?_
      refine g_gr iX11_sits_116 fr_11_17_125 ?_
      refine g_il iX11_sits_119 rfl ?_
      refine g_ld iX11_sits_121 (ln_139 L) o7 ?_
      refine g_al iX11_sits_122 rfl ?_
      refine g_gr iX11_sits_123 fr_11_18_125 ?_
      refine g_il iX11_sits_126 rfl ?_
      refine g_ld iX11_sits_128 (ln_140 L) o8 ?_
      obtain ⟨o9, H⟩ := H
      refine g_st iX11_sits_129 (ln_133 L) (by decide) o9 rfl ?_
      refine g_ii iX11_sits_130 rfl ?_
      refine rx_Go.ls (la := [some (.inr 125), q1, q2, some (.inl x3), some (.inl x4), some (.inl (rx_alu 3 x5 (rx_alu 5 (rx_alu 6 1 x8) (-1)))), some (.inl (rx_w (x6 + 1))), some (.inl x7), some (.inl x8)]) rfl ?_
      refine g_goto iX11_sits_133 ?_
      exact H
    · rw [if_neg c6] at H
      refine g_if5f iX11_sits_65 c6 ?_
      refine g_il iX11_sits_68 rfl ?_
      refine g_il iX11_sits_70 rfl ?_
      refine g_il iX11_sits_72 rfl ?_
      refine g_bit iX11_sits_74 ?_
      refine g_c iX11_sits_75 ?_
      refine g_bit iX11_sits_76 ?_
      refine g_sub iX11_sits_77 ?_
      refine g_is iX11_sits_78 (Nat.le_of_ble_eq_true rfl) ?_
      refine rx_Go.ls (la := [some (.inr 125), q1, q2, some (.inl x3), some (.inl x4), some (.inl x5), some (.inl x6), some (.inl (rx_w (x7 - (rx_alu 3 (rx_alu 7 x5 x8) 1)))), some (.inl x8)]) rfl ?_
      refine g_ii iX11_sits_80 rfl ?_
      refine rx_Go.ls (la := [some (.inr 125), q1, q2, some (.inl x3), some (.inl x4), some (.inl x5), some (.inl x6), some (.inl (rx_w (x7 - (rx_alu 3 (rx_alu 7 x5 x8) 1)))), some (.inl (rx_w (x8 + 1)))]) rfl ?_
      refine g_goto iX11_sits_83 ?_
      exact H
set_option maxRecDepth 20000 in
set_option maxHeartbeats 4000000 in
theorem bX11_bestRow (L d : Nat) (x1 : Int) (x2 : Int) (σ : rx_St) (K : Int → rx_St → Prop)
    (H : rx_CI L d mX11_in [.inl x1, .inl 0, .inl 3] σ (fun v2 σ1 => if v2 = 0 then (K (-1000000001) σ1) else (if (-1) ≤ x2 then (rx_CV L d mX11_findMembers [.inr 125, .inl x1] σ1 (fun σ5 => if (σ5 125 20) ≤ 5 then (if x2 < (σ5 125 20) then (rx_CV L d mX11_findPairs [.inr 125] σ5 (fun σ8 => rx_CV L d mX11_findPlaces [.inr 125] σ8 (fun σ9 => rx_Go L (d + 1) mX11_bestRow 57 [some (.inr 125), some (.inl x1), some (.inl x2), some (.inl 1), some (.inl 2), none, none, none] [] σ9 (rx_PI K)))) else (K (-1000000005) σ5)) else (K (-1000000002) σ5))) else (K (-1000000001) σ1)))) :
    rx_CI L (d + 1) mX11_bestRow [.inr 125, .inl x1, .inl x2] σ K := by
  refine rx_CI.of (la := [some (.inr 125), some (.inl x1), some (.inl x2), none, none, none, none, none]) rfl ?_
  refine g_il iX11_bestRow_0 rfl ?_
  refine g_c iX11_bestRow_1 ?_
  refine g_c iX11_bestRow_2 ?_
  refine g_ci (as := [.inl x1, .inl 0, .inl 3]) (rest := []) iX11_bestRow_3 rfl rfl (Nat.le_of_ble_eq_true rfl) (Or.inl (by decide)) (rx_CI.imp H (fun v2 σ1 H => ?_))
  by_cases c3 : v2 = 0
  · rw [if_pos c3] at H
    refine g_if0t iX11_bestRow_6 c3 ?_
    refine g_c iX11_bestRow_14 ?_
    exact g_ri iX11_bestRow_16 (Or.inl rfl) H
  · rw [if_neg c3] at H
    refine g_if0f iX11_bestRow_6 c3 ?_
    refine g_il iX11_bestRow_9 rfl ?_
    refine g_c iX11_bestRow_10 ?_
    by_cases c4 : (-1) ≤ x2
    · rw [if_pos c4] at H
      refine g_ic3t iX11_bestRow_11 c4 ?_
      refine g_al iX11_bestRow_17 rfl ?_
      refine g_il iX11_bestRow_18 rfl ?_
      refine g_cv (as := [.inr 125, .inl x1]) (rest := []) iX11_bestRow_19 rfl rfl (Nat.le_of_ble_eq_true rfl) (Or.inr ⟨_, _, rfl, oo_11_125⟩) (rx_CV.imp H (fun σ5 H => ?_))
      refine g_al iX11_bestRow_22 rfl ?_
      refine g_gf (kI := 20) rfl iX11_bestRow_23 fi_11_20_125 ?_
      refine g_c iX11_bestRow_26 ?_
      by_cases c6 : (σ5 125 20) ≤ 5
      · rw [if_pos c6] at H
        refine g_ic5t iX11_bestRow_27 c6 ?_
        refine g_il iX11_bestRow_33 rfl ?_
        refine g_al iX11_bestRow_34 rfl ?_
        refine g_gf (kI := 20) rfl iX11_bestRow_35 fi_11_20_125 ?_
        by_cases c7 : x2 < (σ5 125 20)
        · rw [if_pos c7] at H
          refine g_ic2t iX11_bestRow_38 c7 ?_
          refine g_al iX11_bestRow_44 rfl ?_
          refine g_cv (as := [.inr 125]) (rest := []) iX11_bestRow_45 rfl rfl (Nat.le_of_ble_eq_true rfl) (Or.inr ⟨_, _, rfl, oo_11_125⟩) (rx_CV.imp H (fun σ8 H => ?_))
          refine g_al iX11_bestRow_48 rfl ?_
          refine g_cv (as := [.inr 125]) (rest := []) iX11_bestRow_49 rfl rfl (Nat.le_of_ble_eq_true rfl) (Or.inr ⟨_, _, rfl, oo_11_125⟩) (rx_CV.imp H (fun σ9 H => ?_))
          refine g_c iX11_bestRow_52 ?_
          refine g_is iX11_bestRow_53 (Nat.le_of_ble_eq_true rfl) ?_
          refine rx_Go.ls (la := [some (.inr 125), some (.inl x1), some (.inl x2), some (.inl 1), none, none, none, none]) rfl ?_
          refine g_c iX11_bestRow_54 ?_
          refine g_is iX11_bestRow_55 (Nat.le_of_ble_eq_true rfl) ?_
          refine rx_Go.ls (la := [some (.inr 125), some (.inl x1), some (.inl x2), some (.inl 1), some (.inl 2), none, none, none]) rfl ?_
          exact H
        · rw [if_neg c7] at H
          refine g_ic2f iX11_bestRow_38 c7 ?_
          refine g_c iX11_bestRow_41 ?_
          exact g_ri iX11_bestRow_43 (Or.inl rfl) H
      · rw [if_neg c6] at H
        refine g_ic5f iX11_bestRow_27 c6 ?_
        refine g_c iX11_bestRow_30 ?_
        exact g_ri iX11_bestRow_32 (Or.inl rfl) H
    · rw [if_neg c4] at H
      refine g_ic3f iX11_bestRow_11 c4 ?_
      refine g_c iX11_bestRow_14 ?_
      exact g_ri iX11_bestRow_16 (Or.inl rfl) H
set_option maxRecDepth 20000 in
set_option maxHeartbeats 4000000 in
theorem bX11_bestRow_57 (L d : Nat) (q1 : Option rx_V) (x2 : Int) (x3 : Int) (x4 : Int) (q5 : Option rx_V) (q6 : Option rx_V) (q7 : Option rx_V) (σ : rx_St) (K : Int → rx_St → Prop)
    (H : if (σ 125 20) < x4 then (rx_Go L (d + 1) mX11_bestRow 83 [some (.inr 125), q1, some (.inl x2), some (.inl x3), some (.inl (-1)), some (.inl 0), q6, q7] [] σ (rx_PI K)) else (rx_Go L (d + 1) mX11_bestRow 57 [some (.inr 125), q1, some (.inl x2), some (.inl (rx_w (x3 * x4))), some (.inl (rx_w (x4 + 1))), q5, q6, q7] [] σ (rx_PI K))) :
    rx_Go L (d + 1) mX11_bestRow 57 [some (.inr 125), q1, some (.inl x2), some (.inl x3), some (.inl x4), q5, q6, q7] [] σ (rx_PI K) := by
  refine g_il iX11_bestRow_57 rfl ?_
  refine g_al iX11_bestRow_59 rfl ?_
  refine g_gf (kI := 20) rfl iX11_bestRow_60 fi_11_20_125 ?_
  by_cases c10 : (σ 125 20) < x4
  · rw [if_pos c10] at H
    refine g_ic4t iX11_bestRow_63 c10 ?_
    refine g_c iX11_bestRow_77 ?_
    refine g_is iX11_bestRow_78 (Nat.le_of_ble_eq_true rfl) ?_
    refine rx_Go.ls (la := [some (.inr 125), q1, some (.inl x2), some (.inl x3), some (.inl (-1)), q5, q6, q7]) rfl ?_
    refine g_c iX11_bestRow_80 ?_
    refine g_is iX11_bestRow_81 (Nat.le_of_ble_eq_true rfl) ?_
    refine rx_Go.ls (la := [some (.inr 125), q1, some (.inl x2), some (.inl x3), some (.inl (-1)), some (.inl 0), q6, q7]) rfl ?_
    exact H
  · rw [if_neg c10] at H
    refine g_ic4f iX11_bestRow_63 c10 ?_
    refine g_il iX11_bestRow_66 rfl ?_
    refine g_il iX11_bestRow_67 rfl ?_
    refine g_mul iX11_bestRow_69 ?_
    refine g_is iX11_bestRow_70 (Nat.le_of_ble_eq_true rfl) ?_
    refine rx_Go.ls (la := [some (.inr 125), q1, some (.inl x2), some (.inl (rx_w (x3 * x4))), some (.inl x4), q5, q6, q7]) rfl ?_
    refine g_ii iX11_bestRow_71 rfl ?_
    refine rx_Go.ls (la := [some (.inr 125), q1, some (.inl x2), some (.inl (rx_w (x3 * x4))), some (.inl (rx_w (x4 + 1))), q5, q6, q7]) rfl ?_
    refine g_goto iX11_bestRow_74 ?_
    exact H
set_option maxRecDepth 20000 in
set_option maxHeartbeats 4000000 in
theorem bX11_bestRow_83 (L d : Nat) (q1 : Option rx_V) (x2 : Int) (x3 : Int) (x4 : Int) (x5 : Int) (q6 : Option rx_V) (q7 : Option rx_V) (σ : rx_St) (K : Int → rx_St → Prop)
    (H : if x3 ≤ x5 then (if 0 ≤ x2 then ((0 ≤ x2 ∧ x2 < 8) ∧ (K (σ 138 x2) σ)) else (K x4 σ)) else (rx_CV L d mX11_sits [.inr 125, .inl x5, .inl x3] σ (fun σ14 => rx_CI L d mX11_layered [.inr 125, .inl 1] σ14 (fun v16 σ15 => if x4 < 0 then (rx_Go L (d + 1) mX11_bestRow 115 [some (.inr 125), q1, some (.inl x2), some (.inl x3), some (.inl x4), some (.inl x5), some (.inl v16), q7] [] σ15 (rx_PI K)) else (if x4 ≤ v16 then (rx_Go L (d + 1) mX11_bestRow 151 [some (.inr 125), q1, some (.inl x2), some (.inl x3), some (.inl x4), some (.inl x5), some (.inl v16), q7] [] σ15 (rx_PI K)) else (rx_Go L (d + 1) mX11_bestRow 115 [some (.inr 125), q1, some (.inl x2), some (.inl x3), some (.inl x4), some (.inl x5), some (.inl v16), q7] [] σ15 (rx_PI K))))))) :
    rx_Go L (d + 1) mX11_bestRow 83 [some (.inr 125), q1, some (.inl x2), some (.inl x3), some (.inl x4), some (.inl x5), q6, q7] [] σ (rx_PI K) := by
  refine g_il iX11_bestRow_83 rfl ?_
  refine g_il iX11_bestRow_85 rfl ?_
  by_cases c11 : x3 ≤ x5
  · rw [if_pos c11] at H
    refine g_ic3t iX11_bestRow_86 c11 ?_
    refine g_il iX11_bestRow_157 rfl ?_
    by_cases c12 : 0 ≤ x2
    · rw [if_pos c12] at H
      refine g_if3t iX11_bestRow_158 c12 ?_
      refine g_al iX11_bestRow_166 rfl ?_
      refine g_gr iX11_bestRow_167 fr_11_15_125 ?_
      refine g_il iX11_bestRow_170 rfl ?_
      obtain ⟨o13, H⟩ := H
      refine g_ld iX11_bestRow_171 (ln_138 L) o13 ?_
      exact g_ri iX11_bestRow_172 (Or.inl rfl) H
    · rw [if_neg c12] at H
      refine g_if3f iX11_bestRow_158 c12 ?_
      refine g_il iX11_bestRow_161 rfl ?_
      refine g_goto iX11_bestRow_163 ?_
      exact g_ri iX11_bestRow_172 (Or.inl rfl) H
  · rw [if_neg c11] at H
    refine g_ic3f iX11_bestRow_86 c11 ?_
    refine g_al iX11_bestRow_89 rfl ?_
    refine g_il iX11_bestRow_90 rfl ?_
    refine g_il iX11_bestRow_92 rfl ?_
    refine g_cv (as := [.inr 125, .inl x5, .inl x3]) (rest := []) iX11_bestRow_93 rfl rfl (Nat.le_of_ble_eq_true rfl) (Or.inr ⟨_, _, rfl, oo_11_125⟩) (rx_CV.imp H (fun σ14 H => ?_))
    refine g_al iX11_bestRow_96 rfl ?_
    refine g_c iX11_bestRow_97 ?_
    refine g_ci (as := [.inr 125, .inl 1]) (rest := []) iX11_bestRow_98 rfl rfl (Nat.le_of_ble_eq_true rfl) (Or.inr ⟨_, _, rfl, oo_11_125⟩) (rx_CI.imp H (fun v16 σ15 H => ?_))
    refine g_is iX11_bestRow_101 (Nat.le_of_ble_eq_true rfl) ?_
    refine rx_Go.ls (la := [some (.inr 125), q1, some (.inl x2), some (.inl x3), some (.inl x4), some (.inl x5), some (.inl v16), q7]) rfl ?_
    refine g_il iX11_bestRow_103 rfl ?_
    by_cases c17 : x4 < 0
    · rw [if_pos c17] at H
      refine g_if2t iX11_bestRow_105 c17 ?_
      exact H
    · rw [if_neg c17] at H
      refine g_if2f iX11_bestRow_105 c17 ?_
      refine g_il iX11_bestRow_108 rfl ?_
      refine g_il iX11_bestRow_110 rfl ?_
      by_cases c18 : x4 ≤ v16
      · rw [if_pos c18] at H
        refine g_ic3t iX11_bestRow_112 c18 ?_
        exact H
      · rw [if_neg c18] at H
        refine g_ic3f iX11_bestRow_112 c18 ?_
        exact H
set_option maxRecDepth 20000 in
set_option maxHeartbeats 4000000 in
theorem bX11_bestRow_115 (L d : Nat) (q1 : Option rx_V) (x2 : Int) (x3 : Int) (q4 : Option rx_V) (x5 : Int) (x6 : Int) (q7 : Option rx_V) (σ : rx_St) (K : Int → rx_St → Prop)
    (H : rx_Go L (d + 1) mX11_bestRow 122 [some (.inr 125), q1, some (.inl x2), some (.inl x3), some (.inl x6), some (.inl x5), some (.inl x6), some (.inl 0)] [] σ (rx_PI K)) :
    rx_Go L (d + 1) mX11_bestRow 115 [some (.inr 125), q1, some (.inl x2), some (.inl x3), q4, some (.inl x5), some (.inl x6), q7] [] σ (rx_PI K) := by
  refine g_il iX11_bestRow_115 rfl ?_
  refine g_is iX11_bestRow_117 (Nat.le_of_ble_eq_true rfl) ?_
  refine rx_Go.ls (la := [some (.inr 125), q1, some (.inl x2), some (.inl x3), some (.inl x6), some (.inl x5), some (.inl x6), q7]) rfl ?_
  refine g_c iX11_bestRow_119 ?_
  refine g_is iX11_bestRow_120 (Nat.le_of_ble_eq_true rfl) ?_
  refine rx_Go.ls (la := [some (.inr 125), q1, some (.inl x2), some (.inl x3), some (.inl x6), some (.inl x5), some (.inl x6), some (.inl 0)]) rfl ?_
  exact H
set_option maxRecDepth 20000 in
set_option maxHeartbeats 4000000 in
theorem bX11_bestRow_151 (L d : Nat) (q1 : Option rx_V) (x2 : Int) (x3 : Int) (x4 : Int) (x5 : Int) (q6 : Option rx_V) (q7 : Option rx_V) (σ : rx_St) (K : Int → rx_St → Prop)
    (H : rx_Go L (d + 1) mX11_bestRow 83 [some (.inr 125), q1, some (.inl x2), some (.inl x3), some (.inl x4), some (.inl (rx_w (x5 + 1))), q6, q7] [] σ (rx_PI K)) :
    rx_Go L (d + 1) mX11_bestRow 151 [some (.inr 125), q1, some (.inl x2), some (.inl x3), some (.inl x4), some (.inl x5), q6, q7] [] σ (rx_PI K) := by
  refine g_ii iX11_bestRow_151 rfl ?_
  refine rx_Go.ls (la := [some (.inr 125), q1, some (.inl x2), some (.inl x3), some (.inl x4), some (.inl (rx_w (x5 + 1))), q6, q7]) rfl ?_
  refine g_goto iX11_bestRow_154 ?_
  exact H
set_option maxRecDepth 20000 in
set_option maxHeartbeats 4000000 in
theorem bX11_bestRow_122 (L d : Nat) (q1 : Option rx_V) (x2 : Int) (x3 : Int) (x4 : Int) (x5 : Int) (q6 : Option rx_V) (x7 : Int) (σ : rx_St) (K : Int → rx_St → Prop)
    (H : if (σ 125 20) ≤ x7 then (rx_Go L (d + 1) mX11_bestRow 151 [some (.inr 125), q1, some (.inl x2), some (.inl x3), some (.inl x4), some (.inl x5), q6, some (.inl x7)] [] σ (rx_PI K)) else ((0 ≤ x7 ∧ x7 < 8) ∧ (rx_Go L (d + 1) mX11_bestRow 122 [some (.inr 125), q1, some (.inl x2), some (.inl x3), some (.inl x4), some (.inl x5), q6, some (.inl (rx_w (x7 + 1)))] [] (rx_up σ 138 x7 (σ 141 x7)) (rx_PI K)))) :
    rx_Go L (d + 1) mX11_bestRow 122 [some (.inr 125), q1, some (.inl x2), some (.inl x3), some (.inl x4), some (.inl x5), q6, some (.inl x7)] [] σ (rx_PI K) := by
  refine g_il iX11_bestRow_122 rfl ?_
  refine g_al iX11_bestRow_124 rfl ?_
  refine g_gf (kI := 20) rfl iX11_bestRow_125 fi_11_20_125 ?_
  by_cases c19 : (σ 125 20) ≤ x7
  · rw [if_pos c19] at H
    refine g_ic3t iX11_bestRow_128 c19 ?_
    exact H
  · rw [if_neg c19] at H
    refine g_ic3f iX11_bestRow_128 c19 ?_
    refine g_al iX11_bestRow_131 rfl ?_
    refine g_gr iX11_bestRow_132 fr_11_15_125 ?_
    refine g_il iX11_bestRow_135 rfl ?_
    refine g_al iX11_bestRow_137 rfl ?_
    refine g_gr iX11_bestRow_138 fr_11_19_125 ?_
    refine g_il iX11_bestRow_141 rfl ?_
    obtain ⟨o20, H⟩ := H
    refine g_ld iX11_bestRow_143 (ln_141 L) o20 ?_
    refine g_st iX11_bestRow_144 (ln_138 L) (by decide) o20 rfl ?_
    refine g_ii iX11_bestRow_145 rfl ?_
    refine rx_Go.ls (la := [some (.inr 125), q1, some (.inl x2), some (.inl x3), some (.inl x4), some (.inl x5), q6, some (.inl (rx_w (x7 + 1)))]) rfl ?_
    refine g_goto iX11_bestRow_148 ?_
    exact H
set_option maxRecDepth 20000 in
set_option maxHeartbeats 4000000 in
theorem bX11_draw (L d : Nat)  (σ : rx_St) (K : Int → rx_St → Prop)
    (H : K (rx_alu 8 ((rx_up σ 126 0 (rx_w ((rx_w ((σ 126 0) * 1103515245)) + 12345))) 126 0) 8) (rx_up σ 126 0 (rx_w ((rx_w ((σ 126 0) * 1103515245)) + 12345)))) :
    rx_CI L d mX11_draw [.inr 125] σ K := by
  refine rx_CI.of (la := [some (.inr 125)]) rfl ?_
  refine g_al iX11_draw_0 rfl ?_
  refine g_gr iX11_draw_1 fr_11_0_125 ?_
  refine g_c iX11_draw_4 ?_
  refine g_al iX11_draw_5 rfl ?_
  refine g_gr iX11_draw_6 fr_11_0_125 ?_
  refine g_c iX11_draw_9 ?_
  refine g_ld iX11_draw_10 (ln_126 L) (by decide) ?_
  refine g_c iX11_draw_11 ?_
  refine g_mul iX11_draw_14 ?_
  refine g_c iX11_draw_15 ?_
  refine g_add iX11_draw_18 ?_
  refine g_st iX11_draw_19 (ln_126 L) (by decide) (by decide) rfl ?_
  refine g_al iX11_draw_20 rfl ?_
  refine g_gr iX11_draw_21 fr_11_0_125 ?_
  refine g_c iX11_draw_24 ?_
  refine g_ld iX11_draw_25 (ln_126 L) (by decide) ?_
  refine g_c iX11_draw_26 ?_
  refine g_bit iX11_draw_28 ?_
  exact g_ri iX11_draw_29 (Or.inl rfl) H
set_option maxRecDepth 20000 in
set_option maxHeartbeats 4000000 in
theorem bX11_drawsPost (L d : Nat)  (σ : rx_St) (K : Int → rx_St → Prop)
    (H : rx_CI L d mX11_draw [.inr 125] σ (fun v2 σ1 => rx_CI L d mX11_draw [.inr 125] σ1 (fun v4 σ3 => if 8 ≤ (σ3 126 1) then (K 0 σ3) else (rx_CI L d mX11_postAt [.inr 125, .inl (Int.tmod v2 100), .inl (Int.tmod v4 100)] σ3 (fun v7 σ6 => if 0 ≤ v7 then (K 0 σ6) else (rx_CI L d mX11_comes [.inr 125, .inl (Int.tmod v2 100), .inl (Int.tmod v4 100)] σ6 (fun v10 σ9 => if v10 < 0 then (K 0 σ9) else (K 1 σ9)))))))) :
    rx_CI L (d + 1) mX11_drawsPost [.inr 125] σ K := by
  refine rx_CI.of (la := [some (.inr 125), none, none]) rfl ?_
  refine g_al iX11_drawsPost_0 rfl ?_
  refine g_ci (as := [.inr 125]) (rest := []) iX11_drawsPost_1 rfl rfl (Nat.le_of_ble_eq_true rfl) (Or.inr ⟨_, _, rfl, oo_11_125⟩) (rx_CI.imp H (fun v2 σ1 H => ?_))
  refine g_c iX11_drawsPost_4 ?_
  refine g_rem iX11_drawsPost_6 (by decide) ?_
  refine g_is iX11_drawsPost_7 (Nat.le_of_ble_eq_true rfl) ?_
  refine rx_Go.ls (la := [some (.inr 125), some (.inl (Int.tmod v2 100)), none]) rfl ?_
  refine g_al iX11_drawsPost_8 rfl ?_
  refine g_ci (as := [.inr 125]) (rest := []) iX11_drawsPost_9 rfl rfl (Nat.le_of_ble_eq_true rfl) (Or.inr ⟨_, _, rfl, oo_11_125⟩) (rx_CI.imp H (fun v4 σ3 H => ?_))
  refine g_c iX11_drawsPost_12 ?_
  refine g_rem iX11_drawsPost_14 (by decide) ?_
  refine g_is iX11_drawsPost_15 (Nat.le_of_ble_eq_true rfl) ?_
  refine rx_Go.ls (la := [some (.inr 125), some (.inl (Int.tmod v2 100)), some (.inl (Int.tmod v4 100))]) rfl ?_
  refine g_al iX11_drawsPost_16 rfl ?_
  refine g_gr iX11_drawsPost_17 fr_11_0_125 ?_
  refine g_c iX11_drawsPost_20 ?_
  refine g_ld iX11_drawsPost_21 (ln_126 L) (by decide) ?_
  refine g_c iX11_drawsPost_22 ?_
  by_cases c5 : 8 ≤ (σ3 126 1)
  · rw [if_pos c5] at H
    refine g_ic3t iX11_drawsPost_24 c5 ?_
    refine g_c iX11_drawsPost_49 ?_
    exact g_ri iX11_drawsPost_50 (Or.inl rfl) H
  · rw [if_neg c5] at H
    refine g_ic3f iX11_drawsPost_24 c5 ?_
    refine g_al iX11_drawsPost_27 rfl ?_
    refine g_il iX11_drawsPost_28 rfl ?_
    refine g_il iX11_drawsPost_29 rfl ?_
    refine g_ci (as := [.inr 125, .inl (Int.tmod v2 100), .inl (Int.tmod v4 100)]) (rest := []) iX11_drawsPost_30 rfl rfl (Nat.le_of_ble_eq_true rfl) (Or.inr ⟨_, _, rfl, oo_11_125⟩) (rx_CI.imp H (fun v7 σ6 H => ?_))
    by_cases c8 : 0 ≤ v7
    · rw [if_pos c8] at H
      refine g_if3t iX11_drawsPost_33 c8 ?_
      refine g_c iX11_drawsPost_49 ?_
      exact g_ri iX11_drawsPost_50 (Or.inl rfl) H
    · rw [if_neg c8] at H
      refine g_if3f iX11_drawsPost_33 c8 ?_
      refine g_al iX11_drawsPost_36 rfl ?_
      refine g_il iX11_drawsPost_37 rfl ?_
      refine g_il iX11_drawsPost_38 rfl ?_
      refine g_ci (as := [.inr 125, .inl (Int.tmod v2 100), .inl (Int.tmod v4 100)]) (rest := []) iX11_drawsPost_39 rfl rfl (Nat.le_of_ble_eq_true rfl) (Or.inr ⟨_, _, rfl, oo_11_125⟩) (rx_CI.imp H (fun v10 σ9 H => ?_))
      by_cases c11 : v10 < 0
      · rw [if_pos c11] at H
        refine g_if2t iX11_drawsPost_42 c11 ?_
        refine g_c iX11_drawsPost_49 ?_
        exact g_ri iX11_drawsPost_50 (Or.inl rfl) H
      · rw [if_neg c11] at H
        refine g_if2f iX11_drawsPost_42 c11 ?_
        refine g_c iX11_drawsPost_45 ?_
        refine g_goto iX11_drawsPost_46 ?_
        exact g_ri iX11_drawsPost_50 (Or.inl rfl) H
set_option maxRecDepth 20000 in
set_option maxHeartbeats 4000000 in
theorem bX11_drawsRoad (L d : Nat)  (σ : rx_St) (K : Int → rx_St → Prop)
    (H : rx_CI L d mX11_draw [.inr 125] σ (fun v2 σ1 => ¬ (σ1 126 1) = 0 ∧ (rx_CI L d mX11_draw [.inr 125] σ1 (fun v5 σ4 => ¬ (σ4 126 1) = 0 ∧ (if (Int.tmod v2 (σ1 126 1)) = (Int.tmod v5 (σ4 126 1)) then (K 0 σ4) else (rx_CI L d mX11_isBetween [.inr 125, .inl (Int.tmod v2 (σ1 126 1)), .inl (Int.tmod v5 (σ4 126 1))] σ4 (fun v9 σ8 => if v9 ≠ 0 then (K 0 σ8) else (if (σ8 126 2) ≠ 18 then (rx_CI L d mX11_draw [.inr 125] σ8 (fun v13 σ12 => rx_CI L d mX11_goes [.inr 125, .inl 0, .inl (Int.tmod v2 (σ1 126 1)), .inl (Int.tmod v5 (σ4 126 1)), .inl (rx_w (1 + (Int.tmod v13 9)))] σ12 (fun v15 σ14 => if v15 < 0 then (K 0 σ14) else (K 1 σ14)))) else (K 0 σ8))))))))) :
    rx_CI L (d + 1) mX11_drawsRoad [.inr 125] σ K := by
  refine rx_CI.of (la := [some (.inr 125), none, none]) rfl ?_
  refine g_al iX11_drawsRoad_0 rfl ?_
  refine g_ci (as := [.inr 125]) (rest := []) iX11_drawsRoad_1 rfl rfl (Nat.le_of_ble_eq_true rfl) (Or.inr ⟨_, _, rfl, oo_11_125⟩) (rx_CI.imp H (fun v2 σ1 H => ?_))
  refine g_al iX11_drawsRoad_4 rfl ?_
  refine g_gr iX11_drawsRoad_5 fr_11_0_125 ?_
  refine g_c iX11_drawsRoad_8 ?_
  refine g_ld iX11_drawsRoad_9 (ln_126 L) (by decide) ?_
  obtain ⟨o3, H⟩ := H
  refine g_rem iX11_drawsRoad_10 o3 ?_
  refine g_is iX11_drawsRoad_11 (Nat.le_of_ble_eq_true rfl) ?_
  refine rx_Go.ls (la := [some (.inr 125), some (.inl (Int.tmod v2 (σ1 126 1))), none]) rfl ?_
  refine g_al iX11_drawsRoad_12 rfl ?_
  refine g_ci (as := [.inr 125]) (rest := []) iX11_drawsRoad_13 rfl rfl (Nat.le_of_ble_eq_true rfl) (Or.inr ⟨_, _, rfl, oo_11_125⟩) (rx_CI.imp H (fun v5 σ4 H => ?_))
  refine g_al iX11_drawsRoad_16 rfl ?_
  refine g_gr iX11_drawsRoad_17 fr_11_0_125 ?_
  refine g_c iX11_drawsRoad_20 ?_
  refine g_ld iX11_drawsRoad_21 (ln_126 L) (by decide) ?_
  obtain ⟨o6, H⟩ := H
  refine g_rem iX11_drawsRoad_22 o6 ?_
  refine g_is iX11_drawsRoad_23 (Nat.le_of_ble_eq_true rfl) ?_
  refine rx_Go.ls (la := [some (.inr 125), some (.inl (Int.tmod v2 (σ1 126 1))), some (.inl (Int.tmod v5 (σ4 126 1)))]) rfl ?_
  refine g_il iX11_drawsRoad_24 rfl ?_
  refine g_il iX11_drawsRoad_25 rfl ?_
  by_cases c7 : (Int.tmod v2 (σ1 126 1)) = (Int.tmod v5 (σ4 126 1))
  · rw [if_pos c7] at H
    refine g_ic0t iX11_drawsRoad_26 c7 ?_
    refine g_c iX11_drawsRoad_49 ?_
    exact g_ri iX11_drawsRoad_50 (Or.inl rfl) H
  · rw [if_neg c7] at H
    refine g_ic0f iX11_drawsRoad_26 c7 ?_
    refine g_al iX11_drawsRoad_29 rfl ?_
    refine g_il iX11_drawsRoad_30 rfl ?_
    refine g_il iX11_drawsRoad_31 rfl ?_
    refine g_ci (as := [.inr 125, .inl (Int.tmod v2 (σ1 126 1)), .inl (Int.tmod v5 (σ4 126 1))]) (rest := []) iX11_drawsRoad_32 rfl rfl (Nat.le_of_ble_eq_true rfl) (Or.inr ⟨_, _, rfl, oo_11_125⟩) (rx_CI.imp H (fun v9 σ8 H => ?_))
    by_cases c10 : v9 ≠ 0
    · rw [if_pos c10] at H
      refine g_if1t iX11_drawsRoad_35 c10 ?_
      refine g_c iX11_drawsRoad_49 ?_
      exact g_ri iX11_drawsRoad_50 (Or.inl rfl) H
    · rw [if_neg c10] at H
      refine g_if1f iX11_drawsRoad_35 c10 ?_
      refine g_al iX11_drawsRoad_38 rfl ?_
      refine g_gr iX11_drawsRoad_39 fr_11_0_125 ?_
      refine g_c iX11_drawsRoad_42 ?_
      refine g_ld iX11_drawsRoad_43 (ln_126 L) (by decide) ?_
      refine g_c iX11_drawsRoad_44 ?_
      by_cases c11 : (σ8 126 2) ≠ 18
      · rw [if_pos c11] at H
        refine g_ic1t iX11_drawsRoad_46 c11 ?_
        refine g_al iX11_drawsRoad_51 rfl ?_
        refine g_c iX11_drawsRoad_52 ?_
        refine g_il iX11_drawsRoad_53 rfl ?_
        refine g_il iX11_drawsRoad_54 rfl ?_
        refine g_c iX11_drawsRoad_55 ?_
        refine g_al iX11_drawsRoad_56 rfl ?_
        refine g_ci (as := [.inr 125]) (rest := [.inl 1, .inl (Int.tmod v5 (σ4 126 1)), .inl (Int.tmod v2 (σ1 126 1)), .inl 0, .inr 125]) iX11_drawsRoad_57 rfl rfl (Nat.le_of_ble_eq_true rfl) (Or.inr ⟨_, _, rfl, oo_11_125⟩) (rx_CI.imp H (fun v13 σ12 H => ?_))
        refine g_c iX11_drawsRoad_60 ?_
        refine g_rem iX11_drawsRoad_62 (by decide) ?_
        refine g_add iX11_drawsRoad_63 ?_
        refine g_ci (as := [.inr 125, .inl 0, .inl (Int.tmod v2 (σ1 126 1)), .inl (Int.tmod v5 (σ4 126 1)), .inl (rx_w (1 + (Int.tmod v13 9)))]) (rest := []) iX11_drawsRoad_64 rfl rfl (Nat.le_of_ble_eq_true rfl) (Or.inr ⟨_, _, rfl, oo_11_125⟩) (rx_CI.imp H (fun v15 σ14 H => ?_))
        by_cases c16 : v15 < 0
        · rw [if_pos c16] at H
          refine g_if2t iX11_drawsRoad_67 c16 ?_
          refine g_c iX11_drawsRoad_74 ?_
          exact g_ri iX11_drawsRoad_75 (Or.inl rfl) H
        · rw [if_neg c16] at H
          refine g_if2f iX11_drawsRoad_67 c16 ?_
          refine g_c iX11_drawsRoad_70 ?_
          refine g_goto iX11_drawsRoad_71 ?_
          exact g_ri iX11_drawsRoad_75 (Or.inl rfl) H
      · rw [if_neg c11] at H
        refine g_ic1f iX11_drawsRoad_46 c11 ?_
        refine g_c iX11_drawsRoad_49 ?_
        exact g_ri iX11_drawsRoad_50 (Or.inl rfl) H
