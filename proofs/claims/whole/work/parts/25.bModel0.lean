theorem tbX11_in : rx_tab.getD mX11_in [] = rt_X11_in := rfl
theorem ndX11_in : rx_inc rt_X11_in = true := by decide +kernel
theorem tbX11_isRoad : rx_tab.getD mX11_isRoad [] = rt_X11_isRoad := rfl
theorem ndX11_isRoad : rx_inc rt_X11_isRoad = true := by decide +kernel
theorem tbX11_comes : rx_tab.getD mX11_comes [] = rt_X11_comes := rfl
theorem ndX11_comes : rx_inc rt_X11_comes = true := by decide +kernel
theorem tbX11_isUnder : rx_tab.getD mX11_isUnder [] = rt_X11_isUnder := rfl
theorem ndX11_isUnder : rx_inc rt_X11_isUnder = true := by decide +kernel
theorem tbX11_isBetween : rx_tab.getD mX11_isBetween [] = rt_X11_isBetween := rfl
theorem ndX11_isBetween : rx_inc rt_X11_isBetween = true := by decide +kernel
theorem tbX11_road : rx_tab.getD mX11_road [] = rt_X11_road := rfl
theorem ndX11_road : rx_inc rt_X11_road = true := by decide +kernel
theorem tbX11_copyAll : rx_tab.getD mX11_copyAll [] = rt_X11_copyAll := rfl
theorem ndX11_copyAll : rx_inc rt_X11_copyAll = true := by decide +kernel
theorem tbX11_of : rx_tab.getD mX11_of [] = rt_X11_of := rfl
theorem ndX11_of : rx_inc rt_X11_of = true := by decide +kernel
theorem tbX11_goes : rx_tab.getD mX11_goes [] = rt_X11_goes := rfl
theorem ndX11_goes : rx_inc rt_X11_goes = true := by decide +kernel
theorem tbX11_doCross : rx_tab.getD mX11_doCross [] = rt_X11_doCross := rfl
theorem ndX11_doCross : rx_inc rt_X11_doCross = true := by decide +kernel
theorem tbX11_drop : rx_tab.getD mX11_drop [] = rt_X11_drop := rfl
theorem ndX11_drop : rx_inc rt_X11_drop = true := by decide +kernel
theorem tbX11_side : rx_tab.getD mX11_side [] = rt_X11_side := rfl
theorem ndX11_side : rx_inc rt_X11_side = true := by decide +kernel
theorem tbX11_postTold : rx_tab.getD mX11_postTold [] = rt_X11_postTold := rfl
theorem ndX11_postTold : rx_inc rt_X11_postTold = true := by decide +kernel
theorem tbX11_harmOf : rx_tab.getD mX11_harmOf [] = rt_X11_harmOf := rfl
theorem ndX11_harmOf : rx_inc rt_X11_harmOf = true := by decide +kernel
theorem tbX11_becomes : rx_tab.getD mX11_becomes [] = rt_X11_becomes := rfl
theorem ndX11_becomes : rx_inc rt_X11_becomes = true := by decide +kernel
theorem tbX11_xOf : rx_tab.getD mX11_xOf [] = rt_X11_xOf := rfl
theorem ndX11_xOf : rx_inc rt_X11_xOf = true := by decide +kernel
theorem tbX11_areApart : rx_tab.getD mX11_areApart [] = rt_X11_areApart := rfl
theorem ndX11_areApart : rx_inc rt_X11_areApart = true := by decide +kernel
theorem tbX11_yOf : rx_tab.getD mX11_yOf [] = rt_X11_yOf := rfl
theorem ndX11_yOf : rx_inc rt_X11_yOf = true := by decide +kernel
theorem tbX11_turns : rx_tab.getD mX11_turns [] = rt_X11_turns := rfl
theorem ndX11_turns : rx_inc rt_X11_turns = true := by decide +kernel
theorem tbX11_greater : rx_tab.getD mX11_greater [] = rt_X11_greater := rfl
theorem ndX11_greater : rx_inc rt_X11_greater = true := by decide +kernel
theorem tbX11_placeOf : rx_tab.getD mX11_placeOf [] = rt_X11_placeOf := rfl
theorem ndX11_placeOf : rx_inc rt_X11_placeOf = true := by decide +kernel
theorem tbX11_told : rx_tab.getD mX11_told [] = rt_X11_told := rfl
theorem ndX11_told : rx_inc rt_X11_told = true := by decide +kernel
theorem tbX11_isPlace : rx_tab.getD mX11_isPlace [] = rt_X11_isPlace := rfl
theorem ndX11_isPlace : rx_inc rt_X11_isPlace = true := by decide +kernel
theorem tbX11_layerOf : rx_tab.getD mX11_layerOf [] = rt_X11_layerOf := rfl
theorem ndX11_layerOf : rx_inc rt_X11_layerOf = true := by decide +kernel
theorem tbX11_layer : rx_tab.getD mX11_layer [] = rt_X11_layer := rfl
theorem ndX11_layer : rx_inc rt_X11_layer = true := by decide +kernel
theorem tbX11_set : rx_tab.getD mX11_set [] = rt_X11_set := rfl
theorem ndX11_set : rx_inc rt_X11_set = true := by decide +kernel
theorem tbX11_sideOf : rx_tab.getD mX11_sideOf [] = rt_X11_sideOf := rfl
theorem ndX11_sideOf : rx_inc rt_X11_sideOf = true := by decide +kernel
theorem tbX11_postAt : rx_tab.getD mX11_postAt [] = rt_X11_postAt := rfl
theorem ndX11_postAt : rx_inc rt_X11_postAt = true := by decide +kernel
theorem tbX11_as : rx_tab.getD mX11_as [] = rt_X11_as := rfl
theorem ndX11_as : rx_inc rt_X11_as = true := by decide +kernel
theorem tbX11_findPairs : rx_tab.getD mX11_findPairs [] = rt_X11_findPairs := rfl
theorem ndX11_findPairs : rx_inc rt_X11_findPairs = true := by decide +kernel
theorem tbX11_move : rx_tab.getD mX11_move [] = rt_X11_move := rfl
theorem ndX11_move : rx_inc rt_X11_move = true := by decide +kernel
theorem tbX11_lesser : rx_tab.getD mX11_lesser [] = rt_X11_lesser := rfl
theorem ndX11_lesser : rx_inc rt_X11_lesser = true := by decide +kernel
theorem tbX11_isFrom : rx_tab.getD mX11_isFrom [] = rt_X11_isFrom := rfl
theorem ndX11_isFrom : rx_inc rt_X11_isFrom = true := by decide +kernel
theorem tbX11_isOn : rx_tab.getD mX11_isOn [] = rt_X11_isOn := rfl
theorem ndX11_isOn : rx_inc rt_X11_isOn = true := by decide +kernel
theorem tbX11_within : rx_tab.getD mX11_within [] = rt_X11_within := rfl
theorem ndX11_within : rx_inc rt_X11_within = true := by decide +kernel
theorem tbX11_worthBy : rx_tab.getD mX11_worthBy [] = rt_X11_worthBy := rfl
theorem ndX11_worthBy : rx_inc rt_X11_worthBy = true := by decide +kernel
theorem tbX11_post : rx_tab.getD mX11_post [] = rt_X11_post := rfl
theorem ndX11_post : rx_inc rt_X11_post = true := by decide +kernel
theorem tbX11_isPost : rx_tab.getD mX11_isPost [] = rt_X11_isPost := rfl
theorem ndX11_isPost : rx_inc rt_X11_isPost = true := by decide +kernel
theorem iX11_in_0 : rx_ins mX11_in 0 = some (2, 1, 0, 0, 0, []) := rx_at tbX11_in ndX11_in (j := 0) rfl
theorem iX11_in_1 : rx_ins mX11_in 1 = some (2, 2, 0, 1, 0, []) := rx_at tbX11_in ndX11_in (j := 1) rfl
theorem iX11_in_2 : rx_ins mX11_in 2 = some (14, 5, 12, 2, 14, []) := rx_at tbX11_in ndX11_in (j := 2) rfl
theorem iX11_in_14 : rx_ins mX11_in 14 = some (1, 15, 0, 0, 0, []) := rx_at tbX11_in ndX11_in (j := 8) rfl
theorem iX11_in_15 : rx_ins mX11_in 15 = some (29, 16, 1, 0, 0, []) := rx_at tbX11_in ndX11_in (j := 9) rfl
theorem iX11_in_5 : rx_ins mX11_in 5 = some (2, 6, 0, 0, 0, []) := rx_at tbX11_in ndX11_in (j := 3) rfl
theorem iX11_in_6 : rx_ins mX11_in 6 = some (2, 7, 0, 2, 0, []) := rx_at tbX11_in ndX11_in (j := 4) rfl
theorem iX11_in_7 : rx_ins mX11_in 7 = some (14, 10, 7, 4, 14, []) := rx_at tbX11_in ndX11_in (j := 5) rfl
theorem iX11_in_10 : rx_ins mX11_in 10 = some (1, 11, 1, 0, 0, []) := rx_at tbX11_in ndX11_in (j := 6) rfl
theorem iX11_in_11 : rx_ins mX11_in 11 = some (15, 14, 4, 0, 15, []) := rx_at tbX11_in ndX11_in (j := 7) rfl
theorem iX11_within_0 : rx_ins mX11_within 0 = some (2, 1, 0, 0, 0, []) := rx_at tbX11_within ndX11_within (j := 0) rfl
theorem iX11_within_1 : rx_ins mX11_within 1 = some (2, 2, 0, 1, 0, []) := rx_at tbX11_within ndX11_within (j := 1) rfl
theorem iX11_within_2 : rx_ins mX11_within 2 = some (14, 5, 7, 3, 9, []) := rx_at tbX11_within ndX11_within (j := 2) rfl
theorem iX11_within_9 : rx_ins mX11_within 9 = some (2, 10, 0, 0, 0, []) := rx_at tbX11_within ndX11_within (j := 5) rfl
theorem iX11_within_10 : rx_ins mX11_within 10 = some (2, 11, 0, 2, 0, []) := rx_at tbX11_within ndX11_within (j := 6) rfl
theorem iX11_within_11 : rx_ins mX11_within 11 = some (14, 14, 7, 5, 18, []) := rx_at tbX11_within ndX11_within (j := 7) rfl
theorem iX11_within_18 : rx_ins mX11_within 18 = some (2, 19, 0, 0, 0, []) := rx_at tbX11_within ndX11_within (j := 10) rfl
theorem iX11_within_19 : rx_ins mX11_within 19 = some (29, 20, 0, 0, 0, []) := rx_at tbX11_within ndX11_within (j := 11) rfl
theorem iX11_within_14 : rx_ins mX11_within 14 = some (2, 15, 0, 2, 0, []) := rx_at tbX11_within ndX11_within (j := 8) rfl
theorem iX11_within_15 : rx_ins mX11_within 15 = some (15, 18, 4, 0, 19, []) := rx_at tbX11_within ndX11_within (j := 9) rfl
theorem iX11_within_5 : rx_ins mX11_within 5 = some (2, 6, 0, 1, 0, []) := rx_at tbX11_within ndX11_within (j := 3) rfl
theorem iX11_within_6 : rx_ins mX11_within 6 = some (15, 9, 13, 0, 19, []) := rx_at tbX11_within ndX11_within (j := 4) rfl
theorem iX11_copyAll_0 : rx_ins mX11_copyAll 0 = some (1, 1, 0, 0, 0, []) := rx_at tbX11_copyAll ndX11_copyAll (j := 0) rfl
theorem iX11_copyAll_1 : rx_ins mX11_copyAll 1 = some (4, 2, 0, 2, 0, []) := rx_at tbX11_copyAll ndX11_copyAll (j := 1) rfl
theorem iX11_copyAll_2 : rx_ins mX11_copyAll 2 = some (2, 3, 0, 2, 0, []) := rx_at tbX11_copyAll ndX11_copyAll (j := 2) rfl
theorem iX11_copyAll_3 : rx_ins mX11_copyAll 3 = some (1, 6, 1498, 2, 0, []) := rx_at tbX11_copyAll ndX11_copyAll (j := 3) rfl
theorem iX11_copyAll_6 : rx_ins mX11_copyAll 6 = some (14, 9, 15, 3, 21, []) := rx_at tbX11_copyAll ndX11_copyAll (j := 4) rfl
theorem iX11_copyAll_21 : rx_ins mX11_copyAll 21 = some (30, 22, 0, 0, 0, []) := rx_at tbX11_copyAll ndX11_copyAll (j := 13) rfl
theorem iX11_copyAll_9 : rx_ins mX11_copyAll 9 = some (3, 10, 0, 1, 0, []) := rx_at tbX11_copyAll ndX11_copyAll (j := 5) rfl
theorem iX11_copyAll_10 : rx_ins mX11_copyAll 10 = some (2, 11, 0, 2, 0, []) := rx_at tbX11_copyAll ndX11_copyAll (j := 6) rfl
theorem iX11_copyAll_11 : rx_ins mX11_copyAll 11 = some (3, 12, 0, 0, 0, []) := rx_at tbX11_copyAll ndX11_copyAll (j := 7) rfl
theorem iX11_copyAll_12 : rx_ins mX11_copyAll 12 = some (2, 13, 0, 2, 0, []) := rx_at tbX11_copyAll ndX11_copyAll (j := 8) rfl
theorem iX11_copyAll_13 : rx_ins mX11_copyAll 13 = some (20, 14, 0, 0, 0, []) := rx_at tbX11_copyAll ndX11_copyAll (j := 9) rfl
theorem iX11_copyAll_14 : rx_ins mX11_copyAll 14 = some (21, 15, 0, 0, 0, []) := rx_at tbX11_copyAll ndX11_copyAll (j := 10) rfl
theorem iX11_copyAll_15 : rx_ins mX11_copyAll 15 = some (6, 18, 1, 2, 0, []) := rx_at tbX11_copyAll ndX11_copyAll (j := 11) rfl
theorem iX11_copyAll_18 : rx_ins mX11_copyAll 18 = some (15, 21, (-16), 0, 2, []) := rx_at tbX11_copyAll ndX11_copyAll (j := 12) rfl
theorem iX11_isPost_0 : rx_ins mX11_isPost 0 = some (2, 1, 0, 1, 0, []) := rx_at tbX11_isPost ndX11_isPost (j := 0) rfl
theorem iX11_isPost_1 : rx_ins mX11_isPost 1 = some (1, 2, 0, 0, 0, []) := rx_at tbX11_isPost ndX11_isPost (j := 1) rfl
theorem iX11_isPost_2 : rx_ins mX11_isPost 2 = some (3, 3, 0, 0, 0, []) := rx_at tbX11_isPost ndX11_isPost (j := 2) rfl
theorem iX11_isPost_3 : rx_ins mX11_isPost 3 = some (18, 6, 0, 11, 0, [(9, 124)]) := rx_at tbX11_isPost ndX11_isPost (j := 3) rfl
theorem iX11_isPost_6 : rx_ins mX11_isPost 6 = some (1, 7, 1, 0, 0, []) := rx_at tbX11_isPost ndX11_isPost (j := 4) rfl
theorem iX11_isPost_7 : rx_ins mX11_isPost 7 = some (20, 8, 0, 0, 0, []) := rx_at tbX11_isPost ndX11_isPost (j := 5) rfl
theorem iX11_isPost_8 : rx_ins mX11_isPost 8 = some (1, 9, 1, 0, 0, []) := rx_at tbX11_isPost ndX11_isPost (j := 6) rfl
theorem iX11_isPost_9 : rx_ins mX11_isPost 9 = some (7, 10, 0, 1, 0, []) := rx_at tbX11_isPost ndX11_isPost (j := 7) rfl
theorem iX11_isPost_10 : rx_ins mX11_isPost 10 = some (28, 13, 0, 133, 3, [(111, 198)]) := rx_at tbX11_isPost ndX11_isPost (j := 8) rfl
theorem iX11_isPost_13 : rx_ins mX11_isPost 13 = some (29, 14, 1, 0, 0, []) := rx_at tbX11_isPost ndX11_isPost (j := 9) rfl
theorem iX11_isRoad_0 : rx_ins mX11_isRoad 0 = some (2, 1, 0, 1, 0, []) := rx_at tbX11_isRoad ndX11_isRoad (j := 0) rfl
theorem iX11_isRoad_1 : rx_ins mX11_isRoad 1 = some (1, 2, 0, 0, 0, []) := rx_at tbX11_isRoad ndX11_isRoad (j := 1) rfl
theorem iX11_isRoad_2 : rx_ins mX11_isRoad 2 = some (3, 3, 0, 0, 0, []) := rx_at tbX11_isRoad ndX11_isRoad (j := 2) rfl
theorem iX11_isRoad_3 : rx_ins mX11_isRoad 3 = some (18, 6, 0, 11, 0, [(9, 124)]) := rx_at tbX11_isRoad ndX11_isRoad (j := 3) rfl
theorem iX11_isRoad_6 : rx_ins mX11_isRoad 6 = some (1, 7, 2, 0, 0, []) := rx_at tbX11_isRoad ndX11_isRoad (j := 4) rfl
theorem iX11_isRoad_7 : rx_ins mX11_isRoad 7 = some (20, 8, 0, 0, 0, []) := rx_at tbX11_isRoad ndX11_isRoad (j := 5) rfl
theorem iX11_isRoad_8 : rx_ins mX11_isRoad 8 = some (1, 9, 1, 0, 0, []) := rx_at tbX11_isRoad ndX11_isRoad (j := 6) rfl
theorem iX11_isRoad_9 : rx_ins mX11_isRoad 9 = some (7, 10, 0, 1, 0, []) := rx_at tbX11_isRoad ndX11_isRoad (j := 7) rfl
theorem iX11_isRoad_10 : rx_ins mX11_isRoad 10 = some (28, 13, 0, 133, 3, [(111, 198)]) := rx_at tbX11_isRoad ndX11_isRoad (j := 8) rfl
theorem iX11_isRoad_13 : rx_ins mX11_isRoad 13 = some (29, 14, 1, 0, 0, []) := rx_at tbX11_isRoad ndX11_isRoad (j := 9) rfl
theorem iX11_xOf_0 : rx_ins mX11_xOf 0 = some (3, 1, 0, 0, 0, []) := rx_at tbX11_xOf ndX11_xOf (j := 0) rfl
theorem iX11_xOf_1 : rx_ins mX11_xOf 1 = some (18, 4, 0, 11, 0, [(9, 124)]) := rx_at tbX11_xOf ndX11_xOf (j := 1) rfl
theorem iX11_xOf_4 : rx_ins mX11_xOf 4 = some (1, 5, 4, 0, 0, []) := rx_at tbX11_xOf ndX11_xOf (j := 2) rfl
theorem iX11_xOf_5 : rx_ins mX11_xOf 5 = some (1, 6, 3, 0, 0, []) := rx_at tbX11_xOf ndX11_xOf (j := 3) rfl
theorem iX11_xOf_6 : rx_ins mX11_xOf 6 = some (2, 7, 0, 1, 0, []) := rx_at tbX11_xOf ndX11_xOf (j := 4) rfl
theorem iX11_xOf_7 : rx_ins mX11_xOf 7 = some (7, 8, 0, 2, 0, []) := rx_at tbX11_xOf ndX11_xOf (j := 5) rfl
theorem iX11_xOf_8 : rx_ins mX11_xOf 8 = some (7, 9, 0, 0, 0, []) := rx_at tbX11_xOf ndX11_xOf (j := 6) rfl
theorem iX11_xOf_9 : rx_ins mX11_xOf 9 = some (20, 10, 0, 0, 0, []) := rx_at tbX11_xOf ndX11_xOf (j := 7) rfl
theorem iX11_xOf_10 : rx_ins mX11_xOf 10 = some (29, 11, 0, 0, 0, []) := rx_at tbX11_xOf ndX11_xOf (j := 8) rfl
theorem iX11_yOf_0 : rx_ins mX11_yOf 0 = some (3, 1, 0, 0, 0, []) := rx_at tbX11_yOf ndX11_yOf (j := 0) rfl
theorem iX11_yOf_1 : rx_ins mX11_yOf 1 = some (18, 4, 0, 11, 0, [(9, 124)]) := rx_at tbX11_yOf ndX11_yOf (j := 1) rfl
theorem iX11_yOf_4 : rx_ins mX11_yOf 4 = some (1, 5, 4, 0, 0, []) := rx_at tbX11_yOf ndX11_yOf (j := 2) rfl
theorem iX11_yOf_5 : rx_ins mX11_yOf 5 = some (1, 6, 3, 0, 0, []) := rx_at tbX11_yOf ndX11_yOf (j := 3) rfl
theorem iX11_yOf_6 : rx_ins mX11_yOf 6 = some (2, 7, 0, 1, 0, []) := rx_at tbX11_yOf ndX11_yOf (j := 4) rfl
theorem iX11_yOf_7 : rx_ins mX11_yOf 7 = some (7, 8, 0, 2, 0, []) := rx_at tbX11_yOf ndX11_yOf (j := 5) rfl
theorem iX11_yOf_8 : rx_ins mX11_yOf 8 = some (7, 9, 0, 0, 0, []) := rx_at tbX11_yOf ndX11_yOf (j := 6) rfl
theorem iX11_yOf_9 : rx_ins mX11_yOf 9 = some (1, 10, 1, 0, 0, []) := rx_at tbX11_yOf ndX11_yOf (j := 7) rfl
theorem iX11_yOf_10 : rx_ins mX11_yOf 10 = some (7, 11, 0, 0, 0, []) := rx_at tbX11_yOf ndX11_yOf (j := 8) rfl
theorem iX11_yOf_11 : rx_ins mX11_yOf 11 = some (20, 12, 0, 0, 0, []) := rx_at tbX11_yOf ndX11_yOf (j := 9) rfl
theorem iX11_yOf_12 : rx_ins mX11_yOf 12 = some (29, 13, 0, 0, 0, []) := rx_at tbX11_yOf ndX11_yOf (j := 10) rfl
theorem iX11_layerOf_0 : rx_ins mX11_layerOf 0 = some (3, 1, 0, 0, 0, []) := rx_at tbX11_layerOf ndX11_layerOf (j := 0) rfl
theorem iX11_layerOf_1 : rx_ins mX11_layerOf 1 = some (18, 4, 0, 11, 0, [(9, 124)]) := rx_at tbX11_layerOf ndX11_layerOf (j := 1) rfl
theorem iX11_layerOf_4 : rx_ins mX11_layerOf 4 = some (1, 5, 4, 0, 0, []) := rx_at tbX11_layerOf ndX11_layerOf (j := 2) rfl
theorem iX11_layerOf_5 : rx_ins mX11_layerOf 5 = some (1, 6, 3, 0, 0, []) := rx_at tbX11_layerOf ndX11_layerOf (j := 3) rfl
theorem iX11_layerOf_6 : rx_ins mX11_layerOf 6 = some (2, 7, 0, 1, 0, []) := rx_at tbX11_layerOf ndX11_layerOf (j := 4) rfl
theorem iX11_layerOf_7 : rx_ins mX11_layerOf 7 = some (7, 8, 0, 2, 0, []) := rx_at tbX11_layerOf ndX11_layerOf (j := 5) rfl
theorem iX11_layerOf_8 : rx_ins mX11_layerOf 8 = some (7, 9, 0, 0, 0, []) := rx_at tbX11_layerOf ndX11_layerOf (j := 6) rfl
theorem iX11_layerOf_9 : rx_ins mX11_layerOf 9 = some (1, 10, 2, 0, 0, []) := rx_at tbX11_layerOf ndX11_layerOf (j := 7) rfl
theorem iX11_layerOf_10 : rx_ins mX11_layerOf 10 = some (7, 11, 0, 0, 0, []) := rx_at tbX11_layerOf ndX11_layerOf (j := 8) rfl
theorem iX11_layerOf_11 : rx_ins mX11_layerOf 11 = some (20, 12, 0, 0, 0, []) := rx_at tbX11_layerOf ndX11_layerOf (j := 9) rfl
theorem iX11_layerOf_12 : rx_ins mX11_layerOf 12 = some (29, 13, 0, 0, 0, []) := rx_at tbX11_layerOf ndX11_layerOf (j := 10) rfl
theorem iX11_of_0 : rx_ins mX11_of 0 = some (3, 1, 0, 0, 0, []) := rx_at tbX11_of ndX11_of (j := 0) rfl
theorem iX11_of_1 : rx_ins mX11_of 1 = some (18, 4, 0, 11, 0, [(9, 124)]) := rx_at tbX11_of ndX11_of (j := 1) rfl
theorem iX11_of_4 : rx_ins mX11_of 4 = some (1, 6, 36, 1, 0, []) := rx_at tbX11_of ndX11_of (j := 2) rfl
theorem iX11_of_6 : rx_ins mX11_of 6 = some (1, 7, 5, 0, 0, []) := rx_at tbX11_of ndX11_of (j := 3) rfl
theorem iX11_of_7 : rx_ins mX11_of 7 = some (2, 8, 0, 1, 0, []) := rx_at tbX11_of ndX11_of (j := 4) rfl
theorem iX11_of_8 : rx_ins mX11_of 8 = some (7, 9, 0, 2, 0, []) := rx_at tbX11_of ndX11_of (j := 5) rfl
theorem iX11_of_9 : rx_ins mX11_of 9 = some (7, 10, 0, 0, 0, []) := rx_at tbX11_of ndX11_of (j := 6) rfl
theorem iX11_of_10 : rx_ins mX11_of 10 = some (2, 11, 0, 2, 0, []) := rx_at tbX11_of ndX11_of (j := 7) rfl
theorem iX11_of_11 : rx_ins mX11_of 11 = some (7, 12, 0, 0, 0, []) := rx_at tbX11_of ndX11_of (j := 8) rfl
theorem iX11_of_12 : rx_ins mX11_of 12 = some (20, 13, 0, 0, 0, []) := rx_at tbX11_of ndX11_of (j := 9) rfl
theorem iX11_of_13 : rx_ins mX11_of 13 = some (29, 14, 0, 0, 0, []) := rx_at tbX11_of ndX11_of (j := 10) rfl
theorem iX11_lesser_0 : rx_ins mX11_lesser 0 = some (3, 1, 0, 0, 0, []) := rx_at tbX11_lesser ndX11_lesser (j := 0) rfl
theorem iX11_lesser_1 : rx_ins mX11_lesser 1 = some (2, 2, 0, 1, 0, []) := rx_at tbX11_lesser ndX11_lesser (j := 1) rfl
theorem iX11_lesser_2 : rx_ins mX11_lesser 2 = some (1, 3, 1, 0, 0, []) := rx_at tbX11_lesser ndX11_lesser (j := 2) rfl
theorem iX11_lesser_3 : rx_ins mX11_lesser 3 = some (28, 6, 13, 141, 3, [(115, 199)]) := rx_at tbX11_lesser ndX11_lesser (j := 3) rfl
theorem iX11_lesser_6 : rx_ins mX11_lesser 6 = some (29, 7, 0, 0, 0, []) := rx_at tbX11_lesser ndX11_lesser (j := 4) rfl
theorem iX11_greater_0 : rx_ins mX11_greater 0 = some (3, 1, 0, 0, 0, []) := rx_at tbX11_greater ndX11_greater (j := 0) rfl
theorem iX11_greater_1 : rx_ins mX11_greater 1 = some (2, 2, 0, 1, 0, []) := rx_at tbX11_greater ndX11_greater (j := 1) rfl
theorem iX11_greater_2 : rx_ins mX11_greater 2 = some (1, 3, 2, 0, 0, []) := rx_at tbX11_greater ndX11_greater (j := 2) rfl
theorem iX11_greater_3 : rx_ins mX11_greater 3 = some (28, 6, 13, 141, 3, [(115, 199)]) := rx_at tbX11_greater ndX11_greater (j := 3) rfl
theorem iX11_greater_6 : rx_ins mX11_greater 6 = some (29, 7, 0, 0, 0, []) := rx_at tbX11_greater ndX11_greater (j := 4) rfl
theorem iX11_postAt_0 : rx_ins mX11_postAt 0 = some (1, 1, 0, 0, 0, []) := rx_at tbX11_postAt ndX11_postAt (j := 0) rfl
theorem iX11_postAt_1 : rx_ins mX11_postAt 1 = some (4, 2, 0, 3, 0, []) := rx_at tbX11_postAt ndX11_postAt (j := 1) rfl
theorem iX11_postAt_2 : rx_ins mX11_postAt 2 = some (2, 3, 0, 3, 0, []) := rx_at tbX11_postAt ndX11_postAt (j := 2) rfl
theorem iX11_postAt_3 : rx_ins mX11_postAt 3 = some (3, 4, 0, 0, 0, []) := rx_at tbX11_postAt ndX11_postAt (j := 3) rfl
theorem iX11_postAt_4 : rx_ins mX11_postAt 4 = some (18, 7, 0, 11, 0, [(9, 124)]) := rx_at tbX11_postAt ndX11_postAt (j := 4) rfl
theorem iX11_postAt_7 : rx_ins mX11_postAt 7 = some (1, 8, 1, 0, 0, []) := rx_at tbX11_postAt ndX11_postAt (j := 5) rfl
theorem iX11_postAt_8 : rx_ins mX11_postAt 8 = some (20, 9, 0, 0, 0, []) := rx_at tbX11_postAt ndX11_postAt (j := 6) rfl
theorem iX11_postAt_9 : rx_ins mX11_postAt 9 = some (14, 12, 29, 3, 38, []) := rx_at tbX11_postAt ndX11_postAt (j := 7) rfl
theorem iX11_postAt_38 : rx_ins mX11_postAt 38 = some (1, 39, (-1), 0, 0, []) := rx_at tbX11_postAt ndX11_postAt (j := 22) rfl
theorem iX11_postAt_39 : rx_ins mX11_postAt 39 = some (29, 40, 0, 0, 0, []) := rx_at tbX11_postAt ndX11_postAt (j := 23) rfl
theorem iX11_postAt_12 : rx_ins mX11_postAt 12 = some (3, 13, 0, 0, 0, []) := rx_at tbX11_postAt ndX11_postAt (j := 8) rfl
theorem iX11_postAt_13 : rx_ins mX11_postAt 13 = some (2, 14, 0, 3, 0, []) := rx_at tbX11_postAt ndX11_postAt (j := 9) rfl
theorem iX11_postAt_14 : rx_ins mX11_postAt 14 = some (28, 17, 13, 138, 2, [(119, 200)]) := rx_at tbX11_postAt ndX11_postAt (j := 10) rfl
theorem iX11_postAt_17 : rx_ins mX11_postAt 17 = some (2, 18, 0, 1, 0, []) := rx_at tbX11_postAt ndX11_postAt (j := 11) rfl
theorem iX11_postAt_18 : rx_ins mX11_postAt 18 = some (14, 21, 14, 1, 32, []) := rx_at tbX11_postAt ndX11_postAt (j := 12) rfl
theorem iX11_postAt_32 : rx_ins mX11_postAt 32 = some (6, 35, 1, 3, 0, []) := rx_at tbX11_postAt ndX11_postAt (j := 20) rfl
theorem iX11_postAt_35 : rx_ins mX11_postAt 35 = some (15, 38, (-33), 0, 2, []) := rx_at tbX11_postAt ndX11_postAt (j := 21) rfl
theorem iX11_postAt_21 : rx_ins mX11_postAt 21 = some (3, 22, 0, 0, 0, []) := rx_at tbX11_postAt ndX11_postAt (j := 13) rfl
theorem iX11_postAt_22 : rx_ins mX11_postAt 22 = some (2, 23, 0, 3, 0, []) := rx_at tbX11_postAt ndX11_postAt (j := 14) rfl
theorem iX11_postAt_23 : rx_ins mX11_postAt 23 = some (28, 26, 13, 139, 2, [(123, 201)]) := rx_at tbX11_postAt ndX11_postAt (j := 15) rfl
theorem iX11_postAt_26 : rx_ins mX11_postAt 26 = some (2, 27, 0, 2, 0, []) := rx_at tbX11_postAt ndX11_postAt (j := 16) rfl
theorem iX11_postAt_27 : rx_ins mX11_postAt 27 = some (14, 30, 5, 1, 32, []) := rx_at tbX11_postAt ndX11_postAt (j := 17) rfl
theorem iX11_postAt_30 : rx_ins mX11_postAt 30 = some (2, 31, 0, 3, 0, []) := rx_at tbX11_postAt ndX11_postAt (j := 18) rfl
theorem iX11_postAt_31 : rx_ins mX11_postAt 31 = some (29, 32, 0, 0, 0, []) := rx_at tbX11_postAt ndX11_postAt (j := 19) rfl
theorem iX11_isPlace_0 : rx_ins mX11_isPlace 0 = some (2, 1, 0, 0, 0, []) := rx_at tbX11_isPlace ndX11_isPlace (j := 0) rfl
theorem iX11_isPlace_1 : rx_ins mX11_isPlace 1 = some (1, 2, 0, 0, 0, []) := rx_at tbX11_isPlace ndX11_isPlace (j := 1) rfl
theorem iX11_isPlace_2 : rx_ins mX11_isPlace 2 = some (1, 4, 99, 1, 0, []) := rx_at tbX11_isPlace ndX11_isPlace (j := 2) rfl
theorem iX11_isPlace_4 : rx_ins mX11_isPlace 4 = some (28, 7, 0, 133, 3, [(111, 198)]) := rx_at tbX11_isPlace ndX11_isPlace (j := 3) rfl
theorem iX11_isPlace_7 : rx_ins mX11_isPlace 7 = some (13, 10, 17, 0, 24, []) := rx_at tbX11_isPlace ndX11_isPlace (j := 4) rfl
theorem iX11_isPlace_24 : rx_ins mX11_isPlace 24 = some (1, 25, 0, 0, 0, []) := rx_at tbX11_isPlace ndX11_isPlace (j := 12) rfl
theorem iX11_isPlace_25 : rx_ins mX11_isPlace 25 = some (29, 26, 1, 0, 0, []) := rx_at tbX11_isPlace ndX11_isPlace (j := 13) rfl
theorem iX11_isPlace_10 : rx_ins mX11_isPlace 10 = some (2, 11, 0, 1, 0, []) := rx_at tbX11_isPlace ndX11_isPlace (j := 5) rfl
theorem iX11_isPlace_11 : rx_ins mX11_isPlace 11 = some (1, 12, 0, 0, 0, []) := rx_at tbX11_isPlace ndX11_isPlace (j := 6) rfl
theorem iX11_isPlace_12 : rx_ins mX11_isPlace 12 = some (1, 14, 99, 1, 0, []) := rx_at tbX11_isPlace ndX11_isPlace (j := 7) rfl
theorem iX11_isPlace_14 : rx_ins mX11_isPlace 14 = some (28, 17, 0, 133, 3, [(111, 198)]) := rx_at tbX11_isPlace ndX11_isPlace (j := 8) rfl
theorem iX11_isPlace_17 : rx_ins mX11_isPlace 17 = some (13, 20, 7, 0, 24, []) := rx_at tbX11_isPlace ndX11_isPlace (j := 9) rfl
theorem iX11_isPlace_20 : rx_ins mX11_isPlace 20 = some (1, 21, 1, 0, 0, []) := rx_at tbX11_isPlace ndX11_isPlace (j := 10) rfl
theorem iX11_isPlace_21 : rx_ins mX11_isPlace 21 = some (15, 24, 4, 0, 25, []) := rx_at tbX11_isPlace ndX11_isPlace (j := 11) rfl
theorem iX11_comes_0 : rx_ins mX11_comes 0 = some (3, 1, 0, 0, 0, []) := rx_at tbX11_comes ndX11_comes (j := 0) rfl
theorem iX11_comes_1 : rx_ins mX11_comes 1 = some (18, 4, 0, 11, 0, [(9, 124)]) := rx_at tbX11_comes ndX11_comes (j := 1) rfl
theorem iX11_comes_4 : rx_ins mX11_comes 4 = some (1, 5, 1, 0, 0, []) := rx_at tbX11_comes ndX11_comes (j := 2) rfl
theorem iX11_comes_5 : rx_ins mX11_comes 5 = some (20, 6, 0, 0, 0, []) := rx_at tbX11_comes ndX11_comes (j := 3) rfl
theorem iX11_comes_6 : rx_ins mX11_comes 6 = some (4, 7, 0, 3, 0, []) := rx_at tbX11_comes ndX11_comes (j := 4) rfl
theorem iX11_comes_7 : rx_ins mX11_comes 7 = some (3, 8, 0, 0, 0, []) := rx_at tbX11_comes ndX11_comes (j := 5) rfl
theorem iX11_comes_8 : rx_ins mX11_comes 8 = some (18, 11, 0, 11, 0, [(9, 124)]) := rx_at tbX11_comes ndX11_comes (j := 6) rfl
theorem iX11_comes_11 : rx_ins mX11_comes 11 = some (1, 12, 4, 0, 0, []) := rx_at tbX11_comes ndX11_comes (j := 7) rfl
theorem iX11_comes_12 : rx_ins mX11_comes 12 = some (1, 13, 3, 0, 0, []) := rx_at tbX11_comes ndX11_comes (j := 8) rfl
theorem iX11_comes_13 : rx_ins mX11_comes 13 = some (2, 14, 0, 3, 0, []) := rx_at tbX11_comes ndX11_comes (j := 9) rfl
theorem iX11_comes_14 : rx_ins mX11_comes 14 = some (7, 15, 0, 2, 0, []) := rx_at tbX11_comes ndX11_comes (j := 10) rfl
theorem iX11_comes_15 : rx_ins mX11_comes 15 = some (7, 16, 0, 0, 0, []) := rx_at tbX11_comes ndX11_comes (j := 11) rfl
theorem iX11_comes_16 : rx_ins mX11_comes 16 = some (2, 17, 0, 1, 0, []) := rx_at tbX11_comes ndX11_comes (j := 12) rfl
theorem iX11_comes_17 : rx_ins mX11_comes 17 = some (21, 18, 0, 0, 0, []) := rx_at tbX11_comes ndX11_comes (j := 13) rfl
theorem iX11_comes_18 : rx_ins mX11_comes 18 = some (3, 19, 0, 0, 0, []) := rx_at tbX11_comes ndX11_comes (j := 14) rfl
theorem iX11_comes_19 : rx_ins mX11_comes 19 = some (18, 22, 0, 11, 0, [(9, 124)]) := rx_at tbX11_comes ndX11_comes (j := 15) rfl
theorem iX11_comes_22 : rx_ins mX11_comes 22 = some (1, 23, 4, 0, 0, []) := rx_at tbX11_comes ndX11_comes (j := 16) rfl
theorem iX11_comes_23 : rx_ins mX11_comes 23 = some (1, 24, 3, 0, 0, []) := rx_at tbX11_comes ndX11_comes (j := 17) rfl
theorem iX11_comes_24 : rx_ins mX11_comes 24 = some (2, 25, 0, 3, 0, []) := rx_at tbX11_comes ndX11_comes (j := 18) rfl
theorem iX11_comes_25 : rx_ins mX11_comes 25 = some (7, 26, 0, 2, 0, []) := rx_at tbX11_comes ndX11_comes (j := 19) rfl
theorem iX11_comes_26 : rx_ins mX11_comes 26 = some (7, 27, 0, 0, 0, []) := rx_at tbX11_comes ndX11_comes (j := 20) rfl
theorem iX11_comes_27 : rx_ins mX11_comes 27 = some (1, 28, 1, 0, 0, []) := rx_at tbX11_comes ndX11_comes (j := 21) rfl
theorem iX11_comes_28 : rx_ins mX11_comes 28 = some (7, 29, 0, 0, 0, []) := rx_at tbX11_comes ndX11_comes (j := 22) rfl
theorem iX11_comes_29 : rx_ins mX11_comes 29 = some (2, 30, 0, 2, 0, []) := rx_at tbX11_comes ndX11_comes (j := 23) rfl
theorem iX11_comes_30 : rx_ins mX11_comes 30 = some (21, 31, 0, 0, 0, []) := rx_at tbX11_comes ndX11_comes (j := 24) rfl
theorem iX11_comes_31 : rx_ins mX11_comes 31 = some (3, 32, 0, 0, 0, []) := rx_at tbX11_comes ndX11_comes (j := 25) rfl
theorem iX11_comes_32 : rx_ins mX11_comes 32 = some (18, 35, 0, 11, 0, [(9, 124)]) := rx_at tbX11_comes ndX11_comes (j := 26) rfl
theorem iX11_comes_35 : rx_ins mX11_comes 35 = some (1, 36, 4, 0, 0, []) := rx_at tbX11_comes ndX11_comes (j := 27) rfl
theorem iX11_comes_36 : rx_ins mX11_comes 36 = some (1, 37, 3, 0, 0, []) := rx_at tbX11_comes ndX11_comes (j := 28) rfl
theorem iX11_comes_37 : rx_ins mX11_comes 37 = some (2, 38, 0, 3, 0, []) := rx_at tbX11_comes ndX11_comes (j := 29) rfl
theorem iX11_comes_38 : rx_ins mX11_comes 38 = some (7, 39, 0, 2, 0, []) := rx_at tbX11_comes ndX11_comes (j := 30) rfl
theorem iX11_comes_39 : rx_ins mX11_comes 39 = some (7, 40, 0, 0, 0, []) := rx_at tbX11_comes ndX11_comes (j := 31) rfl
theorem iX11_comes_40 : rx_ins mX11_comes 40 = some (1, 41, 2, 0, 0, []) := rx_at tbX11_comes ndX11_comes (j := 32) rfl
theorem iX11_comes_41 : rx_ins mX11_comes 41 = some (7, 42, 0, 0, 0, []) := rx_at tbX11_comes ndX11_comes (j := 33) rfl
theorem iX11_comes_42 : rx_ins mX11_comes 42 = some (1, 43, 0, 0, 0, []) := rx_at tbX11_comes ndX11_comes (j := 34) rfl
theorem iX11_comes_43 : rx_ins mX11_comes 43 = some (21, 44, 0, 0, 0, []) := rx_at tbX11_comes ndX11_comes (j := 35) rfl
theorem iX11_comes_44 : rx_ins mX11_comes 44 = some (3, 45, 0, 0, 0, []) := rx_at tbX11_comes ndX11_comes (j := 36) rfl
theorem iX11_comes_45 : rx_ins mX11_comes 45 = some (18, 48, 0, 11, 0, [(9, 124)]) := rx_at tbX11_comes ndX11_comes (j := 37) rfl
theorem iX11_comes_48 : rx_ins mX11_comes 48 = some (1, 50, 28, 1, 0, []) := rx_at tbX11_comes ndX11_comes (j := 38) rfl
theorem iX11_comes_50 : rx_ins mX11_comes 50 = some (2, 51, 0, 3, 0, []) := rx_at tbX11_comes ndX11_comes (j := 39) rfl
theorem iX11_comes_51 : rx_ins mX11_comes 51 = some (7, 52, 0, 0, 0, []) := rx_at tbX11_comes ndX11_comes (j := 40) rfl
theorem iX11_comes_52 : rx_ins mX11_comes 52 = some (2, 53, 0, 3, 0, []) := rx_at tbX11_comes ndX11_comes (j := 41) rfl
theorem iX11_comes_53 : rx_ins mX11_comes 53 = some (21, 54, 0, 0, 0, []) := rx_at tbX11_comes ndX11_comes (j := 42) rfl
theorem iX11_comes_54 : rx_ins mX11_comes 54 = some (3, 55, 0, 0, 0, []) := rx_at tbX11_comes ndX11_comes (j := 43) rfl
theorem iX11_comes_55 : rx_ins mX11_comes 55 = some (18, 58, 0, 11, 0, [(9, 124)]) := rx_at tbX11_comes ndX11_comes (j := 44) rfl
theorem iX11_comes_58 : rx_ins mX11_comes 58 = some (1, 59, 1, 0, 0, []) := rx_at tbX11_comes ndX11_comes (j := 45) rfl
theorem iX11_comes_59 : rx_ins mX11_comes 59 = some (11, 60, 0, 0, 0, []) := rx_at tbX11_comes ndX11_comes (j := 46) rfl
theorem iX11_comes_60 : rx_ins mX11_comes 60 = some (20, 61, 0, 0, 0, []) := rx_at tbX11_comes ndX11_comes (j := 47) rfl
theorem iX11_comes_61 : rx_ins mX11_comes 61 = some (1, 62, 1, 0, 0, []) := rx_at tbX11_comes ndX11_comes (j := 48) rfl
theorem iX11_comes_62 : rx_ins mX11_comes 62 = some (7, 63, 0, 0, 0, []) := rx_at tbX11_comes ndX11_comes (j := 49) rfl
theorem iX11_comes_63 : rx_ins mX11_comes 63 = some (21, 64, 0, 0, 0, []) := rx_at tbX11_comes ndX11_comes (j := 50) rfl
theorem iX11_comes_64 : rx_ins mX11_comes 64 = some (2, 65, 0, 3, 0, []) := rx_at tbX11_comes ndX11_comes (j := 51) rfl
theorem iX11_comes_65 : rx_ins mX11_comes 65 = some (29, 66, 0, 0, 0, []) := rx_at tbX11_comes ndX11_comes (j := 52) rfl
theorem iX11_post_0 : rx_ins mX11_post 0 = some (2, 1, 0, 1, 0, []) := rx_at tbX11_post ndX11_post (j := 0) rfl
theorem iX11_post_1 : rx_ins mX11_post 1 = some (2, 2, 0, 2, 0, []) := rx_at tbX11_post ndX11_post (j := 1) rfl
theorem iX11_post_2 : rx_ins mX11_post 2 = some (28, 5, 0, 145, 2, [(126, 202)]) := rx_at tbX11_post ndX11_post (j := 2) rfl
theorem iX11_post_5 : rx_ins mX11_post 5 = some (13, 8, 6, 1, 11, []) := rx_at tbX11_post ndX11_post (j := 3) rfl
theorem iX11_post_11 : rx_ins mX11_post 11 = some (3, 12, 0, 0, 0, []) := rx_at tbX11_post ndX11_post (j := 6) rfl
theorem iX11_post_12 : rx_ins mX11_post 12 = some (2, 13, 0, 1, 0, []) := rx_at tbX11_post ndX11_post (j := 7) rfl
theorem iX11_post_13 : rx_ins mX11_post 13 = some (2, 14, 0, 2, 0, []) := rx_at tbX11_post ndX11_post (j := 8) rfl
theorem iX11_post_14 : rx_ins mX11_post 14 = some (28, 17, 13, 144, 3, [(131, 203)]) := rx_at tbX11_post ndX11_post (j := 9) rfl
theorem iX11_post_17 : rx_ins mX11_post 17 = some (13, 20, 6, 2, 23, []) := rx_at tbX11_post ndX11_post (j := 10) rfl
theorem iX11_post_23 : rx_ins mX11_post 23 = some (3, 24, 0, 0, 0, []) := rx_at tbX11_post ndX11_post (j := 13) rfl
theorem iX11_post_24 : rx_ins mX11_post 24 = some (18, 27, 0, 11, 0, [(9, 124)]) := rx_at tbX11_post ndX11_post (j := 14) rfl
theorem iX11_post_27 : rx_ins mX11_post 27 = some (1, 28, 1, 0, 0, []) := rx_at tbX11_post ndX11_post (j := 15) rfl
theorem iX11_post_28 : rx_ins mX11_post 28 = some (20, 29, 0, 0, 0, []) := rx_at tbX11_post ndX11_post (j := 16) rfl
theorem iX11_post_29 : rx_ins mX11_post 29 = some (1, 31, 8, 1, 0, []) := rx_at tbX11_post ndX11_post (j := 17) rfl
theorem iX11_post_31 : rx_ins mX11_post 31 = some (14, 34, 8, 1, 39, []) := rx_at tbX11_post ndX11_post (j := 18) rfl
theorem iX11_post_39 : rx_ins mX11_post 39 = some (3, 40, 0, 0, 0, []) := rx_at tbX11_post ndX11_post (j := 21) rfl
theorem iX11_post_40 : rx_ins mX11_post 40 = some (2, 41, 0, 1, 0, []) := rx_at tbX11_post ndX11_post (j := 22) rfl
theorem iX11_post_41 : rx_ins mX11_post 41 = some (2, 42, 0, 2, 0, []) := rx_at tbX11_post ndX11_post (j := 23) rfl
theorem iX11_post_42 : rx_ins mX11_post 42 = some (28, 45, 13, 146, 3, [(136, 204)]) := rx_at tbX11_post ndX11_post (j := 24) rfl
theorem iX11_post_45 : rx_ins mX11_post 45 = some (29, 46, 0, 0, 0, []) := rx_at tbX11_post ndX11_post (j := 25) rfl
theorem iX11_post_34 : rx_ins mX11_post 34 = some (1, 36, (-1000000003), 3, 23, [(135, 0)]) := rx_at tbX11_post ndX11_post (j := 19) rfl
theorem iX11_post_36 : rx_ins mX11_post 36 = some (15, 39, 9, 0, 45, []) := rx_at tbX11_post ndX11_post (j := 20) rfl
theorem iX11_post_20 : rx_ins mX11_post 20 = some (1, 22, (-1000000002), 3, 22, [(134, 0)]) := rx_at tbX11_post ndX11_post (j := 11) rfl
theorem iX11_post_22 : rx_ins mX11_post 22 = some (29, 23, 0, 0, 0, []) := rx_at tbX11_post ndX11_post (j := 12) rfl
theorem iX11_post_8 : rx_ins mX11_post 8 = some (1, 10, (-1000000001), 3, 21, [(130, 0)]) := rx_at tbX11_post ndX11_post (j := 4) rfl
theorem iX11_post_10 : rx_ins mX11_post 10 = some (29, 11, 0, 0, 0, []) := rx_at tbX11_post ndX11_post (j := 5) rfl
theorem iX11_placeOf_0 : rx_ins mX11_placeOf 0 = some (1, 1, 0, 0, 0, []) := rx_at tbX11_placeOf ndX11_placeOf (j := 0) rfl
theorem iX11_placeOf_1 : rx_ins mX11_placeOf 1 = some (4, 2, 0, 2, 0, []) := rx_at tbX11_placeOf ndX11_placeOf (j := 1) rfl
theorem iX11_placeOf_2 : rx_ins mX11_placeOf 2 = some (3, 3, 0, 0, 0, []) := rx_at tbX11_placeOf ndX11_placeOf (j := 2) rfl
theorem iX11_placeOf_3 : rx_ins mX11_placeOf 3 = some (18, 6, 0, 11, 0, [(9, 124)]) := rx_at tbX11_placeOf ndX11_placeOf (j := 3) rfl
theorem iX11_placeOf_6 : rx_ins mX11_placeOf 6 = some (1, 8, 28, 1, 0, []) := rx_at tbX11_placeOf ndX11_placeOf (j := 4) rfl
theorem iX11_placeOf_8 : rx_ins mX11_placeOf 8 = some (2, 9, 0, 2, 0, []) := rx_at tbX11_placeOf ndX11_placeOf (j := 5) rfl
theorem iX11_placeOf_9 : rx_ins mX11_placeOf 9 = some (7, 10, 0, 0, 0, []) := rx_at tbX11_placeOf ndX11_placeOf (j := 6) rfl
theorem iX11_placeOf_10 : rx_ins mX11_placeOf 10 = some (20, 11, 0, 0, 0, []) := rx_at tbX11_placeOf ndX11_placeOf (j := 7) rfl
theorem iX11_placeOf_11 : rx_ins mX11_placeOf 11 = some (2, 12, 0, 1, 0, []) := rx_at tbX11_placeOf ndX11_placeOf (j := 8) rfl
theorem iX11_placeOf_12 : rx_ins mX11_placeOf 12 = some (14, 15, 9, 0, 21, []) := rx_at tbX11_placeOf ndX11_placeOf (j := 9) rfl
theorem iX11_placeOf_21 : rx_ins mX11_placeOf 21 = some (2, 22, 0, 2, 0, []) := rx_at tbX11_placeOf ndX11_placeOf (j := 12) rfl
theorem iX11_placeOf_22 : rx_ins mX11_placeOf 22 = some (29, 23, 0, 0, 0, []) := rx_at tbX11_placeOf ndX11_placeOf (j := 13) rfl
theorem iX11_placeOf_15 : rx_ins mX11_placeOf 15 = some (6, 18, 1, 2, 0, []) := rx_at tbX11_placeOf ndX11_placeOf (j := 10) rfl
theorem iX11_placeOf_18 : rx_ins mX11_placeOf 18 = some (15, 21, (-16), 0, 2, []) := rx_at tbX11_placeOf ndX11_placeOf (j := 11) rfl
theorem iX11_isFrom_0 : rx_ins mX11_isFrom 0 = some (3, 1, 0, 0, 0, []) := rx_at tbX11_isFrom ndX11_isFrom (j := 0) rfl
theorem iX11_isFrom_1 : rx_ins mX11_isFrom 1 = some (2, 2, 0, 1, 0, []) := rx_at tbX11_isFrom ndX11_isFrom (j := 1) rfl
theorem iX11_isFrom_2 : rx_ins mX11_isFrom 2 = some (28, 5, 13, 142, 2, [(139, 205)]) := rx_at tbX11_isFrom ndX11_isFrom (j := 2) rfl
theorem iX11_isFrom_5 : rx_ins mX11_isFrom 5 = some (2, 6, 0, 2, 0, []) := rx_at tbX11_isFrom ndX11_isFrom (j := 3) rfl
theorem iX11_isFrom_6 : rx_ins mX11_isFrom 6 = some (14, 9, 12, 0, 18, []) := rx_at tbX11_isFrom ndX11_isFrom (j := 4) rfl
theorem iX11_isFrom_18 : rx_ins mX11_isFrom 18 = some (1, 19, 1, 0, 0, []) := rx_at tbX11_isFrom ndX11_isFrom (j := 10) rfl
theorem iX11_isFrom_19 : rx_ins mX11_isFrom 19 = some (15, 22, 4, 0, 23, []) := rx_at tbX11_isFrom ndX11_isFrom (j := 11) rfl
theorem iX11_isFrom_23 : rx_ins mX11_isFrom 23 = some (29, 24, 1, 0, 0, []) := rx_at tbX11_isFrom ndX11_isFrom (j := 13) rfl
theorem iX11_isFrom_9 : rx_ins mX11_isFrom 9 = some (3, 10, 0, 0, 0, []) := rx_at tbX11_isFrom ndX11_isFrom (j := 5) rfl
theorem iX11_isFrom_10 : rx_ins mX11_isFrom 10 = some (2, 11, 0, 1, 0, []) := rx_at tbX11_isFrom ndX11_isFrom (j := 6) rfl
theorem iX11_isFrom_11 : rx_ins mX11_isFrom 11 = some (28, 14, 13, 143, 2, [(142, 206)]) := rx_at tbX11_isFrom ndX11_isFrom (j := 7) rfl
theorem iX11_isFrom_14 : rx_ins mX11_isFrom 14 = some (2, 15, 0, 2, 0, []) := rx_at tbX11_isFrom ndX11_isFrom (j := 8) rfl
theorem iX11_isFrom_15 : rx_ins mX11_isFrom 15 = some (14, 18, 7, 1, 22, []) := rx_at tbX11_isFrom ndX11_isFrom (j := 9) rfl
theorem iX11_isFrom_22 : rx_ins mX11_isFrom 22 = some (1, 23, 0, 0, 0, []) := rx_at tbX11_isFrom ndX11_isFrom (j := 12) rfl
theorem iX11_postTold_0 : rx_ins mX11_postTold 0 = some (3, 1, 0, 0, 0, []) := rx_at tbX11_postTold ndX11_postTold (j := 0) rfl
theorem iX11_postTold_1 : rx_ins mX11_postTold 1 = some (2, 2, 0, 1, 0, []) := rx_at tbX11_postTold ndX11_postTold (j := 1) rfl
theorem iX11_postTold_2 : rx_ins mX11_postTold 2 = some (28, 5, 13, 136, 2, [(145, 207)]) := rx_at tbX11_postTold ndX11_postTold (j := 2) rfl
theorem iX11_postTold_5 : rx_ins mX11_postTold 5 = some (13, 8, 12, 0, 17, []) := rx_at tbX11_postTold ndX11_postTold (j := 3) rfl
theorem iX11_postTold_17 : rx_ins mX11_postTold 17 = some (1, 19, (-1000000001), 3, 21, [(130, 0)]) := rx_at tbX11_postTold ndX11_postTold (j := 9) rfl
theorem iX11_postTold_19 : rx_ins mX11_postTold 19 = some (29, 20, 0, 0, 0, []) := rx_at tbX11_postTold ndX11_postTold (j := 10) rfl
theorem iX11_postTold_8 : rx_ins mX11_postTold 8 = some (2, 9, 0, 2, 0, []) := rx_at tbX11_postTold ndX11_postTold (j := 4) rfl
theorem iX11_postTold_9 : rx_ins mX11_postTold 9 = some (1, 10, 0, 0, 0, []) := rx_at tbX11_postTold ndX11_postTold (j := 5) rfl
theorem iX11_postTold_10 : rx_ins mX11_postTold 10 = some (1, 11, 4, 0, 0, []) := rx_at tbX11_postTold ndX11_postTold (j := 6) rfl
theorem iX11_postTold_11 : rx_ins mX11_postTold 11 = some (28, 14, 0, 133, 3, [(111, 198)]) := rx_at tbX11_postTold ndX11_postTold (j := 7) rfl
theorem iX11_postTold_14 : rx_ins mX11_postTold 14 = some (13, 17, 6, 1, 20, []) := rx_at tbX11_postTold ndX11_postTold (j := 8) rfl
theorem iX11_postTold_20 : rx_ins mX11_postTold 20 = some (2, 21, 0, 2, 0, []) := rx_at tbX11_postTold ndX11_postTold (j := 11) rfl
theorem iX11_postTold_21 : rx_ins mX11_postTold 21 = some (1, 22, 3, 0, 0, []) := rx_at tbX11_postTold ndX11_postTold (j := 12) rfl
theorem iX11_postTold_22 : rx_ins mX11_postTold 22 = some (14, 25, 16, 3, 38, []) := rx_at tbX11_postTold ndX11_postTold (j := 13) rfl
theorem iX11_postTold_38 : rx_ins mX11_postTold 38 = some (2, 39, 0, 2, 0, []) := rx_at tbX11_postTold ndX11_postTold (j := 25) rfl
theorem iX11_postTold_39 : rx_ins mX11_postTold 39 = some (1, 40, 3, 0, 0, []) := rx_at tbX11_postTold ndX11_postTold (j := 26) rfl
theorem iX11_postTold_40 : rx_ins mX11_postTold 40 = some (14, 43, 9, 1, 49, []) := rx_at tbX11_postTold ndX11_postTold (j := 27) rfl
theorem iX11_postTold_49 : rx_ins mX11_postTold 49 = some (1, 50, 0, 0, 0, []) := rx_at tbX11_postTold ndX11_postTold (j := 32) rfl
theorem iX11_postTold_50 : rx_ins mX11_postTold 50 = some (4, 51, 0, 3, 0, []) := rx_at tbX11_postTold ndX11_postTold (j := 33) rfl
theorem iX11_postTold_51 : rx_ins mX11_postTold 51 = some (1, 52, 0, 0, 0, []) := rx_at tbX11_postTold ndX11_postTold (j := 34) rfl
theorem iX11_postTold_52 : rx_ins mX11_postTold 52 = some (4, 54, 1, 4, 0, []) := rx_at tbX11_postTold ndX11_postTold (j := 35) rfl
theorem iX11_postTold_43 : rx_ins mX11_postTold 43 = some (3, 44, 0, 0, 0, []) := rx_at tbX11_postTold ndX11_postTold (j := 28) rfl
theorem iX11_postTold_44 : rx_ins mX11_postTold 44 = some (2, 45, 0, 1, 0, []) := rx_at tbX11_postTold ndX11_postTold (j := 29) rfl
theorem iX11_postTold_45 : rx_ins mX11_postTold 45 = some (28, 48, 13, 148, 2, [(149, 208)]) := rx_at tbX11_postTold ndX11_postTold (j := 30) rfl
theorem iX11_postTold_48 : rx_ins mX11_postTold 48 = some (29, 49, 0, 0, 0, []) := rx_at tbX11_postTold ndX11_postTold (j := 31) rfl
theorem iX11_postTold_25 : rx_ins mX11_postTold 25 = some (3, 26, 0, 0, 0, []) := rx_at tbX11_postTold ndX11_postTold (j := 14) rfl
theorem iX11_postTold_26 : rx_ins mX11_postTold 26 = some (18, 29, 0, 11, 0, [(9, 124)]) := rx_at tbX11_postTold ndX11_postTold (j := 15) rfl
theorem iX11_postTold_29 : rx_ins mX11_postTold 29 = some (1, 30, 4, 0, 0, []) := rx_at tbX11_postTold ndX11_postTold (j := 16) rfl
theorem iX11_postTold_30 : rx_ins mX11_postTold 30 = some (1, 31, 3, 0, 0, []) := rx_at tbX11_postTold ndX11_postTold (j := 17) rfl
theorem iX11_postTold_31 : rx_ins mX11_postTold 31 = some (2, 32, 0, 1, 0, []) := rx_at tbX11_postTold ndX11_postTold (j := 18) rfl
theorem iX11_postTold_32 : rx_ins mX11_postTold 32 = some (7, 33, 0, 2, 0, []) := rx_at tbX11_postTold ndX11_postTold (j := 19) rfl
theorem iX11_postTold_33 : rx_ins mX11_postTold 33 = some (7, 34, 0, 0, 0, []) := rx_at tbX11_postTold ndX11_postTold (j := 20) rfl
theorem iX11_postTold_34 : rx_ins mX11_postTold 34 = some (2, 35, 0, 2, 0, []) := rx_at tbX11_postTold ndX11_postTold (j := 21) rfl
theorem iX11_postTold_35 : rx_ins mX11_postTold 35 = some (7, 36, 0, 0, 0, []) := rx_at tbX11_postTold ndX11_postTold (j := 22) rfl
theorem iX11_postTold_36 : rx_ins mX11_postTold 36 = some (20, 37, 0, 0, 0, []) := rx_at tbX11_postTold ndX11_postTold (j := 23) rfl
theorem iX11_postTold_37 : rx_ins mX11_postTold 37 = some (29, 38, 0, 0, 0, []) := rx_at tbX11_postTold ndX11_postTold (j := 24) rfl
theorem iX11_postTold_54 : rx_ins mX11_postTold 54 = some (2, 56, 1, 4, 0, []) := rx_at tbX11_postTold ndX11_postTold (j := 36) rfl
theorem iX11_postTold_56 : rx_ins mX11_postTold 56 = some (3, 57, 0, 0, 0, []) := rx_at tbX11_postTold ndX11_postTold (j := 37) rfl
theorem iX11_postTold_57 : rx_ins mX11_postTold 57 = some (18, 60, 0, 11, 0, [(9, 124)]) := rx_at tbX11_postTold ndX11_postTold (j := 38) rfl
theorem iX11_postTold_60 : rx_ins mX11_postTold 60 = some (1, 61, 2, 0, 0, []) := rx_at tbX11_postTold ndX11_postTold (j := 39) rfl
theorem iX11_postTold_61 : rx_ins mX11_postTold 61 = some (20, 62, 0, 0, 0, []) := rx_at tbX11_postTold ndX11_postTold (j := 40) rfl
theorem iX11_postTold_62 : rx_ins mX11_postTold 62 = some (14, 65, 27, 3, 89, []) := rx_at tbX11_postTold ndX11_postTold (j := 41) rfl
theorem iX11_postTold_89 : rx_ins mX11_postTold 89 = some (2, 90, 0, 3, 0, []) := rx_at tbX11_postTold ndX11_postTold (j := 55) rfl
theorem iX11_postTold_90 : rx_ins mX11_postTold 90 = some (29, 91, 0, 0, 0, []) := rx_at tbX11_postTold ndX11_postTold (j := 56) rfl
theorem iX11_postTold_65 : rx_ins mX11_postTold 65 = some (2, 66, 0, 3, 0, []) := rx_at tbX11_postTold ndX11_postTold (j := 42) rfl
theorem iX11_postTold_66 : rx_ins mX11_postTold 66 = some (3, 67, 0, 0, 0, []) := rx_at tbX11_postTold ndX11_postTold (j := 43) rfl
theorem iX11_postTold_67 : rx_ins mX11_postTold 67 = some (2, 69, 1, 4, 0, []) := rx_at tbX11_postTold ndX11_postTold (j := 44) rfl
theorem iX11_postTold_69 : rx_ins mX11_postTold 69 = some (2, 70, 0, 1, 0, []) := rx_at tbX11_postTold ndX11_postTold (j := 45) rfl
theorem iX11_postTold_70 : rx_ins mX11_postTold 70 = some (28, 73, 13, 149, 3, [(152, 209)]) := rx_at tbX11_postTold ndX11_postTold (j := 46) rfl
theorem iX11_postTold_73 : rx_ins mX11_postTold 73 = some (13, 76, 7, 0, 80, []) := rx_at tbX11_postTold ndX11_postTold (j := 47) rfl
theorem iX11_postTold_80 : rx_ins mX11_postTold 80 = some (1, 81, 0, 0, 0, []) := rx_at tbX11_postTold ndX11_postTold (j := 50) rfl
theorem iX11_postTold_81 : rx_ins mX11_postTold 81 = some (7, 82, 0, 0, 0, []) := rx_at tbX11_postTold ndX11_postTold (j := 51) rfl
theorem iX11_postTold_82 : rx_ins mX11_postTold 82 = some (4, 83, 0, 3, 0, []) := rx_at tbX11_postTold ndX11_postTold (j := 52) rfl
theorem iX11_postTold_83 : rx_ins mX11_postTold 83 = some (6, 86, 1, 4, 0, []) := rx_at tbX11_postTold ndX11_postTold (j := 53) rfl
theorem iX11_postTold_86 : rx_ins mX11_postTold 86 = some (15, 89, (-32), 0, 54, []) := rx_at tbX11_postTold ndX11_postTold (j := 54) rfl
theorem iX11_postTold_76 : rx_ins mX11_postTold 76 = some (1, 77, 1, 0, 0, []) := rx_at tbX11_postTold ndX11_postTold (j := 48) rfl
theorem iX11_postTold_77 : rx_ins mX11_postTold 77 = some (15, 80, 4, 0, 81, []) := rx_at tbX11_postTold ndX11_postTold (j := 49) rfl
theorem iX11_move_0 : rx_ins mX11_move 0 = some (3, 1, 0, 0, 0, []) := rx_at tbX11_move ndX11_move (j := 0) rfl
theorem iX11_move_1 : rx_ins mX11_move 1 = some (2, 2, 0, 1, 0, []) := rx_at tbX11_move ndX11_move (j := 1) rfl
theorem iX11_move_2 : rx_ins mX11_move 2 = some (28, 5, 13, 136, 2, [(145, 207)]) := rx_at tbX11_move ndX11_move (j := 2) rfl
theorem iX11_move_5 : rx_ins mX11_move 5 = some (13, 8, 11, 0, 16, []) := rx_at tbX11_move ndX11_move (j := 3) rfl
theorem iX11_move_16 : rx_ins mX11_move 16 = some (1, 18, (-1000000001), 3, 21, [(130, 0)]) := rx_at tbX11_move ndX11_move (j := 8) rfl
theorem iX11_move_18 : rx_ins mX11_move 18 = some (29, 19, 0, 0, 0, []) := rx_at tbX11_move ndX11_move (j := 9) rfl
theorem iX11_move_8 : rx_ins mX11_move 8 = some (2, 9, 0, 2, 0, []) := rx_at tbX11_move ndX11_move (j := 4) rfl
theorem iX11_move_9 : rx_ins mX11_move 9 = some (2, 10, 0, 3, 0, []) := rx_at tbX11_move ndX11_move (j := 5) rfl
theorem iX11_move_10 : rx_ins mX11_move 10 = some (28, 13, 0, 145, 2, [(126, 202)]) := rx_at tbX11_move ndX11_move (j := 6) rfl
theorem iX11_move_13 : rx_ins mX11_move 13 = some (13, 16, 6, 1, 19, []) := rx_at tbX11_move ndX11_move (j := 7) rfl
theorem iX11_move_19 : rx_ins mX11_move 19 = some (3, 20, 0, 0, 0, []) := rx_at tbX11_move ndX11_move (j := 10) rfl
theorem iX11_move_20 : rx_ins mX11_move 20 = some (2, 21, 0, 2, 0, []) := rx_at tbX11_move ndX11_move (j := 11) rfl
theorem iX11_move_21 : rx_ins mX11_move 21 = some (2, 22, 0, 3, 0, []) := rx_at tbX11_move ndX11_move (j := 12) rfl
theorem iX11_move_22 : rx_ins mX11_move 22 = some (28, 25, 13, 144, 3, [(131, 203)]) := rx_at tbX11_move ndX11_move (j := 13) rfl
theorem iX11_move_25 : rx_ins mX11_move 25 = some (4, 27, 1, 4, 0, []) := rx_at tbX11_move ndX11_move (j := 14) rfl
theorem iX11_move_27 : rx_ins mX11_move 27 = some (2, 29, 1, 4, 0, []) := rx_at tbX11_move ndX11_move (j := 15) rfl
theorem iX11_move_29 : rx_ins mX11_move 29 = some (13, 32, 12, 2, 41, []) := rx_at tbX11_move ndX11_move (j := 16) rfl
theorem iX11_move_41 : rx_ins mX11_move 41 = some (3, 42, 0, 0, 0, []) := rx_at tbX11_move ndX11_move (j := 22) rfl
theorem iX11_move_42 : rx_ins mX11_move 42 = some (18, 45, 0, 11, 0, [(9, 124)]) := rx_at tbX11_move ndX11_move (j := 23) rfl
theorem iX11_move_45 : rx_ins mX11_move 45 = some (1, 46, 4, 0, 0, []) := rx_at tbX11_move ndX11_move (j := 24) rfl
theorem iX11_move_46 : rx_ins mX11_move 46 = some (1, 47, 3, 0, 0, []) := rx_at tbX11_move ndX11_move (j := 25) rfl
theorem iX11_move_47 : rx_ins mX11_move 47 = some (2, 48, 0, 1, 0, []) := rx_at tbX11_move ndX11_move (j := 26) rfl
theorem iX11_move_48 : rx_ins mX11_move 48 = some (7, 49, 0, 2, 0, []) := rx_at tbX11_move ndX11_move (j := 27) rfl
theorem iX11_move_49 : rx_ins mX11_move 49 = some (7, 50, 0, 0, 0, []) := rx_at tbX11_move ndX11_move (j := 28) rfl
theorem iX11_move_50 : rx_ins mX11_move 50 = some (2, 51, 0, 2, 0, []) := rx_at tbX11_move ndX11_move (j := 29) rfl
theorem iX11_move_51 : rx_ins mX11_move 51 = some (21, 52, 0, 0, 0, []) := rx_at tbX11_move ndX11_move (j := 30) rfl
theorem iX11_move_52 : rx_ins mX11_move 52 = some (3, 53, 0, 0, 0, []) := rx_at tbX11_move ndX11_move (j := 31) rfl
theorem iX11_move_53 : rx_ins mX11_move 53 = some (18, 56, 0, 11, 0, [(9, 124)]) := rx_at tbX11_move ndX11_move (j := 32) rfl
theorem iX11_move_56 : rx_ins mX11_move 56 = some (1, 57, 4, 0, 0, []) := rx_at tbX11_move ndX11_move (j := 33) rfl
theorem iX11_move_57 : rx_ins mX11_move 57 = some (1, 58, 3, 0, 0, []) := rx_at tbX11_move ndX11_move (j := 34) rfl
theorem iX11_move_58 : rx_ins mX11_move 58 = some (2, 59, 0, 1, 0, []) := rx_at tbX11_move ndX11_move (j := 35) rfl
theorem iX11_move_59 : rx_ins mX11_move 59 = some (7, 60, 0, 2, 0, []) := rx_at tbX11_move ndX11_move (j := 36) rfl
theorem iX11_move_60 : rx_ins mX11_move 60 = some (7, 61, 0, 0, 0, []) := rx_at tbX11_move ndX11_move (j := 37) rfl
theorem iX11_move_61 : rx_ins mX11_move 61 = some (1, 62, 1, 0, 0, []) := rx_at tbX11_move ndX11_move (j := 38) rfl
theorem iX11_move_62 : rx_ins mX11_move 62 = some (7, 63, 0, 0, 0, []) := rx_at tbX11_move ndX11_move (j := 39) rfl
theorem iX11_move_63 : rx_ins mX11_move 63 = some (2, 64, 0, 3, 0, []) := rx_at tbX11_move ndX11_move (j := 40) rfl
theorem iX11_move_64 : rx_ins mX11_move 64 = some (21, 65, 0, 0, 0, []) := rx_at tbX11_move ndX11_move (j := 41) rfl
theorem iX11_move_65 : rx_ins mX11_move 65 = some (2, 67, 1, 4, 0, []) := rx_at tbX11_move ndX11_move (j := 42) rfl
theorem iX11_move_67 : rx_ins mX11_move 67 = some (2, 68, 0, 1, 0, []) := rx_at tbX11_move ndX11_move (j := 43) rfl
theorem iX11_move_68 : rx_ins mX11_move 68 = some (14, 71, 7, 1, 75, []) := rx_at tbX11_move ndX11_move (j := 44) rfl
theorem iX11_move_75 : rx_ins mX11_move 75 = some (1, 76, 1, 0, 0, []) := rx_at tbX11_move ndX11_move (j := 47) rfl
theorem iX11_move_76 : rx_ins mX11_move 76 = some (29, 77, 0, 0, 0, []) := rx_at tbX11_move ndX11_move (j := 48) rfl
theorem iX11_move_71 : rx_ins mX11_move 71 = some (1, 72, 0, 0, 0, []) := rx_at tbX11_move ndX11_move (j := 45) rfl
theorem iX11_move_72 : rx_ins mX11_move 72 = some (15, 75, 4, 0, 76, []) := rx_at tbX11_move ndX11_move (j := 46) rfl
theorem iX11_move_32 : rx_ins mX11_move 32 = some (2, 34, 1, 4, 0, []) := rx_at tbX11_move ndX11_move (j := 17) rfl
theorem iX11_move_34 : rx_ins mX11_move 34 = some (2, 35, 0, 1, 0, []) := rx_at tbX11_move ndX11_move (j := 18) rfl
theorem iX11_move_35 : rx_ins mX11_move 35 = some (14, 38, 6, 0, 41, []) := rx_at tbX11_move ndX11_move (j := 19) rfl
theorem iX11_move_38 : rx_ins mX11_move 38 = some (1, 40, (-1000000002), 3, 22, [(134, 0)]) := rx_at tbX11_move ndX11_move (j := 20) rfl
theorem iX11_move_40 : rx_ins mX11_move 40 = some (29, 41, 0, 0, 0, []) := rx_at tbX11_move ndX11_move (j := 21) rfl
theorem iX11_layer_0 : rx_ins mX11_layer 0 = some (3, 1, 0, 0, 0, []) := rx_at tbX11_layer ndX11_layer (j := 0) rfl
theorem iX11_layer_1 : rx_ins mX11_layer 1 = some (2, 2, 0, 1, 0, []) := rx_at tbX11_layer ndX11_layer (j := 1) rfl
theorem iX11_layer_2 : rx_ins mX11_layer 2 = some (28, 5, 13, 136, 2, [(145, 207)]) := rx_at tbX11_layer ndX11_layer (j := 2) rfl
theorem iX11_layer_5 : rx_ins mX11_layer 5 = some (13, 8, 12, 0, 17, []) := rx_at tbX11_layer ndX11_layer (j := 3) rfl
theorem iX11_layer_17 : rx_ins mX11_layer 17 = some (1, 19, (-1000000001), 3, 21, [(130, 0)]) := rx_at tbX11_layer ndX11_layer (j := 9) rfl
theorem iX11_layer_19 : rx_ins mX11_layer 19 = some (29, 20, 0, 0, 0, []) := rx_at tbX11_layer ndX11_layer (j := 10) rfl
theorem iX11_layer_8 : rx_ins mX11_layer 8 = some (2, 9, 0, 2, 0, []) := rx_at tbX11_layer ndX11_layer (j := 4) rfl
theorem iX11_layer_9 : rx_ins mX11_layer 9 = some (1, 10, 0, 0, 0, []) := rx_at tbX11_layer ndX11_layer (j := 5) rfl
theorem iX11_layer_10 : rx_ins mX11_layer 10 = some (1, 11, 3, 0, 0, []) := rx_at tbX11_layer ndX11_layer (j := 6) rfl
theorem iX11_layer_11 : rx_ins mX11_layer 11 = some (28, 14, 0, 133, 3, [(111, 198)]) := rx_at tbX11_layer ndX11_layer (j := 7) rfl
theorem iX11_layer_14 : rx_ins mX11_layer 14 = some (13, 17, 6, 1, 20, []) := rx_at tbX11_layer ndX11_layer (j := 8) rfl
theorem iX11_layer_20 : rx_ins mX11_layer 20 = some (3, 21, 0, 0, 0, []) := rx_at tbX11_layer ndX11_layer (j := 11) rfl
theorem iX11_layer_21 : rx_ins mX11_layer 21 = some (2, 22, 0, 1, 0, []) := rx_at tbX11_layer ndX11_layer (j := 12) rfl
theorem iX11_layer_22 : rx_ins mX11_layer 22 = some (28, 25, 13, 140, 2, [(155, 210)]) := rx_at tbX11_layer ndX11_layer (j := 13) rfl
theorem iX11_layer_25 : rx_ins mX11_layer 25 = some (4, 26, 0, 3, 0, []) := rx_at tbX11_layer ndX11_layer (j := 14) rfl
theorem iX11_layer_26 : rx_ins mX11_layer 26 = some (3, 27, 0, 0, 0, []) := rx_at tbX11_layer ndX11_layer (j := 15) rfl
theorem iX11_layer_27 : rx_ins mX11_layer 27 = some (18, 30, 0, 11, 0, [(9, 124)]) := rx_at tbX11_layer ndX11_layer (j := 16) rfl
theorem iX11_layer_30 : rx_ins mX11_layer 30 = some (1, 31, 4, 0, 0, []) := rx_at tbX11_layer ndX11_layer (j := 17) rfl
theorem iX11_layer_31 : rx_ins mX11_layer 31 = some (1, 32, 3, 0, 0, []) := rx_at tbX11_layer ndX11_layer (j := 18) rfl
theorem iX11_layer_32 : rx_ins mX11_layer 32 = some (2, 33, 0, 1, 0, []) := rx_at tbX11_layer ndX11_layer (j := 19) rfl
theorem iX11_layer_33 : rx_ins mX11_layer 33 = some (7, 34, 0, 2, 0, []) := rx_at tbX11_layer ndX11_layer (j := 20) rfl
theorem iX11_layer_34 : rx_ins mX11_layer 34 = some (7, 35, 0, 0, 0, []) := rx_at tbX11_layer ndX11_layer (j := 21) rfl
theorem iX11_layer_35 : rx_ins mX11_layer 35 = some (1, 36, 2, 0, 0, []) := rx_at tbX11_layer ndX11_layer (j := 22) rfl
theorem iX11_layer_36 : rx_ins mX11_layer 36 = some (7, 37, 0, 0, 0, []) := rx_at tbX11_layer ndX11_layer (j := 23) rfl
theorem iX11_layer_37 : rx_ins mX11_layer 37 = some (2, 38, 0, 2, 0, []) := rx_at tbX11_layer ndX11_layer (j := 24) rfl
theorem iX11_layer_38 : rx_ins mX11_layer 38 = some (21, 39, 0, 0, 0, []) := rx_at tbX11_layer ndX11_layer (j := 25) rfl
theorem iX11_layer_39 : rx_ins mX11_layer 39 = some (2, 40, 0, 3, 0, []) := rx_at tbX11_layer ndX11_layer (j := 26) rfl
theorem iX11_layer_40 : rx_ins mX11_layer 40 = some (29, 41, 0, 0, 0, []) := rx_at tbX11_layer ndX11_layer (j := 27) rfl
theorem iX11_isBetween_0 : rx_ins mX11_isBetween 0 = some (1, 1, 0, 0, 0, []) := rx_at tbX11_isBetween ndX11_isBetween (j := 0) rfl
theorem iX11_isBetween_1 : rx_ins mX11_isBetween 1 = some (4, 2, 0, 3, 0, []) := rx_at tbX11_isBetween ndX11_isBetween (j := 1) rfl
theorem iX11_isBetween_2 : rx_ins mX11_isBetween 2 = some (1, 3, 0, 0, 0, []) := rx_at tbX11_isBetween ndX11_isBetween (j := 2) rfl
theorem iX11_isBetween_3 : rx_ins mX11_isBetween 3 = some (4, 5, 1, 4, 0, []) := rx_at tbX11_isBetween ndX11_isBetween (j := 3) rfl
theorem iX11_isBetween_5 : rx_ins mX11_isBetween 5 = some (2, 7, 1, 4, 0, []) := rx_at tbX11_isBetween ndX11_isBetween (j := 4) rfl
theorem iX11_isBetween_7 : rx_ins mX11_isBetween 7 = some (3, 8, 0, 0, 0, []) := rx_at tbX11_isBetween ndX11_isBetween (j := 5) rfl
theorem iX11_isBetween_8 : rx_ins mX11_isBetween 8 = some (18, 11, 0, 11, 0, [(9, 124)]) := rx_at tbX11_isBetween ndX11_isBetween (j := 6) rfl
theorem iX11_isBetween_11 : rx_ins mX11_isBetween 11 = some (1, 12, 2, 0, 0, []) := rx_at tbX11_isBetween ndX11_isBetween (j := 7) rfl
theorem iX11_isBetween_12 : rx_ins mX11_isBetween 12 = some (20, 13, 0, 0, 0, []) := rx_at tbX11_isBetween ndX11_isBetween (j := 8) rfl
theorem iX11_isBetween_13 : rx_ins mX11_isBetween 13 = some (14, 16, 39, 3, 52, []) := rx_at tbX11_isBetween ndX11_isBetween (j := 9) rfl
theorem iX11_isBetween_52 : rx_ins mX11_isBetween 52 = some (2, 53, 0, 3, 0, []) := rx_at tbX11_isBetween ndX11_isBetween (j := 28) rfl
theorem iX11_isBetween_53 : rx_ins mX11_isBetween 53 = some (29, 54, 1, 0, 0, []) := rx_at tbX11_isBetween ndX11_isBetween (j := 29) rfl
theorem iX11_isBetween_16 : rx_ins mX11_isBetween 16 = some (2, 17, 0, 3, 0, []) := rx_at tbX11_isBetween ndX11_isBetween (j := 10) rfl
theorem iX11_isBetween_17 : rx_ins mX11_isBetween 17 = some (13, 20, 23, 1, 40, []) := rx_at tbX11_isBetween ndX11_isBetween (j := 11) rfl
theorem iX11_isBetween_40 : rx_ins mX11_isBetween 40 = some (1, 41, 1, 0, 0, []) := rx_at tbX11_isBetween ndX11_isBetween (j := 22) rfl
theorem iX11_isBetween_41 : rx_ins mX11_isBetween 41 = some (15, 44, 4, 0, 45, []) := rx_at tbX11_isBetween ndX11_isBetween (j := 23) rfl
theorem iX11_isBetween_45 : rx_ins mX11_isBetween 45 = some (4, 46, 0, 3, 0, []) := rx_at tbX11_isBetween ndX11_isBetween (j := 25) rfl
theorem iX11_isBetween_46 : rx_ins mX11_isBetween 46 = some (6, 49, 1, 4, 0, []) := rx_at tbX11_isBetween ndX11_isBetween (j := 26) rfl
theorem iX11_isBetween_49 : rx_ins mX11_isBetween 49 = some (15, 52, (-44), 0, 5, []) := rx_at tbX11_isBetween ndX11_isBetween (j := 27) rfl
theorem iX11_isBetween_20 : rx_ins mX11_isBetween 20 = some (3, 21, 0, 0, 0, []) := rx_at tbX11_isBetween ndX11_isBetween (j := 12) rfl
theorem iX11_isBetween_21 : rx_ins mX11_isBetween 21 = some (2, 23, 1, 4, 0, []) := rx_at tbX11_isBetween ndX11_isBetween (j := 13) rfl
theorem iX11_isBetween_23 : rx_ins mX11_isBetween 23 = some (2, 24, 0, 1, 0, []) := rx_at tbX11_isBetween ndX11_isBetween (j := 14) rfl
theorem iX11_isBetween_24 : rx_ins mX11_isBetween 24 = some (28, 27, 13, 149, 3, [(152, 209)]) := rx_at tbX11_isBetween ndX11_isBetween (j := 15) rfl
theorem iX11_isBetween_27 : rx_ins mX11_isBetween 27 = some (13, 30, 17, 0, 44, []) := rx_at tbX11_isBetween ndX11_isBetween (j := 16) rfl
theorem iX11_isBetween_44 : rx_ins mX11_isBetween 44 = some (1, 45, 0, 0, 0, []) := rx_at tbX11_isBetween ndX11_isBetween (j := 24) rfl
theorem iX11_isBetween_30 : rx_ins mX11_isBetween 30 = some (3, 31, 0, 0, 0, []) := rx_at tbX11_isBetween ndX11_isBetween (j := 17) rfl
theorem iX11_isBetween_31 : rx_ins mX11_isBetween 31 = some (2, 33, 1, 4, 0, []) := rx_at tbX11_isBetween ndX11_isBetween (j := 18) rfl
theorem iX11_isBetween_33 : rx_ins mX11_isBetween 33 = some (2, 34, 0, 2, 0, []) := rx_at tbX11_isBetween ndX11_isBetween (j := 19) rfl
theorem iX11_isBetween_34 : rx_ins mX11_isBetween 34 = some (28, 37, 13, 149, 3, [(152, 209)]) := rx_at tbX11_isBetween ndX11_isBetween (j := 20) rfl
theorem iX11_isBetween_37 : rx_ins mX11_isBetween 37 = some (13, 40, 7, 0, 44, []) := rx_at tbX11_isBetween ndX11_isBetween (j := 21) rfl
theorem iX11_goes_0 : rx_ins mX11_goes 0 = some (1, 2, 36, 1, 0, []) := rx_at tbX11_goes ndX11_goes (j := 0) rfl
theorem iX11_goes_2 : rx_ins mX11_goes 2 = some (1, 3, 5, 0, 0, []) := rx_at tbX11_goes ndX11_goes (j := 1) rfl
theorem iX11_goes_3 : rx_ins mX11_goes 3 = some (3, 4, 0, 0, 0, []) := rx_at tbX11_goes ndX11_goes (j := 2) rfl
theorem iX11_goes_4 : rx_ins mX11_goes 4 = some (18, 7, 0, 11, 0, [(9, 124)]) := rx_at tbX11_goes ndX11_goes (j := 3) rfl
theorem iX11_goes_7 : rx_ins mX11_goes 7 = some (1, 8, 2, 0, 0, []) := rx_at tbX11_goes ndX11_goes (j := 4) rfl
theorem iX11_goes_8 : rx_ins mX11_goes 8 = some (20, 9, 0, 0, 0, []) := rx_at tbX11_goes ndX11_goes (j := 5) rfl
theorem iX11_goes_9 : rx_ins mX11_goes 9 = some (7, 10, 0, 2, 0, []) := rx_at tbX11_goes ndX11_goes (j := 6) rfl
theorem iX11_goes_10 : rx_ins mX11_goes 10 = some (7, 11, 0, 0, 0, []) := rx_at tbX11_goes ndX11_goes (j := 7) rfl
theorem iX11_goes_11 : rx_ins mX11_goes 11 = some (4, 13, 1, 5, 0, []) := rx_at tbX11_goes ndX11_goes (j := 8) rfl
theorem iX11_goes_13 : rx_ins mX11_goes 13 = some (3, 14, 0, 0, 0, []) := rx_at tbX11_goes ndX11_goes (j := 9) rfl
theorem iX11_goes_14 : rx_ins mX11_goes 14 = some (18, 17, 0, 11, 0, [(9, 124)]) := rx_at tbX11_goes ndX11_goes (j := 10) rfl
theorem iX11_goes_17 : rx_ins mX11_goes 17 = some (2, 19, 1, 5, 0, []) := rx_at tbX11_goes ndX11_goes (j := 11) rfl
theorem iX11_goes_19 : rx_ins mX11_goes 19 = some (2, 20, 0, 1, 0, []) := rx_at tbX11_goes ndX11_goes (j := 12) rfl
theorem iX11_goes_20 : rx_ins mX11_goes 20 = some (21, 21, 0, 0, 0, []) := rx_at tbX11_goes ndX11_goes (j := 13) rfl
theorem iX11_goes_21 : rx_ins mX11_goes 21 = some (3, 22, 0, 0, 0, []) := rx_at tbX11_goes ndX11_goes (j := 14) rfl
theorem iX11_goes_22 : rx_ins mX11_goes 22 = some (18, 25, 0, 11, 0, [(9, 124)]) := rx_at tbX11_goes ndX11_goes (j := 15) rfl
theorem iX11_goes_25 : rx_ins mX11_goes 25 = some (2, 27, 1, 5, 0, []) := rx_at tbX11_goes ndX11_goes (j := 16) rfl
theorem iX11_goes_27 : rx_ins mX11_goes 27 = some (1, 28, 1, 0, 0, []) := rx_at tbX11_goes ndX11_goes (j := 17) rfl
theorem iX11_goes_28 : rx_ins mX11_goes 28 = some (7, 29, 0, 0, 0, []) := rx_at tbX11_goes ndX11_goes (j := 18) rfl
theorem iX11_goes_29 : rx_ins mX11_goes 29 = some (2, 30, 0, 2, 0, []) := rx_at tbX11_goes ndX11_goes (j := 19) rfl
theorem iX11_goes_30 : rx_ins mX11_goes 30 = some (2, 31, 0, 3, 0, []) := rx_at tbX11_goes ndX11_goes (j := 20) rfl
theorem iX11_goes_31 : rx_ins mX11_goes 31 = some (14, 34, 7, 3, 38, []) := rx_at tbX11_goes ndX11_goes (j := 21) rfl
theorem iX11_goes_38 : rx_ins mX11_goes 38 = some (2, 39, 0, 3, 0, []) := rx_at tbX11_goes ndX11_goes (j := 24) rfl
theorem iX11_goes_39 : rx_ins mX11_goes 39 = some (21, 40, 0, 0, 0, []) := rx_at tbX11_goes ndX11_goes (j := 25) rfl
theorem iX11_goes_40 : rx_ins mX11_goes 40 = some (3, 41, 0, 0, 0, []) := rx_at tbX11_goes ndX11_goes (j := 26) rfl
theorem iX11_goes_41 : rx_ins mX11_goes 41 = some (18, 44, 0, 11, 0, [(9, 124)]) := rx_at tbX11_goes ndX11_goes (j := 27) rfl
theorem iX11_goes_44 : rx_ins mX11_goes 44 = some (2, 46, 1, 5, 0, []) := rx_at tbX11_goes ndX11_goes (j := 28) rfl
theorem iX11_goes_46 : rx_ins mX11_goes 46 = some (1, 47, 2, 0, 0, []) := rx_at tbX11_goes ndX11_goes (j := 29) rfl
theorem iX11_goes_47 : rx_ins mX11_goes 47 = some (7, 48, 0, 0, 0, []) := rx_at tbX11_goes ndX11_goes (j := 30) rfl
theorem iX11_goes_48 : rx_ins mX11_goes 48 = some (2, 49, 0, 2, 0, []) := rx_at tbX11_goes ndX11_goes (j := 31) rfl
theorem iX11_goes_49 : rx_ins mX11_goes 49 = some (2, 50, 0, 3, 0, []) := rx_at tbX11_goes ndX11_goes (j := 32) rfl
theorem iX11_goes_50 : rx_ins mX11_goes 50 = some (14, 53, 7, 3, 57, []) := rx_at tbX11_goes ndX11_goes (j := 33) rfl
theorem iX11_goes_57 : rx_ins mX11_goes 57 = some (2, 58, 0, 2, 0, []) := rx_at tbX11_goes ndX11_goes (j := 36) rfl
theorem iX11_goes_58 : rx_ins mX11_goes 58 = some (21, 59, 0, 0, 0, []) := rx_at tbX11_goes ndX11_goes (j := 37) rfl
theorem iX11_goes_59 : rx_ins mX11_goes 59 = some (3, 60, 0, 0, 0, []) := rx_at tbX11_goes ndX11_goes (j := 38) rfl
theorem iX11_goes_60 : rx_ins mX11_goes 60 = some (18, 63, 0, 11, 0, [(9, 124)]) := rx_at tbX11_goes ndX11_goes (j := 39) rfl
theorem iX11_goes_63 : rx_ins mX11_goes 63 = some (2, 65, 1, 5, 0, []) := rx_at tbX11_goes ndX11_goes (j := 40) rfl
theorem iX11_goes_65 : rx_ins mX11_goes 65 = some (1, 66, 3, 0, 0, []) := rx_at tbX11_goes ndX11_goes (j := 41) rfl
theorem iX11_goes_66 : rx_ins mX11_goes 66 = some (7, 67, 0, 0, 0, []) := rx_at tbX11_goes ndX11_goes (j := 42) rfl
theorem iX11_goes_67 : rx_ins mX11_goes 67 = some (2, 69, 1, 4, 0, []) := rx_at tbX11_goes ndX11_goes (j := 43) rfl
theorem iX11_goes_69 : rx_ins mX11_goes 69 = some (21, 70, 0, 0, 0, []) := rx_at tbX11_goes ndX11_goes (j := 44) rfl
theorem iX11_goes_70 : rx_ins mX11_goes 70 = some (3, 71, 0, 0, 0, []) := rx_at tbX11_goes ndX11_goes (j := 45) rfl
theorem iX11_goes_71 : rx_ins mX11_goes 71 = some (18, 74, 0, 11, 0, [(9, 124)]) := rx_at tbX11_goes ndX11_goes (j := 46) rfl
theorem iX11_goes_74 : rx_ins mX11_goes 74 = some (2, 76, 1, 5, 0, []) := rx_at tbX11_goes ndX11_goes (j := 47) rfl
theorem iX11_goes_76 : rx_ins mX11_goes 76 = some (1, 77, 4, 0, 0, []) := rx_at tbX11_goes ndX11_goes (j := 48) rfl
theorem iX11_goes_77 : rx_ins mX11_goes 77 = some (7, 78, 0, 0, 0, []) := rx_at tbX11_goes ndX11_goes (j := 49) rfl
theorem iX11_goes_78 : rx_ins mX11_goes 78 = some (1, 79, 0, 0, 0, []) := rx_at tbX11_goes ndX11_goes (j := 50) rfl
theorem iX11_goes_79 : rx_ins mX11_goes 79 = some (21, 80, 0, 0, 0, []) := rx_at tbX11_goes ndX11_goes (j := 51) rfl
theorem iX11_goes_80 : rx_ins mX11_goes 80 = some (3, 81, 0, 0, 0, []) := rx_at tbX11_goes ndX11_goes (j := 52) rfl
theorem iX11_goes_81 : rx_ins mX11_goes 81 = some (18, 84, 0, 11, 0, [(9, 124)]) := rx_at tbX11_goes ndX11_goes (j := 53) rfl
theorem iX11_goes_84 : rx_ins mX11_goes 84 = some (1, 85, 2, 0, 0, []) := rx_at tbX11_goes ndX11_goes (j := 54) rfl
theorem iX11_goes_85 : rx_ins mX11_goes 85 = some (11, 86, 0, 0, 0, []) := rx_at tbX11_goes ndX11_goes (j := 55) rfl
theorem iX11_goes_86 : rx_ins mX11_goes 86 = some (20, 87, 0, 0, 0, []) := rx_at tbX11_goes ndX11_goes (j := 56) rfl
theorem iX11_goes_87 : rx_ins mX11_goes 87 = some (1, 88, 1, 0, 0, []) := rx_at tbX11_goes ndX11_goes (j := 57) rfl
theorem iX11_goes_88 : rx_ins mX11_goes 88 = some (7, 89, 0, 0, 0, []) := rx_at tbX11_goes ndX11_goes (j := 58) rfl
theorem iX11_goes_89 : rx_ins mX11_goes 89 = some (21, 90, 0, 0, 0, []) := rx_at tbX11_goes ndX11_goes (j := 59) rfl
theorem iX11_goes_90 : rx_ins mX11_goes 90 = some (3, 91, 0, 0, 0, []) := rx_at tbX11_goes ndX11_goes (j := 60) rfl
theorem iX11_goes_91 : rx_ins mX11_goes 91 = some (18, 94, 0, 11, 0, [(9, 124)]) := rx_at tbX11_goes ndX11_goes (j := 61) rfl
theorem iX11_goes_94 : rx_ins mX11_goes 94 = some (1, 95, 2, 0, 0, []) := rx_at tbX11_goes ndX11_goes (j := 62) rfl
theorem iX11_goes_95 : rx_ins mX11_goes 95 = some (20, 96, 0, 0, 0, []) := rx_at tbX11_goes ndX11_goes (j := 63) rfl
theorem iX11_goes_96 : rx_ins mX11_goes 96 = some (1, 97, 1, 0, 0, []) := rx_at tbX11_goes ndX11_goes (j := 64) rfl
theorem iX11_goes_97 : rx_ins mX11_goes 97 = some (7, 98, 0, 1, 0, []) := rx_at tbX11_goes ndX11_goes (j := 65) rfl
theorem iX11_goes_98 : rx_ins mX11_goes 98 = some (29, 99, 0, 0, 0, []) := rx_at tbX11_goes ndX11_goes (j := 66) rfl
theorem iX11_goes_34 : rx_ins mX11_goes 34 = some (2, 35, 0, 2, 0, []) := rx_at tbX11_goes ndX11_goes (j := 22) rfl
theorem iX11_goes_35 : rx_ins mX11_goes 35 = some (15, 38, 4, 0, 39, []) := rx_at tbX11_goes ndX11_goes (j := 23) rfl
theorem iX11_goes_53 : rx_ins mX11_goes 53 = some (2, 54, 0, 3, 0, []) := rx_at tbX11_goes ndX11_goes (j := 34) rfl
theorem iX11_goes_54 : rx_ins mX11_goes 54 = some (15, 57, 4, 0, 58, []) := rx_at tbX11_goes ndX11_goes (j := 35) rfl
theorem iX11_road_0 : rx_ins mX11_road 0 = some (2, 1, 0, 1, 0, []) := rx_at tbX11_road ndX11_road (j := 0) rfl
theorem iX11_road_1 : rx_ins mX11_road 1 = some (1, 2, 0, 0, 0, []) := rx_at tbX11_road ndX11_road (j := 1) rfl
theorem iX11_road_2 : rx_ins mX11_road 2 = some (1, 3, 5, 0, 0, []) := rx_at tbX11_road ndX11_road (j := 2) rfl
theorem iX11_road_3 : rx_ins mX11_road 3 = some (28, 6, 0, 133, 3, [(111, 198)]) := rx_at tbX11_road ndX11_road (j := 3) rfl
theorem iX11_road_6 : rx_ins mX11_road 6 = some (13, 9, 54, 0, 60, []) := rx_at tbX11_road ndX11_road (j := 4) rfl
theorem iX11_road_60 : rx_ins mX11_road 60 = some (1, 61, 0, 0, 0, []) := rx_at tbX11_road ndX11_road (j := 33) rfl
theorem iX11_road_61 : rx_ins mX11_road 61 = some (4, 63, 1, 4, 0, []) := rx_at tbX11_road ndX11_road (j := 34) rfl
theorem iX11_road_63 : rx_ins mX11_road 63 = some (2, 65, 1, 4, 0, []) := rx_at tbX11_road ndX11_road (j := 35) rfl
theorem iX11_road_65 : rx_ins mX11_road 65 = some (13, 68, 6, 1, 71, []) := rx_at tbX11_road ndX11_road (j := 36) rfl
theorem iX11_road_68 : rx_ins mX11_road 68 = some (1, 70, (-1000000001), 3, 21, [(130, 0)]) := rx_at tbX11_road ndX11_road (j := 37) rfl
theorem iX11_road_70 : rx_ins mX11_road 70 = some (29, 71, 0, 0, 0, []) := rx_at tbX11_road ndX11_road (j := 38) rfl
theorem iX11_road_9 : rx_ins mX11_road 9 = some (2, 10, 0, 3, 0, []) := rx_at tbX11_road ndX11_road (j := 5) rfl
theorem iX11_road_10 : rx_ins mX11_road 10 = some (1, 11, 1, 0, 0, []) := rx_at tbX11_road ndX11_road (j := 6) rfl
theorem iX11_road_11 : rx_ins mX11_road 11 = some (1, 13, 9, 1, 0, []) := rx_at tbX11_road ndX11_road (j := 7) rfl
theorem iX11_road_13 : rx_ins mX11_road 13 = some (28, 16, 0, 133, 3, [(111, 198)]) := rx_at tbX11_road ndX11_road (j := 8) rfl
theorem iX11_road_16 : rx_ins mX11_road 16 = some (13, 19, 44, 0, 60, []) := rx_at tbX11_road ndX11_road (j := 9) rfl
theorem iX11_road_19 : rx_ins mX11_road 19 = some (2, 20, 0, 2, 0, []) := rx_at tbX11_road ndX11_road (j := 10) rfl
theorem iX11_road_20 : rx_ins mX11_road 20 = some (13, 23, 40, 2, 60, []) := rx_at tbX11_road ndX11_road (j := 11) rfl
theorem iX11_road_23 : rx_ins mX11_road 23 = some (3, 24, 0, 0, 0, []) := rx_at tbX11_road ndX11_road (j := 12) rfl
theorem iX11_road_24 : rx_ins mX11_road 24 = some (2, 25, 0, 2, 0, []) := rx_at tbX11_road ndX11_road (j := 13) rfl
theorem iX11_road_25 : rx_ins mX11_road 25 = some (1, 27, 10, 1, 0, []) := rx_at tbX11_road ndX11_road (j := 14) rfl
theorem iX11_road_27 : rx_ins mX11_road 27 = some (8, 28, 0, 0, 0, []) := rx_at tbX11_road ndX11_road (j := 15) rfl
theorem iX11_road_28 : rx_ins mX11_road 28 = some (28, 31, 13, 136, 2, [(145, 207)]) := rx_at tbX11_road ndX11_road (j := 16) rfl
theorem iX11_road_31 : rx_ins mX11_road 31 = some (13, 34, 29, 0, 60, []) := rx_at tbX11_road ndX11_road (j := 17) rfl
theorem iX11_road_34 : rx_ins mX11_road 34 = some (3, 35, 0, 0, 0, []) := rx_at tbX11_road ndX11_road (j := 18) rfl
theorem iX11_road_35 : rx_ins mX11_road 35 = some (2, 36, 0, 2, 0, []) := rx_at tbX11_road ndX11_road (j := 19) rfl
theorem iX11_road_36 : rx_ins mX11_road 36 = some (1, 38, 10, 1, 0, []) := rx_at tbX11_road ndX11_road (j := 20) rfl
theorem iX11_road_38 : rx_ins mX11_road 38 = some (8, 39, 0, 1, 0, []) := rx_at tbX11_road ndX11_road (j := 21) rfl
theorem iX11_road_39 : rx_ins mX11_road 39 = some (28, 42, 13, 136, 2, [(145, 207)]) := rx_at tbX11_road ndX11_road (j := 22) rfl
theorem iX11_road_42 : rx_ins mX11_road 42 = some (13, 45, 18, 0, 60, []) := rx_at tbX11_road ndX11_road (j := 23) rfl
theorem iX11_road_45 : rx_ins mX11_road 45 = some (2, 46, 0, 2, 0, []) := rx_at tbX11_road ndX11_road (j := 24) rfl
theorem iX11_road_46 : rx_ins mX11_road 46 = some (1, 48, 10, 1, 0, []) := rx_at tbX11_road ndX11_road (j := 25) rfl
theorem iX11_road_48 : rx_ins mX11_road 48 = some (8, 49, 0, 0, 0, []) := rx_at tbX11_road ndX11_road (j := 26) rfl
theorem iX11_road_49 : rx_ins mX11_road 49 = some (2, 50, 0, 2, 0, []) := rx_at tbX11_road ndX11_road (j := 27) rfl
theorem iX11_road_50 : rx_ins mX11_road 50 = some (1, 52, 10, 1, 0, []) := rx_at tbX11_road ndX11_road (j := 28) rfl
theorem iX11_road_52 : rx_ins mX11_road 52 = some (8, 53, 0, 1, 0, []) := rx_at tbX11_road ndX11_road (j := 29) rfl
theorem iX11_road_53 : rx_ins mX11_road 53 = some (14, 56, 7, 0, 60, []) := rx_at tbX11_road ndX11_road (j := 30) rfl
theorem iX11_road_56 : rx_ins mX11_road 56 = some (1, 57, 1, 0, 0, []) := rx_at tbX11_road ndX11_road (j := 31) rfl
theorem iX11_road_57 : rx_ins mX11_road 57 = some (15, 60, 4, 0, 61, []) := rx_at tbX11_road ndX11_road (j := 32) rfl
theorem iX11_road_71 : rx_ins mX11_road 71 = some (3, 72, 0, 0, 0, []) := rx_at tbX11_road ndX11_road (j := 39) rfl
theorem iX11_road_72 : rx_ins mX11_road 72 = some (2, 73, 0, 2, 0, []) := rx_at tbX11_road ndX11_road (j := 40) rfl
theorem iX11_road_73 : rx_ins mX11_road 73 = some (1, 75, 10, 1, 0, []) := rx_at tbX11_road ndX11_road (j := 41) rfl
theorem iX11_road_75 : rx_ins mX11_road 75 = some (8, 76, 0, 0, 0, []) := rx_at tbX11_road ndX11_road (j := 42) rfl
theorem iX11_road_76 : rx_ins mX11_road 76 = some (2, 77, 0, 2, 0, []) := rx_at tbX11_road ndX11_road (j := 43) rfl
theorem iX11_road_77 : rx_ins mX11_road 77 = some (1, 79, 10, 1, 0, []) := rx_at tbX11_road ndX11_road (j := 44) rfl
theorem iX11_road_79 : rx_ins mX11_road 79 = some (8, 80, 0, 1, 0, []) := rx_at tbX11_road ndX11_road (j := 45) rfl
theorem iX11_road_80 : rx_ins mX11_road 80 = some (28, 83, 13, 153, 3, [(158, 211)]) := rx_at tbX11_road ndX11_road (j := 46) rfl
theorem iX11_road_83 : rx_ins mX11_road 83 = some (13, 86, 6, 0, 89, []) := rx_at tbX11_road ndX11_road (j := 47) rfl
theorem iX11_road_89 : rx_ins mX11_road 89 = some (3, 90, 0, 0, 0, []) := rx_at tbX11_road ndX11_road (j := 50) rfl
theorem iX11_road_90 : rx_ins mX11_road 90 = some (18, 93, 0, 11, 0, [(9, 124)]) := rx_at tbX11_road ndX11_road (j := 51) rfl
theorem iX11_road_93 : rx_ins mX11_road 93 = some (1, 94, 2, 0, 0, []) := rx_at tbX11_road ndX11_road (j := 52) rfl
theorem iX11_road_94 : rx_ins mX11_road 94 = some (20, 95, 0, 0, 0, []) := rx_at tbX11_road ndX11_road (j := 53) rfl
theorem iX11_road_95 : rx_ins mX11_road 95 = some (1, 97, 18, 1, 0, []) := rx_at tbX11_road ndX11_road (j := 54) rfl
theorem iX11_road_97 : rx_ins mX11_road 97 = some (14, 100, 8, 1, 105, []) := rx_at tbX11_road ndX11_road (j := 55) rfl
theorem iX11_road_105 : rx_ins mX11_road 105 = some (3, 106, 0, 0, 0, []) := rx_at tbX11_road ndX11_road (j := 58) rfl
theorem iX11_road_106 : rx_ins mX11_road 106 = some (2, 107, 0, 1, 0, []) := rx_at tbX11_road ndX11_road (j := 59) rfl
theorem iX11_road_107 : rx_ins mX11_road 107 = some (2, 108, 0, 2, 0, []) := rx_at tbX11_road ndX11_road (j := 60) rfl
theorem iX11_road_108 : rx_ins mX11_road 108 = some (1, 110, 10, 1, 0, []) := rx_at tbX11_road ndX11_road (j := 61) rfl
theorem iX11_road_110 : rx_ins mX11_road 110 = some (8, 111, 0, 0, 0, []) := rx_at tbX11_road ndX11_road (j := 62) rfl
theorem iX11_road_111 : rx_ins mX11_road 111 = some (2, 112, 0, 2, 0, []) := rx_at tbX11_road ndX11_road (j := 63) rfl
theorem iX11_road_112 : rx_ins mX11_road 112 = some (1, 114, 10, 1, 0, []) := rx_at tbX11_road ndX11_road (j := 64) rfl
theorem iX11_road_114 : rx_ins mX11_road 114 = some (8, 115, 0, 1, 0, []) := rx_at tbX11_road ndX11_road (j := 65) rfl
theorem iX11_road_115 : rx_ins mX11_road 115 = some (2, 116, 0, 3, 0, []) := rx_at tbX11_road ndX11_road (j := 66) rfl
theorem iX11_road_116 : rx_ins mX11_road 116 = some (28, 119, 13, 154, 5, [(161, 212)]) := rx_at tbX11_road ndX11_road (j := 67) rfl
theorem iX11_road_119 : rx_ins mX11_road 119 = some (29, 120, 0, 0, 0, []) := rx_at tbX11_road ndX11_road (j := 68) rfl
theorem iX11_road_100 : rx_ins mX11_road 100 = some (1, 102, (-1000000003), 3, 23, [(135, 0)]) := rx_at tbX11_road ndX11_road (j := 56) rfl
theorem iX11_road_102 : rx_ins mX11_road 102 = some (15, 105, 17, 0, 119, []) := rx_at tbX11_road ndX11_road (j := 57) rfl
theorem iX11_road_86 : rx_ins mX11_road 86 = some (1, 88, (-1000000002), 3, 22, [(134, 0)]) := rx_at tbX11_road ndX11_road (j := 48) rfl
theorem iX11_road_88 : rx_ins mX11_road 88 = some (29, 89, 0, 0, 0, []) := rx_at tbX11_road ndX11_road (j := 49) rfl
theorem iX11_harmOf_0 : rx_ins mX11_harmOf 0 = some (3, 1, 0, 0, 0, []) := rx_at tbX11_harmOf ndX11_harmOf (j := 0) rfl
theorem iX11_harmOf_1 : rx_ins mX11_harmOf 1 = some (1, 2, 0, 0, 0, []) := rx_at tbX11_harmOf ndX11_harmOf (j := 1) rfl
theorem iX11_harmOf_2 : rx_ins mX11_harmOf 2 = some (28, 5, 13, 226, 2, [(165, 213)]) := rx_at tbX11_harmOf ndX11_harmOf (j := 2) rfl
theorem iX11_harmOf_5 : rx_ins mX11_harmOf 5 = some (4, 6, 0, 2, 0, []) := rx_at tbX11_harmOf ndX11_harmOf (j := 3) rfl
theorem iX11_harmOf_6 : rx_ins mX11_harmOf 6 = some (3, 7, 0, 0, 0, []) := rx_at tbX11_harmOf ndX11_harmOf (j := 4) rfl
theorem iX11_harmOf_7 : rx_ins mX11_harmOf 7 = some (18, 10, 0, 11, 38, [(81, 125)]) := rx_at tbX11_harmOf ndX11_harmOf (j := 5) rfl
theorem iX11_harmOf_10 : rx_ins mX11_harmOf 10 = some (1, 11, 0, 0, 0, []) := rx_at tbX11_harmOf ndX11_harmOf (j := 6) rfl
theorem iX11_harmOf_11 : rx_ins mX11_harmOf 11 = some (3, 12, 0, 0, 0, []) := rx_at tbX11_harmOf ndX11_harmOf (j := 7) rfl
theorem iX11_harmOf_12 : rx_ins mX11_harmOf 12 = some (2, 13, 0, 1, 0, []) := rx_at tbX11_harmOf ndX11_harmOf (j := 8) rfl
theorem iX11_harmOf_13 : rx_ins mX11_harmOf 13 = some (1, 14, 3, 0, 0, []) := rx_at tbX11_harmOf ndX11_harmOf (j := 9) rfl
theorem iX11_harmOf_14 : rx_ins mX11_harmOf 14 = some (28, 17, 13, 141, 3, [(115, 199)]) := rx_at tbX11_harmOf ndX11_harmOf (j := 10) rfl
theorem iX11_harmOf_17 : rx_ins mX11_harmOf 17 = some (21, 18, 0, 0, 0, []) := rx_at tbX11_harmOf ndX11_harmOf (j := 11) rfl
theorem iX11_harmOf_18 : rx_ins mX11_harmOf 18 = some (3, 19, 0, 0, 0, []) := rx_at tbX11_harmOf ndX11_harmOf (j := 12) rfl
theorem iX11_harmOf_19 : rx_ins mX11_harmOf 19 = some (18, 22, 0, 11, 38, [(81, 125)]) := rx_at tbX11_harmOf ndX11_harmOf (j := 13) rfl
theorem iX11_harmOf_22 : rx_ins mX11_harmOf 22 = some (1, 23, 1, 0, 0, []) := rx_at tbX11_harmOf ndX11_harmOf (j := 14) rfl
theorem iX11_harmOf_23 : rx_ins mX11_harmOf 23 = some (3, 24, 0, 0, 0, []) := rx_at tbX11_harmOf ndX11_harmOf (j := 15) rfl
theorem iX11_harmOf_24 : rx_ins mX11_harmOf 24 = some (2, 25, 0, 1, 0, []) := rx_at tbX11_harmOf ndX11_harmOf (j := 16) rfl
theorem iX11_harmOf_25 : rx_ins mX11_harmOf 25 = some (28, 28, 13, 142, 2, [(139, 205)]) := rx_at tbX11_harmOf ndX11_harmOf (j := 17) rfl
theorem iX11_harmOf_28 : rx_ins mX11_harmOf 28 = some (21, 29, 0, 0, 0, []) := rx_at tbX11_harmOf ndX11_harmOf (j := 18) rfl
theorem iX11_harmOf_29 : rx_ins mX11_harmOf 29 = some (3, 30, 0, 0, 0, []) := rx_at tbX11_harmOf ndX11_harmOf (j := 19) rfl
theorem iX11_harmOf_30 : rx_ins mX11_harmOf 30 = some (18, 33, 0, 11, 38, [(81, 125)]) := rx_at tbX11_harmOf ndX11_harmOf (j := 20) rfl
theorem iX11_harmOf_33 : rx_ins mX11_harmOf 33 = some (1, 34, 2, 0, 0, []) := rx_at tbX11_harmOf ndX11_harmOf (j := 21) rfl
theorem iX11_harmOf_34 : rx_ins mX11_harmOf 34 = some (3, 35, 0, 0, 0, []) := rx_at tbX11_harmOf ndX11_harmOf (j := 22) rfl
theorem iX11_harmOf_35 : rx_ins mX11_harmOf 35 = some (2, 36, 0, 1, 0, []) := rx_at tbX11_harmOf ndX11_harmOf (j := 23) rfl
theorem iX11_harmOf_36 : rx_ins mX11_harmOf 36 = some (28, 39, 13, 143, 2, [(142, 206)]) := rx_at tbX11_harmOf ndX11_harmOf (j := 24) rfl
theorem iX11_harmOf_39 : rx_ins mX11_harmOf 39 = some (21, 40, 0, 0, 0, []) := rx_at tbX11_harmOf ndX11_harmOf (j := 25) rfl
theorem iX11_harmOf_40 : rx_ins mX11_harmOf 40 = some (2, 41, 0, 2, 0, []) := rx_at tbX11_harmOf ndX11_harmOf (j := 26) rfl
theorem iX11_harmOf_41 : rx_ins mX11_harmOf 41 = some (13, 44, 12, 3, 53, []) := rx_at tbX11_harmOf ndX11_harmOf (j := 27) rfl
theorem iX11_harmOf_53 : rx_ins mX11_harmOf 53 = some (3, 54, 0, 0, 0, []) := rx_at tbX11_harmOf ndX11_harmOf (j := 33) rfl
theorem iX11_harmOf_54 : rx_ins mX11_harmOf 54 = some (2, 55, 0, 2, 0, []) := rx_at tbX11_harmOf ndX11_harmOf (j := 34) rfl
theorem iX11_harmOf_55 : rx_ins mX11_harmOf 55 = some (28, 58, 13, 229, 2, [(168, 214)]) := rx_at tbX11_harmOf ndX11_harmOf (j := 35) rfl
theorem iX11_harmOf_58 : rx_ins mX11_harmOf 58 = some (1, 59, 0, 0, 0, []) := rx_at tbX11_harmOf ndX11_harmOf (j := 36) rfl
theorem iX11_harmOf_59 : rx_ins mX11_harmOf 59 = some (1, 61, 99, 1, 0, []) := rx_at tbX11_harmOf ndX11_harmOf (j := 37) rfl
theorem iX11_harmOf_61 : rx_ins mX11_harmOf 61 = some (28, 64, 0, 134, 3, [(171, 215)]) := rx_at tbX11_harmOf ndX11_harmOf (j := 38) rfl
theorem iX11_harmOf_64 : rx_ins mX11_harmOf 64 = some (4, 65, 0, 3, 0, []) := rx_at tbX11_harmOf ndX11_harmOf (j := 39) rfl
theorem iX11_harmOf_65 : rx_ins mX11_harmOf 65 = some (3, 66, 0, 0, 0, []) := rx_at tbX11_harmOf ndX11_harmOf (j := 40) rfl
theorem iX11_harmOf_66 : rx_ins mX11_harmOf 66 = some (2, 67, 0, 1, 0, []) := rx_at tbX11_harmOf ndX11_harmOf (j := 41) rfl
theorem iX11_harmOf_67 : rx_ins mX11_harmOf 67 = some (1, 68, 0, 0, 0, []) := rx_at tbX11_harmOf ndX11_harmOf (j := 42) rfl
theorem iX11_harmOf_68 : rx_ins mX11_harmOf 68 = some (28, 71, 13, 141, 3, [(115, 199)]) := rx_at tbX11_harmOf ndX11_harmOf (j := 43) rfl
theorem iX11_harmOf_71 : rx_ins mX11_harmOf 71 = some (16, 104, 0, 0, 135, [(1, 104), (2, 108), (3, 114), (4, 120), (5, 133)]) := rx_at tbX11_harmOf ndX11_harmOf (j := 44) rfl
theorem iX11_harmOf_104 : rx_ins mX11_harmOf 104 = some (2, 105, 0, 3, 0, []) := rx_at tbX11_harmOf ndX11_harmOf (j := 45) rfl
theorem iX11_harmOf_105 : rx_ins mX11_harmOf 105 = some (1, 106, 2, 0, 0, []) := rx_at tbX11_harmOf ndX11_harmOf (j := 46) rfl
theorem iX11_harmOf_106 : rx_ins mX11_harmOf 106 = some (7, 107, 0, 0, 0, []) := rx_at tbX11_harmOf ndX11_harmOf (j := 47) rfl
theorem iX11_harmOf_107 : rx_ins mX11_harmOf 107 = some (29, 108, 0, 0, 0, []) := rx_at tbX11_harmOf ndX11_harmOf (j := 48) rfl
theorem iX11_harmOf_108 : rx_ins mX11_harmOf 108 = some (2, 109, 0, 3, 0, []) := rx_at tbX11_harmOf ndX11_harmOf (j := 49) rfl
theorem iX11_harmOf_109 : rx_ins mX11_harmOf 109 = some (1, 110, 1, 0, 0, []) := rx_at tbX11_harmOf ndX11_harmOf (j := 50) rfl
theorem iX11_harmOf_110 : rx_ins mX11_harmOf 110 = some (7, 111, 0, 0, 0, []) := rx_at tbX11_harmOf ndX11_harmOf (j := 51) rfl
theorem iX11_harmOf_111 : rx_ins mX11_harmOf 111 = some (1, 112, 2, 0, 0, []) := rx_at tbX11_harmOf ndX11_harmOf (j := 52) rfl
theorem iX11_harmOf_112 : rx_ins mX11_harmOf 112 = some (8, 113, 0, 0, 0, []) := rx_at tbX11_harmOf ndX11_harmOf (j := 53) rfl
theorem iX11_harmOf_113 : rx_ins mX11_harmOf 113 = some (29, 114, 0, 0, 0, []) := rx_at tbX11_harmOf ndX11_harmOf (j := 54) rfl
theorem iX11_harmOf_114 : rx_ins mX11_harmOf 114 = some (1, 115, 2, 0, 0, []) := rx_at tbX11_harmOf ndX11_harmOf (j := 55) rfl
theorem iX11_harmOf_115 : rx_ins mX11_harmOf 115 = some (2, 116, 0, 3, 0, []) := rx_at tbX11_harmOf ndX11_harmOf (j := 56) rfl
theorem iX11_harmOf_116 : rx_ins mX11_harmOf 116 = some (1, 117, 2, 0, 0, []) := rx_at tbX11_harmOf ndX11_harmOf (j := 57) rfl
theorem iX11_harmOf_117 : rx_ins mX11_harmOf 117 = some (7, 118, 0, 0, 0, []) := rx_at tbX11_harmOf ndX11_harmOf (j := 58) rfl
theorem iX11_harmOf_118 : rx_ins mX11_harmOf 118 = some (7, 119, 0, 2, 0, []) := rx_at tbX11_harmOf ndX11_harmOf (j := 59) rfl
theorem iX11_harmOf_119 : rx_ins mX11_harmOf 119 = some (29, 120, 0, 0, 0, []) := rx_at tbX11_harmOf ndX11_harmOf (j := 60) rfl
theorem iX11_harmOf_120 : rx_ins mX11_harmOf 120 = some (2, 121, 0, 3, 0, []) := rx_at tbX11_harmOf ndX11_harmOf (j := 61) rfl
theorem iX11_harmOf_121 : rx_ins mX11_harmOf 121 = some (1, 122, 1, 0, 0, []) := rx_at tbX11_harmOf ndX11_harmOf (j := 62) rfl
theorem iX11_harmOf_122 : rx_ins mX11_harmOf 122 = some (7, 123, 0, 0, 0, []) := rx_at tbX11_harmOf ndX11_harmOf (j := 63) rfl
theorem iX11_harmOf_123 : rx_ins mX11_harmOf 123 = some (1, 124, 2, 0, 0, []) := rx_at tbX11_harmOf ndX11_harmOf (j := 64) rfl
theorem iX11_harmOf_124 : rx_ins mX11_harmOf 124 = some (8, 125, 0, 0, 0, []) := rx_at tbX11_harmOf ndX11_harmOf (j := 65) rfl
theorem iX11_harmOf_125 : rx_ins mX11_harmOf 125 = some (3, 126, 0, 0, 0, []) := rx_at tbX11_harmOf ndX11_harmOf (j := 66) rfl
theorem iX11_harmOf_126 : rx_ins mX11_harmOf 126 = some (2, 127, 0, 1, 0, []) := rx_at tbX11_harmOf ndX11_harmOf (j := 67) rfl
theorem iX11_harmOf_127 : rx_ins mX11_harmOf 127 = some (1, 128, 3, 0, 0, []) := rx_at tbX11_harmOf ndX11_harmOf (j := 68) rfl
theorem iX11_harmOf_128 : rx_ins mX11_harmOf 128 = some (28, 131, 13, 141, 3, [(115, 199)]) := rx_at tbX11_harmOf ndX11_harmOf (j := 69) rfl
theorem iX11_harmOf_131 : rx_ins mX11_harmOf 131 = some (7, 132, 0, 0, 0, []) := rx_at tbX11_harmOf ndX11_harmOf (j := 70) rfl
theorem iX11_harmOf_132 : rx_ins mX11_harmOf 132 = some (29, 133, 0, 0, 0, []) := rx_at tbX11_harmOf ndX11_harmOf (j := 71) rfl
theorem iX11_harmOf_133 : rx_ins mX11_harmOf 133 = some (1, 134, 0, 0, 0, []) := rx_at tbX11_harmOf ndX11_harmOf (j := 72) rfl
theorem iX11_harmOf_134 : rx_ins mX11_harmOf 134 = some (29, 135, 0, 0, 0, []) := rx_at tbX11_harmOf ndX11_harmOf (j := 73) rfl
theorem iX11_harmOf_135 : rx_ins mX11_harmOf 135 = some (2, 136, 0, 3, 0, []) := rx_at tbX11_harmOf ndX11_harmOf (j := 74) rfl
theorem iX11_harmOf_136 : rx_ins mX11_harmOf 136 = some (29, 137, 0, 0, 0, []) := rx_at tbX11_harmOf ndX11_harmOf (j := 75) rfl
theorem iX11_harmOf_44 : rx_ins mX11_harmOf 44 = some (3, 45, 0, 0, 0, []) := rx_at tbX11_harmOf ndX11_harmOf (j := 28) rfl
theorem iX11_harmOf_45 : rx_ins mX11_harmOf 45 = some (2, 46, 0, 1, 0, []) := rx_at tbX11_harmOf ndX11_harmOf (j := 29) rfl
theorem iX11_harmOf_46 : rx_ins mX11_harmOf 46 = some (1, 47, 3, 0, 0, []) := rx_at tbX11_harmOf ndX11_harmOf (j := 30) rfl
theorem iX11_harmOf_47 : rx_ins mX11_harmOf 47 = some (28, 50, 13, 141, 3, [(115, 199)]) := rx_at tbX11_harmOf ndX11_harmOf (j := 31) rfl
theorem iX11_harmOf_50 : rx_ins mX11_harmOf 50 = some (15, 53, 14, 0, 64, []) := rx_at tbX11_harmOf ndX11_harmOf (j := 32) rfl
theorem iX11_worthBy_0 : rx_ins mX11_worthBy 0 = some (2, 1, 0, 0, 0, []) := rx_at tbX11_worthBy ndX11_worthBy (j := 0) rfl
theorem iX11_worthBy_1 : rx_ins mX11_worthBy 1 = some (16, 36, 0, 0, 58, [(1, 36), (2, 41), (3, 48), (4, 41), (5, 55)]) := rx_at tbX11_worthBy ndX11_worthBy (j := 1) rfl
theorem iX11_worthBy_36 : rx_ins mX11_worthBy 36 = some (1, 38, 15, 1, 0, []) := rx_at tbX11_worthBy ndX11_worthBy (j := 2) rfl
theorem iX11_worthBy_38 : rx_ins mX11_worthBy 38 = some (2, 39, 0, 1, 0, []) := rx_at tbX11_worthBy ndX11_worthBy (j := 3) rfl
theorem iX11_worthBy_39 : rx_ins mX11_worthBy 39 = some (7, 40, 0, 1, 0, []) := rx_at tbX11_worthBy ndX11_worthBy (j := 4) rfl
theorem iX11_worthBy_40 : rx_ins mX11_worthBy 40 = some (29, 41, 0, 0, 0, []) := rx_at tbX11_worthBy ndX11_worthBy (j := 5) rfl
theorem iX11_worthBy_41 : rx_ins mX11_worthBy 41 = some (1, 43, 10, 1, 0, []) := rx_at tbX11_worthBy ndX11_worthBy (j := 6) rfl
theorem iX11_worthBy_43 : rx_ins mX11_worthBy 43 = some (2, 44, 0, 1, 0, []) := rx_at tbX11_worthBy ndX11_worthBy (j := 7) rfl
theorem iX11_worthBy_44 : rx_ins mX11_worthBy 44 = some (7, 45, 0, 1, 0, []) := rx_at tbX11_worthBy ndX11_worthBy (j := 8) rfl
theorem iX11_worthBy_45 : rx_ins mX11_worthBy 45 = some (1, 46, 2, 0, 0, []) := rx_at tbX11_worthBy ndX11_worthBy (j := 9) rfl
theorem iX11_worthBy_46 : rx_ins mX11_worthBy 46 = some (8, 47, 0, 0, 0, []) := rx_at tbX11_worthBy ndX11_worthBy (j := 10) rfl
theorem iX11_worthBy_47 : rx_ins mX11_worthBy 47 = some (29, 48, 0, 0, 0, []) := rx_at tbX11_worthBy ndX11_worthBy (j := 11) rfl
theorem iX11_worthBy_48 : rx_ins mX11_worthBy 48 = some (1, 50, 15, 1, 0, []) := rx_at tbX11_worthBy ndX11_worthBy (j := 12) rfl
theorem iX11_worthBy_50 : rx_ins mX11_worthBy 50 = some (1, 51, 2, 0, 0, []) := rx_at tbX11_worthBy ndX11_worthBy (j := 13) rfl
theorem iX11_worthBy_51 : rx_ins mX11_worthBy 51 = some (2, 52, 0, 1, 0, []) := rx_at tbX11_worthBy ndX11_worthBy (j := 14) rfl
theorem iX11_worthBy_52 : rx_ins mX11_worthBy 52 = some (7, 53, 0, 2, 0, []) := rx_at tbX11_worthBy ndX11_worthBy (j := 15) rfl
theorem iX11_worthBy_53 : rx_ins mX11_worthBy 53 = some (7, 54, 0, 1, 0, []) := rx_at tbX11_worthBy ndX11_worthBy (j := 16) rfl
theorem iX11_worthBy_54 : rx_ins mX11_worthBy 54 = some (29, 55, 0, 0, 0, []) := rx_at tbX11_worthBy ndX11_worthBy (j := 17) rfl
theorem iX11_worthBy_55 : rx_ins mX11_worthBy 55 = some (1, 57, 20, 1, 0, []) := rx_at tbX11_worthBy ndX11_worthBy (j := 18) rfl
theorem iX11_worthBy_57 : rx_ins mX11_worthBy 57 = some (29, 58, 0, 0, 0, []) := rx_at tbX11_worthBy ndX11_worthBy (j := 19) rfl
theorem iX11_worthBy_58 : rx_ins mX11_worthBy 58 = some (1, 60, 10, 1, 0, []) := rx_at tbX11_worthBy ndX11_worthBy (j := 20) rfl
theorem iX11_worthBy_60 : rx_ins mX11_worthBy 60 = some (2, 61, 0, 1, 0, []) := rx_at tbX11_worthBy ndX11_worthBy (j := 21) rfl
theorem iX11_worthBy_61 : rx_ins mX11_worthBy 61 = some (7, 62, 0, 1, 0, []) := rx_at tbX11_worthBy ndX11_worthBy (j := 22) rfl
theorem iX11_worthBy_62 : rx_ins mX11_worthBy 62 = some (29, 63, 0, 0, 0, []) := rx_at tbX11_worthBy ndX11_worthBy (j := 23) rfl
theorem iX11_told_0 : rx_ins mX11_told 0 = some (3, 1, 0, 0, 0, []) := rx_at tbX11_told ndX11_told (j := 0) rfl
theorem iX11_told_1 : rx_ins mX11_told 1 = some (2, 2, 0, 1, 0, []) := rx_at tbX11_told ndX11_told (j := 1) rfl
theorem iX11_told_2 : rx_ins mX11_told 2 = some (28, 5, 13, 137, 2, [(175, 216)]) := rx_at tbX11_told ndX11_told (j := 2) rfl
theorem iX11_told_5 : rx_ins mX11_told 5 = some (13, 8, 13, 0, 18, []) := rx_at tbX11_told ndX11_told (j := 3) rfl
theorem iX11_told_18 : rx_ins mX11_told 18 = some (1, 20, (-1000000001), 3, 21, [(130, 0)]) := rx_at tbX11_told ndX11_told (j := 9) rfl
theorem iX11_told_20 : rx_ins mX11_told 20 = some (29, 21, 0, 0, 0, []) := rx_at tbX11_told ndX11_told (j := 10) rfl
theorem iX11_told_8 : rx_ins mX11_told 8 = some (2, 9, 0, 2, 0, []) := rx_at tbX11_told ndX11_told (j := 4) rfl
theorem iX11_told_9 : rx_ins mX11_told 9 = some (1, 10, 0, 0, 0, []) := rx_at tbX11_told ndX11_told (j := 5) rfl
theorem iX11_told_10 : rx_ins mX11_told 10 = some (1, 12, 6, 1, 0, []) := rx_at tbX11_told ndX11_told (j := 6) rfl
theorem iX11_told_12 : rx_ins mX11_told 12 = some (28, 15, 0, 133, 3, [(111, 198)]) := rx_at tbX11_told ndX11_told (j := 7) rfl
theorem iX11_told_15 : rx_ins mX11_told 15 = some (13, 18, 6, 1, 21, []) := rx_at tbX11_told ndX11_told (j := 8) rfl
theorem iX11_told_21 : rx_ins mX11_told 21 = some (2, 22, 0, 2, 0, []) := rx_at tbX11_told ndX11_told (j := 11) rfl
theorem iX11_told_22 : rx_ins mX11_told 22 = some (1, 23, 5, 0, 0, []) := rx_at tbX11_told ndX11_told (j := 12) rfl
theorem iX11_told_23 : rx_ins mX11_told 23 = some (14, 26, 11, 1, 34, []) := rx_at tbX11_told ndX11_told (j := 13) rfl
theorem iX11_told_34 : rx_ins mX11_told 34 = some (2, 35, 0, 2, 0, []) := rx_at tbX11_told ndX11_told (j := 18) rfl
theorem iX11_told_35 : rx_ins mX11_told 35 = some (1, 37, 6, 1, 0, []) := rx_at tbX11_told ndX11_told (j := 19) rfl
theorem iX11_told_37 : rx_ins mX11_told 37 = some (14, 40, 21, 1, 58, []) := rx_at tbX11_told ndX11_told (j := 20) rfl
theorem iX11_told_58 : rx_ins mX11_told 58 = some (3, 59, 0, 0, 0, []) := rx_at tbX11_told ndX11_told (j := 31) rfl
theorem iX11_told_59 : rx_ins mX11_told 59 = some (2, 60, 0, 1, 0, []) := rx_at tbX11_told ndX11_told (j := 32) rfl
theorem iX11_told_60 : rx_ins mX11_told 60 = some (2, 61, 0, 2, 0, []) := rx_at tbX11_told ndX11_told (j := 33) rfl
theorem iX11_told_61 : rx_ins mX11_told 61 = some (28, 64, 13, 141, 3, [(115, 199)]) := rx_at tbX11_told ndX11_told (j := 34) rfl
theorem iX11_told_64 : rx_ins mX11_told 64 = some (29, 65, 0, 0, 0, []) := rx_at tbX11_told ndX11_told (j := 35) rfl
theorem iX11_told_40 : rx_ins mX11_told 40 = some (3, 41, 0, 0, 0, []) := rx_at tbX11_told ndX11_told (j := 21) rfl
theorem iX11_told_41 : rx_ins mX11_told 41 = some (2, 42, 0, 1, 0, []) := rx_at tbX11_told ndX11_told (j := 22) rfl
theorem iX11_told_42 : rx_ins mX11_told 42 = some (1, 43, 0, 0, 0, []) := rx_at tbX11_told ndX11_told (j := 23) rfl
theorem iX11_told_43 : rx_ins mX11_told 43 = some (28, 46, 13, 141, 3, [(115, 199)]) := rx_at tbX11_told ndX11_told (j := 24) rfl
theorem iX11_told_46 : rx_ins mX11_told 46 = some (3, 47, 0, 0, 0, []) := rx_at tbX11_told ndX11_told (j := 25) rfl
theorem iX11_told_47 : rx_ins mX11_told 47 = some (2, 48, 0, 1, 0, []) := rx_at tbX11_told ndX11_told (j := 26) rfl
theorem iX11_told_48 : rx_ins mX11_told 48 = some (1, 49, 3, 0, 0, []) := rx_at tbX11_told ndX11_told (j := 27) rfl
theorem iX11_told_49 : rx_ins mX11_told 49 = some (28, 52, 13, 141, 3, [(115, 199)]) := rx_at tbX11_told ndX11_told (j := 28) rfl
theorem iX11_told_52 : rx_ins mX11_told 52 = some (28, 55, 0, 157, 2, [(181, 218)]) := rx_at tbX11_told ndX11_told (j := 29) rfl
theorem iX11_told_55 : rx_ins mX11_told 55 = some (15, 58, 9, 0, 64, []) := rx_at tbX11_told ndX11_told (j := 30) rfl
theorem iX11_told_26 : rx_ins mX11_told 26 = some (3, 27, 0, 0, 0, []) := rx_at tbX11_told ndX11_told (j := 14) rfl
theorem iX11_told_27 : rx_ins mX11_told 27 = some (2, 28, 0, 1, 0, []) := rx_at tbX11_told ndX11_told (j := 15) rfl
theorem iX11_told_28 : rx_ins mX11_told 28 = some (28, 31, 13, 156, 2, [(178, 217)]) := rx_at tbX11_told ndX11_told (j := 16) rfl
theorem iX11_told_31 : rx_ins mX11_told 31 = some (15, 34, 33, 0, 64, []) := rx_at tbX11_told ndX11_told (j := 17) rfl
theorem iX11_isUnder_0 : rx_ins mX11_isUnder 0 = some (2, 1, 0, 1, 0, []) := rx_at tbX11_isUnder ndX11_isUnder (j := 0) rfl
theorem iX11_isUnder_1 : rx_ins mX11_isUnder 1 = some (13, 4, 28, 0, 29, []) := rx_at tbX11_isUnder ndX11_isUnder (j := 1) rfl
theorem iX11_isUnder_29 : rx_ins mX11_isUnder 29 = some (1, 30, 1, 0, 0, []) := rx_at tbX11_isUnder ndX11_isUnder (j := 17) rfl
theorem iX11_isUnder_30 : rx_ins mX11_isUnder 30 = some (15, 33, 4, 0, 34, []) := rx_at tbX11_isUnder ndX11_isUnder (j := 18) rfl
theorem iX11_isUnder_34 : rx_ins mX11_isUnder 34 = some (29, 35, 1, 0, 0, []) := rx_at tbX11_isUnder ndX11_isUnder (j := 20) rfl
theorem iX11_isUnder_4 : rx_ins mX11_isUnder 4 = some (2, 5, 0, 0, 0, []) := rx_at tbX11_isUnder ndX11_isUnder (j := 2) rfl
theorem iX11_isUnder_5 : rx_ins mX11_isUnder 5 = some (2, 6, 0, 1, 0, []) := rx_at tbX11_isUnder ndX11_isUnder (j := 3) rfl
theorem iX11_isUnder_6 : rx_ins mX11_isUnder 6 = some (14, 9, 23, 0, 29, []) := rx_at tbX11_isUnder ndX11_isUnder (j := 4) rfl
theorem iX11_isUnder_9 : rx_ins mX11_isUnder 9 = some (2, 10, 0, 1, 0, []) := rx_at tbX11_isUnder ndX11_isUnder (j := 5) rfl
theorem iX11_isUnder_10 : rx_ins mX11_isUnder 10 = some (1, 11, 1, 0, 0, []) := rx_at tbX11_isUnder ndX11_isUnder (j := 6) rfl
theorem iX11_isUnder_11 : rx_ins mX11_isUnder 11 = some (14, 14, 8, 1, 19, []) := rx_at tbX11_isUnder ndX11_isUnder (j := 7) rfl
theorem iX11_isUnder_19 : rx_ins mX11_isUnder 19 = some (2, 20, 0, 1, 0, []) := rx_at tbX11_isUnder ndX11_isUnder (j := 11) rfl
theorem iX11_isUnder_20 : rx_ins mX11_isUnder 20 = some (1, 21, 2, 0, 0, []) := rx_at tbX11_isUnder ndX11_isUnder (j := 12) rfl
theorem iX11_isUnder_21 : rx_ins mX11_isUnder 21 = some (14, 24, 12, 1, 33, []) := rx_at tbX11_isUnder ndX11_isUnder (j := 13) rfl
theorem iX11_isUnder_33 : rx_ins mX11_isUnder 33 = some (1, 34, 0, 0, 0, []) := rx_at tbX11_isUnder ndX11_isUnder (j := 19) rfl
theorem iX11_isUnder_24 : rx_ins mX11_isUnder 24 = some (2, 25, 0, 0, 0, []) := rx_at tbX11_isUnder ndX11_isUnder (j := 14) rfl
theorem iX11_isUnder_25 : rx_ins mX11_isUnder 25 = some (1, 26, 4, 0, 0, []) := rx_at tbX11_isUnder ndX11_isUnder (j := 15) rfl
theorem iX11_isUnder_26 : rx_ins mX11_isUnder 26 = some (14, 29, 7, 1, 33, []) := rx_at tbX11_isUnder ndX11_isUnder (j := 16) rfl
theorem iX11_isUnder_14 : rx_ins mX11_isUnder 14 = some (2, 15, 0, 0, 0, []) := rx_at tbX11_isUnder ndX11_isUnder (j := 8) rfl
theorem iX11_isUnder_15 : rx_ins mX11_isUnder 15 = some (1, 16, 3, 0, 0, []) := rx_at tbX11_isUnder ndX11_isUnder (j := 9) rfl
theorem iX11_isUnder_16 : rx_ins mX11_isUnder 16 = some (14, 19, 13, 0, 29, []) := rx_at tbX11_isUnder ndX11_isUnder (j := 10) rfl
theorem iX11_as_0 : rx_ins mX11_as 0 = some (3, 1, 0, 0, 0, []) := rx_at tbX11_as ndX11_as (j := 0) rfl
theorem iX11_as_1 : rx_ins mX11_as 1 = some (2, 2, 0, 1, 0, []) := rx_at tbX11_as ndX11_as (j := 1) rfl
theorem iX11_as_2 : rx_ins mX11_as 2 = some (28, 5, 13, 137, 2, [(175, 216)]) := rx_at tbX11_as ndX11_as (j := 2) rfl
theorem iX11_as_5 : rx_ins mX11_as 5 = some (13, 8, 12, 0, 17, []) := rx_at tbX11_as ndX11_as (j := 3) rfl
theorem iX11_as_17 : rx_ins mX11_as 17 = some (1, 19, (-1000000001), 3, 21, [(130, 0)]) := rx_at tbX11_as ndX11_as (j := 9) rfl
theorem iX11_as_19 : rx_ins mX11_as 19 = some (29, 20, 0, 0, 0, []) := rx_at tbX11_as ndX11_as (j := 10) rfl
theorem iX11_as_8 : rx_ins mX11_as 8 = some (2, 9, 0, 2, 0, []) := rx_at tbX11_as ndX11_as (j := 4) rfl
theorem iX11_as_9 : rx_ins mX11_as 9 = some (1, 10, 0, 0, 0, []) := rx_at tbX11_as ndX11_as (j := 5) rfl
theorem iX11_as_10 : rx_ins mX11_as 10 = some (1, 11, 5, 0, 0, []) := rx_at tbX11_as ndX11_as (j := 6) rfl
theorem iX11_as_11 : rx_ins mX11_as 11 = some (28, 14, 0, 133, 3, [(111, 198)]) := rx_at tbX11_as ndX11_as (j := 7) rfl
theorem iX11_as_14 : rx_ins mX11_as 14 = some (13, 17, 6, 1, 20, []) := rx_at tbX11_as ndX11_as (j := 8) rfl
theorem iX11_as_20 : rx_ins mX11_as 20 = some (3, 21, 0, 0, 0, []) := rx_at tbX11_as ndX11_as (j := 11) rfl
theorem iX11_as_21 : rx_ins mX11_as 21 = some (2, 22, 0, 1, 0, []) := rx_at tbX11_as ndX11_as (j := 12) rfl
theorem iX11_as_22 : rx_ins mX11_as 22 = some (1, 23, 0, 0, 0, []) := rx_at tbX11_as ndX11_as (j := 13) rfl
theorem iX11_as_23 : rx_ins mX11_as 23 = some (28, 26, 13, 141, 3, [(115, 199)]) := rx_at tbX11_as ndX11_as (j := 14) rfl
theorem iX11_as_26 : rx_ins mX11_as 26 = some (2, 27, 0, 2, 0, []) := rx_at tbX11_as ndX11_as (j := 15) rfl
theorem iX11_as_27 : rx_ins mX11_as 27 = some (28, 30, 0, 159, 2, [(184, 219)]) := rx_at tbX11_as ndX11_as (j := 16) rfl
theorem iX11_as_30 : rx_ins mX11_as 30 = some (13, 33, 12, 0, 42, []) := rx_at tbX11_as ndX11_as (j := 17) rfl
theorem iX11_as_42 : rx_ins mX11_as 42 = some (1, 44, (-1000000012), 3, 24, [(187, 0)]) := rx_at tbX11_as ndX11_as (j := 23) rfl
theorem iX11_as_44 : rx_ins mX11_as 44 = some (29, 45, 0, 0, 0, []) := rx_at tbX11_as ndX11_as (j := 24) rfl
theorem iX11_as_33 : rx_ins mX11_as 33 = some (3, 34, 0, 0, 0, []) := rx_at tbX11_as ndX11_as (j := 18) rfl
theorem iX11_as_34 : rx_ins mX11_as 34 = some (2, 35, 0, 1, 0, []) := rx_at tbX11_as ndX11_as (j := 19) rfl
theorem iX11_as_35 : rx_ins mX11_as 35 = some (1, 36, 3, 0, 0, []) := rx_at tbX11_as ndX11_as (j := 20) rfl
theorem iX11_as_36 : rx_ins mX11_as 36 = some (28, 39, 13, 141, 3, [(115, 199)]) := rx_at tbX11_as ndX11_as (j := 21) rfl
theorem iX11_as_39 : rx_ins mX11_as 39 = some (15, 42, 5, 0, 44, []) := rx_at tbX11_as ndX11_as (j := 22) rfl
theorem iX11_becomes_0 : rx_ins mX11_becomes 0 = some (3, 1, 0, 0, 0, []) := rx_at tbX11_becomes ndX11_becomes (j := 0) rfl
theorem iX11_becomes_1 : rx_ins mX11_becomes 1 = some (2, 2, 0, 1, 0, []) := rx_at tbX11_becomes ndX11_becomes (j := 1) rfl
theorem iX11_becomes_2 : rx_ins mX11_becomes 2 = some (2, 3, 0, 2, 0, []) := rx_at tbX11_becomes ndX11_becomes (j := 2) rfl
theorem iX11_becomes_3 : rx_ins mX11_becomes 3 = some (28, 6, 13, 141, 3, [(115, 199)]) := rx_at tbX11_becomes ndX11_becomes (j := 3) rfl
theorem iX11_becomes_6 : rx_ins mX11_becomes 6 = some (4, 8, 1, 4, 0, []) := rx_at tbX11_becomes ndX11_becomes (j := 4) rfl
theorem iX11_becomes_8 : rx_ins mX11_becomes 8 = some (3, 9, 0, 0, 0, []) := rx_at tbX11_becomes ndX11_becomes (j := 5) rfl
theorem iX11_becomes_9 : rx_ins mX11_becomes 9 = some (18, 12, 0, 11, 0, [(9, 124)]) := rx_at tbX11_becomes ndX11_becomes (j := 6) rfl
theorem iX11_becomes_12 : rx_ins mX11_becomes 12 = some (1, 14, 36, 1, 0, []) := rx_at tbX11_becomes ndX11_becomes (j := 7) rfl
theorem iX11_becomes_14 : rx_ins mX11_becomes 14 = some (1, 15, 5, 0, 0, []) := rx_at tbX11_becomes ndX11_becomes (j := 8) rfl
theorem iX11_becomes_15 : rx_ins mX11_becomes 15 = some (2, 16, 0, 1, 0, []) := rx_at tbX11_becomes ndX11_becomes (j := 9) rfl
theorem iX11_becomes_16 : rx_ins mX11_becomes 16 = some (7, 17, 0, 2, 0, []) := rx_at tbX11_becomes ndX11_becomes (j := 10) rfl
theorem iX11_becomes_17 : rx_ins mX11_becomes 17 = some (7, 18, 0, 0, 0, []) := rx_at tbX11_becomes ndX11_becomes (j := 11) rfl
theorem iX11_becomes_18 : rx_ins mX11_becomes 18 = some (2, 19, 0, 2, 0, []) := rx_at tbX11_becomes ndX11_becomes (j := 12) rfl
theorem iX11_becomes_19 : rx_ins mX11_becomes 19 = some (7, 20, 0, 0, 0, []) := rx_at tbX11_becomes ndX11_becomes (j := 13) rfl
theorem iX11_becomes_20 : rx_ins mX11_becomes 20 = some (2, 21, 0, 3, 0, []) := rx_at tbX11_becomes ndX11_becomes (j := 14) rfl
theorem iX11_becomes_21 : rx_ins mX11_becomes 21 = some (21, 22, 0, 0, 0, []) := rx_at tbX11_becomes ndX11_becomes (j := 15) rfl
theorem iX11_becomes_22 : rx_ins mX11_becomes 22 = some (2, 24, 1, 4, 0, []) := rx_at tbX11_becomes ndX11_becomes (j := 16) rfl
theorem iX11_becomes_24 : rx_ins mX11_becomes 24 = some (29, 25, 0, 0, 0, []) := rx_at tbX11_becomes ndX11_becomes (j := 17) rfl
theorem iX11_turns_0 : rx_ins mX11_turns 0 = some (3, 1, 0, 0, 0, []) := rx_at tbX11_turns ndX11_turns (j := 0) rfl
theorem iX11_turns_1 : rx_ins mX11_turns 1 = some (2, 2, 0, 1, 0, []) := rx_at tbX11_turns ndX11_turns (j := 1) rfl
theorem iX11_turns_2 : rx_ins mX11_turns 2 = some (28, 5, 13, 137, 2, [(175, 216)]) := rx_at tbX11_turns ndX11_turns (j := 2) rfl
theorem iX11_turns_5 : rx_ins mX11_turns 5 = some (13, 8, 22, 0, 27, []) := rx_at tbX11_turns ndX11_turns (j := 3) rfl
theorem iX11_turns_27 : rx_ins mX11_turns 27 = some (1, 29, (-1000000001), 3, 21, [(130, 0)]) := rx_at tbX11_turns ndX11_turns (j := 15) rfl
theorem iX11_turns_29 : rx_ins mX11_turns 29 = some (29, 30, 0, 0, 0, []) := rx_at tbX11_turns ndX11_turns (j := 16) rfl
theorem iX11_turns_8 : rx_ins mX11_turns 8 = some (2, 9, 0, 2, 0, []) := rx_at tbX11_turns ndX11_turns (j := 4) rfl
theorem iX11_turns_9 : rx_ins mX11_turns 9 = some (1, 10, 0, 0, 0, []) := rx_at tbX11_turns ndX11_turns (j := 5) rfl
theorem iX11_turns_10 : rx_ins mX11_turns 10 = some (1, 11, 5, 0, 0, []) := rx_at tbX11_turns ndX11_turns (j := 6) rfl
theorem iX11_turns_11 : rx_ins mX11_turns 11 = some (28, 14, 0, 133, 3, [(111, 198)]) := rx_at tbX11_turns ndX11_turns (j := 7) rfl
theorem iX11_turns_14 : rx_ins mX11_turns 14 = some (13, 17, 13, 0, 27, []) := rx_at tbX11_turns ndX11_turns (j := 8) rfl
theorem iX11_turns_17 : rx_ins mX11_turns 17 = some (3, 18, 0, 0, 0, []) := rx_at tbX11_turns ndX11_turns (j := 9) rfl
theorem iX11_turns_18 : rx_ins mX11_turns 18 = some (2, 19, 0, 1, 0, []) := rx_at tbX11_turns ndX11_turns (j := 10) rfl
theorem iX11_turns_19 : rx_ins mX11_turns 19 = some (1, 20, 0, 0, 0, []) := rx_at tbX11_turns ndX11_turns (j := 11) rfl
theorem iX11_turns_20 : rx_ins mX11_turns 20 = some (2, 21, 0, 2, 0, []) := rx_at tbX11_turns ndX11_turns (j := 12) rfl
theorem iX11_turns_21 : rx_ins mX11_turns 21 = some (28, 24, 13, 161, 4, [(188, 220)]) := rx_at tbX11_turns ndX11_turns (j := 13) rfl
theorem iX11_turns_24 : rx_ins mX11_turns 24 = some (15, 27, 5, 0, 29, []) := rx_at tbX11_turns ndX11_turns (j := 14) rfl
theorem iX11_set_0 : rx_ins mX11_set 0 = some (3, 1, 0, 0, 0, []) := rx_at tbX11_set ndX11_set (j := 0) rfl
theorem iX11_set_1 : rx_ins mX11_set 1 = some (2, 2, 0, 1, 0, []) := rx_at tbX11_set ndX11_set (j := 1) rfl
theorem iX11_set_2 : rx_ins mX11_set 2 = some (28, 5, 13, 137, 2, [(175, 216)]) := rx_at tbX11_set ndX11_set (j := 2) rfl
theorem iX11_set_5 : rx_ins mX11_set 5 = some (13, 8, 38, 0, 43, []) := rx_at tbX11_set ndX11_set (j := 3) rfl
theorem iX11_set_43 : rx_ins mX11_set 43 = some (1, 45, (-1000000001), 3, 21, [(130, 0)]) := rx_at tbX11_set ndX11_set (j := 22) rfl
theorem iX11_set_45 : rx_ins mX11_set 45 = some (29, 46, 0, 0, 0, []) := rx_at tbX11_set ndX11_set (j := 23) rfl
theorem iX11_set_8 : rx_ins mX11_set 8 = some (2, 9, 0, 2, 0, []) := rx_at tbX11_set ndX11_set (j := 4) rfl
theorem iX11_set_9 : rx_ins mX11_set 9 = some (1, 10, 0, 0, 0, []) := rx_at tbX11_set ndX11_set (j := 5) rfl
theorem iX11_set_10 : rx_ins mX11_set 10 = some (1, 11, 1, 0, 0, []) := rx_at tbX11_set ndX11_set (j := 6) rfl
theorem iX11_set_11 : rx_ins mX11_set 11 = some (28, 14, 0, 133, 3, [(111, 198)]) := rx_at tbX11_set ndX11_set (j := 7) rfl
theorem iX11_set_14 : rx_ins mX11_set 14 = some (13, 17, 29, 0, 43, []) := rx_at tbX11_set ndX11_set (j := 8) rfl
theorem iX11_set_17 : rx_ins mX11_set 17 = some (2, 18, 0, 3, 0, []) := rx_at tbX11_set ndX11_set (j := 9) rfl
theorem iX11_set_18 : rx_ins mX11_set 18 = some (2, 19, 0, 2, 0, []) := rx_at tbX11_set ndX11_set (j := 10) rfl
theorem iX11_set_19 : rx_ins mX11_set 19 = some (13, 22, 7, 1, 26, []) := rx_at tbX11_set ndX11_set (j := 11) rfl
theorem iX11_set_26 : rx_ins mX11_set 26 = some (1, 27, 0, 0, 0, []) := rx_at tbX11_set ndX11_set (j := 14) rfl
theorem iX11_set_27 : rx_ins mX11_set 27 = some (2, 28, 0, 2, 0, []) := rx_at tbX11_set ndX11_set (j := 15) rfl
theorem iX11_set_28 : rx_ins mX11_set 28 = some (13, 31, 8, 1, 36, []) := rx_at tbX11_set ndX11_set (j := 16) rfl
theorem iX11_set_36 : rx_ins mX11_set 36 = some (1, 37, 3, 0, 0, []) := rx_at tbX11_set ndX11_set (j := 19) rfl
theorem iX11_set_37 : rx_ins mX11_set 37 = some (28, 40, 0, 133, 3, [(111, 198)]) := rx_at tbX11_set ndX11_set (j := 20) rfl
theorem iX11_set_40 : rx_ins mX11_set 40 = some (13, 43, 6, 1, 46, []) := rx_at tbX11_set ndX11_set (j := 21) rfl
theorem iX11_set_46 : rx_ins mX11_set 46 = some (3, 47, 0, 0, 0, []) := rx_at tbX11_set ndX11_set (j := 24) rfl
theorem iX11_set_47 : rx_ins mX11_set 47 = some (2, 48, 0, 1, 0, []) := rx_at tbX11_set ndX11_set (j := 25) rfl
theorem iX11_set_48 : rx_ins mX11_set 48 = some (1, 49, 3, 0, 0, []) := rx_at tbX11_set ndX11_set (j := 26) rfl
theorem iX11_set_49 : rx_ins mX11_set 49 = some (2, 50, 0, 2, 0, []) := rx_at tbX11_set ndX11_set (j := 27) rfl
theorem iX11_set_50 : rx_ins mX11_set 50 = some (7, 51, 0, 0, 0, []) := rx_at tbX11_set ndX11_set (j := 28) rfl
theorem iX11_set_51 : rx_ins mX11_set 51 = some (2, 52, 0, 3, 0, []) := rx_at tbX11_set ndX11_set (j := 29) rfl
theorem iX11_set_52 : rx_ins mX11_set 52 = some (28, 55, 13, 161, 4, [(188, 220)]) := rx_at tbX11_set ndX11_set (j := 30) rfl
theorem iX11_set_55 : rx_ins mX11_set 55 = some (29, 56, 0, 0, 0, []) := rx_at tbX11_set ndX11_set (j := 31) rfl
theorem iX11_set_22 : rx_ins mX11_set 22 = some (1, 23, 1, 0, 0, []) := rx_at tbX11_set ndX11_set (j := 12) rfl
theorem iX11_set_23 : rx_ins mX11_set 23 = some (15, 26, 4, 0, 27, []) := rx_at tbX11_set ndX11_set (j := 13) rfl
theorem iX11_set_31 : rx_ins mX11_set 31 = some (1, 33, 9, 1, 0, []) := rx_at tbX11_set ndX11_set (j := 17) rfl
theorem iX11_set_33 : rx_ins mX11_set 33 = some (15, 36, 4, 0, 37, []) := rx_at tbX11_set ndX11_set (j := 18) rfl
theorem iX11_drop_0 : rx_ins mX11_drop 0 = some (3, 1, 0, 0, 0, []) := rx_at tbX11_drop ndX11_drop (j := 0) rfl
theorem iX11_drop_1 : rx_ins mX11_drop 1 = some (2, 2, 0, 1, 0, []) := rx_at tbX11_drop ndX11_drop (j := 1) rfl
theorem iX11_drop_2 : rx_ins mX11_drop 2 = some (28, 5, 13, 137, 2, [(175, 216)]) := rx_at tbX11_drop ndX11_drop (j := 2) rfl
theorem iX11_drop_5 : rx_ins mX11_drop 5 = some (13, 8, 6, 1, 11, []) := rx_at tbX11_drop ndX11_drop (j := 3) rfl
theorem iX11_drop_11 : rx_ins mX11_drop 11 = some (3, 12, 0, 0, 0, []) := rx_at tbX11_drop ndX11_drop (j := 6) rfl
theorem iX11_drop_12 : rx_ins mX11_drop 12 = some (18, 15, 0, 11, 0, [(9, 124)]) := rx_at tbX11_drop ndX11_drop (j := 7) rfl
theorem iX11_drop_15 : rx_ins mX11_drop 15 = some (1, 16, 2, 0, 0, []) := rx_at tbX11_drop ndX11_drop (j := 8) rfl
theorem iX11_drop_16 : rx_ins mX11_drop 16 = some (11, 17, 0, 0, 0, []) := rx_at tbX11_drop ndX11_drop (j := 9) rfl
theorem iX11_drop_17 : rx_ins mX11_drop 17 = some (20, 18, 0, 0, 0, []) := rx_at tbX11_drop ndX11_drop (j := 10) rfl
theorem iX11_drop_18 : rx_ins mX11_drop 18 = some (1, 19, 1, 0, 0, []) := rx_at tbX11_drop ndX11_drop (j := 11) rfl
theorem iX11_drop_19 : rx_ins mX11_drop 19 = some (7, 20, 0, 1, 0, []) := rx_at tbX11_drop ndX11_drop (j := 12) rfl
theorem iX11_drop_20 : rx_ins mX11_drop 20 = some (21, 21, 0, 0, 0, []) := rx_at tbX11_drop ndX11_drop (j := 13) rfl
theorem iX11_drop_21 : rx_ins mX11_drop 21 = some (1, 23, 36, 1, 0, []) := rx_at tbX11_drop ndX11_drop (j := 14) rfl
theorem iX11_drop_23 : rx_ins mX11_drop 23 = some (1, 24, 5, 0, 0, []) := rx_at tbX11_drop ndX11_drop (j := 15) rfl
theorem iX11_drop_24 : rx_ins mX11_drop 24 = some (2, 25, 0, 1, 0, []) := rx_at tbX11_drop ndX11_drop (j := 16) rfl
theorem iX11_drop_25 : rx_ins mX11_drop 25 = some (7, 26, 0, 2, 0, []) := rx_at tbX11_drop ndX11_drop (j := 17) rfl
theorem iX11_drop_26 : rx_ins mX11_drop 26 = some (7, 27, 0, 0, 0, []) := rx_at tbX11_drop ndX11_drop (j := 18) rfl
theorem iX11_drop_27 : rx_ins mX11_drop 27 = some (4, 28, 0, 2, 0, []) := rx_at tbX11_drop ndX11_drop (j := 19) rfl
theorem iX11_drop_8 : rx_ins mX11_drop 8 = some (1, 10, (-1000000001), 3, 21, [(130, 0)]) := rx_at tbX11_drop ndX11_drop (j := 4) rfl
theorem iX11_drop_10 : rx_ins mX11_drop 10 = some (29, 11, 0, 0, 0, []) := rx_at tbX11_drop ndX11_drop (j := 5) rfl
theorem iX11_drop_28 : rx_ins mX11_drop 28 = some (2, 29, 0, 2, 0, []) := rx_at tbX11_drop ndX11_drop (j := 20) rfl
theorem iX11_drop_29 : rx_ins mX11_drop 29 = some (1, 31, 36, 1, 0, []) := rx_at tbX11_drop ndX11_drop (j := 21) rfl
theorem iX11_drop_31 : rx_ins mX11_drop 31 = some (1, 32, 5, 0, 0, []) := rx_at tbX11_drop ndX11_drop (j := 22) rfl
theorem iX11_drop_32 : rx_ins mX11_drop 32 = some (3, 33, 0, 0, 0, []) := rx_at tbX11_drop ndX11_drop (j := 23) rfl
theorem iX11_drop_33 : rx_ins mX11_drop 33 = some (18, 36, 0, 11, 0, [(9, 124)]) := rx_at tbX11_drop ndX11_drop (j := 24) rfl
theorem iX11_drop_36 : rx_ins mX11_drop 36 = some (1, 37, 2, 0, 0, []) := rx_at tbX11_drop ndX11_drop (j := 25) rfl
theorem iX11_drop_37 : rx_ins mX11_drop 37 = some (20, 38, 0, 0, 0, []) := rx_at tbX11_drop ndX11_drop (j := 26) rfl
theorem iX11_drop_38 : rx_ins mX11_drop 38 = some (7, 39, 0, 2, 0, []) := rx_at tbX11_drop ndX11_drop (j := 27) rfl
theorem iX11_drop_39 : rx_ins mX11_drop 39 = some (7, 40, 0, 0, 0, []) := rx_at tbX11_drop ndX11_drop (j := 28) rfl
theorem iX11_drop_40 : rx_ins mX11_drop 40 = some (14, 43, 23, 3, 63, []) := rx_at tbX11_drop ndX11_drop (j := 29) rfl
theorem iX11_drop_63 : rx_ins mX11_drop 63 = some (3, 64, 0, 0, 0, []) := rx_at tbX11_drop ndX11_drop (j := 42) rfl
theorem iX11_drop_64 : rx_ins mX11_drop 64 = some (18, 67, 0, 11, 0, [(9, 124)]) := rx_at tbX11_drop ndX11_drop (j := 43) rfl
theorem iX11_drop_67 : rx_ins mX11_drop 67 = some (1, 68, 2, 0, 0, []) := rx_at tbX11_drop ndX11_drop (j := 44) rfl
theorem iX11_drop_68 : rx_ins mX11_drop 68 = some (20, 69, 0, 0, 0, []) := rx_at tbX11_drop ndX11_drop (j := 45) rfl
theorem iX11_drop_69 : rx_ins mX11_drop 69 = some (29, 70, 0, 0, 0, []) := rx_at tbX11_drop ndX11_drop (j := 46) rfl
theorem iX11_drop_43 : rx_ins mX11_drop 43 = some (3, 44, 0, 0, 0, []) := rx_at tbX11_drop ndX11_drop (j := 30) rfl
theorem iX11_drop_44 : rx_ins mX11_drop 44 = some (18, 47, 0, 11, 0, [(9, 124)]) := rx_at tbX11_drop ndX11_drop (j := 31) rfl
theorem iX11_drop_47 : rx_ins mX11_drop 47 = some (2, 48, 0, 2, 0, []) := rx_at tbX11_drop ndX11_drop (j := 32) rfl
theorem iX11_drop_48 : rx_ins mX11_drop 48 = some (3, 49, 0, 0, 0, []) := rx_at tbX11_drop ndX11_drop (j := 33) rfl
theorem iX11_drop_49 : rx_ins mX11_drop 49 = some (18, 52, 0, 11, 0, [(9, 124)]) := rx_at tbX11_drop ndX11_drop (j := 34) rfl
theorem iX11_drop_52 : rx_ins mX11_drop 52 = some (2, 53, 0, 2, 0, []) := rx_at tbX11_drop ndX11_drop (j := 35) rfl
theorem iX11_drop_53 : rx_ins mX11_drop 53 = some (1, 54, 5, 0, 0, []) := rx_at tbX11_drop ndX11_drop (j := 36) rfl
theorem iX11_drop_54 : rx_ins mX11_drop 54 = some (7, 55, 0, 0, 0, []) := rx_at tbX11_drop ndX11_drop (j := 37) rfl
theorem iX11_drop_55 : rx_ins mX11_drop 55 = some (20, 56, 0, 0, 0, []) := rx_at tbX11_drop ndX11_drop (j := 38) rfl
theorem iX11_drop_56 : rx_ins mX11_drop 56 = some (21, 57, 0, 0, 0, []) := rx_at tbX11_drop ndX11_drop (j := 39) rfl
theorem iX11_drop_57 : rx_ins mX11_drop 57 = some (6, 60, 1, 2, 0, []) := rx_at tbX11_drop ndX11_drop (j := 40) rfl
theorem iX11_drop_60 : rx_ins mX11_drop 60 = some (15, 63, (-32), 0, 28, []) := rx_at tbX11_drop ndX11_drop (j := 41) rfl
theorem iX11_areApart_0 : rx_ins mX11_areApart 0 = some (3, 1, 0, 0, 0, []) := rx_at tbX11_areApart ndX11_areApart (j := 0) rfl
theorem iX11_areApart_1 : rx_ins mX11_areApart 1 = some (2, 2, 0, 2, 0, []) := rx_at tbX11_areApart ndX11_areApart (j := 1) rfl
theorem iX11_areApart_2 : rx_ins mX11_areApart 2 = some (3, 3, 0, 0, 0, []) := rx_at tbX11_areApart ndX11_areApart (j := 2) rfl
theorem iX11_areApart_3 : rx_ins mX11_areApart 3 = some (2, 4, 0, 1, 0, []) := rx_at tbX11_areApart ndX11_areApart (j := 3) rfl
theorem iX11_areApart_4 : rx_ins mX11_areApart 4 = some (28, 7, 13, 142, 2, [(139, 205)]) := rx_at tbX11_areApart ndX11_areApart (j := 4) rfl
theorem iX11_areApart_7 : rx_ins mX11_areApart 7 = some (28, 10, 13, 149, 3, [(152, 209)]) := rx_at tbX11_areApart ndX11_areApart (j := 5) rfl
theorem iX11_areApart_10 : rx_ins mX11_areApart 10 = some (13, 13, 20, 1, 30, []) := rx_at tbX11_areApart ndX11_areApart (j := 6) rfl
theorem iX11_areApart_30 : rx_ins mX11_areApart 30 = some (1, 31, 0, 0, 0, []) := rx_at tbX11_areApart ndX11_areApart (j := 16) rfl
theorem iX11_areApart_31 : rx_ins mX11_areApart 31 = some (29, 32, 1, 0, 0, []) := rx_at tbX11_areApart ndX11_areApart (j := 17) rfl
theorem iX11_areApart_13 : rx_ins mX11_areApart 13 = some (3, 14, 0, 0, 0, []) := rx_at tbX11_areApart ndX11_areApart (j := 7) rfl
theorem iX11_areApart_14 : rx_ins mX11_areApart 14 = some (2, 15, 0, 2, 0, []) := rx_at tbX11_areApart ndX11_areApart (j := 8) rfl
theorem iX11_areApart_15 : rx_ins mX11_areApart 15 = some (3, 16, 0, 0, 0, []) := rx_at tbX11_areApart ndX11_areApart (j := 9) rfl
theorem iX11_areApart_16 : rx_ins mX11_areApart 16 = some (2, 17, 0, 1, 0, []) := rx_at tbX11_areApart ndX11_areApart (j := 10) rfl
theorem iX11_areApart_17 : rx_ins mX11_areApart 17 = some (28, 20, 13, 143, 2, [(142, 206)]) := rx_at tbX11_areApart ndX11_areApart (j := 11) rfl
theorem iX11_areApart_20 : rx_ins mX11_areApart 20 = some (28, 23, 13, 149, 3, [(152, 209)]) := rx_at tbX11_areApart ndX11_areApart (j := 12) rfl
theorem iX11_areApart_23 : rx_ins mX11_areApart 23 = some (13, 26, 7, 1, 30, []) := rx_at tbX11_areApart ndX11_areApart (j := 13) rfl
theorem iX11_areApart_26 : rx_ins mX11_areApart 26 = some (1, 27, 1, 0, 0, []) := rx_at tbX11_areApart ndX11_areApart (j := 14) rfl
theorem iX11_areApart_27 : rx_ins mX11_areApart 27 = some (15, 30, 4, 0, 31, []) := rx_at tbX11_areApart ndX11_areApart (j := 15) rfl
theorem iX11_findPairs_0 : rx_ins mX11_findPairs 0 = some (1, 1, 0, 0, 0, []) := rx_at tbX11_findPairs ndX11_findPairs (j := 0) rfl
theorem iX11_findPairs_1 : rx_ins mX11_findPairs 1 = some (4, 2, 0, 1, 0, []) := rx_at tbX11_findPairs ndX11_findPairs (j := 1) rfl
theorem iX11_findPairs_2 : rx_ins mX11_findPairs 2 = some (2, 3, 0, 1, 0, []) := rx_at tbX11_findPairs ndX11_findPairs (j := 2) rfl
theorem iX11_findPairs_3 : rx_ins mX11_findPairs 3 = some (3, 4, 0, 0, 0, []) := rx_at tbX11_findPairs ndX11_findPairs (j := 3) rfl
theorem iX11_findPairs_4 : rx_ins mX11_findPairs 4 = some (18, 7, 0, 11, 0, [(9, 124)]) := rx_at tbX11_findPairs ndX11_findPairs (j := 4) rfl
theorem iX11_findPairs_7 : rx_ins mX11_findPairs 7 = some (1, 8, 2, 0, 0, []) := rx_at tbX11_findPairs ndX11_findPairs (j := 5) rfl
theorem iX11_findPairs_8 : rx_ins mX11_findPairs 8 = some (20, 9, 0, 0, 0, []) := rx_at tbX11_findPairs ndX11_findPairs (j := 6) rfl
theorem iX11_findPairs_9 : rx_ins mX11_findPairs 9 = some (14, 12, 20, 3, 29, []) := rx_at tbX11_findPairs ndX11_findPairs (j := 7) rfl
theorem iX11_findPairs_29 : rx_ins mX11_findPairs 29 = some (3, 30, 0, 0, 0, []) := rx_at tbX11_findPairs ndX11_findPairs (j := 17) rfl
theorem iX11_findPairs_30 : rx_ins mX11_findPairs 30 = some (1, 31, 1, 0, 0, []) := rx_at tbX11_findPairs ndX11_findPairs (j := 18) rfl
theorem iX11_findPairs_31 : rx_ins mX11_findPairs 31 = some (28, 34, 13, 226, 2, [(165, 213)]) := rx_at tbX11_findPairs ndX11_findPairs (j := 19) rfl
theorem iX11_findPairs_34 : rx_ins mX11_findPairs 34 = some (4, 35, 0, 1, 0, []) := rx_at tbX11_findPairs ndX11_findPairs (j := 20) rfl
theorem iX11_findPairs_35 : rx_ins mX11_findPairs 35 = some (1, 36, 0, 0, 0, []) := rx_at tbX11_findPairs ndX11_findPairs (j := 21) rfl
theorem iX11_findPairs_36 : rx_ins mX11_findPairs 36 = some (4, 37, 0, 2, 0, []) := rx_at tbX11_findPairs ndX11_findPairs (j := 22) rfl
theorem iX11_findPairs_12 : rx_ins mX11_findPairs 12 = some (3, 13, 0, 0, 0, []) := rx_at tbX11_findPairs ndX11_findPairs (j := 8) rfl
theorem iX11_findPairs_13 : rx_ins mX11_findPairs 13 = some (18, 16, 0, 11, 4, [(19, 126)]) := rx_at tbX11_findPairs ndX11_findPairs (j := 9) rfl
theorem iX11_findPairs_16 : rx_ins mX11_findPairs 16 = some (2, 17, 0, 1, 0, []) := rx_at tbX11_findPairs ndX11_findPairs (j := 10) rfl
theorem iX11_findPairs_17 : rx_ins mX11_findPairs 17 = some (3, 18, 0, 0, 0, []) := rx_at tbX11_findPairs ndX11_findPairs (j := 11) rfl
theorem iX11_findPairs_18 : rx_ins mX11_findPairs 18 = some (2, 19, 0, 1, 0, []) := rx_at tbX11_findPairs ndX11_findPairs (j := 12) rfl
theorem iX11_findPairs_19 : rx_ins mX11_findPairs 19 = some (28, 22, 13, 156, 2, [(178, 217)]) := rx_at tbX11_findPairs ndX11_findPairs (j := 13) rfl
theorem iX11_findPairs_22 : rx_ins mX11_findPairs 22 = some (21, 23, 0, 0, 0, []) := rx_at tbX11_findPairs ndX11_findPairs (j := 14) rfl
theorem iX11_findPairs_23 : rx_ins mX11_findPairs 23 = some (6, 26, 1, 1, 0, []) := rx_at tbX11_findPairs ndX11_findPairs (j := 15) rfl
theorem iX11_findPairs_26 : rx_ins mX11_findPairs 26 = some (15, 29, (-24), 0, 2, []) := rx_at tbX11_findPairs ndX11_findPairs (j := 16) rfl
theorem iX11_findPairs_37 : rx_ins mX11_findPairs 37 = some (2, 38, 0, 2, 0, []) := rx_at tbX11_findPairs ndX11_findPairs (j := 23) rfl
theorem iX11_findPairs_38 : rx_ins mX11_findPairs 38 = some (3, 39, 0, 0, 0, []) := rx_at tbX11_findPairs ndX11_findPairs (j := 24) rfl
theorem iX11_findPairs_39 : rx_ins mX11_findPairs 39 = some (18, 42, 0, 11, 0, [(9, 124)]) := rx_at tbX11_findPairs ndX11_findPairs (j := 25) rfl
theorem iX11_findPairs_42 : rx_ins mX11_findPairs 42 = some (1, 43, 2, 0, 0, []) := rx_at tbX11_findPairs ndX11_findPairs (j := 26) rfl
theorem iX11_findPairs_43 : rx_ins mX11_findPairs 43 = some (20, 44, 0, 0, 0, []) := rx_at tbX11_findPairs ndX11_findPairs (j := 27) rfl
theorem iX11_findPairs_44 : rx_ins mX11_findPairs 44 = some (14, 47, 118, 3, 162, []) := rx_at tbX11_findPairs ndX11_findPairs (j := 28) rfl
theorem iX11_findPairs_162 : rx_ins mX11_findPairs 162 = some (30, 163, 0, 0, 0, []) := rx_at tbX11_findPairs ndX11_findPairs (j := 101) rfl
theorem iX11_findPairs_47 : rx_ins mX11_findPairs 47 = some (2, 48, 0, 2, 0, []) := rx_at tbX11_findPairs ndX11_findPairs (j := 29) rfl
theorem iX11_findPairs_48 : rx_ins mX11_findPairs 48 = some (1, 49, 1, 0, 0, []) := rx_at tbX11_findPairs ndX11_findPairs (j := 30) rfl
theorem iX11_findPairs_49 : rx_ins mX11_findPairs 49 = some (7, 50, 0, 0, 0, []) := rx_at tbX11_findPairs ndX11_findPairs (j := 31) rfl
theorem iX11_findPairs_50 : rx_ins mX11_findPairs 50 = some (4, 51, 0, 3, 0, []) := rx_at tbX11_findPairs ndX11_findPairs (j := 32) rfl
theorem iX11_findPairs_51 : rx_ins mX11_findPairs 51 = some (2, 52, 0, 3, 0, []) := rx_at tbX11_findPairs ndX11_findPairs (j := 33) rfl
theorem iX11_findPairs_52 : rx_ins mX11_findPairs 52 = some (3, 53, 0, 0, 0, []) := rx_at tbX11_findPairs ndX11_findPairs (j := 34) rfl
theorem iX11_findPairs_53 : rx_ins mX11_findPairs 53 = some (18, 56, 0, 11, 0, [(9, 124)]) := rx_at tbX11_findPairs ndX11_findPairs (j := 35) rfl
theorem iX11_findPairs_56 : rx_ins mX11_findPairs 56 = some (1, 57, 2, 0, 0, []) := rx_at tbX11_findPairs ndX11_findPairs (j := 36) rfl
theorem iX11_findPairs_57 : rx_ins mX11_findPairs 57 = some (20, 58, 0, 0, 0, []) := rx_at tbX11_findPairs ndX11_findPairs (j := 37) rfl
theorem iX11_findPairs_58 : rx_ins mX11_findPairs 58 = some (14, 61, 98, 3, 156, []) := rx_at tbX11_findPairs ndX11_findPairs (j := 38) rfl
theorem iX11_findPairs_156 : rx_ins mX11_findPairs 156 = some (6, 159, 1, 2, 0, []) := rx_at tbX11_findPairs ndX11_findPairs (j := 99) rfl
theorem iX11_findPairs_159 : rx_ins mX11_findPairs 159 = some (15, 162, (-122), 0, 37, []) := rx_at tbX11_findPairs ndX11_findPairs (j := 100) rfl
theorem iX11_findPairs_61 : rx_ins mX11_findPairs 61 = some (3, 62, 0, 0, 0, []) := rx_at tbX11_findPairs ndX11_findPairs (j := 39) rfl
theorem iX11_findPairs_62 : rx_ins mX11_findPairs 62 = some (18, 65, 0, 11, 38, [(81, 125)]) := rx_at tbX11_findPairs ndX11_findPairs (j := 40) rfl
theorem iX11_findPairs_65 : rx_ins mX11_findPairs 65 = some (1, 66, 0, 0, 0, []) := rx_at tbX11_findPairs ndX11_findPairs (j := 41) rfl
theorem iX11_findPairs_66 : rx_ins mX11_findPairs 66 = some (3, 67, 0, 0, 0, []) := rx_at tbX11_findPairs ndX11_findPairs (j := 42) rfl
theorem iX11_findPairs_67 : rx_ins mX11_findPairs 67 = some (18, 70, 0, 11, 4, [(19, 126)]) := rx_at tbX11_findPairs ndX11_findPairs (j := 43) rfl
theorem iX11_findPairs_70 : rx_ins mX11_findPairs 70 = some (2, 71, 0, 2, 0, []) := rx_at tbX11_findPairs ndX11_findPairs (j := 44) rfl
theorem iX11_findPairs_71 : rx_ins mX11_findPairs 71 = some (20, 72, 0, 0, 0, []) := rx_at tbX11_findPairs ndX11_findPairs (j := 45) rfl
theorem iX11_findPairs_72 : rx_ins mX11_findPairs 72 = some (21, 73, 0, 0, 0, []) := rx_at tbX11_findPairs ndX11_findPairs (j := 46) rfl
theorem iX11_findPairs_73 : rx_ins mX11_findPairs 73 = some (3, 74, 0, 0, 0, []) := rx_at tbX11_findPairs ndX11_findPairs (j := 47) rfl
theorem iX11_findPairs_74 : rx_ins mX11_findPairs 74 = some (18, 77, 0, 11, 38, [(81, 125)]) := rx_at tbX11_findPairs ndX11_findPairs (j := 48) rfl
theorem iX11_findPairs_77 : rx_ins mX11_findPairs 77 = some (1, 78, 1, 0, 0, []) := rx_at tbX11_findPairs ndX11_findPairs (j := 49) rfl
theorem iX11_findPairs_78 : rx_ins mX11_findPairs 78 = some (3, 79, 0, 0, 0, []) := rx_at tbX11_findPairs ndX11_findPairs (j := 50) rfl
theorem iX11_findPairs_79 : rx_ins mX11_findPairs 79 = some (18, 82, 0, 11, 4, [(19, 126)]) := rx_at tbX11_findPairs ndX11_findPairs (j := 51) rfl
theorem iX11_findPairs_82 : rx_ins mX11_findPairs 82 = some (2, 83, 0, 3, 0, []) := rx_at tbX11_findPairs ndX11_findPairs (j := 52) rfl
theorem iX11_findPairs_83 : rx_ins mX11_findPairs 83 = some (20, 84, 0, 0, 0, []) := rx_at tbX11_findPairs ndX11_findPairs (j := 53) rfl
theorem iX11_findPairs_84 : rx_ins mX11_findPairs 84 = some (21, 85, 0, 0, 0, []) := rx_at tbX11_findPairs ndX11_findPairs (j := 54) rfl
theorem iX11_findPairs_85 : rx_ins mX11_findPairs 85 = some (3, 86, 0, 0, 0, []) := rx_at tbX11_findPairs ndX11_findPairs (j := 55) rfl
theorem iX11_findPairs_86 : rx_ins mX11_findPairs 86 = some (18, 89, 0, 11, 5, [(22, 127)]) := rx_at tbX11_findPairs ndX11_findPairs (j := 56) rfl
theorem iX11_findPairs_89 : rx_ins mX11_findPairs 89 = some (1, 91, 18, 1, 0, []) := rx_at tbX11_findPairs ndX11_findPairs (j := 57) rfl
theorem iX11_findPairs_91 : rx_ins mX11_findPairs 91 = some (2, 92, 0, 2, 0, []) := rx_at tbX11_findPairs ndX11_findPairs (j := 58) rfl
theorem iX11_findPairs_92 : rx_ins mX11_findPairs 92 = some (7, 93, 0, 2, 0, []) := rx_at tbX11_findPairs ndX11_findPairs (j := 59) rfl
theorem iX11_findPairs_93 : rx_ins mX11_findPairs 93 = some (2, 94, 0, 3, 0, []) := rx_at tbX11_findPairs ndX11_findPairs (j := 60) rfl
theorem iX11_findPairs_94 : rx_ins mX11_findPairs 94 = some (7, 95, 0, 0, 0, []) := rx_at tbX11_findPairs ndX11_findPairs (j := 61) rfl
theorem iX11_findPairs_95 : rx_ins mX11_findPairs 95 = some (2, 96, 0, 1, 0, []) := rx_at tbX11_findPairs ndX11_findPairs (j := 62) rfl
theorem iX11_findPairs_96 : rx_ins mX11_findPairs 96 = some (13, 99, 19, 3, 115, []) := rx_at tbX11_findPairs ndX11_findPairs (j := 63) rfl
theorem iX11_findPairs_115 : rx_ins mX11_findPairs 115 = some (3, 116, 0, 0, 0, []) := rx_at tbX11_findPairs ndX11_findPairs (j := 74) rfl
theorem iX11_findPairs_116 : rx_ins mX11_findPairs 116 = some (2, 117, 0, 1, 0, []) := rx_at tbX11_findPairs ndX11_findPairs (j := 75) rfl
theorem iX11_findPairs_117 : rx_ins mX11_findPairs 117 = some (28, 120, 13, 229, 2, [(168, 214)]) := rx_at tbX11_findPairs ndX11_findPairs (j := 76) rfl
theorem iX11_findPairs_120 : rx_ins mX11_findPairs 120 = some (1, 121, 0, 0, 0, []) := rx_at tbX11_findPairs ndX11_findPairs (j := 77) rfl
theorem iX11_findPairs_121 : rx_ins mX11_findPairs 121 = some (1, 124, 999, 2, 0, []) := rx_at tbX11_findPairs ndX11_findPairs (j := 78) rfl
theorem iX11_findPairs_124 : rx_ins mX11_findPairs 124 = some (28, 127, 0, 134, 3, [(171, 215)]) := rx_at tbX11_findPairs ndX11_findPairs (j := 79) rfl
theorem iX11_findPairs_127 : rx_ins mX11_findPairs 127 = some (21, 128, 0, 0, 0, []) := rx_at tbX11_findPairs ndX11_findPairs (j := 80) rfl
theorem iX11_findPairs_128 : rx_ins mX11_findPairs 128 = some (3, 129, 0, 0, 0, []) := rx_at tbX11_findPairs ndX11_findPairs (j := 81) rfl
theorem iX11_findPairs_129 : rx_ins mX11_findPairs 129 = some (18, 132, 0, 11, 5, [(22, 127)]) := rx_at tbX11_findPairs ndX11_findPairs (j := 82) rfl
theorem iX11_findPairs_132 : rx_ins mX11_findPairs 132 = some (1, 134, 18, 1, 0, []) := rx_at tbX11_findPairs ndX11_findPairs (j := 83) rfl
theorem iX11_findPairs_134 : rx_ins mX11_findPairs 134 = some (2, 135, 0, 3, 0, []) := rx_at tbX11_findPairs ndX11_findPairs (j := 84) rfl
theorem iX11_findPairs_135 : rx_ins mX11_findPairs 135 = some (7, 136, 0, 2, 0, []) := rx_at tbX11_findPairs ndX11_findPairs (j := 85) rfl
theorem iX11_findPairs_136 : rx_ins mX11_findPairs 136 = some (2, 137, 0, 2, 0, []) := rx_at tbX11_findPairs ndX11_findPairs (j := 86) rfl
theorem iX11_findPairs_137 : rx_ins mX11_findPairs 137 = some (7, 138, 0, 0, 0, []) := rx_at tbX11_findPairs ndX11_findPairs (j := 87) rfl
theorem iX11_findPairs_138 : rx_ins mX11_findPairs 138 = some (3, 139, 0, 0, 0, []) := rx_at tbX11_findPairs ndX11_findPairs (j := 88) rfl
theorem iX11_findPairs_139 : rx_ins mX11_findPairs 139 = some (18, 142, 0, 11, 5, [(22, 127)]) := rx_at tbX11_findPairs ndX11_findPairs (j := 89) rfl
theorem iX11_findPairs_142 : rx_ins mX11_findPairs 142 = some (1, 144, 18, 1, 0, []) := rx_at tbX11_findPairs ndX11_findPairs (j := 90) rfl
theorem iX11_findPairs_144 : rx_ins mX11_findPairs 144 = some (2, 145, 0, 2, 0, []) := rx_at tbX11_findPairs ndX11_findPairs (j := 91) rfl
theorem iX11_findPairs_145 : rx_ins mX11_findPairs 145 = some (7, 146, 0, 2, 0, []) := rx_at tbX11_findPairs ndX11_findPairs (j := 92) rfl
theorem iX11_findPairs_146 : rx_ins mX11_findPairs 146 = some (2, 147, 0, 3, 0, []) := rx_at tbX11_findPairs ndX11_findPairs (j := 93) rfl
theorem iX11_findPairs_147 : rx_ins mX11_findPairs 147 = some (7, 148, 0, 0, 0, []) := rx_at tbX11_findPairs ndX11_findPairs (j := 94) rfl
theorem iX11_findPairs_148 : rx_ins mX11_findPairs 148 = some (20, 149, 0, 0, 0, []) := rx_at tbX11_findPairs ndX11_findPairs (j := 95) rfl
theorem iX11_findPairs_149 : rx_ins mX11_findPairs 149 = some (21, 150, 0, 0, 0, []) := rx_at tbX11_findPairs ndX11_findPairs (j := 96) rfl
theorem iX11_findPairs_150 : rx_ins mX11_findPairs 150 = some (6, 153, 1, 3, 0, []) := rx_at tbX11_findPairs ndX11_findPairs (j := 97) rfl
theorem iX11_findPairs_153 : rx_ins mX11_findPairs 153 = some (15, 156, (-102), 0, 51, []) := rx_at tbX11_findPairs ndX11_findPairs (j := 98) rfl
theorem iX11_findPairs_99 : rx_ins mX11_findPairs 99 = some (3, 100, 0, 0, 0, []) := rx_at tbX11_findPairs ndX11_findPairs (j := 64) rfl
theorem iX11_findPairs_100 : rx_ins mX11_findPairs 100 = some (18, 103, 0, 11, 4, [(19, 126)]) := rx_at tbX11_findPairs ndX11_findPairs (j := 65) rfl
theorem iX11_findPairs_103 : rx_ins mX11_findPairs 103 = some (2, 104, 0, 2, 0, []) := rx_at tbX11_findPairs ndX11_findPairs (j := 66) rfl
theorem iX11_findPairs_104 : rx_ins mX11_findPairs 104 = some (20, 105, 0, 0, 0, []) := rx_at tbX11_findPairs ndX11_findPairs (j := 67) rfl
theorem iX11_findPairs_105 : rx_ins mX11_findPairs 105 = some (3, 106, 0, 0, 0, []) := rx_at tbX11_findPairs ndX11_findPairs (j := 68) rfl
theorem iX11_findPairs_106 : rx_ins mX11_findPairs 106 = some (18, 109, 0, 11, 4, [(19, 126)]) := rx_at tbX11_findPairs ndX11_findPairs (j := 69) rfl
theorem iX11_findPairs_109 : rx_ins mX11_findPairs 109 = some (2, 110, 0, 3, 0, []) := rx_at tbX11_findPairs ndX11_findPairs (j := 70) rfl
theorem iX11_findPairs_110 : rx_ins mX11_findPairs 110 = some (20, 111, 0, 0, 0, []) := rx_at tbX11_findPairs ndX11_findPairs (j := 71) rfl
theorem iX11_findPairs_111 : rx_ins mX11_findPairs 111 = some (7, 112, 0, 0, 0, []) := rx_at tbX11_findPairs ndX11_findPairs (j := 72) rfl
theorem iX11_findPairs_112 : rx_ins mX11_findPairs 112 = some (15, 115, 15, 0, 127, []) := rx_at tbX11_findPairs ndX11_findPairs (j := 73) rfl
theorem iX11_side_0 : rx_ins mX11_side 0 = some (2, 1, 0, 2, 0, []) := rx_at tbX11_side ndX11_side (j := 0) rfl
theorem iX11_side_1 : rx_ins mX11_side 1 = some (2, 2, 0, 0, 0, []) := rx_at tbX11_side ndX11_side (j := 1) rfl
theorem iX11_side_2 : rx_ins mX11_side 2 = some (7, 3, 0, 1, 0, []) := rx_at tbX11_side ndX11_side (j := 2) rfl
theorem iX11_side_3 : rx_ins mX11_side 3 = some (2, 5, 1, 5, 0, []) := rx_at tbX11_side ndX11_side (j := 3) rfl
theorem iX11_side_5 : rx_ins mX11_side 5 = some (2, 6, 0, 1, 0, []) := rx_at tbX11_side ndX11_side (j := 4) rfl
theorem iX11_side_6 : rx_ins mX11_side 6 = some (7, 7, 0, 1, 0, []) := rx_at tbX11_side ndX11_side (j := 5) rfl
theorem iX11_side_7 : rx_ins mX11_side 7 = some (7, 8, 0, 2, 0, []) := rx_at tbX11_side ndX11_side (j := 6) rfl
theorem iX11_side_8 : rx_ins mX11_side 8 = some (2, 9, 0, 3, 0, []) := rx_at tbX11_side ndX11_side (j := 7) rfl
theorem iX11_side_9 : rx_ins mX11_side 9 = some (2, 10, 0, 1, 0, []) := rx_at tbX11_side ndX11_side (j := 8) rfl
theorem iX11_side_10 : rx_ins mX11_side 10 = some (7, 11, 0, 1, 0, []) := rx_at tbX11_side ndX11_side (j := 9) rfl
theorem iX11_side_11 : rx_ins mX11_side 11 = some (2, 13, 1, 4, 0, []) := rx_at tbX11_side ndX11_side (j := 10) rfl
theorem iX11_side_13 : rx_ins mX11_side 13 = some (2, 14, 0, 0, 0, []) := rx_at tbX11_side ndX11_side (j := 11) rfl
theorem iX11_side_14 : rx_ins mX11_side 14 = some (7, 15, 0, 1, 0, []) := rx_at tbX11_side ndX11_side (j := 12) rfl
theorem iX11_side_15 : rx_ins mX11_side 15 = some (7, 16, 0, 2, 0, []) := rx_at tbX11_side ndX11_side (j := 13) rfl
theorem iX11_side_16 : rx_ins mX11_side 16 = some (7, 17, 0, 1, 0, []) := rx_at tbX11_side ndX11_side (j := 14) rfl
theorem iX11_side_17 : rx_ins mX11_side 17 = some (4, 19, 1, 6, 0, []) := rx_at tbX11_side ndX11_side (j := 15) rfl
theorem iX11_side_19 : rx_ins mX11_side 19 = some (2, 21, 1, 6, 0, []) := rx_at tbX11_side ndX11_side (j := 16) rfl
theorem iX11_side_21 : rx_ins mX11_side 21 = some (13, 24, 7, 5, 28, []) := rx_at tbX11_side ndX11_side (j := 17) rfl
theorem iX11_side_28 : rx_ins mX11_side 28 = some (2, 30, 1, 6, 0, []) := rx_at tbX11_side ndX11_side (j := 20) rfl
theorem iX11_side_30 : rx_ins mX11_side 30 = some (13, 33, 7, 3, 37, []) := rx_at tbX11_side ndX11_side (j := 21) rfl
theorem iX11_side_37 : rx_ins mX11_side 37 = some (1, 38, 0, 0, 0, []) := rx_at tbX11_side ndX11_side (j := 24) rfl
theorem iX11_side_38 : rx_ins mX11_side 38 = some (29, 39, 0, 0, 0, []) := rx_at tbX11_side ndX11_side (j := 25) rfl
theorem iX11_side_33 : rx_ins mX11_side 33 = some (1, 34, (-1), 0, 0, []) := rx_at tbX11_side ndX11_side (j := 22) rfl
theorem iX11_side_34 : rx_ins mX11_side 34 = some (15, 37, 4, 0, 38, []) := rx_at tbX11_side ndX11_side (j := 23) rfl
theorem iX11_side_24 : rx_ins mX11_side 24 = some (1, 25, 1, 0, 0, []) := rx_at tbX11_side ndX11_side (j := 18) rfl
theorem iX11_side_25 : rx_ins mX11_side 25 = some (15, 28, 13, 0, 38, []) := rx_at tbX11_side ndX11_side (j := 19) rfl
theorem iX11_isOn_0 : rx_ins mX11_isOn 0 = some (3, 1, 0, 0, 0, []) := rx_at tbX11_isOn ndX11_isOn (j := 0) rfl
theorem iX11_isOn_1 : rx_ins mX11_isOn 1 = some (2, 2, 0, 1, 0, []) := rx_at tbX11_isOn ndX11_isOn (j := 1) rfl
theorem iX11_isOn_2 : rx_ins mX11_isOn 2 = some (28, 5, 13, 138, 2, [(119, 200)]) := rx_at tbX11_isOn ndX11_isOn (j := 2) rfl
theorem iX11_isOn_5 : rx_ins mX11_isOn 5 = some (3, 6, 0, 0, 0, []) := rx_at tbX11_isOn ndX11_isOn (j := 3) rfl
theorem iX11_isOn_6 : rx_ins mX11_isOn 6 = some (2, 7, 0, 2, 0, []) := rx_at tbX11_isOn ndX11_isOn (j := 4) rfl
theorem iX11_isOn_7 : rx_ins mX11_isOn 7 = some (28, 10, 13, 138, 2, [(119, 200)]) := rx_at tbX11_isOn ndX11_isOn (j := 5) rfl
theorem iX11_isOn_10 : rx_ins mX11_isOn 10 = some (3, 11, 0, 0, 0, []) := rx_at tbX11_isOn ndX11_isOn (j := 6) rfl
theorem iX11_isOn_11 : rx_ins mX11_isOn 11 = some (2, 12, 0, 3, 0, []) := rx_at tbX11_isOn ndX11_isOn (j := 7) rfl
theorem iX11_isOn_12 : rx_ins mX11_isOn 12 = some (28, 15, 13, 138, 2, [(119, 200)]) := rx_at tbX11_isOn ndX11_isOn (j := 8) rfl
theorem iX11_isOn_15 : rx_ins mX11_isOn 15 = some (31, 18, 0, 1, 0, [(191, 8)]) := rx_at tbX11_isOn ndX11_isOn (j := 9) rfl
theorem iX11_isOn_18 : rx_ins mX11_isOn 18 = some (14, 21, 28, 2, 46, []) := rx_at tbX11_isOn ndX11_isOn (j := 10) rfl
theorem iX11_isOn_46 : rx_ins mX11_isOn 46 = some (1, 47, 0, 0, 0, []) := rx_at tbX11_isOn ndX11_isOn (j := 24) rfl
theorem iX11_isOn_47 : rx_ins mX11_isOn 47 = some (4, 49, 1, 4, 0, []) := rx_at tbX11_isOn ndX11_isOn (j := 25) rfl
theorem iX11_isOn_49 : rx_ins mX11_isOn 49 = some (2, 51, 1, 4, 0, []) := rx_at tbX11_isOn ndX11_isOn (j := 26) rfl
theorem iX11_isOn_51 : rx_ins mX11_isOn 51 = some (13, 54, 49, 0, 100, []) := rx_at tbX11_isOn ndX11_isOn (j := 27) rfl
theorem iX11_isOn_100 : rx_ins mX11_isOn 100 = some (1, 101, 0, 0, 0, []) := rx_at tbX11_isOn ndX11_isOn (j := 52) rfl
theorem iX11_isOn_101 : rx_ins mX11_isOn 101 = some (29, 102, 1, 0, 0, []) := rx_at tbX11_isOn ndX11_isOn (j := 53) rfl
theorem iX11_isOn_21 : rx_ins mX11_isOn 21 = some (3, 22, 0, 0, 0, []) := rx_at tbX11_isOn ndX11_isOn (j := 11) rfl
theorem iX11_isOn_22 : rx_ins mX11_isOn 22 = some (2, 23, 0, 1, 0, []) := rx_at tbX11_isOn ndX11_isOn (j := 12) rfl
theorem iX11_isOn_23 : rx_ins mX11_isOn 23 = some (28, 26, 13, 138, 2, [(119, 200)]) := rx_at tbX11_isOn ndX11_isOn (j := 13) rfl
theorem iX11_isOn_26 : rx_ins mX11_isOn 26 = some (3, 27, 0, 0, 0, []) := rx_at tbX11_isOn ndX11_isOn (j := 14) rfl
theorem iX11_isOn_27 : rx_ins mX11_isOn 27 = some (2, 28, 0, 2, 0, []) := rx_at tbX11_isOn ndX11_isOn (j := 15) rfl
theorem iX11_isOn_28 : rx_ins mX11_isOn 28 = some (28, 31, 13, 138, 2, [(119, 200)]) := rx_at tbX11_isOn ndX11_isOn (j := 16) rfl
theorem iX11_isOn_31 : rx_ins mX11_isOn 31 = some (3, 32, 0, 0, 0, []) := rx_at tbX11_isOn ndX11_isOn (j := 17) rfl
theorem iX11_isOn_32 : rx_ins mX11_isOn 32 = some (2, 33, 0, 3, 0, []) := rx_at tbX11_isOn ndX11_isOn (j := 18) rfl
theorem iX11_isOn_33 : rx_ins mX11_isOn 33 = some (28, 36, 13, 138, 2, [(119, 200)]) := rx_at tbX11_isOn ndX11_isOn (j := 19) rfl
theorem iX11_isOn_36 : rx_ins mX11_isOn 36 = some (31, 39, 0, 0, 0, [(196, 9)]) := rx_at tbX11_isOn ndX11_isOn (j := 20) rfl
theorem iX11_isOn_39 : rx_ins mX11_isOn 39 = some (14, 42, 7, 4, 46, []) := rx_at tbX11_isOn ndX11_isOn (j := 21) rfl
theorem iX11_isOn_42 : rx_ins mX11_isOn 42 = some (1, 43, 1, 0, 0, []) := rx_at tbX11_isOn ndX11_isOn (j := 22) rfl
theorem iX11_isOn_43 : rx_ins mX11_isOn 43 = some (15, 46, 4, 0, 47, []) := rx_at tbX11_isOn ndX11_isOn (j := 23) rfl
theorem iX11_isOn_54 : rx_ins mX11_isOn 54 = some (3, 55, 0, 0, 0, []) := rx_at tbX11_isOn ndX11_isOn (j := 28) rfl
theorem iX11_isOn_55 : rx_ins mX11_isOn 55 = some (2, 56, 0, 1, 0, []) := rx_at tbX11_isOn ndX11_isOn (j := 29) rfl
theorem iX11_isOn_56 : rx_ins mX11_isOn 56 = some (28, 59, 13, 139, 2, [(123, 201)]) := rx_at tbX11_isOn ndX11_isOn (j := 30) rfl
theorem iX11_isOn_59 : rx_ins mX11_isOn 59 = some (3, 60, 0, 0, 0, []) := rx_at tbX11_isOn ndX11_isOn (j := 31) rfl
theorem iX11_isOn_60 : rx_ins mX11_isOn 60 = some (2, 61, 0, 2, 0, []) := rx_at tbX11_isOn ndX11_isOn (j := 32) rfl
theorem iX11_isOn_61 : rx_ins mX11_isOn 61 = some (28, 64, 13, 139, 2, [(123, 201)]) := rx_at tbX11_isOn ndX11_isOn (j := 33) rfl
theorem iX11_isOn_64 : rx_ins mX11_isOn 64 = some (3, 65, 0, 0, 0, []) := rx_at tbX11_isOn ndX11_isOn (j := 34) rfl
theorem iX11_isOn_65 : rx_ins mX11_isOn 65 = some (2, 66, 0, 3, 0, []) := rx_at tbX11_isOn ndX11_isOn (j := 35) rfl
theorem iX11_isOn_66 : rx_ins mX11_isOn 66 = some (28, 69, 13, 139, 2, [(123, 201)]) := rx_at tbX11_isOn ndX11_isOn (j := 36) rfl
theorem iX11_isOn_69 : rx_ins mX11_isOn 69 = some (31, 72, 0, 1, 0, [(191, 8)]) := rx_at tbX11_isOn ndX11_isOn (j := 37) rfl
theorem iX11_isOn_72 : rx_ins mX11_isOn 72 = some (14, 75, 28, 2, 100, []) := rx_at tbX11_isOn ndX11_isOn (j := 38) rfl
theorem iX11_isOn_75 : rx_ins mX11_isOn 75 = some (3, 76, 0, 0, 0, []) := rx_at tbX11_isOn ndX11_isOn (j := 39) rfl
theorem iX11_isOn_76 : rx_ins mX11_isOn 76 = some (2, 77, 0, 1, 0, []) := rx_at tbX11_isOn ndX11_isOn (j := 40) rfl
theorem iX11_isOn_77 : rx_ins mX11_isOn 77 = some (28, 80, 13, 139, 2, [(123, 201)]) := rx_at tbX11_isOn ndX11_isOn (j := 41) rfl
theorem iX11_isOn_80 : rx_ins mX11_isOn 80 = some (3, 81, 0, 0, 0, []) := rx_at tbX11_isOn ndX11_isOn (j := 42) rfl
theorem iX11_isOn_81 : rx_ins mX11_isOn 81 = some (2, 82, 0, 2, 0, []) := rx_at tbX11_isOn ndX11_isOn (j := 43) rfl
theorem iX11_isOn_82 : rx_ins mX11_isOn 82 = some (28, 85, 13, 139, 2, [(123, 201)]) := rx_at tbX11_isOn ndX11_isOn (j := 44) rfl
theorem iX11_isOn_85 : rx_ins mX11_isOn 85 = some (3, 86, 0, 0, 0, []) := rx_at tbX11_isOn ndX11_isOn (j := 45) rfl
theorem iX11_isOn_86 : rx_ins mX11_isOn 86 = some (2, 87, 0, 3, 0, []) := rx_at tbX11_isOn ndX11_isOn (j := 46) rfl
theorem iX11_isOn_87 : rx_ins mX11_isOn 87 = some (28, 90, 13, 139, 2, [(123, 201)]) := rx_at tbX11_isOn ndX11_isOn (j := 47) rfl
theorem iX11_isOn_90 : rx_ins mX11_isOn 90 = some (31, 93, 0, 0, 0, [(196, 9)]) := rx_at tbX11_isOn ndX11_isOn (j := 48) rfl
theorem iX11_isOn_93 : rx_ins mX11_isOn 93 = some (14, 96, 7, 4, 100, []) := rx_at tbX11_isOn ndX11_isOn (j := 49) rfl
theorem iX11_isOn_96 : rx_ins mX11_isOn 96 = some (1, 97, 1, 0, 0, []) := rx_at tbX11_isOn ndX11_isOn (j := 50) rfl
theorem iX11_isOn_97 : rx_ins mX11_isOn 97 = some (15, 100, 4, 0, 101, []) := rx_at tbX11_isOn ndX11_isOn (j := 51) rfl
theorem iX11_sideOf_0 : rx_ins mX11_sideOf 0 = some (3, 1, 0, 0, 0, []) := rx_at tbX11_sideOf ndX11_sideOf (j := 0) rfl
theorem iX11_sideOf_1 : rx_ins mX11_sideOf 1 = some (2, 2, 0, 1, 0, []) := rx_at tbX11_sideOf ndX11_sideOf (j := 1) rfl
theorem iX11_sideOf_2 : rx_ins mX11_sideOf 2 = some (28, 5, 13, 138, 2, [(119, 200)]) := rx_at tbX11_sideOf ndX11_sideOf (j := 2) rfl
theorem iX11_sideOf_5 : rx_ins mX11_sideOf 5 = some (3, 6, 0, 0, 0, []) := rx_at tbX11_sideOf ndX11_sideOf (j := 3) rfl
theorem iX11_sideOf_6 : rx_ins mX11_sideOf 6 = some (2, 7, 0, 1, 0, []) := rx_at tbX11_sideOf ndX11_sideOf (j := 4) rfl
theorem iX11_sideOf_7 : rx_ins mX11_sideOf 7 = some (28, 10, 13, 139, 2, [(123, 201)]) := rx_at tbX11_sideOf ndX11_sideOf (j := 5) rfl
theorem iX11_sideOf_10 : rx_ins mX11_sideOf 10 = some (3, 11, 0, 0, 0, []) := rx_at tbX11_sideOf ndX11_sideOf (j := 6) rfl
theorem iX11_sideOf_11 : rx_ins mX11_sideOf 11 = some (2, 12, 0, 2, 0, []) := rx_at tbX11_sideOf ndX11_sideOf (j := 7) rfl
theorem iX11_sideOf_12 : rx_ins mX11_sideOf 12 = some (28, 15, 13, 138, 2, [(119, 200)]) := rx_at tbX11_sideOf ndX11_sideOf (j := 8) rfl
theorem iX11_sideOf_15 : rx_ins mX11_sideOf 15 = some (3, 16, 0, 0, 0, []) := rx_at tbX11_sideOf ndX11_sideOf (j := 9) rfl
theorem iX11_sideOf_16 : rx_ins mX11_sideOf 16 = some (2, 17, 0, 2, 0, []) := rx_at tbX11_sideOf ndX11_sideOf (j := 10) rfl
theorem iX11_sideOf_17 : rx_ins mX11_sideOf 17 = some (28, 20, 13, 139, 2, [(123, 201)]) := rx_at tbX11_sideOf ndX11_sideOf (j := 11) rfl
theorem iX11_sideOf_20 : rx_ins mX11_sideOf 20 = some (3, 21, 0, 0, 0, []) := rx_at tbX11_sideOf ndX11_sideOf (j := 12) rfl
theorem iX11_sideOf_21 : rx_ins mX11_sideOf 21 = some (2, 22, 0, 3, 0, []) := rx_at tbX11_sideOf ndX11_sideOf (j := 13) rfl
theorem iX11_sideOf_22 : rx_ins mX11_sideOf 22 = some (28, 25, 13, 138, 2, [(119, 200)]) := rx_at tbX11_sideOf ndX11_sideOf (j := 14) rfl
theorem iX11_sideOf_25 : rx_ins mX11_sideOf 25 = some (3, 26, 0, 0, 0, []) := rx_at tbX11_sideOf ndX11_sideOf (j := 15) rfl
theorem iX11_sideOf_26 : rx_ins mX11_sideOf 26 = some (2, 27, 0, 3, 0, []) := rx_at tbX11_sideOf ndX11_sideOf (j := 16) rfl
theorem iX11_sideOf_27 : rx_ins mX11_sideOf 27 = some (28, 30, 13, 139, 2, [(123, 201)]) := rx_at tbX11_sideOf ndX11_sideOf (j := 17) rfl
theorem iX11_sideOf_30 : rx_ins mX11_sideOf 30 = some (28, 33, 0, 167, 6, [(199, 221)]) := rx_at tbX11_sideOf ndX11_sideOf (j := 18) rfl
theorem iX11_sideOf_33 : rx_ins mX11_sideOf 33 = some (29, 34, 0, 0, 0, []) := rx_at tbX11_sideOf ndX11_sideOf (j := 19) rfl
theorem iX11_doCross_0 : rx_ins mX11_doCross 0 = some (3, 1, 0, 0, 0, []) := rx_at tbX11_doCross ndX11_doCross (j := 0) rfl
theorem iX11_doCross_1 : rx_ins mX11_doCross 1 = some (2, 2, 0, 1, 0, []) := rx_at tbX11_doCross ndX11_doCross (j := 1) rfl
theorem iX11_doCross_2 : rx_ins mX11_doCross 2 = some (2, 3, 0, 2, 0, []) := rx_at tbX11_doCross ndX11_doCross (j := 2) rfl
theorem iX11_doCross_3 : rx_ins mX11_doCross 3 = some (28, 6, 13, 165, 3, [(203, 222)]) := rx_at tbX11_doCross ndX11_doCross (j := 3) rfl
theorem iX11_doCross_6 : rx_ins mX11_doCross 6 = some (13, 9, 5, 1, 11, []) := rx_at tbX11_doCross ndX11_doCross (j := 4) rfl
theorem iX11_doCross_11 : rx_ins mX11_doCross 11 = some (3, 12, 0, 0, 0, []) := rx_at tbX11_doCross ndX11_doCross (j := 7) rfl
theorem iX11_doCross_12 : rx_ins mX11_doCross 12 = some (2, 13, 0, 1, 0, []) := rx_at tbX11_doCross ndX11_doCross (j := 8) rfl
theorem iX11_doCross_13 : rx_ins mX11_doCross 13 = some (28, 16, 13, 142, 2, [(139, 205)]) := rx_at tbX11_doCross ndX11_doCross (j := 9) rfl
theorem iX11_doCross_16 : rx_ins mX11_doCross 16 = some (4, 17, 0, 3, 0, []) := rx_at tbX11_doCross ndX11_doCross (j := 10) rfl
theorem iX11_doCross_17 : rx_ins mX11_doCross 17 = some (3, 18, 0, 0, 0, []) := rx_at tbX11_doCross ndX11_doCross (j := 11) rfl
theorem iX11_doCross_18 : rx_ins mX11_doCross 18 = some (2, 19, 0, 1, 0, []) := rx_at tbX11_doCross ndX11_doCross (j := 12) rfl
theorem iX11_doCross_19 : rx_ins mX11_doCross 19 = some (28, 22, 13, 143, 2, [(142, 206)]) := rx_at tbX11_doCross ndX11_doCross (j := 13) rfl
theorem iX11_doCross_22 : rx_ins mX11_doCross 22 = some (4, 24, 1, 4, 0, []) := rx_at tbX11_doCross ndX11_doCross (j := 14) rfl
theorem iX11_doCross_24 : rx_ins mX11_doCross 24 = some (3, 25, 0, 0, 0, []) := rx_at tbX11_doCross ndX11_doCross (j := 15) rfl
theorem iX11_doCross_25 : rx_ins mX11_doCross 25 = some (2, 26, 0, 2, 0, []) := rx_at tbX11_doCross ndX11_doCross (j := 16) rfl
theorem iX11_doCross_26 : rx_ins mX11_doCross 26 = some (28, 29, 13, 142, 2, [(139, 205)]) := rx_at tbX11_doCross ndX11_doCross (j := 17) rfl
theorem iX11_doCross_29 : rx_ins mX11_doCross 29 = some (4, 31, 1, 5, 0, []) := rx_at tbX11_doCross ndX11_doCross (j := 18) rfl
theorem iX11_doCross_31 : rx_ins mX11_doCross 31 = some (3, 32, 0, 0, 0, []) := rx_at tbX11_doCross ndX11_doCross (j := 19) rfl
theorem iX11_doCross_32 : rx_ins mX11_doCross 32 = some (2, 33, 0, 2, 0, []) := rx_at tbX11_doCross ndX11_doCross (j := 20) rfl
theorem iX11_doCross_33 : rx_ins mX11_doCross 33 = some (28, 36, 13, 143, 2, [(142, 206)]) := rx_at tbX11_doCross ndX11_doCross (j := 21) rfl
theorem iX11_doCross_36 : rx_ins mX11_doCross 36 = some (4, 38, 1, 6, 0, []) := rx_at tbX11_doCross ndX11_doCross (j := 22) rfl
theorem iX11_doCross_38 : rx_ins mX11_doCross 38 = some (3, 39, 0, 0, 0, []) := rx_at tbX11_doCross ndX11_doCross (j := 23) rfl
theorem iX11_doCross_39 : rx_ins mX11_doCross 39 = some (2, 40, 0, 3, 0, []) := rx_at tbX11_doCross ndX11_doCross (j := 24) rfl
theorem iX11_doCross_40 : rx_ins mX11_doCross 40 = some (2, 42, 1, 4, 0, []) := rx_at tbX11_doCross ndX11_doCross (j := 25) rfl
theorem iX11_doCross_42 : rx_ins mX11_doCross 42 = some (2, 44, 1, 5, 0, []) := rx_at tbX11_doCross ndX11_doCross (j := 26) rfl
theorem iX11_doCross_44 : rx_ins mX11_doCross 44 = some (28, 47, 13, 169, 4, [(206, 223)]) := rx_at tbX11_doCross ndX11_doCross (j := 27) rfl
theorem iX11_doCross_47 : rx_ins mX11_doCross 47 = some (4, 49, 1, 7, 0, []) := rx_at tbX11_doCross ndX11_doCross (j := 28) rfl
theorem iX11_doCross_49 : rx_ins mX11_doCross 49 = some (3, 50, 0, 0, 0, []) := rx_at tbX11_doCross ndX11_doCross (j := 29) rfl
theorem iX11_doCross_50 : rx_ins mX11_doCross 50 = some (2, 51, 0, 3, 0, []) := rx_at tbX11_doCross ndX11_doCross (j := 30) rfl
theorem iX11_doCross_51 : rx_ins mX11_doCross 51 = some (2, 53, 1, 4, 0, []) := rx_at tbX11_doCross ndX11_doCross (j := 31) rfl
theorem iX11_doCross_53 : rx_ins mX11_doCross 53 = some (2, 55, 1, 6, 0, []) := rx_at tbX11_doCross ndX11_doCross (j := 32) rfl
theorem iX11_doCross_55 : rx_ins mX11_doCross 55 = some (28, 58, 13, 169, 4, [(206, 223)]) := rx_at tbX11_doCross ndX11_doCross (j := 33) rfl
theorem iX11_doCross_58 : rx_ins mX11_doCross 58 = some (4, 60, 1, 8, 0, []) := rx_at tbX11_doCross ndX11_doCross (j := 34) rfl
theorem iX11_doCross_60 : rx_ins mX11_doCross 60 = some (3, 61, 0, 0, 0, []) := rx_at tbX11_doCross ndX11_doCross (j := 35) rfl
theorem iX11_doCross_61 : rx_ins mX11_doCross 61 = some (2, 63, 1, 5, 0, []) := rx_at tbX11_doCross ndX11_doCross (j := 36) rfl
theorem iX11_doCross_63 : rx_ins mX11_doCross 63 = some (2, 65, 1, 6, 0, []) := rx_at tbX11_doCross ndX11_doCross (j := 37) rfl
theorem iX11_doCross_65 : rx_ins mX11_doCross 65 = some (2, 66, 0, 3, 0, []) := rx_at tbX11_doCross ndX11_doCross (j := 38) rfl
theorem iX11_doCross_66 : rx_ins mX11_doCross 66 = some (28, 69, 13, 169, 4, [(206, 223)]) := rx_at tbX11_doCross ndX11_doCross (j := 39) rfl
theorem iX11_doCross_69 : rx_ins mX11_doCross 69 = some (4, 71, 1, 9, 0, []) := rx_at tbX11_doCross ndX11_doCross (j := 40) rfl
theorem iX11_doCross_71 : rx_ins mX11_doCross 71 = some (3, 72, 0, 0, 0, []) := rx_at tbX11_doCross ndX11_doCross (j := 41) rfl
theorem iX11_doCross_72 : rx_ins mX11_doCross 72 = some (2, 74, 1, 5, 0, []) := rx_at tbX11_doCross ndX11_doCross (j := 42) rfl
theorem iX11_doCross_74 : rx_ins mX11_doCross 74 = some (2, 76, 1, 6, 0, []) := rx_at tbX11_doCross ndX11_doCross (j := 43) rfl
theorem iX11_doCross_76 : rx_ins mX11_doCross 76 = some (2, 78, 1, 4, 0, []) := rx_at tbX11_doCross ndX11_doCross (j := 44) rfl
theorem iX11_doCross_78 : rx_ins mX11_doCross 78 = some (28, 81, 13, 169, 4, [(206, 223)]) := rx_at tbX11_doCross ndX11_doCross (j := 45) rfl
theorem iX11_doCross_81 : rx_ins mX11_doCross 81 = some (4, 83, 1, 10, 0, []) := rx_at tbX11_doCross ndX11_doCross (j := 46) rfl
theorem iX11_doCross_83 : rx_ins mX11_doCross 83 = some (2, 85, 1, 7, 0, []) := rx_at tbX11_doCross ndX11_doCross (j := 47) rfl
theorem iX11_doCross_85 : rx_ins mX11_doCross 85 = some (2, 87, 1, 8, 0, []) := rx_at tbX11_doCross ndX11_doCross (j := 48) rfl
theorem iX11_doCross_87 : rx_ins mX11_doCross 87 = some (7, 88, 0, 2, 0, []) := rx_at tbX11_doCross ndX11_doCross (j := 49) rfl
theorem iX11_doCross_88 : rx_ins mX11_doCross 88 = some (13, 91, 13, 3, 101, []) := rx_at tbX11_doCross ndX11_doCross (j := 50) rfl
theorem iX11_doCross_91 : rx_ins mX11_doCross 91 = some (2, 93, 1, 9, 0, []) := rx_at tbX11_doCross ndX11_doCross (j := 51) rfl
theorem iX11_doCross_93 : rx_ins mX11_doCross 93 = some (2, 95, 1, 10, 0, []) := rx_at tbX11_doCross ndX11_doCross (j := 52) rfl
theorem iX11_doCross_95 : rx_ins mX11_doCross 95 = some (7, 96, 0, 2, 0, []) := rx_at tbX11_doCross ndX11_doCross (j := 53) rfl
theorem iX11_doCross_96 : rx_ins mX11_doCross 96 = some (13, 99, 5, 3, 101, []) := rx_at tbX11_doCross ndX11_doCross (j := 54) rfl
theorem iX11_doCross_99 : rx_ins mX11_doCross 99 = some (1, 100, 1, 0, 0, []) := rx_at tbX11_doCross ndX11_doCross (j := 55) rfl
theorem iX11_doCross_100 : rx_ins mX11_doCross 100 = some (29, 101, 1, 0, 0, []) := rx_at tbX11_doCross ndX11_doCross (j := 56) rfl
theorem iX11_doCross_9 : rx_ins mX11_doCross 9 = some (1, 10, 0, 0, 0, []) := rx_at tbX11_doCross ndX11_doCross (j := 5) rfl
theorem iX11_doCross_10 : rx_ins mX11_doCross 10 = some (29, 11, 1, 0, 0, []) := rx_at tbX11_doCross ndX11_doCross (j := 6) rfl
theorem iX11_doCross_101 : rx_ins mX11_doCross 101 = some (2, 103, 1, 7, 0, []) := rx_at tbX11_doCross ndX11_doCross (j := 57) rfl
theorem iX11_doCross_103 : rx_ins mX11_doCross 103 = some (13, 106, 15, 1, 118, []) := rx_at tbX11_doCross ndX11_doCross (j := 58) rfl
theorem iX11_doCross_106 : rx_ins mX11_doCross 106 = some (3, 107, 0, 0, 0, []) := rx_at tbX11_doCross ndX11_doCross (j := 59) rfl
theorem iX11_doCross_107 : rx_ins mX11_doCross 107 = some (2, 109, 1, 5, 0, []) := rx_at tbX11_doCross ndX11_doCross (j := 60) rfl
theorem iX11_doCross_109 : rx_ins mX11_doCross 109 = some (2, 110, 0, 3, 0, []) := rx_at tbX11_doCross ndX11_doCross (j := 61) rfl
theorem iX11_doCross_110 : rx_ins mX11_doCross 110 = some (2, 112, 1, 4, 0, []) := rx_at tbX11_doCross ndX11_doCross (j := 62) rfl
theorem iX11_doCross_112 : rx_ins mX11_doCross 112 = some (28, 115, 13, 168, 4, [(209, 224)]) := rx_at tbX11_doCross ndX11_doCross (j := 63) rfl
theorem iX11_doCross_115 : rx_ins mX11_doCross 115 = some (13, 118, 55, 1, 170, []) := rx_at tbX11_doCross ndX11_doCross (j := 64) rfl
theorem iX11_doCross_118 : rx_ins mX11_doCross 118 = some (2, 120, 1, 8, 0, []) := rx_at tbX11_doCross ndX11_doCross (j := 65) rfl
theorem iX11_doCross_120 : rx_ins mX11_doCross 120 = some (13, 123, 15, 1, 135, []) := rx_at tbX11_doCross ndX11_doCross (j := 66) rfl
theorem iX11_doCross_123 : rx_ins mX11_doCross 123 = some (3, 124, 0, 0, 0, []) := rx_at tbX11_doCross ndX11_doCross (j := 67) rfl
theorem iX11_doCross_124 : rx_ins mX11_doCross 124 = some (2, 126, 1, 6, 0, []) := rx_at tbX11_doCross ndX11_doCross (j := 68) rfl
theorem iX11_doCross_126 : rx_ins mX11_doCross 126 = some (2, 127, 0, 3, 0, []) := rx_at tbX11_doCross ndX11_doCross (j := 69) rfl
theorem iX11_doCross_127 : rx_ins mX11_doCross 127 = some (2, 129, 1, 4, 0, []) := rx_at tbX11_doCross ndX11_doCross (j := 70) rfl
theorem iX11_doCross_129 : rx_ins mX11_doCross 129 = some (28, 132, 13, 168, 4, [(209, 224)]) := rx_at tbX11_doCross ndX11_doCross (j := 71) rfl
theorem iX11_doCross_132 : rx_ins mX11_doCross 132 = some (13, 135, 38, 1, 170, []) := rx_at tbX11_doCross ndX11_doCross (j := 72) rfl
theorem iX11_doCross_170 : rx_ins mX11_doCross 170 = some (1, 171, 1, 0, 0, []) := rx_at tbX11_doCross ndX11_doCross (j := 89) rfl
theorem iX11_doCross_171 : rx_ins mX11_doCross 171 = some (15, 174, 4, 0, 175, []) := rx_at tbX11_doCross ndX11_doCross (j := 90) rfl
theorem iX11_doCross_175 : rx_ins mX11_doCross 175 = some (29, 176, 1, 0, 0, []) := rx_at tbX11_doCross ndX11_doCross (j := 92) rfl
theorem iX11_doCross_135 : rx_ins mX11_doCross 135 = some (2, 137, 1, 9, 0, []) := rx_at tbX11_doCross ndX11_doCross (j := 73) rfl
theorem iX11_doCross_137 : rx_ins mX11_doCross 137 = some (13, 140, 15, 1, 152, []) := rx_at tbX11_doCross ndX11_doCross (j := 74) rfl
theorem iX11_doCross_140 : rx_ins mX11_doCross 140 = some (3, 141, 0, 0, 0, []) := rx_at tbX11_doCross ndX11_doCross (j := 75) rfl
theorem iX11_doCross_141 : rx_ins mX11_doCross 141 = some (2, 142, 0, 3, 0, []) := rx_at tbX11_doCross ndX11_doCross (j := 76) rfl
theorem iX11_doCross_142 : rx_ins mX11_doCross 142 = some (2, 144, 1, 5, 0, []) := rx_at tbX11_doCross ndX11_doCross (j := 77) rfl
theorem iX11_doCross_144 : rx_ins mX11_doCross 144 = some (2, 146, 1, 6, 0, []) := rx_at tbX11_doCross ndX11_doCross (j := 78) rfl
theorem iX11_doCross_146 : rx_ins mX11_doCross 146 = some (28, 149, 13, 168, 4, [(209, 224)]) := rx_at tbX11_doCross ndX11_doCross (j := 79) rfl
theorem iX11_doCross_149 : rx_ins mX11_doCross 149 = some (13, 152, 21, 1, 170, []) := rx_at tbX11_doCross ndX11_doCross (j := 80) rfl
theorem iX11_doCross_152 : rx_ins mX11_doCross 152 = some (2, 154, 1, 10, 0, []) := rx_at tbX11_doCross ndX11_doCross (j := 81) rfl
theorem iX11_doCross_154 : rx_ins mX11_doCross 154 = some (13, 157, 20, 1, 174, []) := rx_at tbX11_doCross ndX11_doCross (j := 82) rfl
theorem iX11_doCross_174 : rx_ins mX11_doCross 174 = some (1, 175, 0, 0, 0, []) := rx_at tbX11_doCross ndX11_doCross (j := 91) rfl
theorem iX11_doCross_157 : rx_ins mX11_doCross 157 = some (3, 158, 0, 0, 0, []) := rx_at tbX11_doCross ndX11_doCross (j := 83) rfl
theorem iX11_doCross_158 : rx_ins mX11_doCross 158 = some (2, 160, 1, 4, 0, []) := rx_at tbX11_doCross ndX11_doCross (j := 84) rfl
theorem iX11_doCross_160 : rx_ins mX11_doCross 160 = some (2, 162, 1, 5, 0, []) := rx_at tbX11_doCross ndX11_doCross (j := 85) rfl
theorem iX11_doCross_162 : rx_ins mX11_doCross 162 = some (2, 164, 1, 6, 0, []) := rx_at tbX11_doCross ndX11_doCross (j := 86) rfl
theorem iX11_doCross_164 : rx_ins mX11_doCross 164 = some (28, 167, 13, 168, 4, [(209, 224)]) := rx_at tbX11_doCross ndX11_doCross (j := 87) rfl
theorem iX11_doCross_167 : rx_ins mX11_doCross 167 = some (13, 170, 7, 0, 174, []) := rx_at tbX11_doCross ndX11_doCross (j := 88) rfl
set_option maxRecDepth 20000 in
set_option maxHeartbeats 4000000 in
theorem bX11_in (L d : Nat) (x0 : Int) (x1 : Int) (x2 : Int) (σ : rx_St) (K : Int → rx_St → Prop)
    (H : if x0 < x1 then (K 0 σ) else (if x2 < x0 then (K 0 σ) else (K 1 σ))) :
    rx_CI L d mX11_in [.inl x0, .inl x1, .inl x2] σ K := by
  refine rx_CI.of (la := [some (.inl x0), some (.inl x1), some (.inl x2)]) rfl ?_
  refine g_il iX11_in_0 rfl ?_
  refine g_il iX11_in_1 rfl ?_
  by_cases c1 : x0 < x1
  · rw [if_pos c1] at H
    refine g_ic2t iX11_in_2 c1 ?_
    refine g_c iX11_in_14 ?_
    exact g_ri iX11_in_15 (by decide) H
  · rw [if_neg c1] at H
    refine g_ic2f iX11_in_2 c1 ?_
    refine g_il iX11_in_5 rfl ?_
    refine g_il iX11_in_6 rfl ?_
    by_cases c2 : x2 < x0
    · rw [if_pos c2] at H
      refine g_ic4t iX11_in_7 c2 ?_
      refine g_c iX11_in_14 ?_
      exact g_ri iX11_in_15 (by decide) H
    · rw [if_neg c2] at H
      refine g_ic4f iX11_in_7 c2 ?_
      refine g_c iX11_in_10 ?_
      refine g_goto iX11_in_11 ?_
      exact g_ri iX11_in_15 (by decide) H
set_option maxRecDepth 20000 in
set_option maxHeartbeats 4000000 in
theorem bX11_within (L d : Nat) (x0 : Int) (x1 : Int) (x2 : Int) (σ : rx_St) (K : Int → rx_St → Prop)
    (H : if x1 ≤ x0 then (if x0 ≤ x2 then (K x0 σ) else (K x2 σ)) else (K x1 σ)) :
    rx_CI L d mX11_within [.inl x0, .inl x1, .inl x2] σ K := by
  refine rx_CI.of (la := [some (.inl x0), some (.inl x1), some (.inl x2)]) rfl ?_
  refine g_il iX11_within_0 rfl ?_
  refine g_il iX11_within_1 rfl ?_
  by_cases c1 : x1 ≤ x0
  · rw [if_pos c1] at H
    refine g_ic3t iX11_within_2 c1 ?_
    refine g_il iX11_within_9 rfl ?_
    refine g_il iX11_within_10 rfl ?_
    by_cases c2 : x0 ≤ x2
    · rw [if_pos c2] at H
      refine g_ic5t iX11_within_11 c2 ?_
      refine g_il iX11_within_18 rfl ?_
      exact g_ri iX11_within_19 (Or.inl rfl) H
    · rw [if_neg c2] at H
      refine g_ic5f iX11_within_11 c2 ?_
      refine g_il iX11_within_14 rfl ?_
      refine g_goto iX11_within_15 ?_
      exact g_ri iX11_within_19 (Or.inl rfl) H
  · rw [if_neg c1] at H
    refine g_ic3f iX11_within_2 c1 ?_
    refine g_il iX11_within_5 rfl ?_
    refine g_goto iX11_within_6 ?_
    exact g_ri iX11_within_19 (Or.inl rfl) H
set_option maxRecDepth 20000 in
set_option maxHeartbeats 4000000 in
theorem bX11_copyAll (L d : Nat) (A0 : Nat) (n0 : Int) (hA0 : rx_len L 0 A0 = n0 ∧ A0 < 159) (hA0a : rx_alen L A0 = some n0) (A1 : Nat) (n1 : Int) (hA1 : rx_len L 0 A1 = n1 ∧ A1 < 159) (hA1a : rx_alen L A1 = some n1) (σ : rx_St) (K : rx_St → Prop)
    (H : rx_Go L d mX11_copyAll 2 [some (.inr A0), some (.inr A1), some (.inl 0)] [] σ (rx_PV K)) :
    rx_CV L d mX11_copyAll [.inr A0, .inr A1] σ K := by
  refine rx_CV.of (la := [some (.inr A0), some (.inr A1), none]) rfl ?_
  refine g_c iX11_copyAll_0 ?_
  refine g_is iX11_copyAll_1 (Nat.le_of_ble_eq_true rfl) ?_
  refine rx_Go.ls (la := [some (.inr A0), some (.inr A1), some (.inl 0)]) rfl ?_
  exact H
set_option maxRecDepth 20000 in
set_option maxHeartbeats 4000000 in
theorem bX11_copyAll_2 (L d : Nat) (A0 : Nat) (n0 : Int) (hA0 : rx_len L 0 A0 = n0 ∧ A0 < 159) (A1 : Nat) (n1 : Int) (hA1 : rx_len L 0 A1 = n1 ∧ A1 < 159) (x2 : Int) (σ : rx_St) (K : rx_St → Prop)
    (H : if 1498 ≤ x2 then (K σ) else ((0 ≤ x2 ∧ x2 < n0) ∧ ((0 ≤ x2 ∧ x2 < n1) ∧ (rx_Go L d mX11_copyAll 2 [some (.inr A0), some (.inr A1), some (.inl (rx_w (x2 + 1)))] [] (rx_up σ A1 x2 (σ A0 x2)) (rx_PV K))))) :
    rx_Go L d mX11_copyAll 2 [some (.inr A0), some (.inr A1), some (.inl x2)] [] σ (rx_PV K) := by
  refine g_il iX11_copyAll_2 rfl ?_
  refine g_c iX11_copyAll_3 ?_
  by_cases c1 : 1498 ≤ x2
  · rw [if_pos c1] at H
    refine g_ic3t iX11_copyAll_6 c1 ?_
    exact g_rv iX11_copyAll_21 H
  · rw [if_neg c1] at H
    refine g_ic3f iX11_copyAll_6 c1 ?_
    refine g_al iX11_copyAll_9 rfl ?_
    refine g_il iX11_copyAll_10 rfl ?_
    refine g_al iX11_copyAll_11 rfl ?_
    refine g_il iX11_copyAll_12 rfl ?_
    obtain ⟨o2, H⟩ := H
    refine g_ld iX11_copyAll_13 hA0.1 o2 ?_
    obtain ⟨o3, H⟩ := H
    refine g_st iX11_copyAll_14 hA1.1 hA1.2 o3 rfl ?_
    refine g_ii iX11_copyAll_15 rfl ?_
    refine rx_Go.ls (la := [some (.inr A0), some (.inr A1), some (.inl (rx_w (x2 + 1)))]) rfl ?_
    refine g_goto iX11_copyAll_18 ?_
    exact H
set_option maxRecDepth 20000 in
set_option maxHeartbeats 4000000 in
theorem bX11_isPost (L d : Nat) (x1 : Int) (σ : rx_St) (K : Int → rx_St → Prop)
    (H : rx_CI L d mX11_in [.inl x1, .inl 0, .inl (rx_w ((σ 126 1) - 1))] σ (fun v2 σ1 => (v2 = 0 ∨ v2 = 1) ∧ K v2 σ1)) :
    rx_CI L (d + 1) mX11_isPost [.inr 125, .inl x1] σ K := by
  refine rx_CI.of (la := [some (.inr 125), some (.inl x1)]) rfl ?_
  refine g_il iX11_isPost_0 rfl ?_
  refine g_c iX11_isPost_1 ?_
  refine g_al iX11_isPost_2 rfl ?_
  refine g_gr iX11_isPost_3 fr_11_0_125 ?_
  refine g_c iX11_isPost_6 ?_
  refine g_ld iX11_isPost_7 (ln_126 L) (by decide) ?_
  refine g_c iX11_isPost_8 ?_
  refine g_sub iX11_isPost_9 ?_
  refine g_ci (as := [.inl x1, .inl 0, .inl (rx_w ((σ 126 1) - 1))]) (rest := []) iX11_isPost_10 rfl rfl (Nat.le_of_ble_eq_true rfl) (Or.inl (by decide)) (rx_CI.imp H (fun v2 σ1 H => ?_))
  exact g_ri iX11_isPost_13 (Or.inr H.1) H.2
set_option maxRecDepth 20000 in
set_option maxHeartbeats 4000000 in
theorem bX11_isRoad (L d : Nat) (x1 : Int) (σ : rx_St) (K : Int → rx_St → Prop)
    (H : rx_CI L d mX11_in [.inl x1, .inl 0, .inl (rx_w ((σ 126 2) - 1))] σ (fun v2 σ1 => (v2 = 0 ∨ v2 = 1) ∧ K v2 σ1)) :
    rx_CI L (d + 1) mX11_isRoad [.inr 125, .inl x1] σ K := by
  refine rx_CI.of (la := [some (.inr 125), some (.inl x1)]) rfl ?_
  refine g_il iX11_isRoad_0 rfl ?_
  refine g_c iX11_isRoad_1 ?_
  refine g_al iX11_isRoad_2 rfl ?_
  refine g_gr iX11_isRoad_3 fr_11_0_125 ?_
  refine g_c iX11_isRoad_6 ?_
  refine g_ld iX11_isRoad_7 (ln_126 L) (by decide) ?_
  refine g_c iX11_isRoad_8 ?_
  refine g_sub iX11_isRoad_9 ?_
  refine g_ci (as := [.inl x1, .inl 0, .inl (rx_w ((σ 126 2) - 1))]) (rest := []) iX11_isRoad_10 rfl rfl (Nat.le_of_ble_eq_true rfl) (Or.inl (by decide)) (rx_CI.imp H (fun v2 σ1 H => ?_))
  exact g_ri iX11_isRoad_13 (Or.inr H.1) H.2
set_option maxRecDepth 20000 in
set_option maxHeartbeats 4000000 in
theorem bX11_xOf (L d : Nat) (x1 : Int) (σ : rx_St) (K : Int → rx_St → Prop)
    (H : (0 ≤ (rx_w (4 + (rx_w (3 * x1)))) ∧ (rx_w (4 + (rx_w (3 * x1)))) < 1498) ∧ (K (σ 126 (rx_w (4 + (rx_w (3 * x1))))) σ)) :
    rx_CI L d mX11_xOf [.inr 125, .inl x1] σ K := by
  refine rx_CI.of (la := [some (.inr 125), some (.inl x1)]) rfl ?_
  refine g_al iX11_xOf_0 rfl ?_
  refine g_gr iX11_xOf_1 fr_11_0_125 ?_
  refine g_c iX11_xOf_4 ?_
  refine g_c iX11_xOf_5 ?_
  refine g_il iX11_xOf_6 rfl ?_
  refine g_mul iX11_xOf_7 ?_
  refine g_add iX11_xOf_8 ?_
  obtain ⟨o1, H⟩ := H
  refine g_ld iX11_xOf_9 (ln_126 L) o1 ?_
  exact g_ri iX11_xOf_10 (Or.inl rfl) H
set_option maxRecDepth 20000 in
set_option maxHeartbeats 4000000 in
theorem bX11_yOf (L d : Nat) (x1 : Int) (σ : rx_St) (K : Int → rx_St → Prop)
    (H : (0 ≤ (rx_w ((rx_w (4 + (rx_w (3 * x1)))) + 1)) ∧ (rx_w ((rx_w (4 + (rx_w (3 * x1)))) + 1)) < 1498) ∧ (K (σ 126 (rx_w ((rx_w (4 + (rx_w (3 * x1)))) + 1))) σ)) :
    rx_CI L d mX11_yOf [.inr 125, .inl x1] σ K := by
  refine rx_CI.of (la := [some (.inr 125), some (.inl x1)]) rfl ?_
  refine g_al iX11_yOf_0 rfl ?_
  refine g_gr iX11_yOf_1 fr_11_0_125 ?_
  refine g_c iX11_yOf_4 ?_
  refine g_c iX11_yOf_5 ?_
  refine g_il iX11_yOf_6 rfl ?_
  refine g_mul iX11_yOf_7 ?_
  refine g_add iX11_yOf_8 ?_
  refine g_c iX11_yOf_9 ?_
  refine g_add iX11_yOf_10 ?_
  obtain ⟨o1, H⟩ := H
  refine g_ld iX11_yOf_11 (ln_126 L) o1 ?_
  exact g_ri iX11_yOf_12 (Or.inl rfl) H
set_option maxRecDepth 20000 in
set_option maxHeartbeats 4000000 in
theorem bX11_layerOf (L d : Nat) (x1 : Int) (σ : rx_St) (K : Int → rx_St → Prop)
    (H : (0 ≤ (rx_w ((rx_w (4 + (rx_w (3 * x1)))) + 2)) ∧ (rx_w ((rx_w (4 + (rx_w (3 * x1)))) + 2)) < 1498) ∧ (K (σ 126 (rx_w ((rx_w (4 + (rx_w (3 * x1)))) + 2))) σ)) :
    rx_CI L d mX11_layerOf [.inr 125, .inl x1] σ K := by
  refine rx_CI.of (la := [some (.inr 125), some (.inl x1)]) rfl ?_
  refine g_al iX11_layerOf_0 rfl ?_
  refine g_gr iX11_layerOf_1 fr_11_0_125 ?_
  refine g_c iX11_layerOf_4 ?_
  refine g_c iX11_layerOf_5 ?_
  refine g_il iX11_layerOf_6 rfl ?_
  refine g_mul iX11_layerOf_7 ?_
  refine g_add iX11_layerOf_8 ?_
  refine g_c iX11_layerOf_9 ?_
  refine g_add iX11_layerOf_10 ?_
  obtain ⟨o1, H⟩ := H
  refine g_ld iX11_layerOf_11 (ln_126 L) o1 ?_
  exact g_ri iX11_layerOf_12 (Or.inl rfl) H
set_option maxRecDepth 20000 in
set_option maxHeartbeats 4000000 in
theorem bX11_of (L d : Nat) (x1 : Int) (x2 : Int) (σ : rx_St) (K : Int → rx_St → Prop)
    (H : (0 ≤ (rx_w ((rx_w (36 + (rx_w (5 * x1)))) + x2)) ∧ (rx_w ((rx_w (36 + (rx_w (5 * x1)))) + x2)) < 1498) ∧ (K (σ 126 (rx_w ((rx_w (36 + (rx_w (5 * x1)))) + x2))) σ)) :
    rx_CI L d mX11_of [.inr 125, .inl x1, .inl x2] σ K := by
  refine rx_CI.of (la := [some (.inr 125), some (.inl x1), some (.inl x2)]) rfl ?_
  refine g_al iX11_of_0 rfl ?_
  refine g_gr iX11_of_1 fr_11_0_125 ?_
  refine g_c iX11_of_4 ?_
  refine g_c iX11_of_6 ?_
  refine g_il iX11_of_7 rfl ?_
  refine g_mul iX11_of_8 ?_
  refine g_add iX11_of_9 ?_
  refine g_il iX11_of_10 rfl ?_
  refine g_add iX11_of_11 ?_
  obtain ⟨o1, H⟩ := H
  refine g_ld iX11_of_12 (ln_126 L) o1 ?_
  exact g_ri iX11_of_13 (Or.inl rfl) H
set_option maxRecDepth 20000 in
set_option maxHeartbeats 4000000 in
theorem bX11_lesser (L d : Nat) (x1 : Int) (σ : rx_St) (K : Int → rx_St → Prop)
    (H : rx_CI L d mX11_of [.inr 125, .inl x1, .inl 1] σ (fun v2 σ1 => K v2 σ1)) :
    rx_CI L (d + 1) mX11_lesser [.inr 125, .inl x1] σ K := by
  refine rx_CI.of (la := [some (.inr 125), some (.inl x1)]) rfl ?_
  refine g_al iX11_lesser_0 rfl ?_
  refine g_il iX11_lesser_1 rfl ?_
  refine g_c iX11_lesser_2 ?_
  refine g_ci (as := [.inr 125, .inl x1, .inl 1]) (rest := []) iX11_lesser_3 rfl rfl (Nat.le_of_ble_eq_true rfl) (Or.inr ⟨_, _, rfl, oo_11_125⟩) (rx_CI.imp H (fun v2 σ1 H => ?_))
  exact g_ri iX11_lesser_6 (Or.inl rfl) H
set_option maxRecDepth 20000 in
set_option maxHeartbeats 4000000 in
theorem bX11_greater (L d : Nat) (x1 : Int) (σ : rx_St) (K : Int → rx_St → Prop)
    (H : rx_CI L d mX11_of [.inr 125, .inl x1, .inl 2] σ (fun v2 σ1 => K v2 σ1)) :
    rx_CI L (d + 1) mX11_greater [.inr 125, .inl x1] σ K := by
  refine rx_CI.of (la := [some (.inr 125), some (.inl x1)]) rfl ?_
  refine g_al iX11_greater_0 rfl ?_
  refine g_il iX11_greater_1 rfl ?_
  refine g_c iX11_greater_2 ?_
  refine g_ci (as := [.inr 125, .inl x1, .inl 2]) (rest := []) iX11_greater_3 rfl rfl (Nat.le_of_ble_eq_true rfl) (Or.inr ⟨_, _, rfl, oo_11_125⟩) (rx_CI.imp H (fun v2 σ1 H => ?_))
  exact g_ri iX11_greater_6 (Or.inl rfl) H
set_option maxRecDepth 20000 in
set_option maxHeartbeats 4000000 in
theorem bX11_postAt (L d : Nat) (x1 : Int) (x2 : Int) (σ : rx_St) (K : Int → rx_St → Prop)
    (H : rx_Go L (d + 1) mX11_postAt 2 [some (.inr 125), some (.inl x1), some (.inl x2), some (.inl 0)] [] σ (rx_PI K)) :
    rx_CI L (d + 1) mX11_postAt [.inr 125, .inl x1, .inl x2] σ K := by
  refine rx_CI.of (la := [some (.inr 125), some (.inl x1), some (.inl x2), none]) rfl ?_
  refine g_c iX11_postAt_0 ?_
  refine g_is iX11_postAt_1 (Nat.le_of_ble_eq_true rfl) ?_
  refine rx_Go.ls (la := [some (.inr 125), some (.inl x1), some (.inl x2), some (.inl 0)]) rfl ?_
  exact H
set_option maxRecDepth 20000 in
set_option maxHeartbeats 4000000 in
theorem bX11_postAt_2 (L d : Nat) (x1 : Int) (x2 : Int) (x3 : Int) (σ : rx_St) (K : Int → rx_St → Prop)
    (H : if (σ 126 1) ≤ x3 then (K (-1) σ) else (rx_CI L d mX11_xOf [.inr 125, .inl x3] σ (fun v3 σ2 => if v3 ≠ x1 then (rx_Go L (d + 1) mX11_postAt 2 [some (.inr 125), some (.inl x1), some (.inl x2), some (.inl (rx_w (x3 + 1)))] [] σ2 (rx_PI K)) else (rx_CI L d mX11_yOf [.inr 125, .inl x3] σ2 (fun v6 σ5 => if v6 ≠ x2 then (rx_Go L (d + 1) mX11_postAt 2 [some (.inr 125), some (.inl x1), some (.inl x2), some (.inl (rx_w (x3 + 1)))] [] σ5 (rx_PI K)) else (K x3 σ5)))))) :
    rx_Go L (d + 1) mX11_postAt 2 [some (.inr 125), some (.inl x1), some (.inl x2), some (.inl x3)] [] σ (rx_PI K) := by
  refine g_il iX11_postAt_2 rfl ?_
  refine g_al iX11_postAt_3 rfl ?_
  refine g_gr iX11_postAt_4 fr_11_0_125 ?_
  refine g_c iX11_postAt_7 ?_
  refine g_ld iX11_postAt_8 (ln_126 L) (by decide) ?_
  by_cases c1 : (σ 126 1) ≤ x3
  · rw [if_pos c1] at H
    refine g_ic3t iX11_postAt_9 c1 ?_
    refine g_c iX11_postAt_38 ?_
    exact g_ri iX11_postAt_39 (Or.inl rfl) H
  · rw [if_neg c1] at H
    refine g_ic3f iX11_postAt_9 c1 ?_
    refine g_al iX11_postAt_12 rfl ?_
    refine g_il iX11_postAt_13 rfl ?_
    refine g_ci (as := [.inr 125, .inl x3]) (rest := []) iX11_postAt_14 rfl rfl (Nat.le_of_ble_eq_true rfl) (Or.inr ⟨_, _, rfl, oo_11_125⟩) (rx_CI.imp H (fun v3 σ2 H => ?_))
    refine g_il iX11_postAt_17 rfl ?_
    by_cases c4 : v3 ≠ x1
    · rw [if_pos c4] at H
      refine g_ic1t iX11_postAt_18 c4 ?_
      refine g_ii iX11_postAt_32 rfl ?_
      refine rx_Go.ls (la := [some (.inr 125), some (.inl x1), some (.inl x2), some (.inl (rx_w (x3 + 1)))]) rfl ?_
      refine g_goto iX11_postAt_35 ?_
      exact H
    · rw [if_neg c4] at H
      refine g_ic1f iX11_postAt_18 c4 ?_
      refine g_al iX11_postAt_21 rfl ?_
      refine g_il iX11_postAt_22 rfl ?_
      refine g_ci (as := [.inr 125, .inl x3]) (rest := []) iX11_postAt_23 rfl rfl (Nat.le_of_ble_eq_true rfl) (Or.inr ⟨_, _, rfl, oo_11_125⟩) (rx_CI.imp H (fun v6 σ5 H => ?_))
      refine g_il iX11_postAt_26 rfl ?_
      by_cases c7 : v6 ≠ x2
      · rw [if_pos c7] at H
        refine g_ic1t iX11_postAt_27 c7 ?_
        refine g_ii iX11_postAt_32 rfl ?_
        refine rx_Go.ls (la := [some (.inr 125), some (.inl x1), some (.inl x2), some (.inl (rx_w (x3 + 1)))]) rfl ?_
        refine g_goto iX11_postAt_35 ?_
        exact H
      · rw [if_neg c7] at H
        refine g_ic1f iX11_postAt_27 c7 ?_
        refine g_il iX11_postAt_30 rfl ?_
        exact g_ri iX11_postAt_31 (Or.inl rfl) H
set_option maxRecDepth 20000 in
set_option maxHeartbeats 4000000 in
theorem bX11_isPlace (L d : Nat) (x0 : Int) (x1 : Int) (σ : rx_St) (K : Int → rx_St → Prop)
    (H : rx_CI L d mX11_in [.inl x0, .inl 0, .inl 99] σ (fun v2 σ1 => if v2 = 0 then (K 0 σ1) else (rx_CI L d mX11_in [.inl x1, .inl 0, .inl 99] σ1 (fun v5 σ4 => if v5 = 0 then (K 0 σ4) else (K 1 σ4))))) :
    rx_CI L (d + 1) mX11_isPlace [.inl x0, .inl x1] σ K := by
  refine rx_CI.of (la := [some (.inl x0), some (.inl x1)]) rfl ?_
  refine g_il iX11_isPlace_0 rfl ?_
  refine g_c iX11_isPlace_1 ?_
  refine g_c iX11_isPlace_2 ?_
  refine g_ci (as := [.inl x0, .inl 0, .inl 99]) (rest := []) iX11_isPlace_4 rfl rfl (Nat.le_of_ble_eq_true rfl) (Or.inl (by decide)) (rx_CI.imp H (fun v2 σ1 H => ?_))
  by_cases c3 : v2 = 0
  · rw [if_pos c3] at H
    refine g_if0t iX11_isPlace_7 c3 ?_
    refine g_c iX11_isPlace_24 ?_
    exact g_ri iX11_isPlace_25 (by decide) H
  · rw [if_neg c3] at H
    refine g_if0f iX11_isPlace_7 c3 ?_
    refine g_il iX11_isPlace_10 rfl ?_
    refine g_c iX11_isPlace_11 ?_
    refine g_c iX11_isPlace_12 ?_
    refine g_ci (as := [.inl x1, .inl 0, .inl 99]) (rest := []) iX11_isPlace_14 rfl rfl (Nat.le_of_ble_eq_true rfl) (Or.inl (by decide)) (rx_CI.imp H (fun v5 σ4 H => ?_))
    by_cases c6 : v5 = 0
    · rw [if_pos c6] at H
      refine g_if0t iX11_isPlace_17 c6 ?_
      refine g_c iX11_isPlace_24 ?_
      exact g_ri iX11_isPlace_25 (by decide) H
    · rw [if_neg c6] at H
      refine g_if0f iX11_isPlace_17 c6 ?_
      refine g_c iX11_isPlace_20 ?_
      refine g_goto iX11_isPlace_21 ?_
      exact g_ri iX11_isPlace_25 (by decide) H
set_option maxRecDepth 20000 in
set_option maxHeartbeats 4000000 in
theorem bX11_comes (L d : Nat) (x1 : Int) (x2 : Int) (σ : rx_St) (K : Int → rx_St → Prop)
    (H : (0 ≤ (rx_w (4 + (rx_w (3 * (σ 126 1))))) ∧ (rx_w (4 + (rx_w (3 * (σ 126 1))))) < 1498) ∧ ((0 ≤ (rx_w ((rx_w (4 + (rx_w (3 * (σ 126 1))))) + 1)) ∧ (rx_w ((rx_w (4 + (rx_w (3 * (σ 126 1))))) + 1)) < 1498) ∧ ((0 ≤ (rx_w ((rx_w (4 + (rx_w (3 * (σ 126 1))))) + 2)) ∧ (rx_w ((rx_w (4 + (rx_w (3 * (σ 126 1))))) + 2)) < 1498) ∧ ((0 ≤ (rx_w (28 + (σ 126 1))) ∧ (rx_w (28 + (σ 126 1))) < 1498) ∧ (K (σ 126 1) (rx_up (rx_up (rx_up (rx_up (rx_up σ 126 (rx_w (4 + (rx_w (3 * (σ 126 1))))) x1) 126 (rx_w ((rx_w (4 + (rx_w (3 * (σ 126 1))))) + 1)) x2) 126 (rx_w ((rx_w (4 + (rx_w (3 * (σ 126 1))))) + 2)) 0) 126 (rx_w (28 + (σ 126 1))) (σ 126 1)) 126 1 (rx_w (((rx_up (rx_up (rx_up (rx_up σ 126 (rx_w (4 + (rx_w (3 * (σ 126 1))))) x1) 126 (rx_w ((rx_w (4 + (rx_w (3 * (σ 126 1))))) + 1)) x2) 126 (rx_w ((rx_w (4 + (rx_w (3 * (σ 126 1))))) + 2)) 0) 126 (rx_w (28 + (σ 126 1))) (σ 126 1)) 126 1) + 1)))))))) :
    rx_CI L d mX11_comes [.inr 125, .inl x1, .inl x2] σ K := by
  refine rx_CI.of (la := [some (.inr 125), some (.inl x1), some (.inl x2), none]) rfl ?_
  refine g_al iX11_comes_0 rfl ?_
  refine g_gr iX11_comes_1 fr_11_0_125 ?_
  refine g_c iX11_comes_4 ?_
  refine g_ld iX11_comes_5 (ln_126 L) (by decide) ?_
  refine g_is iX11_comes_6 (Nat.le_of_ble_eq_true rfl) ?_
  refine rx_Go.ls (la := [some (.inr 125), some (.inl x1), some (.inl x2), some (.inl (σ 126 1))]) rfl ?_
  refine g_al iX11_comes_7 rfl ?_
  refine g_gr iX11_comes_8 fr_11_0_125 ?_
  refine g_c iX11_comes_11 ?_
  refine g_c iX11_comes_12 ?_
  refine g_il iX11_comes_13 rfl ?_
  refine g_mul iX11_comes_14 ?_
  refine g_add iX11_comes_15 ?_
  refine g_il iX11_comes_16 rfl ?_
  obtain ⟨o1, H⟩ := H
  refine g_st iX11_comes_17 (ln_126 L) (by decide) o1 rfl ?_
  refine g_al iX11_comes_18 rfl ?_
  refine g_gr iX11_comes_19 fr_11_0_125 ?_
  refine g_c iX11_comes_22 ?_
  refine g_c iX11_comes_23 ?_
  refine g_il iX11_comes_24 rfl ?_
  refine g_mul iX11_comes_25 ?_
  refine g_add iX11_comes_26 ?_
  refine g_c iX11_comes_27 ?_
  refine g_add iX11_comes_28 ?_
  refine g_il iX11_comes_29 rfl ?_
  obtain ⟨o2, H⟩ := H
  refine g_st iX11_comes_30 (ln_126 L) (by decide) o2 rfl ?_
  refine g_al iX11_comes_31 rfl ?_
  refine g_gr iX11_comes_32 fr_11_0_125 ?_
  refine g_c iX11_comes_35 ?_
  refine g_c iX11_comes_36 ?_
  refine g_il iX11_comes_37 rfl ?_
  refine g_mul iX11_comes_38 ?_
  refine g_add iX11_comes_39 ?_
  refine g_c iX11_comes_40 ?_
  refine g_add iX11_comes_41 ?_
  refine g_c iX11_comes_42 ?_
  obtain ⟨o3, H⟩ := H
  refine g_st iX11_comes_43 (ln_126 L) (by decide) o3 rfl ?_
  refine g_al iX11_comes_44 rfl ?_
  refine g_gr iX11_comes_45 fr_11_0_125 ?_
  refine g_c iX11_comes_48 ?_
  refine g_il iX11_comes_50 rfl ?_
  refine g_add iX11_comes_51 ?_
  refine g_il iX11_comes_52 rfl ?_
  obtain ⟨o4, H⟩ := H
  refine g_st iX11_comes_53 (ln_126 L) (by decide) o4 rfl ?_
  refine g_al iX11_comes_54 rfl ?_
  refine g_gr iX11_comes_55 fr_11_0_125 ?_
  refine g_c iX11_comes_58 ?_
  refine g_dup2 iX11_comes_59 ?_
  refine g_ld iX11_comes_60 (ln_126 L) (by decide) ?_
  refine g_c iX11_comes_61 ?_
  refine g_add iX11_comes_62 ?_
  refine g_st iX11_comes_63 (ln_126 L) (by decide) (by decide) rfl ?_
  refine g_il iX11_comes_64 rfl ?_
  exact g_ri iX11_comes_65 (Or.inl rfl) H
set_option maxRecDepth 20000 in
set_option maxHeartbeats 4000000 in
theorem bX11_post (L d : Nat) (x1 : Int) (x2 : Int) (σ : rx_St) (K : Int → rx_St → Prop)
    (H : rx_CI L d mX11_isPlace [.inl x1, .inl x2] σ (fun v2 σ1 => if v2 ≠ 0 then (rx_CI L d mX11_postAt [.inr 125, .inl x1, .inl x2] σ1 (fun v5 σ4 => if v5 < 0 then (if (σ4 126 1) ≠ 8 then (rx_CI L d mX11_comes [.inr 125, .inl x1, .inl x2] σ4 (fun v9 σ8 => K v9 σ8)) else (K (-1000000003) σ4)) else (K (-1000000002) σ4))) else (K (-1000000001) σ1))) :
    rx_CI L (d + 1) mX11_post [.inr 125, .inl x1, .inl x2] σ K := by
  refine rx_CI.of (la := [some (.inr 125), some (.inl x1), some (.inl x2)]) rfl ?_
  refine g_il iX11_post_0 rfl ?_
  refine g_il iX11_post_1 rfl ?_
  refine g_ci (as := [.inl x1, .inl x2]) (rest := []) iX11_post_2 rfl rfl (Nat.le_of_ble_eq_true rfl) (Or.inl (by decide)) (rx_CI.imp H (fun v2 σ1 H => ?_))
  by_cases c3 : v2 ≠ 0
  · rw [if_pos c3] at H
    refine g_if1t iX11_post_5 c3 ?_
    refine g_al iX11_post_11 rfl ?_
    refine g_il iX11_post_12 rfl ?_
    refine g_il iX11_post_13 rfl ?_
    refine g_ci (as := [.inr 125, .inl x1, .inl x2]) (rest := []) iX11_post_14 rfl rfl (Nat.le_of_ble_eq_true rfl) (Or.inr ⟨_, _, rfl, oo_11_125⟩) (rx_CI.imp H (fun v5 σ4 H => ?_))
    by_cases c6 : v5 < 0
    · rw [if_pos c6] at H
      refine g_if2t iX11_post_17 c6 ?_
      refine g_al iX11_post_23 rfl ?_
      refine g_gr iX11_post_24 fr_11_0_125 ?_
      refine g_c iX11_post_27 ?_
      refine g_ld iX11_post_28 (ln_126 L) (by decide) ?_
      refine g_c iX11_post_29 ?_
      by_cases c7 : (σ4 126 1) ≠ 8
      · rw [if_pos c7] at H
        refine g_ic1t iX11_post_31 c7 ?_
        refine g_al iX11_post_39 rfl ?_
        refine g_il iX11_post_40 rfl ?_
        refine g_il iX11_post_41 rfl ?_
        refine g_ci (as := [.inr 125, .inl x1, .inl x2]) (rest := []) iX11_post_42 rfl rfl (Nat.le_of_ble_eq_true rfl) (Or.inr ⟨_, _, rfl, oo_11_125⟩) (rx_CI.imp H (fun v9 σ8 H => ?_))
        exact g_ri iX11_post_45 (Or.inl rfl) H
      · rw [if_neg c7] at H
        refine g_ic1f iX11_post_31 c7 ?_
        refine g_c iX11_post_34 ?_
        refine g_goto iX11_post_36 ?_
        exact g_ri iX11_post_45 (Or.inl rfl) H
    · rw [if_neg c6] at H
      refine g_if2f iX11_post_17 c6 ?_
      refine g_c iX11_post_20 ?_
      exact g_ri iX11_post_22 (Or.inl rfl) H
  · rw [if_neg c3] at H
    refine g_if1f iX11_post_5 c3 ?_
    refine g_c iX11_post_8 ?_
    exact g_ri iX11_post_10 (Or.inl rfl) H
set_option maxRecDepth 20000 in
set_option maxHeartbeats 4000000 in
theorem bX11_placeOf (L d : Nat) (x1 : Int) (σ : rx_St) (K : Int → rx_St → Prop)
    (H : rx_Go L d mX11_placeOf 2 [some (.inr 125), some (.inl x1), some (.inl 0)] [] σ (rx_PI K)) :
    rx_CI L d mX11_placeOf [.inr 125, .inl x1] σ K := by
  refine rx_CI.of (la := [some (.inr 125), some (.inl x1), none]) rfl ?_
  refine g_c iX11_placeOf_0 ?_
  refine g_is iX11_placeOf_1 (Nat.le_of_ble_eq_true rfl) ?_
  refine rx_Go.ls (la := [some (.inr 125), some (.inl x1), some (.inl 0)]) rfl ?_
  exact H
set_option maxRecDepth 20000 in
set_option maxHeartbeats 4000000 in
theorem bX11_placeOf_2 (L d : Nat) (x1 : Int) (x2 : Int) (σ : rx_St) (K : Int → rx_St → Prop)
    (H : (0 ≤ (rx_w (28 + x2)) ∧ (rx_w (28 + x2)) < 1498) ∧ (if (σ 126 (rx_w (28 + x2))) = x1 then (K x2 σ) else (rx_Go L d mX11_placeOf 2 [some (.inr 125), some (.inl x1), some (.inl (rx_w (x2 + 1)))] [] σ (rx_PI K)))) :
    rx_Go L d mX11_placeOf 2 [some (.inr 125), some (.inl x1), some (.inl x2)] [] σ (rx_PI K) := by
  refine g_al iX11_placeOf_2 rfl ?_
  refine g_gr iX11_placeOf_3 fr_11_0_125 ?_
  refine g_c iX11_placeOf_6 ?_
  refine g_il iX11_placeOf_8 rfl ?_
  refine g_add iX11_placeOf_9 ?_
  obtain ⟨o1, H⟩ := H
  refine g_ld iX11_placeOf_10 (ln_126 L) o1 ?_
  refine g_il iX11_placeOf_11 rfl ?_
  by_cases c2 : (σ 126 (rx_w (28 + x2))) = x1
  · rw [if_pos c2] at H
    refine g_ic0t iX11_placeOf_12 c2 ?_
    refine g_il iX11_placeOf_21 rfl ?_
    exact g_ri iX11_placeOf_22 (Or.inl rfl) H
  · rw [if_neg c2] at H
    refine g_ic0f iX11_placeOf_12 c2 ?_
    refine g_ii iX11_placeOf_15 rfl ?_
    refine rx_Go.ls (la := [some (.inr 125), some (.inl x1), some (.inl (rx_w (x2 + 1)))]) rfl ?_
    refine g_goto iX11_placeOf_18 ?_
    exact H
set_option maxRecDepth 20000 in
set_option maxHeartbeats 4000000 in
theorem bX11_isFrom (L d : Nat) (x1 : Int) (x2 : Int) (σ : rx_St) (K : Int → rx_St → Prop)
    (H : rx_CI L d mX11_lesser [.inr 125, .inl x1] σ (fun v2 σ1 => if v2 = x2 then (K 1 σ1) else (rx_CI L d mX11_greater [.inr 125, .inl x1] σ1 (fun v5 σ4 => if v5 ≠ x2 then (K 0 σ4) else (K 1 σ4))))) :
    rx_CI L (d + 1) mX11_isFrom [.inr 125, .inl x1, .inl x2] σ K := by
  refine rx_CI.of (la := [some (.inr 125), some (.inl x1), some (.inl x2)]) rfl ?_
  refine g_al iX11_isFrom_0 rfl ?_
  refine g_il iX11_isFrom_1 rfl ?_
  refine g_ci (as := [.inr 125, .inl x1]) (rest := []) iX11_isFrom_2 rfl rfl (Nat.le_of_ble_eq_true rfl) (Or.inr ⟨_, _, rfl, oo_11_125⟩) (rx_CI.imp H (fun v2 σ1 H => ?_))
  refine g_il iX11_isFrom_5 rfl ?_
  by_cases c3 : v2 = x2
  · rw [if_pos c3] at H
    refine g_ic0t iX11_isFrom_6 c3 ?_
    refine g_c iX11_isFrom_18 ?_
    refine g_goto iX11_isFrom_19 ?_
    exact g_ri iX11_isFrom_23 (by decide) H
  · rw [if_neg c3] at H
    refine g_ic0f iX11_isFrom_6 c3 ?_
    refine g_al iX11_isFrom_9 rfl ?_
    refine g_il iX11_isFrom_10 rfl ?_
    refine g_ci (as := [.inr 125, .inl x1]) (rest := []) iX11_isFrom_11 rfl rfl (Nat.le_of_ble_eq_true rfl) (Or.inr ⟨_, _, rfl, oo_11_125⟩) (rx_CI.imp H (fun v5 σ4 H => ?_))
    refine g_il iX11_isFrom_14 rfl ?_
    by_cases c6 : v5 ≠ x2
    · rw [if_pos c6] at H
      refine g_ic1t iX11_isFrom_15 c6 ?_
      refine g_c iX11_isFrom_22 ?_
      exact g_ri iX11_isFrom_23 (by decide) H
    · rw [if_neg c6] at H
      refine g_ic1f iX11_isFrom_15 c6 ?_
      refine g_c iX11_isFrom_18 ?_
      refine g_goto iX11_isFrom_19 ?_
      exact g_ri iX11_isFrom_23 (by decide) H
set_option maxRecDepth 20000 in
set_option maxHeartbeats 4000000 in
theorem bX11_postTold (L d : Nat) (x1 : Int) (x2 : Int) (σ : rx_St) (K : Int → rx_St → Prop)
    (H : rx_CI L d mX11_isPost [.inr 125, .inl x1] σ (fun v2 σ1 => if v2 = 0 then (K (-1000000001) σ1) else (rx_CI L d mX11_in [.inl x2, .inl 0, .inl 4] σ1 (fun v5 σ4 => if v5 ≠ 0 then (if 3 ≤ x2 then (if x2 ≠ 3 then (rx_Go L (d + 1) mX11_postTold 54 [some (.inr 125), some (.inl x1), some (.inl x2), some (.inl 0), some (.inl 0)] [] σ4 (rx_PI K)) else (rx_CI L d mX11_placeOf [.inr 125, .inl x1] σ4 (fun v10 σ9 => K v10 σ9))) else ((0 ≤ (rx_w ((rx_w (4 + (rx_w (3 * x1)))) + x2)) ∧ (rx_w ((rx_w (4 + (rx_w (3 * x1)))) + x2)) < 1498) ∧ (K (σ4 126 (rx_w ((rx_w (4 + (rx_w (3 * x1)))) + x2))) σ4))) else (K (-1000000001) σ4))))) :
    rx_CI L (d + 1) mX11_postTold [.inr 125, .inl x1, .inl x2] σ K := by
  refine rx_CI.of (la := [some (.inr 125), some (.inl x1), some (.inl x2), none, none]) rfl ?_
  refine g_al iX11_postTold_0 rfl ?_
  refine g_il iX11_postTold_1 rfl ?_
  refine g_ci (as := [.inr 125, .inl x1]) (rest := []) iX11_postTold_2 rfl rfl (Nat.le_of_ble_eq_true rfl) (Or.inr ⟨_, _, rfl, oo_11_125⟩) (rx_CI.imp H (fun v2 σ1 H => ?_))
  by_cases c3 : v2 = 0
  · rw [if_pos c3] at H
    refine g_if0t iX11_postTold_5 c3 ?_
    refine g_c iX11_postTold_17 ?_
    exact g_ri iX11_postTold_19 (Or.inl rfl) H
  · rw [if_neg c3] at H
    refine g_if0f iX11_postTold_5 c3 ?_
    refine g_il iX11_postTold_8 rfl ?_
    refine g_c iX11_postTold_9 ?_
    refine g_c iX11_postTold_10 ?_
    refine g_ci (as := [.inl x2, .inl 0, .inl 4]) (rest := []) iX11_postTold_11 rfl rfl (Nat.le_of_ble_eq_true rfl) (Or.inl (by decide)) (rx_CI.imp H (fun v5 σ4 H => ?_))
    by_cases c6 : v5 ≠ 0
    · rw [if_pos c6] at H
      refine g_if1t iX11_postTold_14 c6 ?_
      refine g_il iX11_postTold_20 rfl ?_
      refine g_c iX11_postTold_21 ?_
      by_cases c7 : 3 ≤ x2
      · rw [if_pos c7] at H
        refine g_ic3t iX11_postTold_22 c7 ?_
        refine g_il iX11_postTold_38 rfl ?_
        refine g_c iX11_postTold_39 ?_
        by_cases c8 : x2 ≠ 3
        · rw [if_pos c8] at H
          refine g_ic1t iX11_postTold_40 c8 ?_
          refine g_c iX11_postTold_49 ?_
          refine g_is iX11_postTold_50 (Nat.le_of_ble_eq_true rfl) ?_
          refine rx_Go.ls (la := [some (.inr 125), some (.inl x1), some (.inl x2), some (.inl 0), none]) rfl ?_
          refine g_c iX11_postTold_51 ?_
          refine g_is iX11_postTold_52 (Nat.le_of_ble_eq_true rfl) ?_
          refine rx_Go.ls (la := [some (.inr 125), some (.inl x1), some (.inl x2), some (.inl 0), some (.inl 0)]) rfl ?_
          exact H
        · rw [if_neg c8] at H
          refine g_ic1f iX11_postTold_40 c8 ?_
          refine g_al iX11_postTold_43 rfl ?_
          refine g_il iX11_postTold_44 rfl ?_
          refine g_ci (as := [.inr 125, .inl x1]) (rest := []) iX11_postTold_45 rfl rfl (Nat.le_of_ble_eq_true rfl) (Or.inr ⟨_, _, rfl, oo_11_125⟩) (rx_CI.imp H (fun v10 σ9 H => ?_))
          exact g_ri iX11_postTold_48 (Or.inl rfl) H
      · rw [if_neg c7] at H
        refine g_ic3f iX11_postTold_22 c7 ?_
        refine g_al iX11_postTold_25 rfl ?_
        refine g_gr iX11_postTold_26 fr_11_0_125 ?_
        refine g_c iX11_postTold_29 ?_
        refine g_c iX11_postTold_30 ?_
        refine g_il iX11_postTold_31 rfl ?_
        refine g_mul iX11_postTold_32 ?_
        refine g_add iX11_postTold_33 ?_
        refine g_il iX11_postTold_34 rfl ?_
        refine g_add iX11_postTold_35 ?_
        obtain ⟨o11, H⟩ := H
        refine g_ld iX11_postTold_36 (ln_126 L) o11 ?_
        exact g_ri iX11_postTold_37 (Or.inl rfl) H
    · rw [if_neg c6] at H
      refine g_if1f iX11_postTold_14 c6 ?_
      refine g_c iX11_postTold_17 ?_
      exact g_ri iX11_postTold_19 (Or.inl rfl) H
set_option maxRecDepth 20000 in
set_option maxHeartbeats 4000000 in
theorem bX11_postTold_54 (L d : Nat) (x1 : Int) (q2 : Option rx_V) (x3 : Int) (x4 : Int) (σ : rx_St) (K : Int → rx_St → Prop)
    (H : if (σ 126 2) ≤ x4 then (K x3 σ) else (rx_CI L d mX11_isFrom [.inr 125, .inl x4, .inl x1] σ (fun v14 σ13 => if v14 = 0 then (rx_Go L (d + 1) mX11_postTold 54 [some (.inr 125), some (.inl x1), q2, some (.inl (rx_w (x3 + 0))), some (.inl (rx_w (x4 + 1)))] [] σ13 (rx_PI K)) else (rx_Go L (d + 1) mX11_postTold 54 [some (.inr 125), some (.inl x1), q2, some (.inl (rx_w (x3 + 1))), some (.inl (rx_w (x4 + 1)))] [] σ13 (rx_PI K))))) :
    rx_Go L (d + 1) mX11_postTold 54 [some (.inr 125), some (.inl x1), q2, some (.inl x3), some (.inl x4)] [] σ (rx_PI K) := by
  refine g_il iX11_postTold_54 rfl ?_
  refine g_al iX11_postTold_56 rfl ?_
  refine g_gr iX11_postTold_57 fr_11_0_125 ?_
  refine g_c iX11_postTold_60 ?_
  refine g_ld iX11_postTold_61 (ln_126 L) (by decide) ?_
  by_cases c12 : (σ 126 2) ≤ x4
  · rw [if_pos c12] at H
    refine g_ic3t iX11_postTold_62 c12 ?_
    refine g_il iX11_postTold_89 rfl ?_
    exact g_ri iX11_postTold_90 (Or.inl rfl) H
  · rw [if_neg c12] at H
    refine g_ic3f iX11_postTold_62 c12 ?_
    refine g_il iX11_postTold_65 rfl ?_
    refine g_al iX11_postTold_66 rfl ?_
    refine g_il iX11_postTold_67 rfl ?_
    refine g_il iX11_postTold_69 rfl ?_
    refine g_ci (as := [.inr 125, .inl x4, .inl x1]) (rest := [.inl x3]) iX11_postTold_70 rfl rfl (Nat.le_of_ble_eq_true rfl) (Or.inr ⟨_, _, rfl, oo_11_125⟩) (rx_CI.imp H (fun v14 σ13 H => ?_))
    by_cases c15 : v14 = 0
    · rw [if_pos c15] at H
      refine g_if0t iX11_postTold_73 c15 ?_
      refine g_c iX11_postTold_80 ?_
      refine g_add iX11_postTold_81 ?_
      refine g_is iX11_postTold_82 (Nat.le_of_ble_eq_true rfl) ?_
      refine rx_Go.ls (la := [some (.inr 125), some (.inl x1), q2, some (.inl (rx_w (x3 + 0))), some (.inl x4)]) rfl ?_
      refine g_ii iX11_postTold_83 rfl ?_
      refine rx_Go.ls (la := [some (.inr 125), some (.inl x1), q2, some (.inl (rx_w (x3 + 0))), some (.inl (rx_w (x4 + 1)))]) rfl ?_
      refine g_goto iX11_postTold_86 ?_
      exact H
    · rw [if_neg c15] at H
      refine g_if0f iX11_postTold_73 c15 ?_
      refine g_c iX11_postTold_76 ?_
      refine g_goto iX11_postTold_77 ?_
      refine g_add iX11_postTold_81 ?_
      refine g_is iX11_postTold_82 (Nat.le_of_ble_eq_true rfl) ?_
      refine rx_Go.ls (la := [some (.inr 125), some (.inl x1), q2, some (.inl (rx_w (x3 + 1))), some (.inl x4)]) rfl ?_
      refine g_ii iX11_postTold_83 rfl ?_
      refine rx_Go.ls (la := [some (.inr 125), some (.inl x1), q2, some (.inl (rx_w (x3 + 1))), some (.inl (rx_w (x4 + 1)))]) rfl ?_
      refine g_goto iX11_postTold_86 ?_
      exact H
set_option maxRecDepth 20000 in
set_option maxHeartbeats 4000000 in
theorem bX11_move (L d : Nat) (x1 : Int) (x2 : Int) (x3 : Int) (σ : rx_St) (K : Int → rx_St → Prop)
    (H : rx_CI L d mX11_isPost [.inr 125, .inl x1] σ (fun v2 σ1 => if v2 = 0 then (K (-1000000001) σ1) else (rx_CI L d mX11_isPlace [.inl x2, .inl x3] σ1 (fun v5 σ4 => if v5 ≠ 0 then (rx_CI L d mX11_postAt [.inr 125, .inl x2, .inl x3] σ4 (fun v8 σ7 => if v8 < 0 then ((0 ≤ (rx_w (4 + (rx_w (3 * x1)))) ∧ (rx_w (4 + (rx_w (3 * x1)))) < 1498) ∧ ((0 ≤ (rx_w ((rx_w (4 + (rx_w (3 * x1)))) + 1)) ∧ (rx_w ((rx_w (4 + (rx_w (3 * x1)))) + 1)) < 1498) ∧ (if v8 ≠ x1 then (K 1 (rx_up (rx_up σ7 126 (rx_w (4 + (rx_w (3 * x1)))) x2) 126 (rx_w ((rx_w (4 + (rx_w (3 * x1)))) + 1)) x3)) else (K 0 (rx_up (rx_up σ7 126 (rx_w (4 + (rx_w (3 * x1)))) x2) 126 (rx_w ((rx_w (4 + (rx_w (3 * x1)))) + 1)) x3))))) else (if v8 = x1 then ((0 ≤ (rx_w (4 + (rx_w (3 * x1)))) ∧ (rx_w (4 + (rx_w (3 * x1)))) < 1498) ∧ ((0 ≤ (rx_w ((rx_w (4 + (rx_w (3 * x1)))) + 1)) ∧ (rx_w ((rx_w (4 + (rx_w (3 * x1)))) + 1)) < 1498) ∧ (K 0 (rx_up (rx_up σ7 126 (rx_w (4 + (rx_w (3 * x1)))) x2) 126 (rx_w ((rx_w (4 + (rx_w (3 * x1)))) + 1)) x3)))) else (K (-1000000002) σ7)))) else (K (-1000000001) σ4))))) :
    rx_CI L (d + 1) mX11_move [.inr 125, .inl x1, .inl x2, .inl x3] σ K := by
  refine rx_CI.of (la := [some (.inr 125), some (.inl x1), some (.inl x2), some (.inl x3), none]) rfl ?_
  refine g_al iX11_move_0 rfl ?_
  refine g_il iX11_move_1 rfl ?_
  refine g_ci (as := [.inr 125, .inl x1]) (rest := []) iX11_move_2 rfl rfl (Nat.le_of_ble_eq_true rfl) (Or.inr ⟨_, _, rfl, oo_11_125⟩) (rx_CI.imp H (fun v2 σ1 H => ?_))
  by_cases c3 : v2 = 0
  · rw [if_pos c3] at H
    refine g_if0t iX11_move_5 c3 ?_
    refine g_c iX11_move_16 ?_
    exact g_ri iX11_move_18 (Or.inl rfl) H
  · rw [if_neg c3] at H
    refine g_if0f iX11_move_5 c3 ?_
    refine g_il iX11_move_8 rfl ?_
    refine g_il iX11_move_9 rfl ?_
    refine g_ci (as := [.inl x2, .inl x3]) (rest := []) iX11_move_10 rfl rfl (Nat.le_of_ble_eq_true rfl) (Or.inl (by decide)) (rx_CI.imp H (fun v5 σ4 H => ?_))
    by_cases c6 : v5 ≠ 0
    · rw [if_pos c6] at H
      refine g_if1t iX11_move_13 c6 ?_
      refine g_al iX11_move_19 rfl ?_
      refine g_il iX11_move_20 rfl ?_
      refine g_il iX11_move_21 rfl ?_
      refine g_ci (as := [.inr 125, .inl x2, .inl x3]) (rest := []) iX11_move_22 rfl rfl (Nat.le_of_ble_eq_true rfl) (Or.inr ⟨_, _, rfl, oo_11_125⟩) (rx_CI.imp H (fun v8 σ7 H => ?_))
      refine g_is iX11_move_25 (Nat.le_of_ble_eq_true rfl) ?_
      refine rx_Go.ls (la := [some (.inr 125), some (.inl x1), some (.inl x2), some (.inl x3), some (.inl v8)]) rfl ?_
      refine g_il iX11_move_27 rfl ?_
      by_cases c9 : v8 < 0
      · rw [if_pos c9] at H
        refine g_if2t iX11_move_29 c9 ?_
        refine g_al iX11_move_41 rfl ?_
        refine g_gr iX11_move_42 fr_11_0_125 ?_
        refine g_c iX11_move_45 ?_
        refine g_c iX11_move_46 ?_
        refine g_il iX11_move_47 rfl ?_
        refine g_mul iX11_move_48 ?_
        refine g_add iX11_move_49 ?_
        refine g_il iX11_move_50 rfl ?_
        obtain ⟨o10, H⟩ := H
        refine g_st iX11_move_51 (ln_126 L) (by decide) o10 rfl ?_
        refine g_al iX11_move_52 rfl ?_
        refine g_gr iX11_move_53 fr_11_0_125 ?_
        refine g_c iX11_move_56 ?_
        refine g_c iX11_move_57 ?_
        refine g_il iX11_move_58 rfl ?_
        refine g_mul iX11_move_59 ?_
        refine g_add iX11_move_60 ?_
        refine g_c iX11_move_61 ?_
        refine g_add iX11_move_62 ?_
        refine g_il iX11_move_63 rfl ?_
        obtain ⟨o11, H⟩ := H
        refine g_st iX11_move_64 (ln_126 L) (by decide) o11 rfl ?_
        refine g_il iX11_move_65 rfl ?_
        refine g_il iX11_move_67 rfl ?_
        by_cases c12 : v8 ≠ x1
        · rw [if_pos c12] at H
          refine g_ic1t iX11_move_68 c12 ?_
          refine g_c iX11_move_75 ?_
          exact g_ri iX11_move_76 (Or.inl rfl) H
        · rw [if_neg c12] at H
          refine g_ic1f iX11_move_68 c12 ?_
          refine g_c iX11_move_71 ?_
          refine g_goto iX11_move_72 ?_
          exact g_ri iX11_move_76 (Or.inl rfl) H
      · rw [if_neg c9] at H
        refine g_if2f iX11_move_29 c9 ?_
        refine g_il iX11_move_32 rfl ?_
        refine g_il iX11_move_34 rfl ?_
        by_cases c13 : v8 = x1
        · rw [if_pos c13] at H
          refine g_ic0t iX11_move_35 c13 ?_
          refine g_al iX11_move_41 rfl ?_
          refine g_gr iX11_move_42 fr_11_0_125 ?_
          refine g_c iX11_move_45 ?_
          refine g_c iX11_move_46 ?_
          refine g_il iX11_move_47 rfl ?_
          refine g_mul iX11_move_48 ?_
          refine g_add iX11_move_49 ?_
          refine g_il iX11_move_50 rfl ?_
          obtain ⟨o14, H⟩ := H
          refine g_st iX11_move_51 (ln_126 L) (by decide) o14 rfl ?_
          refine g_al iX11_move_52 rfl ?_
          refine g_gr iX11_move_53 fr_11_0_125 ?_
          refine g_c iX11_move_56 ?_
          refine g_c iX11_move_57 ?_
          refine g_il iX11_move_58 rfl ?_
          refine g_mul iX11_move_59 ?_
          refine g_add iX11_move_60 ?_
          refine g_c iX11_move_61 ?_
          refine g_add iX11_move_62 ?_
          refine g_il iX11_move_63 rfl ?_
          obtain ⟨o15, H⟩ := H
          refine g_st iX11_move_64 (ln_126 L) (by decide) o15 rfl ?_
          refine g_il iX11_move_65 rfl ?_
          refine g_il iX11_move_67 rfl ?_
          refine g_ic1f iX11_move_68 (fun h9 => h9 c13) ?_
          refine g_c iX11_move_71 ?_
          refine g_goto iX11_move_72 ?_
          exact g_ri iX11_move_76 (Or.inl rfl) H
        · rw [if_neg c13] at H
          refine g_ic0f iX11_move_35 c13 ?_
          refine g_c iX11_move_38 ?_
          exact g_ri iX11_move_40 (Or.inl rfl) H
    · rw [if_neg c6] at H
      refine g_if1f iX11_move_13 c6 ?_
      refine g_c iX11_move_16 ?_
      exact g_ri iX11_move_18 (Or.inl rfl) H
set_option maxRecDepth 20000 in
set_option maxHeartbeats 4000000 in
theorem bX11_layer (L d : Nat) (x1 : Int) (x2 : Int) (σ : rx_St) (K : Int → rx_St → Prop)
    (H : rx_CI L d mX11_isPost [.inr 125, .inl x1] σ (fun v2 σ1 => if v2 = 0 then (K (-1000000001) σ1) else (rx_CI L d mX11_in [.inl x2, .inl 0, .inl 3] σ1 (fun v5 σ4 => if v5 ≠ 0 then (rx_CI L d mX11_layerOf [.inr 125, .inl x1] σ4 (fun v8 σ7 => (0 ≤ (rx_w ((rx_w (4 + (rx_w (3 * x1)))) + 2)) ∧ (rx_w ((rx_w (4 + (rx_w (3 * x1)))) + 2)) < 1498) ∧ (K v8 (rx_up σ7 126 (rx_w ((rx_w (4 + (rx_w (3 * x1)))) + 2)) x2)))) else (K (-1000000001) σ4))))) :
    rx_CI L (d + 1) mX11_layer [.inr 125, .inl x1, .inl x2] σ K := by
  refine rx_CI.of (la := [some (.inr 125), some (.inl x1), some (.inl x2), none]) rfl ?_
  refine g_al iX11_layer_0 rfl ?_
  refine g_il iX11_layer_1 rfl ?_
  refine g_ci (as := [.inr 125, .inl x1]) (rest := []) iX11_layer_2 rfl rfl (Nat.le_of_ble_eq_true rfl) (Or.inr ⟨_, _, rfl, oo_11_125⟩) (rx_CI.imp H (fun v2 σ1 H => ?_))
  by_cases c3 : v2 = 0
  · rw [if_pos c3] at H
    refine g_if0t iX11_layer_5 c3 ?_
    refine g_c iX11_layer_17 ?_
    exact g_ri iX11_layer_19 (Or.inl rfl) H
  · rw [if_neg c3] at H
    refine g_if0f iX11_layer_5 c3 ?_
    refine g_il iX11_layer_8 rfl ?_
    refine g_c iX11_layer_9 ?_
    refine g_c iX11_layer_10 ?_
    refine g_ci (as := [.inl x2, .inl 0, .inl 3]) (rest := []) iX11_layer_11 rfl rfl (Nat.le_of_ble_eq_true rfl) (Or.inl (by decide)) (rx_CI.imp H (fun v5 σ4 H => ?_))
    by_cases c6 : v5 ≠ 0
    · rw [if_pos c6] at H
      refine g_if1t iX11_layer_14 c6 ?_
      refine g_al iX11_layer_20 rfl ?_
      refine g_il iX11_layer_21 rfl ?_
      refine g_ci (as := [.inr 125, .inl x1]) (rest := []) iX11_layer_22 rfl rfl (Nat.le_of_ble_eq_true rfl) (Or.inr ⟨_, _, rfl, oo_11_125⟩) (rx_CI.imp H (fun v8 σ7 H => ?_))
      refine g_is iX11_layer_25 (Nat.le_of_ble_eq_true rfl) ?_
      refine rx_Go.ls (la := [some (.inr 125), some (.inl x1), some (.inl x2), some (.inl v8)]) rfl ?_
      refine g_al iX11_layer_26 rfl ?_
      refine g_gr iX11_layer_27 fr_11_0_125 ?_
      refine g_c iX11_layer_30 ?_
      refine g_c iX11_layer_31 ?_
      refine g_il iX11_layer_32 rfl ?_
      refine g_mul iX11_layer_33 ?_
      refine g_add iX11_layer_34 ?_
      refine g_c iX11_layer_35 ?_
      refine g_add iX11_layer_36 ?_
      refine g_il iX11_layer_37 rfl ?_
      obtain ⟨o9, H⟩ := H
      refine g_st iX11_layer_38 (ln_126 L) (by decide) o9 rfl ?_
      refine g_il iX11_layer_39 rfl ?_
      exact g_ri iX11_layer_40 (Or.inl rfl) H
    · rw [if_neg c6] at H
      refine g_if1f iX11_layer_14 c6 ?_
      refine g_c iX11_layer_17 ?_
      exact g_ri iX11_layer_19 (Or.inl rfl) H
set_option maxRecDepth 20000 in
set_option maxHeartbeats 4000000 in
theorem bX11_isBetween (L d : Nat) (x1 : Int) (x2 : Int) (σ : rx_St) (K : Int → rx_St → Prop)
    (H : rx_Go L (d + 1) mX11_isBetween 5 [some (.inr 125), some (.inl x1), some (.inl x2), some (.inl 0), some (.inl 0)] [] σ (rx_PI K)) :
    rx_CI L (d + 1) mX11_isBetween [.inr 125, .inl x1, .inl x2] σ K := by
  refine rx_CI.of (la := [some (.inr 125), some (.inl x1), some (.inl x2), none, none]) rfl ?_
  refine g_c iX11_isBetween_0 ?_
  refine g_is iX11_isBetween_1 (Nat.le_of_ble_eq_true rfl) ?_
  refine rx_Go.ls (la := [some (.inr 125), some (.inl x1), some (.inl x2), some (.inl 0), none]) rfl ?_
  refine g_c iX11_isBetween_2 ?_
  refine g_is iX11_isBetween_3 (Nat.le_of_ble_eq_true rfl) ?_
  refine rx_Go.ls (la := [some (.inr 125), some (.inl x1), some (.inl x2), some (.inl 0), some (.inl 0)]) rfl ?_
  exact H
set_option maxRecDepth 20000 in
set_option maxHeartbeats 4000000 in
theorem bX11_isBetween_5 (L d : Nat) (x1 : Int) (x2 : Int) (x3 : Int) (x4 : Int) (σ : rx_St) (K : Int → rx_St → Prop)
    (H : if (σ 126 2) ≤ x4 then ((x3 = 0 ∨ x3 = 1) ∧ K x3 σ) else (if x3 ≠ 0 then (rx_Go L (d + 1) mX11_isBetween 5 [some (.inr 125), some (.inl x1), some (.inl x2), some (.inl 1), some (.inl (rx_w (x4 + 1)))] [] σ (rx_PI K)) else (rx_CI L d mX11_isFrom [.inr 125, .inl x4, .inl x1] σ (fun v4 σ3 => if v4 = 0 then (rx_Go L (d + 1) mX11_isBetween 5 [some (.inr 125), some (.inl x1), some (.inl x2), some (.inl 0), some (.inl (rx_w (x4 + 1)))] [] σ3 (rx_PI K)) else (rx_CI L d mX11_isFrom [.inr 125, .inl x4, .inl x2] σ3 (fun v7 σ6 => if v7 = 0 then (rx_Go L (d + 1) mX11_isBetween 5 [some (.inr 125), some (.inl x1), some (.inl x2), some (.inl 0), some (.inl (rx_w (x4 + 1)))] [] σ6 (rx_PI K)) else (rx_Go L (d + 1) mX11_isBetween 5 [some (.inr 125), some (.inl x1), some (.inl x2), some (.inl 1), some (.inl (rx_w (x4 + 1)))] [] σ6 (rx_PI K)))))))) :
    rx_Go L (d + 1) mX11_isBetween 5 [some (.inr 125), some (.inl x1), some (.inl x2), some (.inl x3), some (.inl x4)] [] σ (rx_PI K) := by
  refine g_il iX11_isBetween_5 rfl ?_
  refine g_al iX11_isBetween_7 rfl ?_
  refine g_gr iX11_isBetween_8 fr_11_0_125 ?_
  refine g_c iX11_isBetween_11 ?_
  refine g_ld iX11_isBetween_12 (ln_126 L) (by decide) ?_
  by_cases c1 : (σ 126 2) ≤ x4
  · rw [if_pos c1] at H
    refine g_ic3t iX11_isBetween_13 c1 ?_
    refine g_il iX11_isBetween_52 rfl ?_
    exact g_ri iX11_isBetween_53 (Or.inr H.1) H.2
  · rw [if_neg c1] at H
    refine g_ic3f iX11_isBetween_13 c1 ?_
    refine g_il iX11_isBetween_16 rfl ?_
    by_cases c2 : x3 ≠ 0
    · rw [if_pos c2] at H
      refine g_if1t iX11_isBetween_17 c2 ?_
      refine g_c iX11_isBetween_40 ?_
      refine g_goto iX11_isBetween_41 ?_
      refine g_is iX11_isBetween_45 (Nat.le_of_ble_eq_true rfl) ?_
      refine rx_Go.ls (la := [some (.inr 125), some (.inl x1), some (.inl x2), some (.inl 1), some (.inl x4)]) rfl ?_
      refine g_ii iX11_isBetween_46 rfl ?_
      refine rx_Go.ls (la := [some (.inr 125), some (.inl x1), some (.inl x2), some (.inl 1), some (.inl (rx_w (x4 + 1)))]) rfl ?_
      refine g_goto iX11_isBetween_49 ?_
      exact H
    · rw [if_neg c2] at H
      refine g_if1f iX11_isBetween_17 c2 ?_
      refine g_al iX11_isBetween_20 rfl ?_
      refine g_il iX11_isBetween_21 rfl ?_
      refine g_il iX11_isBetween_23 rfl ?_
      refine g_ci (as := [.inr 125, .inl x4, .inl x1]) (rest := []) iX11_isBetween_24 rfl rfl (Nat.le_of_ble_eq_true rfl) (Or.inr ⟨_, _, rfl, oo_11_125⟩) (rx_CI.imp H (fun v4 σ3 H => ?_))
      by_cases c5 : v4 = 0
      · rw [if_pos c5] at H
        refine g_if0t iX11_isBetween_27 c5 ?_
        refine g_c iX11_isBetween_44 ?_
        refine g_is iX11_isBetween_45 (Nat.le_of_ble_eq_true rfl) ?_
        refine rx_Go.ls (la := [some (.inr 125), some (.inl x1), some (.inl x2), some (.inl 0), some (.inl x4)]) rfl ?_
        refine g_ii iX11_isBetween_46 rfl ?_
        refine rx_Go.ls (la := [some (.inr 125), some (.inl x1), some (.inl x2), some (.inl 0), some (.inl (rx_w (x4 + 1)))]) rfl ?_
        refine g_goto iX11_isBetween_49 ?_
        exact H
      · rw [if_neg c5] at H
        refine g_if0f iX11_isBetween_27 c5 ?_
        refine g_al iX11_isBetween_30 rfl ?_
        refine g_il iX11_isBetween_31 rfl ?_
        refine g_il iX11_isBetween_33 rfl ?_
        refine g_ci (as := [.inr 125, .inl x4, .inl x2]) (rest := []) iX11_isBetween_34 rfl rfl (Nat.le_of_ble_eq_true rfl) (Or.inr ⟨_, _, rfl, oo_11_125⟩) (rx_CI.imp H (fun v7 σ6 H => ?_))
        by_cases c8 : v7 = 0
        · rw [if_pos c8] at H
          refine g_if0t iX11_isBetween_37 c8 ?_
          refine g_c iX11_isBetween_44 ?_
          refine g_is iX11_isBetween_45 (Nat.le_of_ble_eq_true rfl) ?_
          refine rx_Go.ls (la := [some (.inr 125), some (.inl x1), some (.inl x2), some (.inl 0), some (.inl x4)]) rfl ?_
          refine g_ii iX11_isBetween_46 rfl ?_
          refine rx_Go.ls (la := [some (.inr 125), some (.inl x1), some (.inl x2), some (.inl 0), some (.inl (rx_w (x4 + 1)))]) rfl ?_
          refine g_goto iX11_isBetween_49 ?_
          exact H
        · rw [if_neg c8] at H
          refine g_if0f iX11_isBetween_37 c8 ?_
          refine g_c iX11_isBetween_40 ?_
          refine g_goto iX11_isBetween_41 ?_
          refine g_is iX11_isBetween_45 (Nat.le_of_ble_eq_true rfl) ?_
          refine rx_Go.ls (la := [some (.inr 125), some (.inl x1), some (.inl x2), some (.inl 1), some (.inl x4)]) rfl ?_
          refine g_ii iX11_isBetween_46 rfl ?_
          refine rx_Go.ls (la := [some (.inr 125), some (.inl x1), some (.inl x2), some (.inl 1), some (.inl (rx_w (x4 + 1)))]) rfl ?_
          refine g_goto iX11_isBetween_49 ?_
          exact H
set_option maxRecDepth 20000 in
set_option maxHeartbeats 4000000 in
theorem bX11_goes (L d : Nat) (x1 : Int) (x2 : Int) (x3 : Int) (x4 : Int) (σ : rx_St) (K : Int → rx_St → Prop)
    (H : (0 ≤ (rx_w (36 + (rx_w (5 * (σ 126 2))))) ∧ (rx_w (36 + (rx_w (5 * (σ 126 2))))) < 1498) ∧ (if x3 ≤ x2 then ((0 ≤ (rx_w ((rx_w (36 + (rx_w (5 * (σ 126 2))))) + 1)) ∧ (rx_w ((rx_w (36 + (rx_w (5 * (σ 126 2))))) + 1)) < 1498) ∧ ((0 ≤ (rx_w ((rx_w (36 + (rx_w (5 * (σ 126 2))))) + 2)) ∧ (rx_w ((rx_w (36 + (rx_w (5 * (σ 126 2))))) + 2)) < 1498) ∧ ((0 ≤ (rx_w ((rx_w (36 + (rx_w (5 * (σ 126 2))))) + 3)) ∧ (rx_w ((rx_w (36 + (rx_w (5 * (σ 126 2))))) + 3)) < 1498) ∧ ((0 ≤ (rx_w ((rx_w (36 + (rx_w (5 * (σ 126 2))))) + 4)) ∧ (rx_w ((rx_w (36 + (rx_w (5 * (σ 126 2))))) + 4)) < 1498) ∧ (K (rx_w (((rx_up (rx_up (rx_up (rx_up (rx_up (rx_up σ 126 (rx_w (36 + (rx_w (5 * (σ 126 2))))) x1) 126 (rx_w ((rx_w (36 + (rx_w (5 * (σ 126 2))))) + 1)) x3) 126 (rx_w ((rx_w (36 + (rx_w (5 * (σ 126 2))))) + 2)) x2) 126 (rx_w ((rx_w (36 + (rx_w (5 * (σ 126 2))))) + 3)) x4) 126 (rx_w ((rx_w (36 + (rx_w (5 * (σ 126 2))))) + 4)) 0) 126 2 (rx_w (((rx_up (rx_up (rx_up (rx_up (rx_up σ 126 (rx_w (36 + (rx_w (5 * (σ 126 2))))) x1) 126 (rx_w ((rx_w (36 + (rx_w (5 * (σ 126 2))))) + 1)) x3) 126 (rx_w ((rx_w (36 + (rx_w (5 * (σ 126 2))))) + 2)) x2) 126 (rx_w ((rx_w (36 + (rx_w (5 * (σ 126 2))))) + 3)) x4) 126 (rx_w ((rx_w (36 + (rx_w (5 * (σ 126 2))))) + 4)) 0) 126 2) + 1))) 126 2) - 1)) (rx_up (rx_up (rx_up (rx_up (rx_up (rx_up σ 126 (rx_w (36 + (rx_w (5 * (σ 126 2))))) x1) 126 (rx_w ((rx_w (36 + (rx_w (5 * (σ 126 2))))) + 1)) x3) 126 (rx_w ((rx_w (36 + (rx_w (5 * (σ 126 2))))) + 2)) x2) 126 (rx_w ((rx_w (36 + (rx_w (5 * (σ 126 2))))) + 3)) x4) 126 (rx_w ((rx_w (36 + (rx_w (5 * (σ 126 2))))) + 4)) 0) 126 2 (rx_w (((rx_up (rx_up (rx_up (rx_up (rx_up σ 126 (rx_w (36 + (rx_w (5 * (σ 126 2))))) x1) 126 (rx_w ((rx_w (36 + (rx_w (5 * (σ 126 2))))) + 1)) x3) 126 (rx_w ((rx_w (36 + (rx_w (5 * (σ 126 2))))) + 2)) x2) 126 (rx_w ((rx_w (36 + (rx_w (5 * (σ 126 2))))) + 3)) x4) 126 (rx_w ((rx_w (36 + (rx_w (5 * (σ 126 2))))) + 4)) 0) 126 2) + 1)))))))) else ((0 ≤ (rx_w ((rx_w (36 + (rx_w (5 * (σ 126 2))))) + 1)) ∧ (rx_w ((rx_w (36 + (rx_w (5 * (σ 126 2))))) + 1)) < 1498) ∧ ((0 ≤ (rx_w ((rx_w (36 + (rx_w (5 * (σ 126 2))))) + 2)) ∧ (rx_w ((rx_w (36 + (rx_w (5 * (σ 126 2))))) + 2)) < 1498) ∧ ((0 ≤ (rx_w ((rx_w (36 + (rx_w (5 * (σ 126 2))))) + 3)) ∧ (rx_w ((rx_w (36 + (rx_w (5 * (σ 126 2))))) + 3)) < 1498) ∧ ((0 ≤ (rx_w ((rx_w (36 + (rx_w (5 * (σ 126 2))))) + 4)) ∧ (rx_w ((rx_w (36 + (rx_w (5 * (σ 126 2))))) + 4)) < 1498) ∧ (K (rx_w (((rx_up (rx_up (rx_up (rx_up (rx_up (rx_up σ 126 (rx_w (36 + (rx_w (5 * (σ 126 2))))) x1) 126 (rx_w ((rx_w (36 + (rx_w (5 * (σ 126 2))))) + 1)) x2) 126 (rx_w ((rx_w (36 + (rx_w (5 * (σ 126 2))))) + 2)) x3) 126 (rx_w ((rx_w (36 + (rx_w (5 * (σ 126 2))))) + 3)) x4) 126 (rx_w ((rx_w (36 + (rx_w (5 * (σ 126 2))))) + 4)) 0) 126 2 (rx_w (((rx_up (rx_up (rx_up (rx_up (rx_up σ 126 (rx_w (36 + (rx_w (5 * (σ 126 2))))) x1) 126 (rx_w ((rx_w (36 + (rx_w (5 * (σ 126 2))))) + 1)) x2) 126 (rx_w ((rx_w (36 + (rx_w (5 * (σ 126 2))))) + 2)) x3) 126 (rx_w ((rx_w (36 + (rx_w (5 * (σ 126 2))))) + 3)) x4) 126 (rx_w ((rx_w (36 + (rx_w (5 * (σ 126 2))))) + 4)) 0) 126 2) + 1))) 126 2) - 1)) (rx_up (rx_up (rx_up (rx_up (rx_up (rx_up σ 126 (rx_w (36 + (rx_w (5 * (σ 126 2))))) x1) 126 (rx_w ((rx_w (36 + (rx_w (5 * (σ 126 2))))) + 1)) x2) 126 (rx_w ((rx_w (36 + (rx_w (5 * (σ 126 2))))) + 2)) x3) 126 (rx_w ((rx_w (36 + (rx_w (5 * (σ 126 2))))) + 3)) x4) 126 (rx_w ((rx_w (36 + (rx_w (5 * (σ 126 2))))) + 4)) 0) 126 2 (rx_w (((rx_up (rx_up (rx_up (rx_up (rx_up σ 126 (rx_w (36 + (rx_w (5 * (σ 126 2))))) x1) 126 (rx_w ((rx_w (36 + (rx_w (5 * (σ 126 2))))) + 1)) x2) 126 (rx_w ((rx_w (36 + (rx_w (5 * (σ 126 2))))) + 2)) x3) 126 (rx_w ((rx_w (36 + (rx_w (5 * (σ 126 2))))) + 3)) x4) 126 (rx_w ((rx_w (36 + (rx_w (5 * (σ 126 2))))) + 4)) 0) 126 2) + 1)))))))))) :
    rx_CI L d mX11_goes [.inr 125, .inl x1, .inl x2, .inl x3, .inl x4] σ K := by
  refine rx_CI.of (la := [some (.inr 125), some (.inl x1), some (.inl x2), some (.inl x3), some (.inl x4), none]) rfl ?_
  refine g_c iX11_goes_0 ?_
  refine g_c iX11_goes_2 ?_
  refine g_al iX11_goes_3 rfl ?_
  refine g_gr iX11_goes_4 fr_11_0_125 ?_
  refine g_c iX11_goes_7 ?_
  refine g_ld iX11_goes_8 (ln_126 L) (by decide) ?_
  refine g_mul iX11_goes_9 ?_
  refine g_add iX11_goes_10 ?_
  refine g_is iX11_goes_11 (Nat.le_of_ble_eq_true rfl) ?_
  refine rx_Go.ls (la := [some (.inr 125), some (.inl x1), some (.inl x2), some (.inl x3), some (.inl x4), some (.inl (rx_w (36 + (rx_w (5 * (σ 126 2))))))]) rfl ?_
  refine g_al iX11_goes_13 rfl ?_
  refine g_gr iX11_goes_14 fr_11_0_125 ?_
  refine g_il iX11_goes_17 rfl ?_
  refine g_il iX11_goes_19 rfl ?_
  obtain ⟨o1, H⟩ := H
  refine g_st iX11_goes_20 (ln_126 L) (by decide) o1 rfl ?_
  refine g_al iX11_goes_21 rfl ?_
  refine g_gr iX11_goes_22 fr_11_0_125 ?_
  refine g_il iX11_goes_25 rfl ?_
  refine g_c iX11_goes_27 ?_
  refine g_add iX11_goes_28 ?_
  refine g_il iX11_goes_29 rfl ?_
  refine g_il iX11_goes_30 rfl ?_
  by_cases c2 : x3 ≤ x2
  · rw [if_pos c2] at H
    refine g_ic3t iX11_goes_31 c2 ?_
    refine g_il iX11_goes_38 rfl ?_
    obtain ⟨o3, H⟩ := H
    refine g_st iX11_goes_39 (ln_126 L) (by decide) o3 rfl ?_
    refine g_al iX11_goes_40 rfl ?_
    refine g_gr iX11_goes_41 fr_11_0_125 ?_
    refine g_il iX11_goes_44 rfl ?_
    refine g_c iX11_goes_46 ?_
    refine g_add iX11_goes_47 ?_
    refine g_il iX11_goes_48 rfl ?_
    refine g_il iX11_goes_49 rfl ?_
    refine g_ic3t iX11_goes_50 c2 ?_
    refine g_il iX11_goes_57 rfl ?_
    obtain ⟨o4, H⟩ := H
    refine g_st iX11_goes_58 (ln_126 L) (by decide) o4 rfl ?_
    refine g_al iX11_goes_59 rfl ?_
    refine g_gr iX11_goes_60 fr_11_0_125 ?_
    refine g_il iX11_goes_63 rfl ?_
    refine g_c iX11_goes_65 ?_
    refine g_add iX11_goes_66 ?_
    refine g_il iX11_goes_67 rfl ?_
    obtain ⟨o5, H⟩ := H
    refine g_st iX11_goes_69 (ln_126 L) (by decide) o5 rfl ?_
    refine g_al iX11_goes_70 rfl ?_
    refine g_gr iX11_goes_71 fr_11_0_125 ?_
    refine g_il iX11_goes_74 rfl ?_
    refine g_c iX11_goes_76 ?_
    refine g_add iX11_goes_77 ?_
    refine g_c iX11_goes_78 ?_
    obtain ⟨o6, H⟩ := H
    refine g_st iX11_goes_79 (ln_126 L) (by decide) o6 rfl ?_
    refine g_al iX11_goes_80 rfl ?_
    refine g_gr iX11_goes_81 fr_11_0_125 ?_
    refine g_c iX11_goes_84 ?_
    refine g_dup2 iX11_goes_85 ?_
    refine g_ld iX11_goes_86 (ln_126 L) (by decide) ?_
    refine g_c iX11_goes_87 ?_
    refine g_add iX11_goes_88 ?_
    refine g_st iX11_goes_89 (ln_126 L) (by decide) (by decide) rfl ?_
    refine g_al iX11_goes_90 rfl ?_
    refine g_gr iX11_goes_91 fr_11_0_125 ?_
    refine g_c iX11_goes_94 ?_
    refine g_ld iX11_goes_95 (ln_126 L) (by decide) ?_
    refine g_c iX11_goes_96 ?_
    refine g_sub iX11_goes_97 ?_
    exact g_ri iX11_goes_98 (Or.inl rfl) H
  · rw [if_neg c2] at H
    refine g_ic3f iX11_goes_31 c2 ?_
    refine g_il iX11_goes_34 rfl ?_
    refine g_goto iX11_goes_35 ?_
    obtain ⟨o7, H⟩ := H
    refine g_st iX11_goes_39 (ln_126 L) (by decide) o7 rfl ?_
    refine g_al iX11_goes_40 rfl ?_
    refine g_gr iX11_goes_41 fr_11_0_125 ?_
    refine g_il iX11_goes_44 rfl ?_
    refine g_c iX11_goes_46 ?_
    refine g_add iX11_goes_47 ?_
    refine g_il iX11_goes_48 rfl ?_
    refine g_il iX11_goes_49 rfl ?_
    refine g_ic3f iX11_goes_50 c2 ?_
    refine g_il iX11_goes_53 rfl ?_
    refine g_goto iX11_goes_54 ?_
    obtain ⟨o8, H⟩ := H
    refine g_st iX11_goes_58 (ln_126 L) (by decide) o8 rfl ?_
    refine g_al iX11_goes_59 rfl ?_
    refine g_gr iX11_goes_60 fr_11_0_125 ?_
    refine g_il iX11_goes_63 rfl ?_
    refine g_c iX11_goes_65 ?_
    refine g_add iX11_goes_66 ?_
    refine g_il iX11_goes_67 rfl ?_
    obtain ⟨o9, H⟩ := H
    refine g_st iX11_goes_69 (ln_126 L) (by decide) o9 rfl ?_
    refine g_al iX11_goes_70 rfl ?_
    refine g_gr iX11_goes_71 fr_11_0_125 ?_
    refine g_il iX11_goes_74 rfl ?_
    refine g_c iX11_goes_76 ?_
    refine g_add iX11_goes_77 ?_
    refine g_c iX11_goes_78 ?_
    obtain ⟨o10, H⟩ := H
    refine g_st iX11_goes_79 (ln_126 L) (by decide) o10 rfl ?_
    refine g_al iX11_goes_80 rfl ?_
    refine g_gr iX11_goes_81 fr_11_0_125 ?_
    refine g_c iX11_goes_84 ?_
    refine g_dup2 iX11_goes_85 ?_
    refine g_ld iX11_goes_86 (ln_126 L) (by decide) ?_
    refine g_c iX11_goes_87 ?_
    refine g_add iX11_goes_88 ?_
    refine g_st iX11_goes_89 (ln_126 L) (by decide) (by decide) rfl ?_
    refine g_al iX11_goes_90 rfl ?_
    refine g_gr iX11_goes_91 fr_11_0_125 ?_
    refine g_c iX11_goes_94 ?_
    refine g_ld iX11_goes_95 (ln_126 L) (by decide) ?_
    refine g_c iX11_goes_96 ?_
    refine g_sub iX11_goes_97 ?_
    exact g_ri iX11_goes_98 (Or.inl rfl) H
set_option maxRecDepth 20000 in
set_option maxHeartbeats 4000000 in
theorem bX11_road (L d : Nat) (x1 : Int) (x2 : Int) (x3 : Int) (σ : rx_St) (K : Int → rx_St → Prop)
    (H : rx_CI L d mX11_in [.inl x1, .inl 0, .inl 5] σ (fun v2 σ1 => if v2 = 0 then (K (-1000000001) σ1) else (rx_CI L d mX11_in [.inl x3, .inl 1, .inl 9] σ1 (fun v5 σ4 => if v5 = 0 then (K (-1000000001) σ4) else (if x2 < 0 then (K (-1000000001) σ4) else (rx_CI L d mX11_isPost [.inr 125, .inl (rx_w (Int.tdiv x2 10))] σ4 (fun v9 σ8 => if v9 = 0 then (K (-1000000001) σ8) else (rx_CI L d mX11_isPost [.inr 125, .inl (Int.tmod x2 10)] σ8 (fun v12 σ11 => if v12 = 0 then (K (-1000000001) σ11) else (if (rx_w (Int.tdiv x2 10)) = (Int.tmod x2 10) then (K (-1000000001) σ11) else (rx_CI L d mX11_isBetween [.inr 125, .inl (rx_w (Int.tdiv x2 10)), .inl (Int.tmod x2 10)] σ11 (fun v16 σ15 => if v16 = 0 then (if (σ15 126 2) ≠ 18 then (rx_CI L d mX11_goes [.inr 125, .inl x1, .inl (rx_w (Int.tdiv x2 10)), .inl (Int.tmod x2 10), .inl x3] σ15 (fun v20 σ19 => K v20 σ19)) else (K (-1000000003) σ15)) else (K (-1000000002) σ15))))))))))))) :
    rx_CI L (d + 1) mX11_road [.inr 125, .inl x1, .inl x2, .inl x3] σ K := by
  refine rx_CI.of (la := [some (.inr 125), some (.inl x1), some (.inl x2), some (.inl x3), none]) rfl ?_
  refine g_il iX11_road_0 rfl ?_
  refine g_c iX11_road_1 ?_
  refine g_c iX11_road_2 ?_
  refine g_ci (as := [.inl x1, .inl 0, .inl 5]) (rest := []) iX11_road_3 rfl rfl (Nat.le_of_ble_eq_true rfl) (Or.inl (by decide)) (rx_CI.imp H (fun v2 σ1 H => ?_))
  by_cases c3 : v2 = 0
  · rw [if_pos c3] at H
    refine g_if0t iX11_road_6 c3 ?_
    refine g_c iX11_road_60 ?_
    refine g_is iX11_road_61 (Nat.le_of_ble_eq_true rfl) ?_
    refine rx_Go.ls (la := [some (.inr 125), some (.inl x1), some (.inl x2), some (.inl x3), some (.inl 0)]) rfl ?_
    refine g_il iX11_road_63 rfl ?_
    refine g_if1f iX11_road_65 (by decide) ?_
    refine g_c iX11_road_68 ?_
    exact g_ri iX11_road_70 (Or.inl rfl) H
  · rw [if_neg c3] at H
    refine g_if0f iX11_road_6 c3 ?_
    refine g_il iX11_road_9 rfl ?_
    refine g_c iX11_road_10 ?_
    refine g_c iX11_road_11 ?_
    refine g_ci (as := [.inl x3, .inl 1, .inl 9]) (rest := []) iX11_road_13 rfl rfl (Nat.le_of_ble_eq_true rfl) (Or.inl (by decide)) (rx_CI.imp H (fun v5 σ4 H => ?_))
    by_cases c6 : v5 = 0
    · rw [if_pos c6] at H
      refine g_if0t iX11_road_16 c6 ?_
      refine g_c iX11_road_60 ?_
      refine g_is iX11_road_61 (Nat.le_of_ble_eq_true rfl) ?_
      refine rx_Go.ls (la := [some (.inr 125), some (.inl x1), some (.inl x2), some (.inl x3), some (.inl 0)]) rfl ?_
      refine g_il iX11_road_63 rfl ?_
      refine g_if1f iX11_road_65 (by decide) ?_
      refine g_c iX11_road_68 ?_
      exact g_ri iX11_road_70 (Or.inl rfl) H
    · rw [if_neg c6] at H
      refine g_if0f iX11_road_16 c6 ?_
      refine g_il iX11_road_19 rfl ?_
      by_cases c7 : x2 < 0
      · rw [if_pos c7] at H
        refine g_if2t iX11_road_20 c7 ?_
        refine g_c iX11_road_60 ?_
        refine g_is iX11_road_61 (Nat.le_of_ble_eq_true rfl) ?_
        refine rx_Go.ls (la := [some (.inr 125), some (.inl x1), some (.inl x2), some (.inl x3), some (.inl 0)]) rfl ?_
        refine g_il iX11_road_63 rfl ?_
        refine g_if1f iX11_road_65 (by decide) ?_
        refine g_c iX11_road_68 ?_
        exact g_ri iX11_road_70 (Or.inl rfl) H
      · rw [if_neg c7] at H
        refine g_if2f iX11_road_20 c7 ?_
        refine g_al iX11_road_23 rfl ?_
        refine g_il iX11_road_24 rfl ?_
        refine g_c iX11_road_25 ?_
        refine g_div iX11_road_27 (by decide) ?_
        refine g_ci (as := [.inr 125, .inl (rx_w (Int.tdiv x2 10))]) (rest := []) iX11_road_28 rfl rfl (Nat.le_of_ble_eq_true rfl) (Or.inr ⟨_, _, rfl, oo_11_125⟩) (rx_CI.imp H (fun v9 σ8 H => ?_))
        by_cases c10 : v9 = 0
        · rw [if_pos c10] at H
          refine g_if0t iX11_road_31 c10 ?_
          refine g_c iX11_road_60 ?_
          refine g_is iX11_road_61 (Nat.le_of_ble_eq_true rfl) ?_
          refine rx_Go.ls (la := [some (.inr 125), some (.inl x1), some (.inl x2), some (.inl x3), some (.inl 0)]) rfl ?_
          refine g_il iX11_road_63 rfl ?_
          refine g_if1f iX11_road_65 (by decide) ?_
          refine g_c iX11_road_68 ?_
          exact g_ri iX11_road_70 (Or.inl rfl) H
        · rw [if_neg c10] at H
          refine g_if0f iX11_road_31 c10 ?_
          refine g_al iX11_road_34 rfl ?_
          refine g_il iX11_road_35 rfl ?_
          refine g_c iX11_road_36 ?_
          refine g_rem iX11_road_38 (by decide) ?_
          refine g_ci (as := [.inr 125, .inl (Int.tmod x2 10)]) (rest := []) iX11_road_39 rfl rfl (Nat.le_of_ble_eq_true rfl) (Or.inr ⟨_, _, rfl, oo_11_125⟩) (rx_CI.imp H (fun v12 σ11 H => ?_))
          by_cases c13 : v12 = 0
          · rw [if_pos c13] at H
            refine g_if0t iX11_road_42 c13 ?_
            refine g_c iX11_road_60 ?_
            refine g_is iX11_road_61 (Nat.le_of_ble_eq_true rfl) ?_
            refine rx_Go.ls (la := [some (.inr 125), some (.inl x1), some (.inl x2), some (.inl x3), some (.inl 0)]) rfl ?_
            refine g_il iX11_road_63 rfl ?_
            refine g_if1f iX11_road_65 (by decide) ?_
            refine g_c iX11_road_68 ?_
            exact g_ri iX11_road_70 (Or.inl rfl) H
          · rw [if_neg c13] at H
            refine g_if0f iX11_road_42 c13 ?_
            refine g_il iX11_road_45 rfl ?_
            refine g_c iX11_road_46 ?_
            refine g_div iX11_road_48 (by decide) ?_
            refine g_il iX11_road_49 rfl ?_
            refine g_c iX11_road_50 ?_
            refine g_rem iX11_road_52 (by decide) ?_
            by_cases c14 : (rx_w (Int.tdiv x2 10)) = (Int.tmod x2 10)
            · rw [if_pos c14] at H
              refine g_ic0t iX11_road_53 c14 ?_
              refine g_c iX11_road_60 ?_
              refine g_is iX11_road_61 (Nat.le_of_ble_eq_true rfl) ?_
              refine rx_Go.ls (la := [some (.inr 125), some (.inl x1), some (.inl x2), some (.inl x3), some (.inl 0)]) rfl ?_
              refine g_il iX11_road_63 rfl ?_
              refine g_if1f iX11_road_65 (by decide) ?_
              refine g_c iX11_road_68 ?_
              exact g_ri iX11_road_70 (Or.inl rfl) H
            · rw [if_neg c14] at H
              refine g_ic0f iX11_road_53 c14 ?_
              refine g_c iX11_road_56 ?_
              refine g_goto iX11_road_57 ?_
              refine g_is iX11_road_61 (Nat.le_of_ble_eq_true rfl) ?_
              refine rx_Go.ls (la := [some (.inr 125), some (.inl x1), some (.inl x2), some (.inl x3), some (.inl 1)]) rfl ?_
              refine g_il iX11_road_63 rfl ?_
              refine g_if1t iX11_road_65 (by decide) ?_
              refine g_al iX11_road_71 rfl ?_
              refine g_il iX11_road_72 rfl ?_
              refine g_c iX11_road_73 ?_
              refine g_div iX11_road_75 (by decide) ?_
              refine g_il iX11_road_76 rfl ?_
              refine g_c iX11_road_77 ?_
              refine g_rem iX11_road_79 (by decide) ?_
              refine g_ci (as := [.inr 125, .inl (rx_w (Int.tdiv x2 10)), .inl (Int.tmod x2 10)]) (rest := []) iX11_road_80 rfl rfl (Nat.le_of_ble_eq_true rfl) (Or.inr ⟨_, _, rfl, oo_11_125⟩) (rx_CI.imp H (fun v16 σ15 H => ?_))
              by_cases c17 : v16 = 0
              · rw [if_pos c17] at H
                refine g_if0t iX11_road_83 c17 ?_
                refine g_al iX11_road_89 rfl ?_
                refine g_gr iX11_road_90 fr_11_0_125 ?_
                refine g_c iX11_road_93 ?_
                refine g_ld iX11_road_94 (ln_126 L) (by decide) ?_
                refine g_c iX11_road_95 ?_
                by_cases c18 : (σ15 126 2) ≠ 18
                · rw [if_pos c18] at H
                  refine g_ic1t iX11_road_97 c18 ?_
                  refine g_al iX11_road_105 rfl ?_
                  refine g_il iX11_road_106 rfl ?_
                  refine g_il iX11_road_107 rfl ?_
                  refine g_c iX11_road_108 ?_
                  refine g_div iX11_road_110 (by decide) ?_
                  refine g_il iX11_road_111 rfl ?_
                  refine g_c iX11_road_112 ?_
                  refine g_rem iX11_road_114 (by decide) ?_
                  refine g_il iX11_road_115 rfl ?_
                  refine g_ci (as := [.inr 125, .inl x1, .inl (rx_w (Int.tdiv x2 10)), .inl (Int.tmod x2 10), .inl x3]) (rest := []) iX11_road_116 rfl rfl (Nat.le_of_ble_eq_true rfl) (Or.inr ⟨_, _, rfl, oo_11_125⟩) (rx_CI.imp H (fun v20 σ19 H => ?_))
                  exact g_ri iX11_road_119 (Or.inl rfl) H
                · rw [if_neg c18] at H
                  refine g_ic1f iX11_road_97 c18 ?_
                  refine g_c iX11_road_100 ?_
                  refine g_goto iX11_road_102 ?_
                  exact g_ri iX11_road_119 (Or.inl rfl) H
              · rw [if_neg c17] at H
                refine g_if0f iX11_road_83 c17 ?_
                refine g_c iX11_road_86 ?_
                exact g_ri iX11_road_88 (Or.inl rfl) H
set_option maxRecDepth 20000 in
set_option maxHeartbeats 4000000 in
theorem bX11_harmOf (L d : Nat) (x1 : Int) (σ : rx_St) (K : Int → rx_St → Prop)
    (H : rx_CI L d mX11_counts [.inr 125, .inl 0] σ (fun v2 σ1 => rx_CI L d mX11_of [.inr 125, .inl x1, .inl 3] σ1 (fun v4 σ3 => rx_CI L d mX11_lesser [.inr 125, .inl x1] (rx_up σ3 149 0 v4) (fun v6 σ5 => rx_CI L d mX11_greater [.inr 125, .inl x1] (rx_up σ5 149 1 v6) (fun v8 σ7 => if 0 ≤ v2 then (rx_CI L d mX11_worksOut [.inr 125, .inl v2] (rx_up σ7 149 2 v8) (fun v11 σ10 => rx_CI L d mX11_within [.inl v11, .inl 0, .inl 99] σ10 (fun v13 σ12 => rx_CI L d mX11_of [.inr 125, .inl x1, .inl 0] σ12 (fun v15 σ14 => if v15 = 1 then (K (rx_w (v13 + 2)) σ14) else (if v15 = 2 then (K (rx_w (Int.tdiv (rx_w (v13 + 1)) 2)) σ14) else (if v15 = 3 then (K (rx_w (2 * (rx_w (v13 + 2)))) σ14) else (if v15 = 4 then (rx_CI L d mX11_of [.inr 125, .inl x1, .inl 3] σ14 (fun v21 σ20 => K (rx_w ((rx_w (Int.tdiv (rx_w (v13 + 1)) 2)) + v21)) σ20)) else (if v15 = 5 then (K 0 σ14) else (K v13 σ14))))))))) else (rx_CI L d mX11_of [.inr 125, .inl x1, .inl 3] (rx_up σ7 149 2 v8) (fun v24 σ23 => rx_CI L d mX11_of [.inr 125, .inl x1, .inl 0] σ23 (fun v26 σ25 => if v26 = 1 then (K (rx_w (v24 + 2)) σ25) else (if v26 = 2 then (K (rx_w (Int.tdiv (rx_w (v24 + 1)) 2)) σ25) else (if v26 = 3 then (K (rx_w (2 * (rx_w (v24 + 2)))) σ25) else (if v26 = 4 then (rx_CI L d mX11_of [.inr 125, .inl x1, .inl 3] σ25 (fun v32 σ31 => K (rx_w ((rx_w (Int.tdiv (rx_w (v24 + 1)) 2)) + v32)) σ31)) else (if v26 = 5 then (K 0 σ25) else (K v24 σ25))))))))))))) :
    rx_CI L (d + 1) mX11_harmOf [.inr 125, .inl x1] σ K := by
  refine rx_CI.of (la := [some (.inr 125), some (.inl x1), none, none]) rfl ?_
  refine g_al iX11_harmOf_0 rfl ?_
  refine g_c iX11_harmOf_1 ?_
  refine g_ci (as := [.inr 125, .inl 0]) (rest := []) iX11_harmOf_2 rfl rfl (Nat.le_of_ble_eq_true rfl) (Or.inr ⟨_, _, rfl, oo_11_125⟩) (rx_CI.imp H (fun v2 σ1 H => ?_))
  refine g_is iX11_harmOf_5 (Nat.le_of_ble_eq_true rfl) ?_
  refine rx_Go.ls (la := [some (.inr 125), some (.inl x1), some (.inl v2), none]) rfl ?_
  refine g_al iX11_harmOf_6 rfl ?_
  refine g_gr iX11_harmOf_7 fr_11_38_125 ?_
  refine g_c iX11_harmOf_10 ?_
  refine g_al iX11_harmOf_11 rfl ?_
  refine g_il iX11_harmOf_12 rfl ?_
  refine g_c iX11_harmOf_13 ?_
  refine g_ci (as := [.inr 125, .inl x1, .inl 3]) (rest := [.inl 0, .inr 149]) iX11_harmOf_14 rfl rfl (Nat.le_of_ble_eq_true rfl) (Or.inr ⟨_, _, rfl, oo_11_125⟩) (rx_CI.imp H (fun v4 σ3 H => ?_))
  refine g_st iX11_harmOf_17 (ln_149 L) (by decide) (by decide) rfl ?_
  refine g_al iX11_harmOf_18 rfl ?_
  refine g_gr iX11_harmOf_19 fr_11_38_125 ?_
  refine g_c iX11_harmOf_22 ?_
  refine g_al iX11_harmOf_23 rfl ?_
  refine g_il iX11_harmOf_24 rfl ?_
  refine g_ci (as := [.inr 125, .inl x1]) (rest := [.inl 1, .inr 149]) iX11_harmOf_25 rfl rfl (Nat.le_of_ble_eq_true rfl) (Or.inr ⟨_, _, rfl, oo_11_125⟩) (rx_CI.imp H (fun v6 σ5 H => ?_))
  refine g_st iX11_harmOf_28 (ln_149 L) (by decide) (by decide) rfl ?_
  refine g_al iX11_harmOf_29 rfl ?_
  refine g_gr iX11_harmOf_30 fr_11_38_125 ?_
  refine g_c iX11_harmOf_33 ?_
  refine g_al iX11_harmOf_34 rfl ?_
  refine g_il iX11_harmOf_35 rfl ?_
  refine g_ci (as := [.inr 125, .inl x1]) (rest := [.inl 2, .inr 149]) iX11_harmOf_36 rfl rfl (Nat.le_of_ble_eq_true rfl) (Or.inr ⟨_, _, rfl, oo_11_125⟩) (rx_CI.imp H (fun v8 σ7 H => ?_))
  refine g_st iX11_harmOf_39 (ln_149 L) (by decide) (by decide) rfl ?_
  refine g_il iX11_harmOf_40 rfl ?_
  by_cases c9 : 0 ≤ v2
  · rw [if_pos c9] at H
    refine g_if3t iX11_harmOf_41 c9 ?_
    refine g_al iX11_harmOf_53 rfl ?_
    refine g_il iX11_harmOf_54 rfl ?_
    refine g_ci (as := [.inr 125, .inl v2]) (rest := []) iX11_harmOf_55 rfl rfl (Nat.le_of_ble_eq_true rfl) (Or.inr ⟨_, _, rfl, oo_11_125⟩) (rx_CI.imp H (fun v11 σ10 H => ?_))
    refine g_c iX11_harmOf_58 ?_
    refine g_c iX11_harmOf_59 ?_
    refine g_ci (as := [.inl v11, .inl 0, .inl 99]) (rest := []) iX11_harmOf_61 rfl rfl (Nat.le_of_ble_eq_true rfl) (Or.inl (by decide)) (rx_CI.imp H (fun v13 σ12 H => ?_))
    refine g_is iX11_harmOf_64 (Nat.le_of_ble_eq_true rfl) ?_
    refine rx_Go.ls (la := [some (.inr 125), some (.inl x1), some (.inl v2), some (.inl v13)]) rfl ?_
    refine g_al iX11_harmOf_65 rfl ?_
    refine g_il iX11_harmOf_66 rfl ?_
    refine g_c iX11_harmOf_67 ?_
    refine g_ci (as := [.inr 125, .inl x1, .inl 0]) (rest := []) iX11_harmOf_68 rfl rfl (Nat.le_of_ble_eq_true rfl) (Or.inr ⟨_, _, rfl, oo_11_125⟩) (rx_CI.imp H (fun v15 σ14 H => ?_))
    by_cases c16 : v15 = 1
    · rw [if_pos c16] at H
      refine g_sw iX11_harmOf_71 (by simp only [rx_sw]; rw [if_pos c16]) ?_
      refine g_il iX11_harmOf_104 rfl ?_
      refine g_c iX11_harmOf_105 ?_
      refine g_add iX11_harmOf_106 ?_
      exact g_ri iX11_harmOf_107 (Or.inl rfl) H
    · rw [if_neg c16] at H
      by_cases c17 : v15 = 2
      · rw [if_pos c17] at H
        refine g_sw iX11_harmOf_71 (by simp only [rx_sw]; rw [if_neg c16, if_pos c17]) ?_
        refine g_il iX11_harmOf_108 rfl ?_
        refine g_c iX11_harmOf_109 ?_
        refine g_add iX11_harmOf_110 ?_
        refine g_c iX11_harmOf_111 ?_
        refine g_div iX11_harmOf_112 (by decide) ?_
        exact g_ri iX11_harmOf_113 (Or.inl rfl) H
      · rw [if_neg c17] at H
        by_cases c18 : v15 = 3
        · rw [if_pos c18] at H
          refine g_sw iX11_harmOf_71 (by simp only [rx_sw]; rw [if_neg c16, if_neg c17, if_pos c18]) ?_
          refine g_c iX11_harmOf_114 ?_
          refine g_il iX11_harmOf_115 rfl ?_
          refine g_c iX11_harmOf_116 ?_
          refine g_add iX11_harmOf_117 ?_
          refine g_mul iX11_harmOf_118 ?_
          exact g_ri iX11_harmOf_119 (Or.inl rfl) H
        · rw [if_neg c18] at H
          by_cases c19 : v15 = 4
          · rw [if_pos c19] at H
            refine g_sw iX11_harmOf_71 (by simp only [rx_sw]; rw [if_neg c16, if_neg c17, if_neg c18, if_pos c19]) ?_
            refine g_il iX11_harmOf_120 rfl ?_
            refine g_c iX11_harmOf_121 ?_
            refine g_add iX11_harmOf_122 ?_
            refine g_c iX11_harmOf_123 ?_
            refine g_div iX11_harmOf_124 (by decide) ?_
            refine g_al iX11_harmOf_125 rfl ?_
            refine g_il iX11_harmOf_126 rfl ?_
            refine g_c iX11_harmOf_127 ?_
            refine g_ci (as := [.inr 125, .inl x1, .inl 3]) (rest := [.inl (rx_w (Int.tdiv (rx_w (v13 + 1)) 2))]) iX11_harmOf_128 rfl rfl (Nat.le_of_ble_eq_true rfl) (Or.inr ⟨_, _, rfl, oo_11_125⟩) (rx_CI.imp H (fun v21 σ20 H => ?_))
            refine g_add iX11_harmOf_131 ?_
            exact g_ri iX11_harmOf_132 (Or.inl rfl) H
          · rw [if_neg c19] at H
            by_cases c22 : v15 = 5
            · rw [if_pos c22] at H
              refine g_sw iX11_harmOf_71 (by simp only [rx_sw]; rw [if_neg c16, if_neg c17, if_neg c18, if_neg c19, if_pos c22]) ?_
              refine g_c iX11_harmOf_133 ?_
              exact g_ri iX11_harmOf_134 (Or.inl rfl) H
            · rw [if_neg c22] at H
              refine g_sw (t := 135) iX11_harmOf_71 (by simp only [rx_sw, c16, c17, c18, c19, c22, if_false]) ?_
              refine g_il iX11_harmOf_135 rfl ?_
              exact g_ri iX11_harmOf_136 (Or.inl rfl) H
  · rw [if_neg c9] at H
    refine g_if3f iX11_harmOf_41 c9 ?_
    refine g_al iX11_harmOf_44 rfl ?_
    refine g_il iX11_harmOf_45 rfl ?_
    refine g_c iX11_harmOf_46 ?_
    refine g_ci (as := [.inr 125, .inl x1, .inl 3]) (rest := []) iX11_harmOf_47 rfl rfl (Nat.le_of_ble_eq_true rfl) (Or.inr ⟨_, _, rfl, oo_11_125⟩) (rx_CI.imp H (fun v24 σ23 H => ?_))
    refine g_goto iX11_harmOf_50 ?_
    refine g_is iX11_harmOf_64 (Nat.le_of_ble_eq_true rfl) ?_
    refine rx_Go.ls (la := [some (.inr 125), some (.inl x1), some (.inl v2), some (.inl v24)]) rfl ?_
    refine g_al iX11_harmOf_65 rfl ?_
    refine g_il iX11_harmOf_66 rfl ?_
    refine g_c iX11_harmOf_67 ?_
    refine g_ci (as := [.inr 125, .inl x1, .inl 0]) (rest := []) iX11_harmOf_68 rfl rfl (Nat.le_of_ble_eq_true rfl) (Or.inr ⟨_, _, rfl, oo_11_125⟩) (rx_CI.imp H (fun v26 σ25 H => ?_))
    by_cases c27 : v26 = 1
    · rw [if_pos c27] at H
      refine g_sw iX11_harmOf_71 (by simp only [rx_sw]; rw [if_pos c27]) ?_
      refine g_il iX11_harmOf_104 rfl ?_
      refine g_c iX11_harmOf_105 ?_
      refine g_add iX11_harmOf_106 ?_
      exact g_ri iX11_harmOf_107 (Or.inl rfl) H
    · rw [if_neg c27] at H
      by_cases c28 : v26 = 2
      · rw [if_pos c28] at H
        refine g_sw iX11_harmOf_71 (by simp only [rx_sw]; rw [if_neg c27, if_pos c28]) ?_
        refine g_il iX11_harmOf_108 rfl ?_
        refine g_c iX11_harmOf_109 ?_
        refine g_add iX11_harmOf_110 ?_
        refine g_c iX11_harmOf_111 ?_
        refine g_div iX11_harmOf_112 (by decide) ?_
        exact g_ri iX11_harmOf_113 (Or.inl rfl) H
      · rw [if_neg c28] at H
        by_cases c29 : v26 = 3
        · rw [if_pos c29] at H
          refine g_sw iX11_harmOf_71 (by simp only [rx_sw]; rw [if_neg c27, if_neg c28, if_pos c29]) ?_
          refine g_c iX11_harmOf_114 ?_
          refine g_il iX11_harmOf_115 rfl ?_
          refine g_c iX11_harmOf_116 ?_
          refine g_add iX11_harmOf_117 ?_
          refine g_mul iX11_harmOf_118 ?_
          exact g_ri iX11_harmOf_119 (Or.inl rfl) H
        · rw [if_neg c29] at H
          by_cases c30 : v26 = 4
          · rw [if_pos c30] at H
            refine g_sw iX11_harmOf_71 (by simp only [rx_sw]; rw [if_neg c27, if_neg c28, if_neg c29, if_pos c30]) ?_
            refine g_il iX11_harmOf_120 rfl ?_
            refine g_c iX11_harmOf_121 ?_
            refine g_add iX11_harmOf_122 ?_
            refine g_c iX11_harmOf_123 ?_
            refine g_div iX11_harmOf_124 (by decide) ?_
            refine g_al iX11_harmOf_125 rfl ?_
            refine g_il iX11_harmOf_126 rfl ?_
            refine g_c iX11_harmOf_127 ?_
            refine g_ci (as := [.inr 125, .inl x1, .inl 3]) (rest := [.inl (rx_w (Int.tdiv (rx_w (v24 + 1)) 2))]) iX11_harmOf_128 rfl rfl (Nat.le_of_ble_eq_true rfl) (Or.inr ⟨_, _, rfl, oo_11_125⟩) (rx_CI.imp H (fun v32 σ31 H => ?_))
            refine g_add iX11_harmOf_131 ?_
            exact g_ri iX11_harmOf_132 (Or.inl rfl) H
          · rw [if_neg c30] at H
            by_cases c33 : v26 = 5
            · rw [if_pos c33] at H
              refine g_sw iX11_harmOf_71 (by simp only [rx_sw]; rw [if_neg c27, if_neg c28, if_neg c29, if_neg c30, if_pos c33]) ?_
              refine g_c iX11_harmOf_133 ?_
              exact g_ri iX11_harmOf_134 (Or.inl rfl) H
            · rw [if_neg c33] at H
              refine g_sw (t := 135) iX11_harmOf_71 (by simp only [rx_sw, c27, c28, c29, c30, c33, if_false]) ?_
              refine g_il iX11_harmOf_135 rfl ?_
              exact g_ri iX11_harmOf_136 (Or.inl rfl) H
set_option maxRecDepth 20000 in
set_option maxHeartbeats 4000000 in
theorem bX11_worthBy (L d : Nat) (x0 : Int) (x1 : Int) (σ : rx_St) (K : Int → rx_St → Prop)
    (H : if x0 = 1 then (K (rx_w (15 - x1)) σ) else (if x0 = 2 then (K (rx_w (Int.tdiv (rx_w (10 - x1)) 2)) σ) else (if x0 = 3 then (K (rx_w (15 - (rx_w (2 * x1)))) σ) else (if x0 = 4 then (K (rx_w (Int.tdiv (rx_w (10 - x1)) 2)) σ) else (if x0 = 5 then (K 20 σ) else (K (rx_w (10 - x1)) σ)))))) :
    rx_CI L d mX11_worthBy [.inl x0, .inl x1] σ K := by
  refine rx_CI.of (la := [some (.inl x0), some (.inl x1)]) rfl ?_
  refine g_il iX11_worthBy_0 rfl ?_
  by_cases c1 : x0 = 1
  · rw [if_pos c1] at H
    refine g_sw iX11_worthBy_1 (by simp only [rx_sw]; rw [if_pos c1]) ?_
    refine g_c iX11_worthBy_36 ?_
    refine g_il iX11_worthBy_38 rfl ?_
    refine g_sub iX11_worthBy_39 ?_
    exact g_ri iX11_worthBy_40 (Or.inl rfl) H
  · rw [if_neg c1] at H
    by_cases c2 : x0 = 2
    · rw [if_pos c2] at H
      refine g_sw iX11_worthBy_1 (by simp only [rx_sw]; rw [if_neg c1, if_pos c2]) ?_
      refine g_c iX11_worthBy_41 ?_
      refine g_il iX11_worthBy_43 rfl ?_
      refine g_sub iX11_worthBy_44 ?_
      refine g_c iX11_worthBy_45 ?_
      refine g_div iX11_worthBy_46 (by decide) ?_
      exact g_ri iX11_worthBy_47 (Or.inl rfl) H
    · rw [if_neg c2] at H
      by_cases c3 : x0 = 3
      · rw [if_pos c3] at H
        refine g_sw iX11_worthBy_1 (by simp only [rx_sw]; rw [if_neg c1, if_neg c2, if_pos c3]) ?_
        refine g_c iX11_worthBy_48 ?_
        refine g_c iX11_worthBy_50 ?_
        refine g_il iX11_worthBy_51 rfl ?_
        refine g_mul iX11_worthBy_52 ?_
        refine g_sub iX11_worthBy_53 ?_
        exact g_ri iX11_worthBy_54 (Or.inl rfl) H
      · rw [if_neg c3] at H
        by_cases c4 : x0 = 4
        · rw [if_pos c4] at H
          refine g_sw iX11_worthBy_1 (by simp only [rx_sw]; rw [if_neg c1, if_neg c2, if_neg c3, if_pos c4]) ?_
          refine g_c iX11_worthBy_41 ?_
          refine g_il iX11_worthBy_43 rfl ?_
          refine g_sub iX11_worthBy_44 ?_
          refine g_c iX11_worthBy_45 ?_
          refine g_div iX11_worthBy_46 (by decide) ?_
          exact g_ri iX11_worthBy_47 (Or.inl rfl) H
        · rw [if_neg c4] at H
          by_cases c5 : x0 = 5
          · rw [if_pos c5] at H
            refine g_sw iX11_worthBy_1 (by simp only [rx_sw]; rw [if_neg c1, if_neg c2, if_neg c3, if_neg c4, if_pos c5]) ?_
            refine g_c iX11_worthBy_55 ?_
            exact g_ri iX11_worthBy_57 (Or.inl rfl) H
          · rw [if_neg c5] at H
            refine g_sw (t := 58) iX11_worthBy_1 (by simp only [rx_sw, c1, c2, c3, c4, c5, if_false]) ?_
            refine g_c iX11_worthBy_58 ?_
            refine g_il iX11_worthBy_60 rfl ?_
            refine g_sub iX11_worthBy_61 ?_
            exact g_ri iX11_worthBy_62 (Or.inl rfl) H
set_option maxRecDepth 20000 in
set_option maxHeartbeats 4000000 in
theorem bX11_told (L d : Nat) (x1 : Int) (x2 : Int) (σ : rx_St) (K : Int → rx_St → Prop)
    (H : rx_CI L d mX11_isRoad [.inr 125, .inl x1] σ (fun v2 σ1 => if v2 = 0 then (K (-1000000001) σ1) else (rx_CI L d mX11_in [.inl x2, .inl 0, .inl 6] σ1 (fun v5 σ4 => if v5 ≠ 0 then (if x2 ≠ 5 then (if x2 ≠ 6 then (rx_CI L d mX11_of [.inr 125, .inl x1, .inl x2] σ4 (fun v10 σ9 => K v10 σ9)) else (rx_CI L d mX11_of [.inr 125, .inl x1, .inl 0] σ4 (fun v12 σ11 => rx_CI L d mX11_of [.inr 125, .inl x1, .inl 3] σ11 (fun v14 σ13 => rx_CI L d mX11_worthBy [.inl v12, .inl v14] σ13 (fun v16 σ15 => K v16 σ15))))) else (rx_CI L d mX11_harmOf [.inr 125, .inl x1] σ4 (fun v18 σ17 => K v18 σ17))) else (K (-1000000001) σ4))))) :
    rx_CI L (d + 1) mX11_told [.inr 125, .inl x1, .inl x2] σ K := by
  refine rx_CI.of (la := [some (.inr 125), some (.inl x1), some (.inl x2)]) rfl ?_
  refine g_al iX11_told_0 rfl ?_
  refine g_il iX11_told_1 rfl ?_
  refine g_ci (as := [.inr 125, .inl x1]) (rest := []) iX11_told_2 rfl rfl (Nat.le_of_ble_eq_true rfl) (Or.inr ⟨_, _, rfl, oo_11_125⟩) (rx_CI.imp H (fun v2 σ1 H => ?_))
  by_cases c3 : v2 = 0
  · rw [if_pos c3] at H
    refine g_if0t iX11_told_5 c3 ?_
    refine g_c iX11_told_18 ?_
    exact g_ri iX11_told_20 (Or.inl rfl) H
  · rw [if_neg c3] at H
    refine g_if0f iX11_told_5 c3 ?_
    refine g_il iX11_told_8 rfl ?_
    refine g_c iX11_told_9 ?_
    refine g_c iX11_told_10 ?_
    refine g_ci (as := [.inl x2, .inl 0, .inl 6]) (rest := []) iX11_told_12 rfl rfl (Nat.le_of_ble_eq_true rfl) (Or.inl (by decide)) (rx_CI.imp H (fun v5 σ4 H => ?_))
    by_cases c6 : v5 ≠ 0
    · rw [if_pos c6] at H
      refine g_if1t iX11_told_15 c6 ?_
      refine g_il iX11_told_21 rfl ?_
      refine g_c iX11_told_22 ?_
      by_cases c7 : x2 ≠ 5
      · rw [if_pos c7] at H
        refine g_ic1t iX11_told_23 c7 ?_
        refine g_il iX11_told_34 rfl ?_
        refine g_c iX11_told_35 ?_
        by_cases c8 : x2 ≠ 6
        · rw [if_pos c8] at H
          refine g_ic1t iX11_told_37 c8 ?_
          refine g_al iX11_told_58 rfl ?_
          refine g_il iX11_told_59 rfl ?_
          refine g_il iX11_told_60 rfl ?_
          refine g_ci (as := [.inr 125, .inl x1, .inl x2]) (rest := []) iX11_told_61 rfl rfl (Nat.le_of_ble_eq_true rfl) (Or.inr ⟨_, _, rfl, oo_11_125⟩) (rx_CI.imp H (fun v10 σ9 H => ?_))
          exact g_ri iX11_told_64 (Or.inl rfl) H
        · rw [if_neg c8] at H
          refine g_ic1f iX11_told_37 c8 ?_
          refine g_al iX11_told_40 rfl ?_
          refine g_il iX11_told_41 rfl ?_
          refine g_c iX11_told_42 ?_
          refine g_ci (as := [.inr 125, .inl x1, .inl 0]) (rest := []) iX11_told_43 rfl rfl (Nat.le_of_ble_eq_true rfl) (Or.inr ⟨_, _, rfl, oo_11_125⟩) (rx_CI.imp H (fun v12 σ11 H => ?_))
          refine g_al iX11_told_46 rfl ?_
          refine g_il iX11_told_47 rfl ?_
          refine g_c iX11_told_48 ?_
          refine g_ci (as := [.inr 125, .inl x1, .inl 3]) (rest := [.inl v12]) iX11_told_49 rfl rfl (Nat.le_of_ble_eq_true rfl) (Or.inr ⟨_, _, rfl, oo_11_125⟩) (rx_CI.imp H (fun v14 σ13 H => ?_))
          refine g_ci (as := [.inl v12, .inl v14]) (rest := []) iX11_told_52 rfl rfl (Nat.le_of_ble_eq_true rfl) (Or.inl (by decide)) (rx_CI.imp H (fun v16 σ15 H => ?_))
          refine g_goto iX11_told_55 ?_
          exact g_ri iX11_told_64 (Or.inl rfl) H
      · rw [if_neg c7] at H
        refine g_ic1f iX11_told_23 c7 ?_
        refine g_al iX11_told_26 rfl ?_
        refine g_il iX11_told_27 rfl ?_
        refine g_ci (as := [.inr 125, .inl x1]) (rest := []) iX11_told_28 rfl rfl (Nat.le_of_ble_eq_true rfl) (Or.inr ⟨_, _, rfl, oo_11_125⟩) (rx_CI.imp H (fun v18 σ17 H => ?_))
        refine g_goto iX11_told_31 ?_
        exact g_ri iX11_told_64 (Or.inl rfl) H
    · rw [if_neg c6] at H
      refine g_if1f iX11_told_15 c6 ?_
      refine g_c iX11_told_18 ?_
      exact g_ri iX11_told_20 (Or.inl rfl) H
set_option maxRecDepth 20000 in
set_option maxHeartbeats 4000000 in
theorem bX11_isUnder (L d : Nat) (x0 : Int) (x1 : Int) (σ : rx_St) (K : Int → rx_St → Prop)
    (H : if x1 = 0 then (K 1 σ) else (if x0 = x1 then (K 1 σ) else (if x1 ≠ 1 then (if x1 ≠ 2 then (K 0 σ) else (if x0 ≠ 4 then (K 0 σ) else (K 1 σ))) else (if x0 = 3 then (K 1 σ) else (if x1 ≠ 2 then (K 0 σ) else (if x0 ≠ 4 then (K 0 σ) else (K 1 σ))))))) :
    rx_CI L d mX11_isUnder [.inl x0, .inl x1] σ K := by
  refine rx_CI.of (la := [some (.inl x0), some (.inl x1)]) rfl ?_
  refine g_il iX11_isUnder_0 rfl ?_
  by_cases c1 : x1 = 0
  · rw [if_pos c1] at H
    refine g_if0t iX11_isUnder_1 c1 ?_
    refine g_c iX11_isUnder_29 ?_
    refine g_goto iX11_isUnder_30 ?_
    exact g_ri iX11_isUnder_34 (by decide) H
  · rw [if_neg c1] at H
    refine g_if0f iX11_isUnder_1 c1 ?_
    refine g_il iX11_isUnder_4 rfl ?_
    refine g_il iX11_isUnder_5 rfl ?_
    by_cases c2 : x0 = x1
    · rw [if_pos c2] at H
      refine g_ic0t iX11_isUnder_6 c2 ?_
      refine g_c iX11_isUnder_29 ?_
      refine g_goto iX11_isUnder_30 ?_
      exact g_ri iX11_isUnder_34 (by decide) H
    · rw [if_neg c2] at H
      refine g_ic0f iX11_isUnder_6 c2 ?_
      refine g_il iX11_isUnder_9 rfl ?_
      refine g_c iX11_isUnder_10 ?_
      by_cases c3 : x1 ≠ 1
      · rw [if_pos c3] at H
        refine g_ic1t iX11_isUnder_11 c3 ?_
        refine g_il iX11_isUnder_19 rfl ?_
        refine g_c iX11_isUnder_20 ?_
        by_cases c4 : x1 ≠ 2
        · rw [if_pos c4] at H
          refine g_ic1t iX11_isUnder_21 c4 ?_
          refine g_c iX11_isUnder_33 ?_
          exact g_ri iX11_isUnder_34 (by decide) H
        · rw [if_neg c4] at H
          refine g_ic1f iX11_isUnder_21 c4 ?_
          refine g_il iX11_isUnder_24 rfl ?_
          refine g_c iX11_isUnder_25 ?_
          by_cases c5 : x0 ≠ 4
          · rw [if_pos c5] at H
            refine g_ic1t iX11_isUnder_26 c5 ?_
            refine g_c iX11_isUnder_33 ?_
            exact g_ri iX11_isUnder_34 (by decide) H
          · rw [if_neg c5] at H
            refine g_ic1f iX11_isUnder_26 c5 ?_
            refine g_c iX11_isUnder_29 ?_
            refine g_goto iX11_isUnder_30 ?_
            exact g_ri iX11_isUnder_34 (by decide) H
      · rw [if_neg c3] at H
        refine g_ic1f iX11_isUnder_11 c3 ?_
        refine g_il iX11_isUnder_14 rfl ?_
        refine g_c iX11_isUnder_15 ?_
        by_cases c6 : x0 = 3
        · rw [if_pos c6] at H
          refine g_ic0t iX11_isUnder_16 c6 ?_
          refine g_c iX11_isUnder_29 ?_
          refine g_goto iX11_isUnder_30 ?_
          exact g_ri iX11_isUnder_34 (by decide) H
        · rw [if_neg c6] at H
          refine g_ic0f iX11_isUnder_16 c6 ?_
          refine g_il iX11_isUnder_19 rfl ?_
          refine g_c iX11_isUnder_20 ?_
          by_cases c7 : x1 ≠ 2
          · rw [if_pos c7] at H
            refine g_ic1t iX11_isUnder_21 c7 ?_
            refine g_c iX11_isUnder_33 ?_
            exact g_ri iX11_isUnder_34 (by decide) H
          · rw [if_neg c7] at H
            refine g_ic1f iX11_isUnder_21 c7 ?_
            refine g_il iX11_isUnder_24 rfl ?_
            refine g_c iX11_isUnder_25 ?_
            by_cases c8 : x0 ≠ 4
            · rw [if_pos c8] at H
              refine g_ic1t iX11_isUnder_26 c8 ?_
              refine g_c iX11_isUnder_33 ?_
              exact g_ri iX11_isUnder_34 (by decide) H
            · rw [if_neg c8] at H
              refine g_ic1f iX11_isUnder_26 c8 ?_
              refine g_c iX11_isUnder_29 ?_
              refine g_goto iX11_isUnder_30 ?_
              exact g_ri iX11_isUnder_34 (by decide) H
set_option maxRecDepth 20000 in
set_option maxHeartbeats 4000000 in
theorem bX11_as (L d : Nat) (x1 : Int) (x2 : Int) (σ : rx_St) (K : Int → rx_St → Prop)
    (H : rx_CI L d mX11_isRoad [.inr 125, .inl x1] σ (fun v2 σ1 => if v2 = 0 then (K (-1000000001) σ1) else (rx_CI L d mX11_in [.inl x2, .inl 0, .inl 5] σ1 (fun v5 σ4 => if v5 ≠ 0 then (rx_CI L d mX11_of [.inr 125, .inl x1, .inl 0] σ4 (fun v8 σ7 => rx_CI L d mX11_isUnder [.inl v8, .inl x2] σ7 (fun v10 σ9 => if v10 = 0 then (K (-1000000012) σ9) else (rx_CI L d mX11_of [.inr 125, .inl x1, .inl 3] σ9 (fun v13 σ12 => K v13 σ12))))) else (K (-1000000001) σ4))))) :
    rx_CI L (d + 1) mX11_as [.inr 125, .inl x1, .inl x2] σ K := by
  refine rx_CI.of (la := [some (.inr 125), some (.inl x1), some (.inl x2)]) rfl ?_
  refine g_al iX11_as_0 rfl ?_
  refine g_il iX11_as_1 rfl ?_
  refine g_ci (as := [.inr 125, .inl x1]) (rest := []) iX11_as_2 rfl rfl (Nat.le_of_ble_eq_true rfl) (Or.inr ⟨_, _, rfl, oo_11_125⟩) (rx_CI.imp H (fun v2 σ1 H => ?_))
  by_cases c3 : v2 = 0
  · rw [if_pos c3] at H
    refine g_if0t iX11_as_5 c3 ?_
    refine g_c iX11_as_17 ?_
    exact g_ri iX11_as_19 (Or.inl rfl) H
  · rw [if_neg c3] at H
    refine g_if0f iX11_as_5 c3 ?_
    refine g_il iX11_as_8 rfl ?_
    refine g_c iX11_as_9 ?_
    refine g_c iX11_as_10 ?_
    refine g_ci (as := [.inl x2, .inl 0, .inl 5]) (rest := []) iX11_as_11 rfl rfl (Nat.le_of_ble_eq_true rfl) (Or.inl (by decide)) (rx_CI.imp H (fun v5 σ4 H => ?_))
    by_cases c6 : v5 ≠ 0
    · rw [if_pos c6] at H
      refine g_if1t iX11_as_14 c6 ?_
      refine g_al iX11_as_20 rfl ?_
      refine g_il iX11_as_21 rfl ?_
      refine g_c iX11_as_22 ?_
      refine g_ci (as := [.inr 125, .inl x1, .inl 0]) (rest := []) iX11_as_23 rfl rfl (Nat.le_of_ble_eq_true rfl) (Or.inr ⟨_, _, rfl, oo_11_125⟩) (rx_CI.imp H (fun v8 σ7 H => ?_))
      refine g_il iX11_as_26 rfl ?_
      refine g_ci (as := [.inl v8, .inl x2]) (rest := []) iX11_as_27 rfl rfl (Nat.le_of_ble_eq_true rfl) (Or.inl (by decide)) (rx_CI.imp H (fun v10 σ9 H => ?_))
      by_cases c11 : v10 = 0
      · rw [if_pos c11] at H
        refine g_if0t iX11_as_30 c11 ?_
        refine g_c iX11_as_42 ?_
        exact g_ri iX11_as_44 (Or.inl rfl) H
      · rw [if_neg c11] at H
        refine g_if0f iX11_as_30 c11 ?_
        refine g_al iX11_as_33 rfl ?_
        refine g_il iX11_as_34 rfl ?_
        refine g_c iX11_as_35 ?_
        refine g_ci (as := [.inr 125, .inl x1, .inl 3]) (rest := []) iX11_as_36 rfl rfl (Nat.le_of_ble_eq_true rfl) (Or.inr ⟨_, _, rfl, oo_11_125⟩) (rx_CI.imp H (fun v13 σ12 H => ?_))
        refine g_goto iX11_as_39 ?_
        exact g_ri iX11_as_44 (Or.inl rfl) H
    · rw [if_neg c6] at H
      refine g_if1f iX11_as_14 c6 ?_
      refine g_c iX11_as_17 ?_
      exact g_ri iX11_as_19 (Or.inl rfl) H
set_option maxRecDepth 20000 in
set_option maxHeartbeats 4000000 in
theorem bX11_becomes (L d : Nat) (x1 : Int) (x2 : Int) (x3 : Int) (σ : rx_St) (K : Int → rx_St → Prop)
    (H : rx_CI L d mX11_of [.inr 125, .inl x1, .inl x2] σ (fun v2 σ1 => (0 ≤ (rx_w ((rx_w (36 + (rx_w (5 * x1)))) + x2)) ∧ (rx_w ((rx_w (36 + (rx_w (5 * x1)))) + x2)) < 1498) ∧ (K v2 (rx_up σ1 126 (rx_w ((rx_w (36 + (rx_w (5 * x1)))) + x2)) x3)))) :
    rx_CI L (d + 1) mX11_becomes [.inr 125, .inl x1, .inl x2, .inl x3] σ K := by
  refine rx_CI.of (la := [some (.inr 125), some (.inl x1), some (.inl x2), some (.inl x3), none]) rfl ?_
  refine g_al iX11_becomes_0 rfl ?_
  refine g_il iX11_becomes_1 rfl ?_
  refine g_il iX11_becomes_2 rfl ?_
  refine g_ci (as := [.inr 125, .inl x1, .inl x2]) (rest := []) iX11_becomes_3 rfl rfl (Nat.le_of_ble_eq_true rfl) (Or.inr ⟨_, _, rfl, oo_11_125⟩) (rx_CI.imp H (fun v2 σ1 H => ?_))
  refine g_is iX11_becomes_6 (Nat.le_of_ble_eq_true rfl) ?_
  refine rx_Go.ls (la := [some (.inr 125), some (.inl x1), some (.inl x2), some (.inl x3), some (.inl v2)]) rfl ?_
  refine g_al iX11_becomes_8 rfl ?_
  refine g_gr iX11_becomes_9 fr_11_0_125 ?_
  refine g_c iX11_becomes_12 ?_
  refine g_c iX11_becomes_14 ?_
  refine g_il iX11_becomes_15 rfl ?_
  refine g_mul iX11_becomes_16 ?_
  refine g_add iX11_becomes_17 ?_
  refine g_il iX11_becomes_18 rfl ?_
  refine g_add iX11_becomes_19 ?_
  refine g_il iX11_becomes_20 rfl ?_
  obtain ⟨o3, H⟩ := H
  refine g_st iX11_becomes_21 (ln_126 L) (by decide) o3 rfl ?_
  refine g_il iX11_becomes_22 rfl ?_
  exact g_ri iX11_becomes_24 (Or.inl rfl) H
set_option maxRecDepth 20000 in
set_option maxHeartbeats 4000000 in
theorem bX11_turns (L d : Nat) (x1 : Int) (x2 : Int) (σ : rx_St) (K : Int → rx_St → Prop)
    (H : rx_CI L d mX11_isRoad [.inr 125, .inl x1] σ (fun v2 σ1 => if v2 = 0 then (K (-1000000001) σ1) else (rx_CI L d mX11_in [.inl x2, .inl 0, .inl 5] σ1 (fun v5 σ4 => if v5 = 0 then (K (-1000000001) σ4) else (rx_CI L d mX11_becomes [.inr 125, .inl x1, .inl 0, .inl x2] σ4 (fun v8 σ7 => K v8 σ7)))))) :
    rx_CI L (d + 1) mX11_turns [.inr 125, .inl x1, .inl x2] σ K := by
  refine rx_CI.of (la := [some (.inr 125), some (.inl x1), some (.inl x2)]) rfl ?_
  refine g_al iX11_turns_0 rfl ?_
  refine g_il iX11_turns_1 rfl ?_
  refine g_ci (as := [.inr 125, .inl x1]) (rest := []) iX11_turns_2 rfl rfl (Nat.le_of_ble_eq_true rfl) (Or.inr ⟨_, _, rfl, oo_11_125⟩) (rx_CI.imp H (fun v2 σ1 H => ?_))
  by_cases c3 : v2 = 0
  · rw [if_pos c3] at H
    refine g_if0t iX11_turns_5 c3 ?_
    refine g_c iX11_turns_27 ?_
    exact g_ri iX11_turns_29 (Or.inl rfl) H
  · rw [if_neg c3] at H
    refine g_if0f iX11_turns_5 c3 ?_
    refine g_il iX11_turns_8 rfl ?_
    refine g_c iX11_turns_9 ?_
    refine g_c iX11_turns_10 ?_
    refine g_ci (as := [.inl x2, .inl 0, .inl 5]) (rest := []) iX11_turns_11 rfl rfl (Nat.le_of_ble_eq_true rfl) (Or.inl (by decide)) (rx_CI.imp H (fun v5 σ4 H => ?_))
    by_cases c6 : v5 = 0
    · rw [if_pos c6] at H
      refine g_if0t iX11_turns_14 c6 ?_
      refine g_c iX11_turns_27 ?_
      exact g_ri iX11_turns_29 (Or.inl rfl) H
    · rw [if_neg c6] at H
      refine g_if0f iX11_turns_14 c6 ?_
      refine g_al iX11_turns_17 rfl ?_
      refine g_il iX11_turns_18 rfl ?_
      refine g_c iX11_turns_19 ?_
      refine g_il iX11_turns_20 rfl ?_
      refine g_ci (as := [.inr 125, .inl x1, .inl 0, .inl x2]) (rest := []) iX11_turns_21 rfl rfl (Nat.le_of_ble_eq_true rfl) (Or.inr ⟨_, _, rfl, oo_11_125⟩) (rx_CI.imp H (fun v8 σ7 H => ?_))
      refine g_goto iX11_turns_24 ?_
      exact g_ri iX11_turns_29 (Or.inl rfl) H
set_option maxRecDepth 20000 in
set_option maxHeartbeats 4000000 in
theorem bX11_set (L d : Nat) (x1 : Int) (x2 : Int) (x3 : Int) (σ : rx_St) (K : Int → rx_St → Prop)
    (H : rx_CI L d mX11_isRoad [.inr 125, .inl x1] σ (fun v2 σ1 => if v2 = 0 then (K (-1000000001) σ1) else (rx_CI L d mX11_in [.inl x2, .inl 0, .inl 1] σ1 (fun v5 σ4 => if v5 = 0 then (K (-1000000001) σ4) else (if x2 ≠ 0 then (rx_CI L d mX11_in [.inl x3, .inl 0, .inl 3] σ4 (fun v9 σ8 => if v9 ≠ 0 then (rx_CI L d mX11_becomes [.inr 125, .inl x1, .inl (rx_w (3 + x2)), .inl x3] σ8 (fun v12 σ11 => K v12 σ11)) else (K (-1000000001) σ8))) else (rx_CI L d mX11_in [.inl x3, .inl 1, .inl 9] σ4 (fun v14 σ13 => if v14 ≠ 0 then (rx_CI L d mX11_becomes [.inr 125, .inl x1, .inl (rx_w (3 + x2)), .inl x3] σ13 (fun v17 σ16 => K v17 σ16)) else (K (-1000000001) σ13)))))))) :
    rx_CI L (d + 1) mX11_set [.inr 125, .inl x1, .inl x2, .inl x3] σ K := by
  refine rx_CI.of (la := [some (.inr 125), some (.inl x1), some (.inl x2), some (.inl x3)]) rfl ?_
  refine g_al iX11_set_0 rfl ?_
  refine g_il iX11_set_1 rfl ?_
  refine g_ci (as := [.inr 125, .inl x1]) (rest := []) iX11_set_2 rfl rfl (Nat.le_of_ble_eq_true rfl) (Or.inr ⟨_, _, rfl, oo_11_125⟩) (rx_CI.imp H (fun v2 σ1 H => ?_))
  by_cases c3 : v2 = 0
  · rw [if_pos c3] at H
    refine g_if0t iX11_set_5 c3 ?_
    refine g_c iX11_set_43 ?_
    exact g_ri iX11_set_45 (Or.inl rfl) H
  · rw [if_neg c3] at H
    refine g_if0f iX11_set_5 c3 ?_
    refine g_il iX11_set_8 rfl ?_
    refine g_c iX11_set_9 ?_
    refine g_c iX11_set_10 ?_
    refine g_ci (as := [.inl x2, .inl 0, .inl 1]) (rest := []) iX11_set_11 rfl rfl (Nat.le_of_ble_eq_true rfl) (Or.inl (by decide)) (rx_CI.imp H (fun v5 σ4 H => ?_))
    by_cases c6 : v5 = 0
    · rw [if_pos c6] at H
      refine g_if0t iX11_set_14 c6 ?_
      refine g_c iX11_set_43 ?_
      exact g_ri iX11_set_45 (Or.inl rfl) H
    · rw [if_neg c6] at H
      refine g_if0f iX11_set_14 c6 ?_
      refine g_il iX11_set_17 rfl ?_
      refine g_il iX11_set_18 rfl ?_
      by_cases c7 : x2 ≠ 0
      · rw [if_pos c7] at H
        refine g_if1t iX11_set_19 c7 ?_
        refine g_c iX11_set_26 ?_
        refine g_il iX11_set_27 rfl ?_
        refine g_if1t iX11_set_28 c7 ?_
        refine g_c iX11_set_36 ?_
        refine g_ci (as := [.inl x3, .inl 0, .inl 3]) (rest := []) iX11_set_37 rfl rfl (Nat.le_of_ble_eq_true rfl) (Or.inl (by decide)) (rx_CI.imp H (fun v9 σ8 H => ?_))
        by_cases c10 : v9 ≠ 0
        · rw [if_pos c10] at H
          refine g_if1t iX11_set_40 c10 ?_
          refine g_al iX11_set_46 rfl ?_
          refine g_il iX11_set_47 rfl ?_
          refine g_c iX11_set_48 ?_
          refine g_il iX11_set_49 rfl ?_
          refine g_add iX11_set_50 ?_
          refine g_il iX11_set_51 rfl ?_
          refine g_ci (as := [.inr 125, .inl x1, .inl (rx_w (3 + x2)), .inl x3]) (rest := []) iX11_set_52 rfl rfl (Nat.le_of_ble_eq_true rfl) (Or.inr ⟨_, _, rfl, oo_11_125⟩) (rx_CI.imp H (fun v12 σ11 H => ?_))
          exact g_ri iX11_set_55 (Or.inl rfl) H
        · rw [if_neg c10] at H
          refine g_if1f iX11_set_40 c10 ?_
          refine g_c iX11_set_43 ?_
          exact g_ri iX11_set_45 (Or.inl rfl) H
      · rw [if_neg c7] at H
        refine g_if1f iX11_set_19 c7 ?_
        refine g_c iX11_set_22 ?_
        refine g_goto iX11_set_23 ?_
        refine g_il iX11_set_27 rfl ?_
        refine g_if1f iX11_set_28 c7 ?_
        refine g_c iX11_set_31 ?_
        refine g_goto iX11_set_33 ?_
        refine g_ci (as := [.inl x3, .inl 1, .inl 9]) (rest := []) iX11_set_37 rfl rfl (Nat.le_of_ble_eq_true rfl) (Or.inl (by decide)) (rx_CI.imp H (fun v14 σ13 H => ?_))
        by_cases c15 : v14 ≠ 0
        · rw [if_pos c15] at H
          refine g_if1t iX11_set_40 c15 ?_
          refine g_al iX11_set_46 rfl ?_
          refine g_il iX11_set_47 rfl ?_
          refine g_c iX11_set_48 ?_
          refine g_il iX11_set_49 rfl ?_
          refine g_add iX11_set_50 ?_
          refine g_il iX11_set_51 rfl ?_
          refine g_ci (as := [.inr 125, .inl x1, .inl (rx_w (3 + x2)), .inl x3]) (rest := []) iX11_set_52 rfl rfl (Nat.le_of_ble_eq_true rfl) (Or.inr ⟨_, _, rfl, oo_11_125⟩) (rx_CI.imp H (fun v17 σ16 H => ?_))
          exact g_ri iX11_set_55 (Or.inl rfl) H
        · rw [if_neg c15] at H
          refine g_if1f iX11_set_40 c15 ?_
          refine g_c iX11_set_43 ?_
          exact g_ri iX11_set_45 (Or.inl rfl) H
set_option maxRecDepth 20000 in
set_option maxHeartbeats 4000000 in
theorem bX11_drop (L d : Nat) (x1 : Int) (σ : rx_St) (K : Int → rx_St → Prop)
    (H : rx_CI L d mX11_isRoad [.inr 125, .inl x1] σ (fun v2 σ1 => if v2 ≠ 0 then (rx_Go L (d + 1) mX11_drop 28 [some (.inr 125), some (.inl x1), some (.inl (rx_w (36 + (rx_w (5 * x1)))))] [] (rx_up σ1 126 2 (rx_w ((σ1 126 2) - 1))) (rx_PI K)) else (K (-1000000001) σ1))) :
    rx_CI L (d + 1) mX11_drop [.inr 125, .inl x1] σ K := by
  refine rx_CI.of (la := [some (.inr 125), some (.inl x1), none]) rfl ?_
  refine g_al iX11_drop_0 rfl ?_
  refine g_il iX11_drop_1 rfl ?_
  refine g_ci (as := [.inr 125, .inl x1]) (rest := []) iX11_drop_2 rfl rfl (Nat.le_of_ble_eq_true rfl) (Or.inr ⟨_, _, rfl, oo_11_125⟩) (rx_CI.imp H (fun v2 σ1 H => ?_))
  by_cases c3 : v2 ≠ 0
  · rw [if_pos c3] at H
    refine g_if1t iX11_drop_5 c3 ?_
    refine g_al iX11_drop_11 rfl ?_
    refine g_gr iX11_drop_12 fr_11_0_125 ?_
    refine g_c iX11_drop_15 ?_
    refine g_dup2 iX11_drop_16 ?_
    refine g_ld iX11_drop_17 (ln_126 L) (by decide) ?_
    refine g_c iX11_drop_18 ?_
    refine g_sub iX11_drop_19 ?_
    refine g_st iX11_drop_20 (ln_126 L) (by decide) (by decide) rfl ?_
    refine g_c iX11_drop_21 ?_
    refine g_c iX11_drop_23 ?_
    refine g_il iX11_drop_24 rfl ?_
    refine g_mul iX11_drop_25 ?_
    refine g_add iX11_drop_26 ?_
    refine g_is iX11_drop_27 (Nat.le_of_ble_eq_true rfl) ?_
    refine rx_Go.ls (la := [some (.inr 125), some (.inl x1), some (.inl (rx_w (36 + (rx_w (5 * x1)))))]) rfl ?_
    exact H
  · rw [if_neg c3] at H
    refine g_if1f iX11_drop_5 c3 ?_
    refine g_c iX11_drop_8 ?_
    exact g_ri iX11_drop_10 (Or.inl rfl) H
set_option maxRecDepth 20000 in
set_option maxHeartbeats 4000000 in
theorem bX11_drop_28 (L d : Nat) (q1 : Option rx_V) (x2 : Int) (σ : rx_St) (K : Int → rx_St → Prop)
    (H : if (rx_w (36 + (rx_w (5 * (σ 126 2))))) ≤ x2 then (K (σ 126 2) σ) else ((0 ≤ (rx_w (x2 + 5)) ∧ (rx_w (x2 + 5)) < 1498) ∧ ((0 ≤ x2 ∧ x2 < 1498) ∧ (rx_Go L (d + 1) mX11_drop 28 [some (.inr 125), q1, some (.inl (rx_w (x2 + 1)))] [] (rx_up σ 126 x2 (σ 126 (rx_w (x2 + 5)))) (rx_PI K))))) :
    rx_Go L (d + 1) mX11_drop 28 [some (.inr 125), q1, some (.inl x2)] [] σ (rx_PI K) := by
  refine g_il iX11_drop_28 rfl ?_
  refine g_c iX11_drop_29 ?_
  refine g_c iX11_drop_31 ?_
  refine g_al iX11_drop_32 rfl ?_
  refine g_gr iX11_drop_33 fr_11_0_125 ?_
  refine g_c iX11_drop_36 ?_
  refine g_ld iX11_drop_37 (ln_126 L) (by decide) ?_
  refine g_mul iX11_drop_38 ?_
  refine g_add iX11_drop_39 ?_
  by_cases c4 : (rx_w (36 + (rx_w (5 * (σ 126 2))))) ≤ x2
  · rw [if_pos c4] at H
    refine g_ic3t iX11_drop_40 c4 ?_
    refine g_al iX11_drop_63 rfl ?_
    refine g_gr iX11_drop_64 fr_11_0_125 ?_
    refine g_c iX11_drop_67 ?_
    refine g_ld iX11_drop_68 (ln_126 L) (by decide) ?_
    exact g_ri iX11_drop_69 (Or.inl rfl) H
  · rw [if_neg c4] at H
    refine g_ic3f iX11_drop_40 c4 ?_
    refine g_al iX11_drop_43 rfl ?_
    refine g_gr iX11_drop_44 fr_11_0_125 ?_
    refine g_il iX11_drop_47 rfl ?_
    refine g_al iX11_drop_48 rfl ?_
    refine g_gr iX11_drop_49 fr_11_0_125 ?_
    refine g_il iX11_drop_52 rfl ?_
    refine g_c iX11_drop_53 ?_
    refine g_add iX11_drop_54 ?_
    obtain ⟨o5, H⟩ := H
    refine g_ld iX11_drop_55 (ln_126 L) o5 ?_
    obtain ⟨o6, H⟩ := H
    refine g_st iX11_drop_56 (ln_126 L) (by decide) o6 rfl ?_
    refine g_ii iX11_drop_57 rfl ?_
    refine rx_Go.ls (la := [some (.inr 125), q1, some (.inl (rx_w (x2 + 1)))]) rfl ?_
    refine g_goto iX11_drop_60 ?_
    exact H
set_option maxRecDepth 20000 in
set_option maxHeartbeats 4000000 in
theorem bX11_areApart (L d : Nat) (x1 : Int) (x2 : Int) (σ : rx_St) (K : Int → rx_St → Prop)
    (H : rx_CI L d mX11_lesser [.inr 125, .inl x1] σ (fun v2 σ1 => rx_CI L d mX11_isFrom [.inr 125, .inl x2, .inl v2] σ1 (fun v4 σ3 => if v4 ≠ 0 then (K 0 σ3) else (rx_CI L d mX11_greater [.inr 125, .inl x1] σ3 (fun v7 σ6 => rx_CI L d mX11_isFrom [.inr 125, .inl x2, .inl v7] σ6 (fun v9 σ8 => if v9 ≠ 0 then (K 0 σ8) else (K 1 σ8))))))) :
    rx_CI L (d + 1) mX11_areApart [.inr 125, .inl x1, .inl x2] σ K := by
  refine rx_CI.of (la := [some (.inr 125), some (.inl x1), some (.inl x2)]) rfl ?_
  refine g_al iX11_areApart_0 rfl ?_
  refine g_il iX11_areApart_1 rfl ?_
  refine g_al iX11_areApart_2 rfl ?_
  refine g_il iX11_areApart_3 rfl ?_
  refine g_ci (as := [.inr 125, .inl x1]) (rest := [.inl x2, .inr 125]) iX11_areApart_4 rfl rfl (Nat.le_of_ble_eq_true rfl) (Or.inr ⟨_, _, rfl, oo_11_125⟩) (rx_CI.imp H (fun v2 σ1 H => ?_))
  refine g_ci (as := [.inr 125, .inl x2, .inl v2]) (rest := []) iX11_areApart_7 rfl rfl (Nat.le_of_ble_eq_true rfl) (Or.inr ⟨_, _, rfl, oo_11_125⟩) (rx_CI.imp H (fun v4 σ3 H => ?_))
  by_cases c5 : v4 ≠ 0
  · rw [if_pos c5] at H
    refine g_if1t iX11_areApart_10 c5 ?_
    refine g_c iX11_areApart_30 ?_
    exact g_ri iX11_areApart_31 (by decide) H
  · rw [if_neg c5] at H
    refine g_if1f iX11_areApart_10 c5 ?_
    refine g_al iX11_areApart_13 rfl ?_
    refine g_il iX11_areApart_14 rfl ?_
    refine g_al iX11_areApart_15 rfl ?_
    refine g_il iX11_areApart_16 rfl ?_
    refine g_ci (as := [.inr 125, .inl x1]) (rest := [.inl x2, .inr 125]) iX11_areApart_17 rfl rfl (Nat.le_of_ble_eq_true rfl) (Or.inr ⟨_, _, rfl, oo_11_125⟩) (rx_CI.imp H (fun v7 σ6 H => ?_))
    refine g_ci (as := [.inr 125, .inl x2, .inl v7]) (rest := []) iX11_areApart_20 rfl rfl (Nat.le_of_ble_eq_true rfl) (Or.inr ⟨_, _, rfl, oo_11_125⟩) (rx_CI.imp H (fun v9 σ8 H => ?_))
    by_cases c10 : v9 ≠ 0
    · rw [if_pos c10] at H
      refine g_if1t iX11_areApart_23 c10 ?_
      refine g_c iX11_areApart_30 ?_
      exact g_ri iX11_areApart_31 (by decide) H
    · rw [if_neg c10] at H
      refine g_if1f iX11_areApart_23 c10 ?_
      refine g_c iX11_areApart_26 ?_
      refine g_goto iX11_areApart_27 ?_
      exact g_ri iX11_areApart_31 (by decide) H
set_option maxRecDepth 20000 in
set_option maxHeartbeats 4000000 in
theorem bX11_findPairs (L d : Nat)  (σ : rx_St) (K : rx_St → Prop)
    (H : rx_Go L (d + 1) mX11_findPairs 2 [some (.inr 125), some (.inl 0), none, none] [] σ (rx_PV K)) :
    rx_CV L (d + 1) mX11_findPairs [.inr 125] σ K := by
  refine rx_CV.of (la := [some (.inr 125), none, none, none]) rfl ?_
  refine g_c iX11_findPairs_0 ?_
  refine g_is iX11_findPairs_1 (Nat.le_of_ble_eq_true rfl) ?_
  refine rx_Go.ls (la := [some (.inr 125), some (.inl 0), none, none]) rfl ?_
  exact H
set_option maxRecDepth 20000 in
set_option maxHeartbeats 4000000 in
theorem bX11_findPairs_2 (L d : Nat) (x1 : Int) (q2 : Option rx_V) (q3 : Option rx_V) (σ : rx_St) (K : rx_St → Prop)
    (H : if (σ 126 2) ≤ x1 then (rx_CI L d mX11_counts [.inr 125, .inl 1] σ (fun v3 σ2 => rx_Go L (d + 1) mX11_findPairs 37 [some (.inr 125), some (.inl v3), some (.inl 0), q3] [] σ2 (rx_PV K))) else (rx_CI L d mX11_harmOf [.inr 125, .inl x1] σ (fun v5 σ4 => (0 ≤ x1 ∧ x1 < 18) ∧ (rx_Go L (d + 1) mX11_findPairs 2 [some (.inr 125), some (.inl (rx_w (x1 + 1))), q2, q3] [] (rx_up σ4 129 x1 v5) (rx_PV K))))) :
    rx_Go L (d + 1) mX11_findPairs 2 [some (.inr 125), some (.inl x1), q2, q3] [] σ (rx_PV K) := by
  refine g_il iX11_findPairs_2 rfl ?_
  refine g_al iX11_findPairs_3 rfl ?_
  refine g_gr iX11_findPairs_4 fr_11_0_125 ?_
  refine g_c iX11_findPairs_7 ?_
  refine g_ld iX11_findPairs_8 (ln_126 L) (by decide) ?_
  by_cases c1 : (σ 126 2) ≤ x1
  · rw [if_pos c1] at H
    refine g_ic3t iX11_findPairs_9 c1 ?_
    refine g_al iX11_findPairs_29 rfl ?_
    refine g_c iX11_findPairs_30 ?_
    refine g_ci (as := [.inr 125, .inl 1]) (rest := []) iX11_findPairs_31 rfl rfl (Nat.le_of_ble_eq_true rfl) (Or.inr ⟨_, _, rfl, oo_11_125⟩) (rx_CI.imp H (fun v3 σ2 H => ?_))
    refine g_is iX11_findPairs_34 (Nat.le_of_ble_eq_true rfl) ?_
    refine rx_Go.ls (la := [some (.inr 125), some (.inl v3), q2, q3]) rfl ?_
    refine g_c iX11_findPairs_35 ?_
    refine g_is iX11_findPairs_36 (Nat.le_of_ble_eq_true rfl) ?_
    refine rx_Go.ls (la := [some (.inr 125), some (.inl v3), some (.inl 0), q3]) rfl ?_
    exact H
  · rw [if_neg c1] at H
    refine g_ic3f iX11_findPairs_9 c1 ?_
    refine g_al iX11_findPairs_12 rfl ?_
    refine g_gr iX11_findPairs_13 fr_11_4_125 ?_
    refine g_il iX11_findPairs_16 rfl ?_
    refine g_al iX11_findPairs_17 rfl ?_
    refine g_il iX11_findPairs_18 rfl ?_
    refine g_ci (as := [.inr 125, .inl x1]) (rest := [.inl x1, .inr 129]) iX11_findPairs_19 rfl rfl (Nat.le_of_ble_eq_true rfl) (Or.inr ⟨_, _, rfl, oo_11_125⟩) (rx_CI.imp H (fun v5 σ4 H => ?_))
    obtain ⟨o6, H⟩ := H
    refine g_st iX11_findPairs_22 (ln_129 L) (by decide) o6 rfl ?_
    refine g_ii iX11_findPairs_23 rfl ?_
    refine rx_Go.ls (la := [some (.inr 125), some (.inl (rx_w (x1 + 1))), q2, q3]) rfl ?_
    refine g_goto iX11_findPairs_26 ?_
    exact H
set_option maxRecDepth 20000 in
set_option maxHeartbeats 4000000 in
theorem bX11_findPairs_37 (L d : Nat) (x1 : Int) (x2 : Int) (q3 : Option rx_V) (σ : rx_St) (K : rx_St → Prop)
    (H : if (σ 126 2) ≤ x2 then (K σ) else (rx_Go L (d + 1) mX11_findPairs 51 [some (.inr 125), some (.inl x1), some (.inl x2), some (.inl (rx_w (x2 + 1)))] [] σ (rx_PV K))) :
    rx_Go L (d + 1) mX11_findPairs 37 [some (.inr 125), some (.inl x1), some (.inl x2), q3] [] σ (rx_PV K) := by
  refine g_il iX11_findPairs_37 rfl ?_
  refine g_al iX11_findPairs_38 rfl ?_
  refine g_gr iX11_findPairs_39 fr_11_0_125 ?_
  refine g_c iX11_findPairs_42 ?_
  refine g_ld iX11_findPairs_43 (ln_126 L) (by decide) ?_
  by_cases c7 : (σ 126 2) ≤ x2
  · rw [if_pos c7] at H
    refine g_ic3t iX11_findPairs_44 c7 ?_
    exact g_rv iX11_findPairs_162 H
  · rw [if_neg c7] at H
    refine g_ic3f iX11_findPairs_44 c7 ?_
    refine g_il iX11_findPairs_47 rfl ?_
    refine g_c iX11_findPairs_48 ?_
    refine g_add iX11_findPairs_49 ?_
    refine g_is iX11_findPairs_50 (Nat.le_of_ble_eq_true rfl) ?_
    refine rx_Go.ls (la := [some (.inr 125), some (.inl x1), some (.inl x2), some (.inl (rx_w (x2 + 1)))]) rfl ?_
    exact H
set_option maxRecDepth 20000 in
set_option maxHeartbeats 4000000 in
theorem bX11_findPairs_51 (L d : Nat) (x1 : Int) (x2 : Int) (x3 : Int) (σ : rx_St) (K : rx_St → Prop)
    (H : if (σ 126 2) ≤ x3 then (rx_Go L (d + 1) mX11_findPairs 37 [some (.inr 125), some (.inl x1), some (.inl (rx_w (x2 + 1))), some (.inl x3)] [] σ (rx_PV K)) else ((0 ≤ x2 ∧ x2 < 18) ∧ ((0 ≤ x3 ∧ x3 < 18) ∧ (if 0 ≤ x1 then (rx_CI L d mX11_worksOut [.inr 125, .inl x1] (rx_up (rx_up σ 149 0 (σ 129 x2)) 149 1 ((rx_up σ 149 0 (σ 129 x2)) 129 x3)) (fun v13 σ12 => rx_CI L d mX11_within [.inl v13, .inl 0, .inl 999] σ12 (fun v15 σ14 => (0 ≤ (rx_w ((rx_w (18 * x2)) + x3)) ∧ (rx_w ((rx_w (18 * x2)) + x3)) < 324) ∧ ((0 ≤ (rx_w ((rx_w (18 * x3)) + x2)) ∧ (rx_w ((rx_w (18 * x3)) + x2)) < 324) ∧ (rx_Go L (d + 1) mX11_findPairs 51 [some (.inr 125), some (.inl x1), some (.inl x2), some (.inl (rx_w (x3 + 1)))] [] (rx_up (rx_up σ14 130 (rx_w ((rx_w (18 * x2)) + x3)) v15) 130 (rx_w ((rx_w (18 * x3)) + x2)) ((rx_up σ14 130 (rx_w ((rx_w (18 * x2)) + x3)) v15) 130 (rx_w ((rx_w (18 * x2)) + x3)))) (rx_PV K)))))) else ((0 ≤ (rx_w ((rx_w (18 * x2)) + x3)) ∧ (rx_w ((rx_w (18 * x2)) + x3)) < 324) ∧ ((0 ≤ (rx_w ((rx_w (18 * x3)) + x2)) ∧ (rx_w ((rx_w (18 * x3)) + x2)) < 324) ∧ (rx_Go L (d + 1) mX11_findPairs 51 [some (.inr 125), some (.inl x1), some (.inl x2), some (.inl (rx_w (x3 + 1)))] [] (rx_up (rx_up (rx_up (rx_up σ 149 0 (σ 129 x2)) 149 1 ((rx_up σ 149 0 (σ 129 x2)) 129 x3)) 130 (rx_w ((rx_w (18 * x2)) + x3)) (rx_w (((rx_up (rx_up σ 149 0 (σ 129 x2)) 149 1 ((rx_up σ 149 0 (σ 129 x2)) 129 x3)) 129 x2) + ((rx_up (rx_up σ 149 0 (σ 129 x2)) 149 1 ((rx_up σ 149 0 (σ 129 x2)) 129 x3)) 129 x3)))) 130 (rx_w ((rx_w (18 * x3)) + x2)) ((rx_up (rx_up (rx_up σ 149 0 (σ 129 x2)) 149 1 ((rx_up σ 149 0 (σ 129 x2)) 129 x3)) 130 (rx_w ((rx_w (18 * x2)) + x3)) (rx_w (((rx_up (rx_up σ 149 0 (σ 129 x2)) 149 1 ((rx_up σ 149 0 (σ 129 x2)) 129 x3)) 129 x2) + ((rx_up (rx_up σ 149 0 (σ 129 x2)) 149 1 ((rx_up σ 149 0 (σ 129 x2)) 129 x3)) 129 x3)))) 130 (rx_w ((rx_w (18 * x2)) + x3)))) (rx_PV K)))))))) :
    rx_Go L (d + 1) mX11_findPairs 51 [some (.inr 125), some (.inl x1), some (.inl x2), some (.inl x3)] [] σ (rx_PV K) := by
  refine g_il iX11_findPairs_51 rfl ?_
  refine g_al iX11_findPairs_52 rfl ?_
  refine g_gr iX11_findPairs_53 fr_11_0_125 ?_
  refine g_c iX11_findPairs_56 ?_
  refine g_ld iX11_findPairs_57 (ln_126 L) (by decide) ?_
  by_cases c8 : (σ 126 2) ≤ x3
  · rw [if_pos c8] at H
    refine g_ic3t iX11_findPairs_58 c8 ?_
    refine g_ii iX11_findPairs_156 rfl ?_
    refine rx_Go.ls (la := [some (.inr 125), some (.inl x1), some (.inl (rx_w (x2 + 1))), some (.inl x3)]) rfl ?_
    refine g_goto iX11_findPairs_159 ?_
    exact H
  · rw [if_neg c8] at H
    refine g_ic3f iX11_findPairs_58 c8 ?_
    refine g_al iX11_findPairs_61 rfl ?_
    refine g_gr iX11_findPairs_62 fr_11_38_125 ?_
    refine g_c iX11_findPairs_65 ?_
    refine g_al iX11_findPairs_66 rfl ?_
    refine g_gr iX11_findPairs_67 fr_11_4_125 ?_
    refine g_il iX11_findPairs_70 rfl ?_
    obtain ⟨o9, H⟩ := H
    refine g_ld iX11_findPairs_71 (ln_129 L) o9 ?_
    refine g_st iX11_findPairs_72 (ln_149 L) (by decide) (by decide) rfl ?_
    refine g_al iX11_findPairs_73 rfl ?_
    refine g_gr iX11_findPairs_74 fr_11_38_125 ?_
    refine g_c iX11_findPairs_77 ?_
    refine g_al iX11_findPairs_78 rfl ?_
    refine g_gr iX11_findPairs_79 fr_11_4_125 ?_
    refine g_il iX11_findPairs_82 rfl ?_
    obtain ⟨o10, H⟩ := H
    refine g_ld iX11_findPairs_83 (ln_129 L) o10 ?_
    refine g_st iX11_findPairs_84 (ln_149 L) (by decide) (by decide) rfl ?_
    refine g_al iX11_findPairs_85 rfl ?_
    refine g_gr iX11_findPairs_86 fr_11_5_125 ?_
    refine g_c iX11_findPairs_89 ?_
    refine g_il iX11_findPairs_91 rfl ?_
    refine g_mul iX11_findPairs_92 ?_
    refine g_il iX11_findPairs_93 rfl ?_
    refine g_add iX11_findPairs_94 ?_
    refine g_il iX11_findPairs_95 rfl ?_
    by_cases c11 : 0 ≤ x1
    · rw [if_pos c11] at H
      refine g_if3t iX11_findPairs_96 c11 ?_
      refine g_al iX11_findPairs_115 rfl ?_
      refine g_il iX11_findPairs_116 rfl ?_
      refine g_ci (as := [.inr 125, .inl x1]) (rest := [.inl (rx_w ((rx_w (18 * x2)) + x3)), .inr 130]) iX11_findPairs_117 rfl rfl (Nat.le_of_ble_eq_true rfl) (Or.inr ⟨_, _, rfl, oo_11_125⟩) (rx_CI.imp H (fun v13 σ12 H => ?_))
      refine g_c iX11_findPairs_120 ?_
      refine g_c iX11_findPairs_121 ?_
      refine g_ci (as := [.inl v13, .inl 0, .inl 999]) (rest := [.inl (rx_w ((rx_w (18 * x2)) + x3)), .inr 130]) iX11_findPairs_124 rfl rfl (Nat.le_of_ble_eq_true rfl) (Or.inl (by decide)) (rx_CI.imp H (fun v15 σ14 H => ?_))
      obtain ⟨o16, H⟩ := H
      refine g_st iX11_findPairs_127 (ln_130 L) (by decide) o16 rfl ?_
      refine g_al iX11_findPairs_128 rfl ?_
      refine g_gr iX11_findPairs_129 fr_11_5_125 ?_
      refine g_c iX11_findPairs_132 ?_
      refine g_il iX11_findPairs_134 rfl ?_
      refine g_mul iX11_findPairs_135 ?_
      refine g_il iX11_findPairs_136 rfl ?_
      refine g_add iX11_findPairs_137 ?_
      refine g_al iX11_findPairs_138 rfl ?_
      refine g_gr iX11_findPairs_139 fr_11_5_125 ?_
      refine g_c iX11_findPairs_142 ?_
      refine g_il iX11_findPairs_144 rfl ?_
      refine g_mul iX11_findPairs_145 ?_
      refine g_il iX11_findPairs_146 rfl ?_
      refine g_add iX11_findPairs_147 ?_
      refine g_ld iX11_findPairs_148 (ln_130 L) o16 ?_
      obtain ⟨o17, H⟩ := H
      refine g_st iX11_findPairs_149 (ln_130 L) (by decide) o17 rfl ?_
      refine g_ii iX11_findPairs_150 rfl ?_
      refine rx_Go.ls (la := [some (.inr 125), some (.inl x1), some (.inl x2), some (.inl (rx_w (x3 + 1)))]) rfl ?_
      refine g_goto iX11_findPairs_153 ?_
      exact H
    · rw [if_neg c11] at H
      refine g_if3f iX11_findPairs_96 c11 ?_
      refine g_al iX11_findPairs_99 rfl ?_
      refine g_gr iX11_findPairs_100 fr_11_4_125 ?_
      refine g_il iX11_findPairs_103 rfl ?_
      refine g_ld iX11_findPairs_104 (ln_129 L) o9 ?_
      refine g_al iX11_findPairs_105 rfl ?_
      refine g_gr iX11_findPairs_106 fr_11_4_125 ?_
      refine g_il iX11_findPairs_109 rfl ?_
      refine g_ld iX11_findPairs_110 (ln_129 L) o10 ?_
      refine g_add iX11_findPairs_111 ?_
      refine g_goto iX11_findPairs_112 ?_
      obtain ⟨o18, H⟩ := H
      refine g_st iX11_findPairs_127 (ln_130 L) (by decide) o18 rfl ?_
      refine g_al iX11_findPairs_128 rfl ?_
      refine g_gr iX11_findPairs_129 fr_11_5_125 ?_
      refine g_c iX11_findPairs_132 ?_
      refine g_il iX11_findPairs_134 rfl ?_
      refine g_mul iX11_findPairs_135 ?_
      refine g_il iX11_findPairs_136 rfl ?_
      refine g_add iX11_findPairs_137 ?_
      refine g_al iX11_findPairs_138 rfl ?_
      refine g_gr iX11_findPairs_139 fr_11_5_125 ?_
      refine g_c iX11_findPairs_142 ?_
      refine g_il iX11_findPairs_144 rfl ?_
      refine g_mul iX11_findPairs_145 ?_
      refine g_il iX11_findPairs_146 rfl ?_
      refine g_add iX11_findPairs_147 ?_
      refine g_ld iX11_findPairs_148 (ln_130 L) o18 ?_
      obtain ⟨o19, H⟩ := H
      refine g_st iX11_findPairs_149 (ln_130 L) (by decide) o19 rfl ?_
      refine g_ii iX11_findPairs_150 rfl ?_
      refine rx_Go.ls (la := [some (.inr 125), some (.inl x1), some (.inl x2), some (.inl (rx_w (x3 + 1)))]) rfl ?_
      refine g_goto iX11_findPairs_153 ?_
      exact H
set_option maxRecDepth 20000 in
set_option maxHeartbeats 4000000 in
theorem bX11_side (L d : Nat) (x0 : Int) (x1 : Int) (x2 : Int) (x3 : Int) (x4 : Int) (x5 : Int) (σ : rx_St) (K : Int → rx_St → Prop)
    (H : if (rx_w ((rx_w ((rx_w (x2 - x0)) * (rx_w (x5 - x1)))) - (rx_w ((rx_w (x3 - x1)) * (rx_w (x4 - x0)))))) ≤ 0 then (if 0 ≤ (rx_w ((rx_w ((rx_w (x2 - x0)) * (rx_w (x5 - x1)))) - (rx_w ((rx_w (x3 - x1)) * (rx_w (x4 - x0)))))) then (K 0 σ) else (K (-1) σ)) else (K 1 σ)) :
    rx_CI L d mX11_side [.inl x0, .inl x1, .inl x2, .inl x3, .inl x4, .inl x5] σ K := by
  refine rx_CI.of (la := [some (.inl x0), some (.inl x1), some (.inl x2), some (.inl x3), some (.inl x4), some (.inl x5), none]) rfl ?_
  refine g_il iX11_side_0 rfl ?_
  refine g_il iX11_side_1 rfl ?_
  refine g_sub iX11_side_2 ?_
  refine g_il iX11_side_3 rfl ?_
  refine g_il iX11_side_5 rfl ?_
  refine g_sub iX11_side_6 ?_
  refine g_mul iX11_side_7 ?_
  refine g_il iX11_side_8 rfl ?_
  refine g_il iX11_side_9 rfl ?_
  refine g_sub iX11_side_10 ?_
  refine g_il iX11_side_11 rfl ?_
  refine g_il iX11_side_13 rfl ?_
  refine g_sub iX11_side_14 ?_
  refine g_mul iX11_side_15 ?_
  refine g_sub iX11_side_16 ?_
  refine g_is iX11_side_17 (Nat.le_of_ble_eq_true rfl) ?_
  refine rx_Go.ls (la := [some (.inl x0), some (.inl x1), some (.inl x2), some (.inl x3), some (.inl x4), some (.inl x5), some (.inl (rx_w ((rx_w ((rx_w (x2 - x0)) * (rx_w (x5 - x1)))) - (rx_w ((rx_w (x3 - x1)) * (rx_w (x4 - x0)))))))]) rfl ?_
  refine g_il iX11_side_19 rfl ?_
  by_cases c1 : (rx_w ((rx_w ((rx_w (x2 - x0)) * (rx_w (x5 - x1)))) - (rx_w ((rx_w (x3 - x1)) * (rx_w (x4 - x0)))))) ≤ 0
  · rw [if_pos c1] at H
    refine g_if5t iX11_side_21 c1 ?_
    refine g_il iX11_side_28 rfl ?_
    by_cases c2 : 0 ≤ (rx_w ((rx_w ((rx_w (x2 - x0)) * (rx_w (x5 - x1)))) - (rx_w ((rx_w (x3 - x1)) * (rx_w (x4 - x0))))))
    · rw [if_pos c2] at H
      refine g_if3t iX11_side_30 c2 ?_
      refine g_c iX11_side_37 ?_
      exact g_ri iX11_side_38 (Or.inl rfl) H
    · rw [if_neg c2] at H
      refine g_if3f iX11_side_30 c2 ?_
      refine g_c iX11_side_33 ?_
      refine g_goto iX11_side_34 ?_
      exact g_ri iX11_side_38 (Or.inl rfl) H
  · rw [if_neg c1] at H
    refine g_if5f iX11_side_21 c1 ?_
    refine g_c iX11_side_24 ?_
    refine g_goto iX11_side_25 ?_
    exact g_ri iX11_side_38 (Or.inl rfl) H
set_option maxRecDepth 20000 in
set_option maxHeartbeats 4000000 in
theorem bX11_isOn (L d : Nat) (x1 : Int) (x2 : Int) (x3 : Int) (σ : rx_St) (K : Int → rx_St → Prop)
    (H : rx_CI L d mX11_xOf [.inr 125, .inl x1] σ (fun v2 σ1 => rx_CI L d mX11_xOf [.inr 125, .inl x2] σ1 (fun v4 σ3 => rx_CI L d mX11_xOf [.inr 125, .inl x3] σ3 (fun v6 σ5 => if v2 < (rx_mn v4 v6) then (K 0 σ5) else (rx_CI L d mX11_xOf [.inr 125, .inl x1] σ5 (fun v9 σ8 => rx_CI L d mX11_xOf [.inr 125, .inl x2] σ8 (fun v11 σ10 => rx_CI L d mX11_xOf [.inr 125, .inl x3] σ10 (fun v13 σ12 => if (rx_mx v11 v13) < v9 then (K 0 σ12) else (rx_CI L d mX11_yOf [.inr 125, .inl x1] σ12 (fun v16 σ15 => rx_CI L d mX11_yOf [.inr 125, .inl x2] σ15 (fun v18 σ17 => rx_CI L d mX11_yOf [.inr 125, .inl x3] σ17 (fun v20 σ19 => if v16 < (rx_mn v18 v20) then (K 0 σ19) else (rx_CI L d mX11_yOf [.inr 125, .inl x1] σ19 (fun v23 σ22 => rx_CI L d mX11_yOf [.inr 125, .inl x2] σ22 (fun v25 σ24 => rx_CI L d mX11_yOf [.inr 125, .inl x3] σ24 (fun v27 σ26 => if (rx_mx v25 v27) < v23 then (K 0 σ26) else (K 1 σ26))))))))))))))))) :
    rx_CI L (d + 1) mX11_isOn [.inr 125, .inl x1, .inl x2, .inl x3] σ K := by
  refine rx_CI.of (la := [some (.inr 125), some (.inl x1), some (.inl x2), some (.inl x3), none]) rfl ?_
  refine g_al iX11_isOn_0 rfl ?_
  refine g_il iX11_isOn_1 rfl ?_
  refine g_ci (as := [.inr 125, .inl x1]) (rest := []) iX11_isOn_2 rfl rfl (Nat.le_of_ble_eq_true rfl) (Or.inr ⟨_, _, rfl, oo_11_125⟩) (rx_CI.imp H (fun v2 σ1 H => ?_))
  refine g_al iX11_isOn_5 rfl ?_
  refine g_il iX11_isOn_6 rfl ?_
  refine g_ci (as := [.inr 125, .inl x2]) (rest := [.inl v2]) iX11_isOn_7 rfl rfl (Nat.le_of_ble_eq_true rfl) (Or.inr ⟨_, _, rfl, oo_11_125⟩) (rx_CI.imp H (fun v4 σ3 H => ?_))
  refine g_al iX11_isOn_10 rfl ?_
  refine g_il iX11_isOn_11 rfl ?_
  refine g_ci (as := [.inr 125, .inl x3]) (rest := [.inl v4, .inl v2]) iX11_isOn_12 rfl rfl (Nat.le_of_ble_eq_true rfl) (Or.inr ⟨_, _, rfl, oo_11_125⟩) (rx_CI.imp H (fun v6 σ5 H => ?_))
  refine g_mn iX11_isOn_15 (Nat.le_of_ble_eq_true rfl) ?_
  by_cases c7 : v2 < (rx_mn v4 v6)
  · rw [if_pos c7] at H
    refine g_ic2t iX11_isOn_18 c7 ?_
    refine g_c iX11_isOn_46 ?_
    refine g_is iX11_isOn_47 (Nat.le_of_ble_eq_true rfl) ?_
    refine rx_Go.ls (la := [some (.inr 125), some (.inl x1), some (.inl x2), some (.inl x3), some (.inl 0)]) rfl ?_
    refine g_il iX11_isOn_49 rfl ?_
    refine g_if0t iX11_isOn_51 (by decide) ?_
    refine g_c iX11_isOn_100 ?_
    exact g_ri iX11_isOn_101 (by decide) H
  · rw [if_neg c7] at H
    refine g_ic2f iX11_isOn_18 c7 ?_
    refine g_al iX11_isOn_21 rfl ?_
    refine g_il iX11_isOn_22 rfl ?_
    refine g_ci (as := [.inr 125, .inl x1]) (rest := []) iX11_isOn_23 rfl rfl (Nat.le_of_ble_eq_true rfl) (Or.inr ⟨_, _, rfl, oo_11_125⟩) (rx_CI.imp H (fun v9 σ8 H => ?_))
    refine g_al iX11_isOn_26 rfl ?_
    refine g_il iX11_isOn_27 rfl ?_
    refine g_ci (as := [.inr 125, .inl x2]) (rest := [.inl v9]) iX11_isOn_28 rfl rfl (Nat.le_of_ble_eq_true rfl) (Or.inr ⟨_, _, rfl, oo_11_125⟩) (rx_CI.imp H (fun v11 σ10 H => ?_))
    refine g_al iX11_isOn_31 rfl ?_
    refine g_il iX11_isOn_32 rfl ?_
    refine g_ci (as := [.inr 125, .inl x3]) (rest := [.inl v11, .inl v9]) iX11_isOn_33 rfl rfl (Nat.le_of_ble_eq_true rfl) (Or.inr ⟨_, _, rfl, oo_11_125⟩) (rx_CI.imp H (fun v13 σ12 H => ?_))
    refine g_mx iX11_isOn_36 (Nat.le_of_ble_eq_true rfl) ?_
    by_cases c14 : (rx_mx v11 v13) < v9
    · rw [if_pos c14] at H
      refine g_ic4t iX11_isOn_39 c14 ?_
      refine g_c iX11_isOn_46 ?_
      refine g_is iX11_isOn_47 (Nat.le_of_ble_eq_true rfl) ?_
      refine rx_Go.ls (la := [some (.inr 125), some (.inl x1), some (.inl x2), some (.inl x3), some (.inl 0)]) rfl ?_
      refine g_il iX11_isOn_49 rfl ?_
      refine g_if0t iX11_isOn_51 (by decide) ?_
      refine g_c iX11_isOn_100 ?_
      exact g_ri iX11_isOn_101 (by decide) H
    · rw [if_neg c14] at H
      refine g_ic4f iX11_isOn_39 c14 ?_
      refine g_c iX11_isOn_42 ?_
      refine g_goto iX11_isOn_43 ?_
      refine g_is iX11_isOn_47 (Nat.le_of_ble_eq_true rfl) ?_
      refine rx_Go.ls (la := [some (.inr 125), some (.inl x1), some (.inl x2), some (.inl x3), some (.inl 1)]) rfl ?_
      refine g_il iX11_isOn_49 rfl ?_
      refine g_if0f iX11_isOn_51 (by decide) ?_
      refine g_al iX11_isOn_54 rfl ?_
      refine g_il iX11_isOn_55 rfl ?_
      refine g_ci (as := [.inr 125, .inl x1]) (rest := []) iX11_isOn_56 rfl rfl (Nat.le_of_ble_eq_true rfl) (Or.inr ⟨_, _, rfl, oo_11_125⟩) (rx_CI.imp H (fun v16 σ15 H => ?_))
      refine g_al iX11_isOn_59 rfl ?_
      refine g_il iX11_isOn_60 rfl ?_
      refine g_ci (as := [.inr 125, .inl x2]) (rest := [.inl v16]) iX11_isOn_61 rfl rfl (Nat.le_of_ble_eq_true rfl) (Or.inr ⟨_, _, rfl, oo_11_125⟩) (rx_CI.imp H (fun v18 σ17 H => ?_))
      refine g_al iX11_isOn_64 rfl ?_
      refine g_il iX11_isOn_65 rfl ?_
      refine g_ci (as := [.inr 125, .inl x3]) (rest := [.inl v18, .inl v16]) iX11_isOn_66 rfl rfl (Nat.le_of_ble_eq_true rfl) (Or.inr ⟨_, _, rfl, oo_11_125⟩) (rx_CI.imp H (fun v20 σ19 H => ?_))
      refine g_mn iX11_isOn_69 (Nat.le_of_ble_eq_true rfl) ?_
      by_cases c21 : v16 < (rx_mn v18 v20)
      · rw [if_pos c21] at H
        refine g_ic2t iX11_isOn_72 c21 ?_
        refine g_c iX11_isOn_100 ?_
        exact g_ri iX11_isOn_101 (by decide) H
      · rw [if_neg c21] at H
        refine g_ic2f iX11_isOn_72 c21 ?_
        refine g_al iX11_isOn_75 rfl ?_
        refine g_il iX11_isOn_76 rfl ?_
        refine g_ci (as := [.inr 125, .inl x1]) (rest := []) iX11_isOn_77 rfl rfl (Nat.le_of_ble_eq_true rfl) (Or.inr ⟨_, _, rfl, oo_11_125⟩) (rx_CI.imp H (fun v23 σ22 H => ?_))
        refine g_al iX11_isOn_80 rfl ?_
        refine g_il iX11_isOn_81 rfl ?_
        refine g_ci (as := [.inr 125, .inl x2]) (rest := [.inl v23]) iX11_isOn_82 rfl rfl (Nat.le_of_ble_eq_true rfl) (Or.inr ⟨_, _, rfl, oo_11_125⟩) (rx_CI.imp H (fun v25 σ24 H => ?_))
        refine g_al iX11_isOn_85 rfl ?_
        refine g_il iX11_isOn_86 rfl ?_
        refine g_ci (as := [.inr 125, .inl x3]) (rest := [.inl v25, .inl v23]) iX11_isOn_87 rfl rfl (Nat.le_of_ble_eq_true rfl) (Or.inr ⟨_, _, rfl, oo_11_125⟩) (rx_CI.imp H (fun v27 σ26 H => ?_))
        refine g_mx iX11_isOn_90 (Nat.le_of_ble_eq_true rfl) ?_
        by_cases c28 : (rx_mx v25 v27) < v23
        · rw [if_pos c28] at H
          refine g_ic4t iX11_isOn_93 c28 ?_
          refine g_c iX11_isOn_100 ?_
          exact g_ri iX11_isOn_101 (by decide) H
        · rw [if_neg c28] at H
          refine g_ic4f iX11_isOn_93 c28 ?_
          refine g_c iX11_isOn_96 ?_
          refine g_goto iX11_isOn_97 ?_
          exact g_ri iX11_isOn_101 (by decide) H
set_option maxRecDepth 20000 in
set_option maxHeartbeats 4000000 in
theorem bX11_sideOf (L d : Nat) (x1 : Int) (x2 : Int) (x3 : Int) (σ : rx_St) (K : Int → rx_St → Prop)
    (H : rx_CI L d mX11_xOf [.inr 125, .inl x1] σ (fun v2 σ1 => rx_CI L d mX11_yOf [.inr 125, .inl x1] σ1 (fun v4 σ3 => rx_CI L d mX11_xOf [.inr 125, .inl x2] σ3 (fun v6 σ5 => rx_CI L d mX11_yOf [.inr 125, .inl x2] σ5 (fun v8 σ7 => rx_CI L d mX11_xOf [.inr 125, .inl x3] σ7 (fun v10 σ9 => rx_CI L d mX11_yOf [.inr 125, .inl x3] σ9 (fun v12 σ11 => rx_CI L d mX11_side [.inl v2, .inl v4, .inl v6, .inl v8, .inl v10, .inl v12] σ11 (fun v14 σ13 => K v14 σ13)))))))) :
    rx_CI L (d + 1) mX11_sideOf [.inr 125, .inl x1, .inl x2, .inl x3] σ K := by
  refine rx_CI.of (la := [some (.inr 125), some (.inl x1), some (.inl x2), some (.inl x3)]) rfl ?_
  refine g_al iX11_sideOf_0 rfl ?_
  refine g_il iX11_sideOf_1 rfl ?_
  refine g_ci (as := [.inr 125, .inl x1]) (rest := []) iX11_sideOf_2 rfl rfl (Nat.le_of_ble_eq_true rfl) (Or.inr ⟨_, _, rfl, oo_11_125⟩) (rx_CI.imp H (fun v2 σ1 H => ?_))
  refine g_al iX11_sideOf_5 rfl ?_
  refine g_il iX11_sideOf_6 rfl ?_
  refine g_ci (as := [.inr 125, .inl x1]) (rest := [.inl v2]) iX11_sideOf_7 rfl rfl (Nat.le_of_ble_eq_true rfl) (Or.inr ⟨_, _, rfl, oo_11_125⟩) (rx_CI.imp H (fun v4 σ3 H => ?_))
  refine g_al iX11_sideOf_10 rfl ?_
  refine g_il iX11_sideOf_11 rfl ?_
  refine g_ci (as := [.inr 125, .inl x2]) (rest := [.inl v4, .inl v2]) iX11_sideOf_12 rfl rfl (Nat.le_of_ble_eq_true rfl) (Or.inr ⟨_, _, rfl, oo_11_125⟩) (rx_CI.imp H (fun v6 σ5 H => ?_))
  refine g_al iX11_sideOf_15 rfl ?_
  refine g_il iX11_sideOf_16 rfl ?_
  refine g_ci (as := [.inr 125, .inl x2]) (rest := [.inl v6, .inl v4, .inl v2]) iX11_sideOf_17 rfl rfl (Nat.le_of_ble_eq_true rfl) (Or.inr ⟨_, _, rfl, oo_11_125⟩) (rx_CI.imp H (fun v8 σ7 H => ?_))
  refine g_al iX11_sideOf_20 rfl ?_
  refine g_il iX11_sideOf_21 rfl ?_
  refine g_ci (as := [.inr 125, .inl x3]) (rest := [.inl v8, .inl v6, .inl v4, .inl v2]) iX11_sideOf_22 rfl rfl (Nat.le_of_ble_eq_true rfl) (Or.inr ⟨_, _, rfl, oo_11_125⟩) (rx_CI.imp H (fun v10 σ9 H => ?_))
  refine g_al iX11_sideOf_25 rfl ?_
  refine g_il iX11_sideOf_26 rfl ?_
  refine g_ci (as := [.inr 125, .inl x3]) (rest := [.inl v10, .inl v8, .inl v6, .inl v4, .inl v2]) iX11_sideOf_27 rfl rfl (Nat.le_of_ble_eq_true rfl) (Or.inr ⟨_, _, rfl, oo_11_125⟩) (rx_CI.imp H (fun v12 σ11 H => ?_))
  refine g_ci (as := [.inl v2, .inl v4, .inl v6, .inl v8, .inl v10, .inl v12]) (rest := []) iX11_sideOf_30 rfl rfl (Nat.le_of_ble_eq_true rfl) (Or.inl (by decide)) (rx_CI.imp H (fun v14 σ13 H => ?_))
  exact g_ri iX11_sideOf_33 (Or.inl rfl) H
set_option maxRecDepth 20000 in
set_option maxHeartbeats 4000000 in
theorem bX11_doCross (L d : Nat) (x1 : Int) (x2 : Int) (σ : rx_St) (K : Int → rx_St → Prop)
    (H : rx_CI L d mX11_areApart [.inr 125, .inl x1, .inl x2] σ (fun v2 σ1 => if v2 ≠ 0 then (rx_CI L d mX11_lesser [.inr 125, .inl x1] σ1 (fun v5 σ4 => rx_CI L d mX11_greater [.inr 125, .inl x1] σ4 (fun v7 σ6 => rx_CI L d mX11_lesser [.inr 125, .inl x2] σ6 (fun v9 σ8 => rx_CI L d mX11_greater [.inr 125, .inl x2] σ8 (fun v11 σ10 => rx_CI L d mX11_sideOf [.inr 125, .inl v5, .inl v7, .inl v9] σ10 (fun v13 σ12 => rx_CI L d mX11_sideOf [.inr 125, .inl v5, .inl v7, .inl v11] σ12 (fun v15 σ14 => rx_CI L d mX11_sideOf [.inr 125, .inl v9, .inl v11, .inl v5] σ14 (fun v17 σ16 => rx_CI L d mX11_sideOf [.inr 125, .inl v9, .inl v11, .inl v7] σ16 (fun v19 σ18 => if 0 ≤ (rx_w (v13 * v15)) then (rx_Go L (d + 1) mX11_doCross 101 [some (.inr 125), some (.inl x1), some (.inl x2), some (.inl v5), some (.inl v7), some (.inl v9), some (.inl v11), some (.inl v13), some (.inl v15), some (.inl v17), some (.inl v19)] [] σ18 (rx_PI K)) else (if 0 ≤ (rx_w (v17 * v19)) then (rx_Go L (d + 1) mX11_doCross 101 [some (.inr 125), some (.inl x1), some (.inl x2), some (.inl v5), some (.inl v7), some (.inl v9), some (.inl v11), some (.inl v13), some (.inl v15), some (.inl v17), some (.inl v19)] [] σ18 (rx_PI K)) else (K 1 σ18))))))))))) else (K 0 σ1))) :
    rx_CI L (d + 1) mX11_doCross [.inr 125, .inl x1, .inl x2] σ K := by
  refine rx_CI.of (la := [some (.inr 125), some (.inl x1), some (.inl x2), none, none, none, none, none, none, none, none]) rfl ?_
  refine g_al iX11_doCross_0 rfl ?_
  refine g_il iX11_doCross_1 rfl ?_
  refine g_il iX11_doCross_2 rfl ?_
  refine g_ci (as := [.inr 125, .inl x1, .inl x2]) (rest := []) iX11_doCross_3 rfl rfl (Nat.le_of_ble_eq_true rfl) (Or.inr ⟨_, _, rfl, oo_11_125⟩) (rx_CI.imp H (fun v2 σ1 H => ?_))
  by_cases c3 : v2 ≠ 0
  · rw [if_pos c3] at H
    refine g_if1t iX11_doCross_6 c3 ?_
    refine g_al iX11_doCross_11 rfl ?_
    refine g_il iX11_doCross_12 rfl ?_
    refine g_ci (as := [.inr 125, .inl x1]) (rest := []) iX11_doCross_13 rfl rfl (Nat.le_of_ble_eq_true rfl) (Or.inr ⟨_, _, rfl, oo_11_125⟩) (rx_CI.imp H (fun v5 σ4 H => ?_))
    refine g_is iX11_doCross_16 (Nat.le_of_ble_eq_true rfl) ?_
    refine rx_Go.ls (la := [some (.inr 125), some (.inl x1), some (.inl x2), some (.inl v5), none, none, none, none, none, none, none]) rfl ?_
    refine g_al iX11_doCross_17 rfl ?_
    refine g_il iX11_doCross_18 rfl ?_
    refine g_ci (as := [.inr 125, .inl x1]) (rest := []) iX11_doCross_19 rfl rfl (Nat.le_of_ble_eq_true rfl) (Or.inr ⟨_, _, rfl, oo_11_125⟩) (rx_CI.imp H (fun v7 σ6 H => ?_))
    refine g_is iX11_doCross_22 (Nat.le_of_ble_eq_true rfl) ?_
    refine rx_Go.ls (la := [some (.inr 125), some (.inl x1), some (.inl x2), some (.inl v5), some (.inl v7), none, none, none, none, none, none]) rfl ?_
    refine g_al iX11_doCross_24 rfl ?_
    refine g_il iX11_doCross_25 rfl ?_
    refine g_ci (as := [.inr 125, .inl x2]) (rest := []) iX11_doCross_26 rfl rfl (Nat.le_of_ble_eq_true rfl) (Or.inr ⟨_, _, rfl, oo_11_125⟩) (rx_CI.imp H (fun v9 σ8 H => ?_))
    refine g_is iX11_doCross_29 (Nat.le_of_ble_eq_true rfl) ?_
    refine rx_Go.ls (la := [some (.inr 125), some (.inl x1), some (.inl x2), some (.inl v5), some (.inl v7), some (.inl v9), none, none, none, none, none]) rfl ?_
    refine g_al iX11_doCross_31 rfl ?_
    refine g_il iX11_doCross_32 rfl ?_
    refine g_ci (as := [.inr 125, .inl x2]) (rest := []) iX11_doCross_33 rfl rfl (Nat.le_of_ble_eq_true rfl) (Or.inr ⟨_, _, rfl, oo_11_125⟩) (rx_CI.imp H (fun v11 σ10 H => ?_))
    refine g_is iX11_doCross_36 (Nat.le_of_ble_eq_true rfl) ?_
    refine rx_Go.ls (la := [some (.inr 125), some (.inl x1), some (.inl x2), some (.inl v5), some (.inl v7), some (.inl v9), some (.inl v11), none, none, none, none]) rfl ?_
    refine g_al iX11_doCross_38 rfl ?_
    refine g_il iX11_doCross_39 rfl ?_
    refine g_il iX11_doCross_40 rfl ?_
    refine g_il iX11_doCross_42 rfl ?_
    refine g_ci (as := [.inr 125, .inl v5, .inl v7, .inl v9]) (rest := []) iX11_doCross_44 rfl rfl (Nat.le_of_ble_eq_true rfl) (Or.inr ⟨_, _, rfl, oo_11_125⟩) (rx_CI.imp H (fun v13 σ12 H => ?_))
    refine g_is iX11_doCross_47 (Nat.le_of_ble_eq_true rfl) ?_
    refine rx_Go.ls (la := [some (.inr 125), some (.inl x1), some (.inl x2), some (.inl v5), some (.inl v7), some (.inl v9), some (.inl v11), some (.inl v13), none, none, none]) rfl ?_
    refine g_al iX11_doCross_49 rfl ?_
    refine g_il iX11_doCross_50 rfl ?_
    refine g_il iX11_doCross_51 rfl ?_
    refine g_il iX11_doCross_53 rfl ?_
    refine g_ci (as := [.inr 125, .inl v5, .inl v7, .inl v11]) (rest := []) iX11_doCross_55 rfl rfl (Nat.le_of_ble_eq_true rfl) (Or.inr ⟨_, _, rfl, oo_11_125⟩) (rx_CI.imp H (fun v15 σ14 H => ?_))
    refine g_is iX11_doCross_58 (Nat.le_of_ble_eq_true rfl) ?_
    refine rx_Go.ls (la := [some (.inr 125), some (.inl x1), some (.inl x2), some (.inl v5), some (.inl v7), some (.inl v9), some (.inl v11), some (.inl v13), some (.inl v15), none, none]) rfl ?_
    refine g_al iX11_doCross_60 rfl ?_
    refine g_il iX11_doCross_61 rfl ?_
    refine g_il iX11_doCross_63 rfl ?_
    refine g_il iX11_doCross_65 rfl ?_
    refine g_ci (as := [.inr 125, .inl v9, .inl v11, .inl v5]) (rest := []) iX11_doCross_66 rfl rfl (Nat.le_of_ble_eq_true rfl) (Or.inr ⟨_, _, rfl, oo_11_125⟩) (rx_CI.imp H (fun v17 σ16 H => ?_))
    refine g_is iX11_doCross_69 (Nat.le_of_ble_eq_true rfl) ?_
    refine rx_Go.ls (la := [some (.inr 125), some (.inl x1), some (.inl x2), some (.inl v5), some (.inl v7), some (.inl v9), some (.inl v11), some (.inl v13), some (.inl v15), some (.inl v17), none]) rfl ?_
    refine g_al iX11_doCross_71 rfl ?_
    refine g_il iX11_doCross_72 rfl ?_
    refine g_il iX11_doCross_74 rfl ?_
    refine g_il iX11_doCross_76 rfl ?_
    refine g_ci (as := [.inr 125, .inl v9, .inl v11, .inl v7]) (rest := []) iX11_doCross_78 rfl rfl (Nat.le_of_ble_eq_true rfl) (Or.inr ⟨_, _, rfl, oo_11_125⟩) (rx_CI.imp H (fun v19 σ18 H => ?_))
    refine g_is iX11_doCross_81 (Nat.le_of_ble_eq_true rfl) ?_
    refine rx_Go.ls (la := [some (.inr 125), some (.inl x1), some (.inl x2), some (.inl v5), some (.inl v7), some (.inl v9), some (.inl v11), some (.inl v13), some (.inl v15), some (.inl v17), some (.inl v19)]) rfl ?_
    refine g_il iX11_doCross_83 rfl ?_
    refine g_il iX11_doCross_85 rfl ?_
    refine g_mul iX11_doCross_87 ?_
    by_cases c20 : 0 ≤ (rx_w (v13 * v15))
    · rw [if_pos c20] at H
      refine g_if3t iX11_doCross_88 c20 ?_
      exact H
    · rw [if_neg c20] at H
      refine g_if3f iX11_doCross_88 c20 ?_
      refine g_il iX11_doCross_91 rfl ?_
      refine g_il iX11_doCross_93 rfl ?_
      refine g_mul iX11_doCross_95 ?_
      by_cases c21 : 0 ≤ (rx_w (v17 * v19))
      · rw [if_pos c21] at H
        refine g_if3t iX11_doCross_96 c21 ?_
        exact H
      · rw [if_neg c21] at H
        refine g_if3f iX11_doCross_96 c21 ?_
        refine g_c iX11_doCross_99 ?_
        exact g_ri iX11_doCross_100 (by decide) H
  · rw [if_neg c3] at H
    refine g_if1f iX11_doCross_6 c3 ?_
    refine g_c iX11_doCross_9 ?_
    exact g_ri iX11_doCross_10 (by decide) H
set_option maxRecDepth 20000 in
set_option maxHeartbeats 4000000 in
theorem bX11_doCross_101 (L d : Nat) (q1 : Option rx_V) (q2 : Option rx_V) (x3 : Int) (x4 : Int) (x5 : Int) (x6 : Int) (x7 : Int) (x8 : Int) (x9 : Int) (x10 : Int) (σ : rx_St) (K : Int → rx_St → Prop)
    (H : if x7 ≠ 0 then (rx_Go L (d + 1) mX11_doCross 118 [some (.inr 125), q1, q2, some (.inl x3), some (.inl x4), some (.inl x5), some (.inl x6), some (.inl x7), some (.inl x8), some (.inl x9), some (.inl x10)] [] σ (rx_PI K)) else (rx_CI L d mX11_isOn [.inr 125, .inl x5, .inl x3, .inl x4] σ (fun v24 σ23 => if v24 ≠ 0 then (rx_Go L (d + 1) mX11_doCross 170 [some (.inr 125), q1, q2, some (.inl x3), some (.inl x4), some (.inl x5), some (.inl x6), some (.inl x7), some (.inl x8), some (.inl x9), some (.inl x10)] [] σ23 (rx_PI K)) else (rx_Go L (d + 1) mX11_doCross 118 [some (.inr 125), q1, q2, some (.inl x3), some (.inl x4), some (.inl x5), some (.inl x6), some (.inl x7), some (.inl x8), some (.inl x9), some (.inl x10)] [] σ23 (rx_PI K))))) :
    rx_Go L (d + 1) mX11_doCross 101 [some (.inr 125), q1, q2, some (.inl x3), some (.inl x4), some (.inl x5), some (.inl x6), some (.inl x7), some (.inl x8), some (.inl x9), some (.inl x10)] [] σ (rx_PI K) := by
  refine g_il iX11_doCross_101 rfl ?_
  by_cases c22 : x7 ≠ 0
  · rw [if_pos c22] at H
    refine g_if1t iX11_doCross_103 c22 ?_
    exact H
  · rw [if_neg c22] at H
    refine g_if1f iX11_doCross_103 c22 ?_
    refine g_al iX11_doCross_106 rfl ?_
    refine g_il iX11_doCross_107 rfl ?_
    refine g_il iX11_doCross_109 rfl ?_
    refine g_il iX11_doCross_110 rfl ?_
    refine g_ci (as := [.inr 125, .inl x5, .inl x3, .inl x4]) (rest := []) iX11_doCross_112 rfl rfl (Nat.le_of_ble_eq_true rfl) (Or.inr ⟨_, _, rfl, oo_11_125⟩) (rx_CI.imp H (fun v24 σ23 H => ?_))
    by_cases c25 : v24 ≠ 0
    · rw [if_pos c25] at H
      refine g_if1t iX11_doCross_115 c25 ?_
      exact H
    · rw [if_neg c25] at H
      refine g_if1f iX11_doCross_115 c25 ?_
      exact H
set_option maxRecDepth 20000 in
set_option maxHeartbeats 4000000 in
theorem bX11_doCross_118 (L d : Nat) (q1 : Option rx_V) (q2 : Option rx_V) (x3 : Int) (x4 : Int) (x5 : Int) (x6 : Int) (q7 : Option rx_V) (x8 : Int) (x9 : Int) (x10 : Int) (σ : rx_St) (K : Int → rx_St → Prop)
    (H : if x8 ≠ 0 then (rx_Go L (d + 1) mX11_doCross 135 [some (.inr 125), q1, q2, some (.inl x3), some (.inl x4), some (.inl x5), some (.inl x6), q7, some (.inl x8), some (.inl x9), some (.inl x10)] [] σ (rx_PI K)) else (rx_CI L d mX11_isOn [.inr 125, .inl x6, .inl x3, .inl x4] σ (fun v28 σ27 => if v28 ≠ 0 then (rx_Go L (d + 1) mX11_doCross 170 [some (.inr 125), q1, q2, some (.inl x3), some (.inl x4), some (.inl x5), some (.inl x6), q7, some (.inl x8), some (.inl x9), some (.inl x10)] [] σ27 (rx_PI K)) else (rx_Go L (d + 1) mX11_doCross 135 [some (.inr 125), q1, q2, some (.inl x3), some (.inl x4), some (.inl x5), some (.inl x6), q7, some (.inl x8), some (.inl x9), some (.inl x10)] [] σ27 (rx_PI K))))) :
    rx_Go L (d + 1) mX11_doCross 118 [some (.inr 125), q1, q2, some (.inl x3), some (.inl x4), some (.inl x5), some (.inl x6), q7, some (.inl x8), some (.inl x9), some (.inl x10)] [] σ (rx_PI K) := by
  refine g_il iX11_doCross_118 rfl ?_
  by_cases c26 : x8 ≠ 0
  · rw [if_pos c26] at H
    refine g_if1t iX11_doCross_120 c26 ?_
    exact H
  · rw [if_neg c26] at H
    refine g_if1f iX11_doCross_120 c26 ?_
    refine g_al iX11_doCross_123 rfl ?_
    refine g_il iX11_doCross_124 rfl ?_
    refine g_il iX11_doCross_126 rfl ?_
    refine g_il iX11_doCross_127 rfl ?_
    refine g_ci (as := [.inr 125, .inl x6, .inl x3, .inl x4]) (rest := []) iX11_doCross_129 rfl rfl (Nat.le_of_ble_eq_true rfl) (Or.inr ⟨_, _, rfl, oo_11_125⟩) (rx_CI.imp H (fun v28 σ27 H => ?_))
    by_cases c29 : v28 ≠ 0
    · rw [if_pos c29] at H
      refine g_if1t iX11_doCross_132 c29 ?_
      exact H
    · rw [if_neg c29] at H
      refine g_if1f iX11_doCross_132 c29 ?_
      exact H
set_option maxRecDepth 20000 in
set_option maxHeartbeats 4000000 in
theorem bX11_doCross_170 (L d : Nat) (q0 : Option rx_V) (q1 : Option rx_V) (q2 : Option rx_V) (q3 : Option rx_V) (q4 : Option rx_V) (q5 : Option rx_V) (q6 : Option rx_V) (q7 : Option rx_V) (q8 : Option rx_V) (q9 : Option rx_V) (q10 : Option rx_V) (σ : rx_St) (K : Int → rx_St → Prop)
    (H : K 1 σ) :
    rx_Go L (d + 1) mX11_doCross 170 [q0, q1, q2, q3, q4, q5, q6, q7, q8, q9, q10] [] σ (rx_PI K) := by
  refine g_c iX11_doCross_170 ?_
  refine g_goto iX11_doCross_171 ?_
  exact g_ri iX11_doCross_175 (by decide) H
set_option maxRecDepth 20000 in
set_option maxHeartbeats 4000000 in
theorem bX11_doCross_135 (L d : Nat) (q1 : Option rx_V) (q2 : Option rx_V) (x3 : Int) (x4 : Int) (x5 : Int) (x6 : Int) (q7 : Option rx_V) (q8 : Option rx_V) (x9 : Int) (x10 : Int) (σ : rx_St) (K : Int → rx_St → Prop)
    (H : if x9 ≠ 0 then (rx_Go L (d + 1) mX11_doCross 152 [some (.inr 125), q1, q2, some (.inl x3), some (.inl x4), some (.inl x5), some (.inl x6), q7, q8, some (.inl x9), some (.inl x10)] [] σ (rx_PI K)) else (rx_CI L d mX11_isOn [.inr 125, .inl x3, .inl x5, .inl x6] σ (fun v32 σ31 => if v32 ≠ 0 then (rx_Go L (d + 1) mX11_doCross 170 [some (.inr 125), q1, q2, some (.inl x3), some (.inl x4), some (.inl x5), some (.inl x6), q7, q8, some (.inl x9), some (.inl x10)] [] σ31 (rx_PI K)) else (rx_Go L (d + 1) mX11_doCross 152 [some (.inr 125), q1, q2, some (.inl x3), some (.inl x4), some (.inl x5), some (.inl x6), q7, q8, some (.inl x9), some (.inl x10)] [] σ31 (rx_PI K))))) :
    rx_Go L (d + 1) mX11_doCross 135 [some (.inr 125), q1, q2, some (.inl x3), some (.inl x4), some (.inl x5), some (.inl x6), q7, q8, some (.inl x9), some (.inl x10)] [] σ (rx_PI K) := by
  refine g_il iX11_doCross_135 rfl ?_
  by_cases c30 : x9 ≠ 0
  · rw [if_pos c30] at H
    refine g_if1t iX11_doCross_137 c30 ?_
    exact H
  · rw [if_neg c30] at H
    refine g_if1f iX11_doCross_137 c30 ?_
    refine g_al iX11_doCross_140 rfl ?_
    refine g_il iX11_doCross_141 rfl ?_
    refine g_il iX11_doCross_142 rfl ?_
    refine g_il iX11_doCross_144 rfl ?_
    refine g_ci (as := [.inr 125, .inl x3, .inl x5, .inl x6]) (rest := []) iX11_doCross_146 rfl rfl (Nat.le_of_ble_eq_true rfl) (Or.inr ⟨_, _, rfl, oo_11_125⟩) (rx_CI.imp H (fun v32 σ31 H => ?_))
    by_cases c33 : v32 ≠ 0
    · rw [if_pos c33] at H
      refine g_if1t iX11_doCross_149 c33 ?_
      exact H
    · rw [if_neg c33] at H
      refine g_if1f iX11_doCross_149 c33 ?_
      exact H
set_option maxRecDepth 20000 in
set_option maxHeartbeats 4000000 in
theorem bX11_doCross_152 (L d : Nat) (q1 : Option rx_V) (q2 : Option rx_V) (q3 : Option rx_V) (x4 : Int) (x5 : Int) (x6 : Int) (q7 : Option rx_V) (q8 : Option rx_V) (q9 : Option rx_V) (x10 : Int) (σ : rx_St) (K : Int → rx_St → Prop)
    (H : if x10 ≠ 0 then (K 0 σ) else (rx_CI L d mX11_isOn [.inr 125, .inl x4, .inl x5, .inl x6] σ (fun v36 σ35 => if v36 = 0 then (K 0 σ35) else (rx_Go L (d + 1) mX11_doCross 170 [some (.inr 125), q1, q2, q3, some (.inl x4), some (.inl x5), some (.inl x6), q7, q8, q9, some (.inl x10)] [] σ35 (rx_PI K))))) :
    rx_Go L (d + 1) mX11_doCross 152 [some (.inr 125), q1, q2, q3, some (.inl x4), some (.inl x5), some (.inl x6), q7, q8, q9, some (.inl x10)] [] σ (rx_PI K) := by
  refine g_il iX11_doCross_152 rfl ?_
  by_cases c34 : x10 ≠ 0
  · rw [if_pos c34] at H
    refine g_if1t iX11_doCross_154 c34 ?_
    refine g_c iX11_doCross_174 ?_
    exact g_ri iX11_doCross_175 (by decide) H
  · rw [if_neg c34] at H
    refine g_if1f iX11_doCross_154 c34 ?_
    refine g_al iX11_doCross_157 rfl ?_
    refine g_il iX11_doCross_158 rfl ?_
    refine g_il iX11_doCross_160 rfl ?_
    refine g_il iX11_doCross_162 rfl ?_
    refine g_ci (as := [.inr 125, .inl x4, .inl x5, .inl x6]) (rest := []) iX11_doCross_164 rfl rfl (Nat.le_of_ble_eq_true rfl) (Or.inr ⟨_, _, rfl, oo_11_125⟩) (rx_CI.imp H (fun v36 σ35 H => ?_))
    by_cases c37 : v36 = 0
    · rw [if_pos c37] at H
      refine g_if0t iX11_doCross_167 c37 ?_
      refine g_c iX11_doCross_174 ?_
      exact g_ri iX11_doCross_175 (by decide) H
    · rw [if_neg c37] at H
      refine g_if0f iX11_doCross_167 c37 ?_
      exact H
