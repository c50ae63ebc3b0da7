theorem tbX1_isRoad : rx_tab.getD mX1_isRoad [] = rt_X1_isRoad := rfl
theorem ndX1_isRoad : rx_inc rt_X1_isRoad = true := by decide +kernel
theorem tbX1_roadRefusal : rx_tab.getD mX1_roadRefusal [] = rt_X1_roadRefusal := rfl
theorem ndX1_roadRefusal : rx_inc rt_X1_roadRefusal = true := by decide +kernel
theorem tbX1_meetInLine : rx_tab.getD mX1_meetInLine [] = rt_X1_meetInLine := rfl
theorem ndX1_meetInLine : rx_inc rt_X1_meetInLine = true := by decide +kernel
theorem tbX1_addRoad : rx_tab.getD mX1_addRoad [] = rt_X1_addRoad := rfl
theorem ndX1_addRoad : rx_inc rt_X1_addRoad = true := by decide +kernel
theorem tbX1_pairsThatMeet : rx_tab.getD mX1_pairsThatMeet [] = rt_X1_pairsThatMeet := rfl
theorem ndX1_pairsThatMeet : rx_inc rt_X1_pairsThatMeet = true := by decide +kernel
theorem tbX1_roadsFrom : rx_tab.getD mX1_roadsFrom [] = rt_X1_roadsFrom := rfl
theorem ndX1_roadsFrom : rx_inc rt_X1_roadsFrom = true := by decide +kernel
theorem tbX1_takeRow : rx_tab.getD mX1_takeRow [] = rt_X1_takeRow := rfl
theorem ndX1_takeRow : rx_inc rt_X1_takeRow = true := by decide +kernel
theorem tbX1_meetStraight : rx_tab.getD mX1_meetStraight [] = rt_X1_meetStraight := rfl
theorem ndX1_meetStraight : rx_inc rt_X1_meetStraight = true := by decide +kernel
theorem tbX1_areApart : rx_tab.getD mX1_areApart [] = rt_X1_areApart := rfl
theorem ndX1_areApart : rx_inc rt_X1_areApart = true := by decide +kernel
theorem tbX1_isTwoSided : rx_tab.getD mX1_isTwoSided [] = rt_X1_isTwoSided := rfl
theorem ndX1_isTwoSided : rx_inc rt_X1_isTwoSided = true := by decide +kernel
theorem tbX1_postsOf : rx_tab.getD mX1_postsOf [] = rt_X1_postsOf := rfl
theorem ndX1_postsOf : rx_inc rt_X1_postsOf = true := by decide +kernel
theorem tbX1_meet : rx_tab.getD mX1_meet [] = rt_X1_meet := rfl
theorem ndX1_meet : rx_inc rt_X1_meet = true := by decide +kernel
theorem tbX1_dropRoad : rx_tab.getD mX1_dropRoad [] = rt_X1_dropRoad := rfl
theorem ndX1_dropRoad : rx_inc rt_X1_dropRoad = true := by decide +kernel
theorem tbX1_endIn : rx_tab.getD mX1_endIn [] = rt_X1_endIn := rfl
theorem ndX1_endIn : rx_inc rt_X1_endIn = true := by decide +kernel
theorem tbX1_putInLine : rx_tab.getD mX1_putInLine [] = rt_X1_putInLine := rfl
theorem ndX1_putInLine : rx_inc rt_X1_putInLine = true := by decide +kernel
theorem tbX1_addPost : rx_tab.getD mX1_addPost [] = rt_X1_addPost := rfl
theorem ndX1_addPost : rx_inc rt_X1_addPost = true := by decide +kernel
theorem tbX1_side : rx_tab.getD mX1_side [] = rt_X1_side := rfl
theorem ndX1_side : rx_inc rt_X1_side = true := by decide +kernel
theorem tbX1_postRefusal : rx_tab.getD mX1_postRefusal [] = rt_X1_postRefusal := rfl
theorem ndX1_postRefusal : rx_inc rt_X1_postRefusal = true := by decide +kernel
theorem tbX1_shareEnd : rx_tab.getD mX1_shareEnd [] = rt_X1_shareEnd := rfl
theorem ndX1_shareEnd : rx_inc rt_X1_shareEnd = true := by decide +kernel
theorem tbX1_postAt : rx_tab.getD mX1_postAt [] = rt_X1_postAt := rfl
theorem ndX1_postAt : rx_inc rt_X1_postAt = true := by decide +kernel
theorem tbX1_takeFrom : rx_tab.getD mX1_takeFrom [] = rt_X1_takeFrom := rfl
theorem ndX1_takeFrom : rx_inc rt_X1_takeFrom = true := by decide +kernel
theorem tbX1_isPost : rx_tab.getD mX1_isPost [] = rt_X1_isPost := rfl
theorem ndX1_isPost : rx_inc rt_X1_isPost = true := by decide +kernel
theorem tbX1_swapPosts : rx_tab.getD mX1_swapPosts [] = rt_X1_swapPosts := rfl
theorem ndX1_swapPosts : rx_inc rt_X1_swapPosts = true := by decide +kernel
theorem tbX1_drawRoad : rx_tab.getD mX1_drawRoad [] = rt_X1_drawRoad := rfl
theorem ndX1_drawRoad : rx_inc rt_X1_drawRoad = true := by decide +kernel
theorem tbX1_upperLayer : rx_tab.getD mX1_upperLayer [] = rt_X1_upperLayer := rfl
theorem ndX1_upperLayer : rx_inc rt_X1_upperLayer = true := by decide +kernel
theorem tbX1_draw : rx_tab.getD mX1_draw [] = rt_X1_draw := rfl
theorem ndX1_draw : rx_inc rt_X1_draw = true := by decide +kernel
theorem tbX1_isParted : rx_tab.getD mX1_isParted [] = rt_X1_isParted := rfl
theorem ndX1_isParted : rx_inc rt_X1_isParted = true := by decide +kernel
theorem tbX1_hasRoad : rx_tab.getD mX1_hasRoad [] = rt_X1_hasRoad := rfl
theorem ndX1_hasRoad : rx_inc rt_X1_hasRoad = true := by decide +kernel
theorem tbX1_drawPost : rx_tab.getD mX1_drawPost [] = rt_X1_drawPost := rfl
theorem ndX1_drawPost : rx_inc rt_X1_drawPost = true := by decide +kernel
theorem tbX1_meetInLayers : rx_tab.getD mX1_meetInLayers [] = rt_X1_meetInLayers := rfl
theorem ndX1_meetInLayers : rx_inc rt_X1_meetInLayers = true := by decide +kernel
theorem iX1_takeFrom_0 : rx_ins mX1_takeFrom 0 = some (3, 1, 0, 0, 0, []) := rx_at tbX1_takeFrom ndX1_takeFrom (j := 0) rfl
theorem iX1_takeFrom_1 : rx_ins mX1_takeFrom 1 = some (3, 2, 0, 1, 0, []) := rx_at tbX1_takeFrom ndX1_takeFrom (j := 1) rfl
theorem iX1_takeFrom_2 : rx_ins mX1_takeFrom 2 = some (17, 5, 0, 1, 0, [(9, 9)]) := rx_at tbX1_takeFrom ndX1_takeFrom (j := 2) rfl
theorem iX1_takeFrom_5 : rx_ins mX1_takeFrom 5 = some (19, 8, 0, 1, 0, [(9, 9)]) := rx_at tbX1_takeFrom ndX1_takeFrom (j := 3) rfl
theorem iX1_takeFrom_8 : rx_ins mX1_takeFrom 8 = some (3, 9, 0, 1, 0, []) := rx_at tbX1_takeFrom ndX1_takeFrom (j := 4) rfl
theorem iX1_takeFrom_9 : rx_ins mX1_takeFrom 9 = some (18, 12, 0, 1, 1, [(15, 10)]) := rx_at tbX1_takeFrom ndX1_takeFrom (j := 5) rfl
theorem iX1_takeFrom_12 : rx_ins mX1_takeFrom 12 = some (3, 13, 0, 0, 0, []) := rx_at tbX1_takeFrom ndX1_takeFrom (j := 6) rfl
theorem iX1_takeFrom_13 : rx_ins mX1_takeFrom 13 = some (18, 16, 0, 1, 1, [(15, 10)]) := rx_at tbX1_takeFrom ndX1_takeFrom (j := 7) rfl
theorem iX1_takeFrom_16 : rx_ins mX1_takeFrom 16 = some (28, 19, 0, 6, 2, [(55, 92)]) := rx_at tbX1_takeFrom ndX1_takeFrom (j := 8) rfl
theorem iX1_takeFrom_19 : rx_ins mX1_takeFrom 19 = some (3, 20, 0, 1, 0, []) := rx_at tbX1_takeFrom ndX1_takeFrom (j := 9) rfl
theorem iX1_takeFrom_20 : rx_ins mX1_takeFrom 20 = some (18, 23, 0, 1, 2, [(19, 11)]) := rx_at tbX1_takeFrom ndX1_takeFrom (j := 10) rfl
theorem iX1_takeFrom_23 : rx_ins mX1_takeFrom 23 = some (3, 24, 0, 0, 0, []) := rx_at tbX1_takeFrom ndX1_takeFrom (j := 11) rfl
theorem iX1_takeFrom_24 : rx_ins mX1_takeFrom 24 = some (18, 27, 0, 1, 2, [(19, 11)]) := rx_at tbX1_takeFrom ndX1_takeFrom (j := 12) rfl
theorem iX1_takeFrom_27 : rx_ins mX1_takeFrom 27 = some (28, 30, 0, 6, 2, [(55, 92)]) := rx_at tbX1_takeFrom ndX1_takeFrom (j := 13) rfl
theorem iX1_takeFrom_30 : rx_ins mX1_takeFrom 30 = some (3, 31, 0, 1, 0, []) := rx_at tbX1_takeFrom ndX1_takeFrom (j := 14) rfl
theorem iX1_takeFrom_31 : rx_ins mX1_takeFrom 31 = some (18, 34, 0, 1, 3, [(22, 12)]) := rx_at tbX1_takeFrom ndX1_takeFrom (j := 15) rfl
theorem iX1_takeFrom_34 : rx_ins mX1_takeFrom 34 = some (3, 35, 0, 0, 0, []) := rx_at tbX1_takeFrom ndX1_takeFrom (j := 16) rfl
theorem iX1_takeFrom_35 : rx_ins mX1_takeFrom 35 = some (18, 38, 0, 1, 3, [(22, 12)]) := rx_at tbX1_takeFrom ndX1_takeFrom (j := 17) rfl
theorem iX1_takeFrom_38 : rx_ins mX1_takeFrom 38 = some (28, 41, 0, 6, 2, [(55, 92)]) := rx_at tbX1_takeFrom ndX1_takeFrom (j := 18) rfl
theorem iX1_takeFrom_41 : rx_ins mX1_takeFrom 41 = some (3, 42, 0, 1, 0, []) := rx_at tbX1_takeFrom ndX1_takeFrom (j := 19) rfl
theorem iX1_takeFrom_42 : rx_ins mX1_takeFrom 42 = some (18, 45, 0, 1, 4, [(25, 13)]) := rx_at tbX1_takeFrom ndX1_takeFrom (j := 20) rfl
theorem iX1_takeFrom_45 : rx_ins mX1_takeFrom 45 = some (3, 46, 0, 0, 0, []) := rx_at tbX1_takeFrom ndX1_takeFrom (j := 21) rfl
theorem iX1_takeFrom_46 : rx_ins mX1_takeFrom 46 = some (18, 49, 0, 1, 4, [(25, 13)]) := rx_at tbX1_takeFrom ndX1_takeFrom (j := 22) rfl
theorem iX1_takeFrom_49 : rx_ins mX1_takeFrom 49 = some (28, 52, 0, 6, 2, [(55, 92)]) := rx_at tbX1_takeFrom ndX1_takeFrom (j := 23) rfl
theorem iX1_takeFrom_52 : rx_ins mX1_takeFrom 52 = some (3, 53, 0, 1, 0, []) := rx_at tbX1_takeFrom ndX1_takeFrom (j := 24) rfl
theorem iX1_takeFrom_53 : rx_ins mX1_takeFrom 53 = some (18, 56, 0, 1, 5, [(28, 14)]) := rx_at tbX1_takeFrom ndX1_takeFrom (j := 25) rfl
theorem iX1_takeFrom_56 : rx_ins mX1_takeFrom 56 = some (3, 57, 0, 0, 0, []) := rx_at tbX1_takeFrom ndX1_takeFrom (j := 26) rfl
theorem iX1_takeFrom_57 : rx_ins mX1_takeFrom 57 = some (18, 60, 0, 1, 5, [(28, 14)]) := rx_at tbX1_takeFrom ndX1_takeFrom (j := 27) rfl
theorem iX1_takeFrom_60 : rx_ins mX1_takeFrom 60 = some (28, 63, 0, 6, 2, [(55, 92)]) := rx_at tbX1_takeFrom ndX1_takeFrom (j := 28) rfl
theorem iX1_takeFrom_63 : rx_ins mX1_takeFrom 63 = some (3, 64, 0, 0, 0, []) := rx_at tbX1_takeFrom ndX1_takeFrom (j := 29) rfl
theorem iX1_takeFrom_64 : rx_ins mX1_takeFrom 64 = some (3, 65, 0, 1, 0, []) := rx_at tbX1_takeFrom ndX1_takeFrom (j := 30) rfl
theorem iX1_takeFrom_65 : rx_ins mX1_takeFrom 65 = some (17, 68, 0, 1, 6, [(31, 15)]) := rx_at tbX1_takeFrom ndX1_takeFrom (j := 31) rfl
theorem iX1_takeFrom_68 : rx_ins mX1_takeFrom 68 = some (19, 71, 0, 1, 6, [(31, 15)]) := rx_at tbX1_takeFrom ndX1_takeFrom (j := 32) rfl
theorem iX1_takeFrom_71 : rx_ins mX1_takeFrom 71 = some (3, 72, 0, 1, 0, []) := rx_at tbX1_takeFrom ndX1_takeFrom (j := 33) rfl
theorem iX1_takeFrom_72 : rx_ins mX1_takeFrom 72 = some (18, 75, 0, 1, 7, [(34, 16)]) := rx_at tbX1_takeFrom ndX1_takeFrom (j := 34) rfl
theorem iX1_takeFrom_75 : rx_ins mX1_takeFrom 75 = some (3, 76, 0, 0, 0, []) := rx_at tbX1_takeFrom ndX1_takeFrom (j := 35) rfl
theorem iX1_takeFrom_76 : rx_ins mX1_takeFrom 76 = some (18, 79, 0, 1, 7, [(34, 16)]) := rx_at tbX1_takeFrom ndX1_takeFrom (j := 36) rfl
theorem iX1_takeFrom_79 : rx_ins mX1_takeFrom 79 = some (28, 82, 0, 6, 2, [(55, 92)]) := rx_at tbX1_takeFrom ndX1_takeFrom (j := 37) rfl
theorem iX1_takeFrom_82 : rx_ins mX1_takeFrom 82 = some (3, 83, 0, 1, 0, []) := rx_at tbX1_takeFrom ndX1_takeFrom (j := 38) rfl
theorem iX1_takeFrom_83 : rx_ins mX1_takeFrom 83 = some (18, 86, 0, 1, 8, [(37, 17)]) := rx_at tbX1_takeFrom ndX1_takeFrom (j := 39) rfl
theorem iX1_takeFrom_86 : rx_ins mX1_takeFrom 86 = some (3, 87, 0, 0, 0, []) := rx_at tbX1_takeFrom ndX1_takeFrom (j := 40) rfl
theorem iX1_takeFrom_87 : rx_ins mX1_takeFrom 87 = some (18, 90, 0, 1, 8, [(37, 17)]) := rx_at tbX1_takeFrom ndX1_takeFrom (j := 41) rfl
theorem iX1_takeFrom_90 : rx_ins mX1_takeFrom 90 = some (28, 93, 0, 6, 2, [(55, 92)]) := rx_at tbX1_takeFrom ndX1_takeFrom (j := 42) rfl
theorem iX1_takeFrom_93 : rx_ins mX1_takeFrom 93 = some (3, 94, 0, 1, 0, []) := rx_at tbX1_takeFrom ndX1_takeFrom (j := 43) rfl
theorem iX1_takeFrom_94 : rx_ins mX1_takeFrom 94 = some (18, 97, 0, 1, 9, [(40, 18)]) := rx_at tbX1_takeFrom ndX1_takeFrom (j := 44) rfl
theorem iX1_takeFrom_97 : rx_ins mX1_takeFrom 97 = some (3, 98, 0, 0, 0, []) := rx_at tbX1_takeFrom ndX1_takeFrom (j := 45) rfl
theorem iX1_takeFrom_98 : rx_ins mX1_takeFrom 98 = some (18, 101, 0, 1, 9, [(40, 18)]) := rx_at tbX1_takeFrom ndX1_takeFrom (j := 46) rfl
theorem iX1_takeFrom_101 : rx_ins mX1_takeFrom 101 = some (28, 104, 0, 6, 2, [(55, 92)]) := rx_at tbX1_takeFrom ndX1_takeFrom (j := 47) rfl
theorem iX1_takeFrom_104 : rx_ins mX1_takeFrom 104 = some (3, 105, 0, 1, 0, []) := rx_at tbX1_takeFrom ndX1_takeFrom (j := 48) rfl
theorem iX1_takeFrom_105 : rx_ins mX1_takeFrom 105 = some (18, 108, 0, 1, 10, [(43, 19)]) := rx_at tbX1_takeFrom ndX1_takeFrom (j := 49) rfl
theorem iX1_takeFrom_108 : rx_ins mX1_takeFrom 108 = some (3, 109, 0, 0, 0, []) := rx_at tbX1_takeFrom ndX1_takeFrom (j := 50) rfl
theorem iX1_takeFrom_109 : rx_ins mX1_takeFrom 109 = some (18, 112, 0, 1, 10, [(43, 19)]) := rx_at tbX1_takeFrom ndX1_takeFrom (j := 51) rfl
theorem iX1_takeFrom_112 : rx_ins mX1_takeFrom 112 = some (28, 115, 0, 6, 2, [(55, 92)]) := rx_at tbX1_takeFrom ndX1_takeFrom (j := 52) rfl
theorem iX1_takeFrom_115 : rx_ins mX1_takeFrom 115 = some (3, 116, 0, 1, 0, []) := rx_at tbX1_takeFrom ndX1_takeFrom (j := 53) rfl
theorem iX1_takeFrom_116 : rx_ins mX1_takeFrom 116 = some (18, 119, 0, 1, 11, [(46, 20)]) := rx_at tbX1_takeFrom ndX1_takeFrom (j := 54) rfl
theorem iX1_takeFrom_119 : rx_ins mX1_takeFrom 119 = some (3, 120, 0, 0, 0, []) := rx_at tbX1_takeFrom ndX1_takeFrom (j := 55) rfl
theorem iX1_takeFrom_120 : rx_ins mX1_takeFrom 120 = some (18, 123, 0, 1, 11, [(46, 20)]) := rx_at tbX1_takeFrom ndX1_takeFrom (j := 56) rfl
theorem iX1_takeFrom_123 : rx_ins mX1_takeFrom 123 = some (28, 126, 0, 6, 2, [(55, 92)]) := rx_at tbX1_takeFrom ndX1_takeFrom (j := 57) rfl
theorem iX1_takeFrom_126 : rx_ins mX1_takeFrom 126 = some (3, 127, 0, 0, 0, []) := rx_at tbX1_takeFrom ndX1_takeFrom (j := 58) rfl
theorem iX1_takeFrom_127 : rx_ins mX1_takeFrom 127 = some (3, 128, 0, 1, 0, []) := rx_at tbX1_takeFrom ndX1_takeFrom (j := 59) rfl
theorem iX1_takeFrom_128 : rx_ins mX1_takeFrom 128 = some (17, 131, 0, 1, 12, [(49, 21)]) := rx_at tbX1_takeFrom ndX1_takeFrom (j := 60) rfl
theorem iX1_takeFrom_131 : rx_ins mX1_takeFrom 131 = some (19, 134, 0, 1, 12, [(49, 21)]) := rx_at tbX1_takeFrom ndX1_takeFrom (j := 61) rfl
theorem iX1_takeFrom_134 : rx_ins mX1_takeFrom 134 = some (3, 135, 0, 0, 0, []) := rx_at tbX1_takeFrom ndX1_takeFrom (j := 62) rfl
theorem iX1_takeFrom_135 : rx_ins mX1_takeFrom 135 = some (3, 136, 0, 1, 0, []) := rx_at tbX1_takeFrom ndX1_takeFrom (j := 63) rfl
theorem iX1_takeFrom_136 : rx_ins mX1_takeFrom 136 = some (17, 139, 0, 1, 13, [(52, 22)]) := rx_at tbX1_takeFrom ndX1_takeFrom (j := 64) rfl
theorem iX1_takeFrom_139 : rx_ins mX1_takeFrom 139 = some (19, 142, 0, 1, 13, [(52, 22)]) := rx_at tbX1_takeFrom ndX1_takeFrom (j := 65) rfl
theorem iX1_takeFrom_142 : rx_ins mX1_takeFrom 142 = some (30, 143, 0, 0, 0, []) := rx_at tbX1_takeFrom ndX1_takeFrom (j := 66) rfl
theorem iX1_takeRow_0 : rx_ins mX1_takeRow 0 = some (3, 1, 0, 0, 0, []) := rx_at tbX1_takeRow ndX1_takeRow (j := 0) rfl
theorem iX1_takeRow_1 : rx_ins mX1_takeRow 1 = some (1, 2, 0, 0, 0, []) := rx_at tbX1_takeRow ndX1_takeRow (j := 1) rfl
theorem iX1_takeRow_2 : rx_ins mX1_takeRow 2 = some (3, 3, 0, 1, 0, []) := rx_at tbX1_takeRow ndX1_takeRow (j := 2) rfl
theorem iX1_takeRow_3 : rx_ins mX1_takeRow 3 = some (1, 4, 0, 0, 0, []) := rx_at tbX1_takeRow ndX1_takeRow (j := 3) rfl
theorem iX1_takeRow_4 : rx_ins mX1_takeRow 4 = some (3, 5, 0, 0, 0, []) := rx_at tbX1_takeRow ndX1_takeRow (j := 4) rfl
theorem iX1_takeRow_5 : rx_ins mX1_takeRow 5 = some (23, 6, 0, 0, 0, []) := rx_at tbX1_takeRow ndX1_takeRow (j := 5) rfl
theorem iX1_takeRow_6 : rx_ins mX1_takeRow 6 = some (3, 7, 0, 1, 0, []) := rx_at tbX1_takeRow ndX1_takeRow (j := 6) rfl
theorem iX1_takeRow_7 : rx_ins mX1_takeRow 7 = some (23, 8, 0, 0, 0, []) := rx_at tbX1_takeRow ndX1_takeRow (j := 7) rfl
theorem iX1_takeRow_8 : rx_ins mX1_takeRow 8 = some (31, 11, 0, 1, 0, [(59, 0)]) := rx_at tbX1_takeRow ndX1_takeRow (j := 8) rfl
theorem iX1_takeRow_11 : rx_ins mX1_takeRow 11 = some (25, 14, 0, 0, 0, [(65, 0)]) := rx_at tbX1_takeRow ndX1_takeRow (j := 9) rfl
theorem iX1_takeRow_14 : rx_ins mX1_takeRow 14 = some (30, 15, 0, 0, 0, []) := rx_at tbX1_takeRow ndX1_takeRow (j := 10) rfl
theorem iX1_isPost_0 : rx_ins mX1_isPost 0 = some (2, 1, 0, 1, 0, []) := rx_at tbX1_isPost ndX1_isPost (j := 0) rfl
theorem iX1_isPost_1 : rx_ins mX1_isPost 1 = some (13, 4, 15, 2, 16, []) := rx_at tbX1_isPost ndX1_isPost (j := 1) rfl
theorem iX1_isPost_16 : rx_ins mX1_isPost 16 = some (1, 17, 0, 0, 0, []) := rx_at tbX1_isPost ndX1_isPost (j := 8) rfl
theorem iX1_isPost_17 : rx_ins mX1_isPost 17 = some (29, 18, 1, 0, 0, []) := rx_at tbX1_isPost ndX1_isPost (j := 9) rfl
theorem iX1_isPost_4 : rx_ins mX1_isPost 4 = some (2, 5, 0, 1, 0, []) := rx_at tbX1_isPost ndX1_isPost (j := 2) rfl
theorem iX1_isPost_5 : rx_ins mX1_isPost 5 = some (3, 6, 0, 0, 0, []) := rx_at tbX1_isPost ndX1_isPost (j := 3) rfl
theorem iX1_isPost_6 : rx_ins mX1_isPost 6 = some (17, 9, 0, 1, 0, [(9, 9)]) := rx_at tbX1_isPost ndX1_isPost (j := 4) rfl
theorem iX1_isPost_9 : rx_ins mX1_isPost 9 = some (14, 12, 7, 3, 16, []) := rx_at tbX1_isPost ndX1_isPost (j := 5) rfl
theorem iX1_isPost_12 : rx_ins mX1_isPost 12 = some (1, 13, 1, 0, 0, []) := rx_at tbX1_isPost ndX1_isPost (j := 6) rfl
theorem iX1_isPost_13 : rx_ins mX1_isPost 13 = some (15, 16, 4, 0, 17, []) := rx_at tbX1_isPost ndX1_isPost (j := 7) rfl
theorem iX1_isRoad_0 : rx_ins mX1_isRoad 0 = some (2, 1, 0, 1, 0, []) := rx_at tbX1_isRoad ndX1_isRoad (j := 0) rfl
theorem iX1_isRoad_1 : rx_ins mX1_isRoad 1 = some (13, 4, 15, 2, 16, []) := rx_at tbX1_isRoad ndX1_isRoad (j := 1) rfl
theorem iX1_isRoad_16 : rx_ins mX1_isRoad 16 = some (1, 17, 0, 0, 0, []) := rx_at tbX1_isRoad ndX1_isRoad (j := 8) rfl
theorem iX1_isRoad_17 : rx_ins mX1_isRoad 17 = some (29, 18, 1, 0, 0, []) := rx_at tbX1_isRoad ndX1_isRoad (j := 9) rfl
theorem iX1_isRoad_4 : rx_ins mX1_isRoad 4 = some (2, 5, 0, 1, 0, []) := rx_at tbX1_isRoad ndX1_isRoad (j := 2) rfl
theorem iX1_isRoad_5 : rx_ins mX1_isRoad 5 = some (3, 6, 0, 0, 0, []) := rx_at tbX1_isRoad ndX1_isRoad (j := 3) rfl
theorem iX1_isRoad_6 : rx_ins mX1_isRoad 6 = some (17, 9, 0, 1, 6, [(31, 15)]) := rx_at tbX1_isRoad ndX1_isRoad (j := 4) rfl
theorem iX1_isRoad_9 : rx_ins mX1_isRoad 9 = some (14, 12, 7, 3, 16, []) := rx_at tbX1_isRoad ndX1_isRoad (j := 5) rfl
theorem iX1_isRoad_12 : rx_ins mX1_isRoad 12 = some (1, 13, 1, 0, 0, []) := rx_at tbX1_isRoad ndX1_isRoad (j := 6) rfl
theorem iX1_isRoad_13 : rx_ins mX1_isRoad 13 = some (15, 16, 4, 0, 17, []) := rx_at tbX1_isRoad ndX1_isRoad (j := 7) rfl
theorem iX1_postAt_0 : rx_ins mX1_postAt 0 = some (1, 1, 0, 0, 0, []) := rx_at tbX1_postAt ndX1_postAt (j := 0) rfl
theorem iX1_postAt_1 : rx_ins mX1_postAt 1 = some (4, 2, 0, 3, 0, []) := rx_at tbX1_postAt ndX1_postAt (j := 1) rfl
theorem iX1_postAt_2 : rx_ins mX1_postAt 2 = some (2, 3, 0, 3, 0, []) := rx_at tbX1_postAt ndX1_postAt (j := 2) rfl
theorem iX1_postAt_3 : rx_ins mX1_postAt 3 = some (3, 4, 0, 0, 0, []) := rx_at tbX1_postAt ndX1_postAt (j := 3) rfl
theorem iX1_postAt_4 : rx_ins mX1_postAt 4 = some (17, 7, 0, 1, 0, [(9, 9)]) := rx_at tbX1_postAt ndX1_postAt (j := 4) rfl
theorem iX1_postAt_7 : rx_ins mX1_postAt 7 = some (14, 10, 31, 3, 38, []) := rx_at tbX1_postAt ndX1_postAt (j := 5) rfl
theorem iX1_postAt_38 : rx_ins mX1_postAt 38 = some (1, 39, (-1), 0, 0, []) := rx_at tbX1_postAt ndX1_postAt (j := 22) rfl
theorem iX1_postAt_39 : rx_ins mX1_postAt 39 = some (29, 40, 0, 0, 0, []) := rx_at tbX1_postAt ndX1_postAt (j := 23) rfl
theorem iX1_postAt_10 : rx_ins mX1_postAt 10 = some (3, 11, 0, 0, 0, []) := rx_at tbX1_postAt ndX1_postAt (j := 6) rfl
theorem iX1_postAt_11 : rx_ins mX1_postAt 11 = some (18, 14, 0, 1, 1, [(15, 10)]) := rx_at tbX1_postAt ndX1_postAt (j := 7) rfl
theorem iX1_postAt_14 : rx_ins mX1_postAt 14 = some (2, 15, 0, 3, 0, []) := rx_at tbX1_postAt ndX1_postAt (j := 8) rfl
theorem iX1_postAt_15 : rx_ins mX1_postAt 15 = some (20, 16, 0, 0, 0, []) := rx_at tbX1_postAt ndX1_postAt (j := 9) rfl
theorem iX1_postAt_16 : rx_ins mX1_postAt 16 = some (2, 17, 0, 1, 0, []) := rx_at tbX1_postAt ndX1_postAt (j := 10) rfl
theorem iX1_postAt_17 : rx_ins mX1_postAt 17 = some (14, 20, 15, 1, 32, []) := rx_at tbX1_postAt ndX1_postAt (j := 11) rfl
theorem iX1_postAt_32 : rx_ins mX1_postAt 32 = some (6, 35, 1, 3, 0, []) := rx_at tbX1_postAt ndX1_postAt (j := 20) rfl
theorem iX1_postAt_35 : rx_ins mX1_postAt 35 = some (15, 38, (-33), 0, 2, []) := rx_at tbX1_postAt ndX1_postAt (j := 21) rfl
theorem iX1_postAt_20 : rx_ins mX1_postAt 20 = some (3, 21, 0, 0, 0, []) := rx_at tbX1_postAt ndX1_postAt (j := 12) rfl
theorem iX1_postAt_21 : rx_ins mX1_postAt 21 = some (18, 24, 0, 1, 2, [(19, 11)]) := rx_at tbX1_postAt ndX1_postAt (j := 13) rfl
theorem iX1_postAt_24 : rx_ins mX1_postAt 24 = some (2, 25, 0, 3, 0, []) := rx_at tbX1_postAt ndX1_postAt (j := 14) rfl
theorem iX1_postAt_25 : rx_ins mX1_postAt 25 = some (20, 26, 0, 0, 0, []) := rx_at tbX1_postAt ndX1_postAt (j := 15) rfl
theorem iX1_postAt_26 : rx_ins mX1_postAt 26 = some (2, 27, 0, 2, 0, []) := rx_at tbX1_postAt ndX1_postAt (j := 16) rfl
theorem iX1_postAt_27 : rx_ins mX1_postAt 27 = some (14, 30, 5, 1, 32, []) := rx_at tbX1_postAt ndX1_postAt (j := 17) rfl
theorem iX1_postAt_30 : rx_ins mX1_postAt 30 = some (2, 31, 0, 3, 0, []) := rx_at tbX1_postAt ndX1_postAt (j := 18) rfl
theorem iX1_postAt_31 : rx_ins mX1_postAt 31 = some (29, 32, 0, 0, 0, []) := rx_at tbX1_postAt ndX1_postAt (j := 19) rfl
theorem iX1_postRefusal_0 : rx_ins mX1_postRefusal 0 = some (2, 1, 0, 1, 0, []) := rx_at tbX1_postRefusal ndX1_postRefusal (j := 0) rfl
theorem iX1_postRefusal_1 : rx_ins mX1_postRefusal 1 = some (2, 2, 0, 2, 0, []) := rx_at tbX1_postRefusal ndX1_postRefusal (j := 1) rfl
theorem iX1_postRefusal_2 : rx_ins mX1_postRefusal 2 = some (28, 5, 1, 122, 2, [(71, 93)]) := rx_at tbX1_postRefusal ndX1_postRefusal (j := 2) rfl
theorem iX1_postRefusal_5 : rx_ins mX1_postRefusal 5 = some (13, 8, 6, 1, 11, []) := rx_at tbX1_postRefusal ndX1_postRefusal (j := 3) rfl
theorem iX1_postRefusal_11 : rx_ins mX1_postRefusal 11 = some (3, 12, 0, 0, 0, []) := rx_at tbX1_postRefusal ndX1_postRefusal (j := 6) rfl
theorem iX1_postRefusal_12 : rx_ins mX1_postRefusal 12 = some (2, 13, 0, 1, 0, []) := rx_at tbX1_postRefusal ndX1_postRefusal (j := 7) rfl
theorem iX1_postRefusal_13 : rx_ins mX1_postRefusal 13 = some (2, 14, 0, 2, 0, []) := rx_at tbX1_postRefusal ndX1_postRefusal (j := 8) rfl
theorem iX1_postRefusal_14 : rx_ins mX1_postRefusal 14 = some (28, 17, 3, 9, 3, [(76, 94)]) := rx_at tbX1_postRefusal ndX1_postRefusal (j := 9) rfl
theorem iX1_postRefusal_17 : rx_ins mX1_postRefusal 17 = some (13, 20, 6, 2, 23, []) := rx_at tbX1_postRefusal ndX1_postRefusal (j := 10) rfl
theorem iX1_postRefusal_23 : rx_ins mX1_postRefusal 23 = some (3, 24, 0, 0, 0, []) := rx_at tbX1_postRefusal ndX1_postRefusal (j := 13) rfl
theorem iX1_postRefusal_24 : rx_ins mX1_postRefusal 24 = some (17, 27, 0, 1, 0, [(9, 9)]) := rx_at tbX1_postRefusal ndX1_postRefusal (j := 14) rfl
theorem iX1_postRefusal_27 : rx_ins mX1_postRefusal 27 = some (1, 29, 8, 1, 0, []) := rx_at tbX1_postRefusal ndX1_postRefusal (j := 15) rfl
theorem iX1_postRefusal_29 : rx_ins mX1_postRefusal 29 = some (14, 32, 8, 2, 37, []) := rx_at tbX1_postRefusal ndX1_postRefusal (j := 16) rfl
theorem iX1_postRefusal_37 : rx_ins mX1_postRefusal 37 = some (1, 38, 0, 0, 0, []) := rx_at tbX1_postRefusal ndX1_postRefusal (j := 19) rfl
theorem iX1_postRefusal_38 : rx_ins mX1_postRefusal 38 = some (29, 39, 0, 0, 0, []) := rx_at tbX1_postRefusal ndX1_postRefusal (j := 20) rfl
theorem iX1_postRefusal_32 : rx_ins mX1_postRefusal 32 = some (1, 34, (-1000000003), 3, 2, [(80, 0)]) := rx_at tbX1_postRefusal ndX1_postRefusal (j := 17) rfl
theorem iX1_postRefusal_34 : rx_ins mX1_postRefusal 34 = some (15, 37, 4, 0, 38, []) := rx_at tbX1_postRefusal ndX1_postRefusal (j := 18) rfl
theorem iX1_postRefusal_20 : rx_ins mX1_postRefusal 20 = some (1, 22, (-1000000002), 3, 1, [(79, 0)]) := rx_at tbX1_postRefusal ndX1_postRefusal (j := 11) rfl
theorem iX1_postRefusal_22 : rx_ins mX1_postRefusal 22 = some (29, 23, 0, 0, 0, []) := rx_at tbX1_postRefusal ndX1_postRefusal (j := 12) rfl
theorem iX1_postRefusal_8 : rx_ins mX1_postRefusal 8 = some (1, 10, (-1000000001), 3, 0, [(75, 0)]) := rx_at tbX1_postRefusal ndX1_postRefusal (j := 4) rfl
theorem iX1_postRefusal_10 : rx_ins mX1_postRefusal 10 = some (29, 11, 0, 0, 0, []) := rx_at tbX1_postRefusal ndX1_postRefusal (j := 5) rfl
theorem iX1_addPost_0 : rx_ins mX1_addPost 0 = some (3, 1, 0, 0, 0, []) := rx_at tbX1_addPost ndX1_addPost (j := 0) rfl
theorem iX1_addPost_1 : rx_ins mX1_addPost 1 = some (17, 4, 0, 1, 0, [(9, 9)]) := rx_at tbX1_addPost ndX1_addPost (j := 1) rfl
theorem iX1_addPost_4 : rx_ins mX1_addPost 4 = some (4, 5, 0, 3, 0, []) := rx_at tbX1_addPost ndX1_addPost (j := 2) rfl
theorem iX1_addPost_5 : rx_ins mX1_addPost 5 = some (3, 6, 0, 0, 0, []) := rx_at tbX1_addPost ndX1_addPost (j := 3) rfl
theorem iX1_addPost_6 : rx_ins mX1_addPost 6 = some (10, 7, 0, 0, 0, []) := rx_at tbX1_addPost ndX1_addPost (j := 4) rfl
theorem iX1_addPost_7 : rx_ins mX1_addPost 7 = some (17, 10, 0, 1, 0, [(9, 9)]) := rx_at tbX1_addPost ndX1_addPost (j := 5) rfl
theorem iX1_addPost_10 : rx_ins mX1_addPost 10 = some (1, 11, 1, 0, 0, []) := rx_at tbX1_addPost ndX1_addPost (j := 6) rfl
theorem iX1_addPost_11 : rx_ins mX1_addPost 11 = some (7, 12, 0, 0, 0, []) := rx_at tbX1_addPost ndX1_addPost (j := 7) rfl
theorem iX1_addPost_12 : rx_ins mX1_addPost 12 = some (19, 15, 0, 1, 0, [(9, 9)]) := rx_at tbX1_addPost ndX1_addPost (j := 8) rfl
theorem iX1_addPost_15 : rx_ins mX1_addPost 15 = some (3, 16, 0, 0, 0, []) := rx_at tbX1_addPost ndX1_addPost (j := 9) rfl
theorem iX1_addPost_16 : rx_ins mX1_addPost 16 = some (18, 19, 0, 1, 1, [(15, 10)]) := rx_at tbX1_addPost ndX1_addPost (j := 10) rfl
theorem iX1_addPost_19 : rx_ins mX1_addPost 19 = some (2, 20, 0, 3, 0, []) := rx_at tbX1_addPost ndX1_addPost (j := 11) rfl
theorem iX1_addPost_20 : rx_ins mX1_addPost 20 = some (2, 21, 0, 1, 0, []) := rx_at tbX1_addPost ndX1_addPost (j := 12) rfl
theorem iX1_addPost_21 : rx_ins mX1_addPost 21 = some (21, 22, 0, 0, 0, []) := rx_at tbX1_addPost ndX1_addPost (j := 13) rfl
theorem iX1_addPost_22 : rx_ins mX1_addPost 22 = some (3, 23, 0, 0, 0, []) := rx_at tbX1_addPost ndX1_addPost (j := 14) rfl
theorem iX1_addPost_23 : rx_ins mX1_addPost 23 = some (18, 26, 0, 1, 2, [(19, 11)]) := rx_at tbX1_addPost ndX1_addPost (j := 15) rfl
theorem iX1_addPost_26 : rx_ins mX1_addPost 26 = some (2, 27, 0, 3, 0, []) := rx_at tbX1_addPost ndX1_addPost (j := 16) rfl
theorem iX1_addPost_27 : rx_ins mX1_addPost 27 = some (2, 28, 0, 2, 0, []) := rx_at tbX1_addPost ndX1_addPost (j := 17) rfl
theorem iX1_addPost_28 : rx_ins mX1_addPost 28 = some (21, 29, 0, 0, 0, []) := rx_at tbX1_addPost ndX1_addPost (j := 18) rfl
theorem iX1_addPost_29 : rx_ins mX1_addPost 29 = some (3, 30, 0, 0, 0, []) := rx_at tbX1_addPost ndX1_addPost (j := 19) rfl
theorem iX1_addPost_30 : rx_ins mX1_addPost 30 = some (18, 33, 0, 1, 3, [(22, 12)]) := rx_at tbX1_addPost ndX1_addPost (j := 20) rfl
theorem iX1_addPost_33 : rx_ins mX1_addPost 33 = some (2, 34, 0, 3, 0, []) := rx_at tbX1_addPost ndX1_addPost (j := 21) rfl
theorem iX1_addPost_34 : rx_ins mX1_addPost 34 = some (1, 35, 0, 0, 0, []) := rx_at tbX1_addPost ndX1_addPost (j := 22) rfl
theorem iX1_addPost_35 : rx_ins mX1_addPost 35 = some (21, 36, 0, 0, 0, []) := rx_at tbX1_addPost ndX1_addPost (j := 23) rfl
theorem iX1_addPost_36 : rx_ins mX1_addPost 36 = some (3, 37, 0, 0, 0, []) := rx_at tbX1_addPost ndX1_addPost (j := 24) rfl
theorem iX1_addPost_37 : rx_ins mX1_addPost 37 = some (2, 38, 0, 3, 0, []) := rx_at tbX1_addPost ndX1_addPost (j := 25) rfl
theorem iX1_addPost_38 : rx_ins mX1_addPost 38 = some (2, 39, 0, 3, 0, []) := rx_at tbX1_addPost ndX1_addPost (j := 26) rfl
theorem iX1_addPost_39 : rx_ins mX1_addPost 39 = some (28, 42, 3, 12, 3, [(81, 95)]) := rx_at tbX1_addPost ndX1_addPost (j := 27) rfl
theorem iX1_addPost_42 : rx_ins mX1_addPost 42 = some (2, 43, 0, 3, 0, []) := rx_at tbX1_addPost ndX1_addPost (j := 28) rfl
theorem iX1_addPost_43 : rx_ins mX1_addPost 43 = some (29, 44, 0, 0, 0, []) := rx_at tbX1_addPost ndX1_addPost (j := 29) rfl
theorem iX1_putInLine_0 : rx_ins mX1_putInLine 0 = some (3, 1, 0, 0, 0, []) := rx_at tbX1_putInLine ndX1_putInLine (j := 0) rfl
theorem iX1_putInLine_1 : rx_ins mX1_putInLine 1 = some (18, 4, 0, 1, 4, [(25, 13)]) := rx_at tbX1_putInLine ndX1_putInLine (j := 1) rfl
theorem iX1_putInLine_4 : rx_ins mX1_putInLine 4 = some (2, 5, 0, 1, 0, []) := rx_at tbX1_putInLine ndX1_putInLine (j := 2) rfl
theorem iX1_putInLine_5 : rx_ins mX1_putInLine 5 = some (2, 6, 0, 2, 0, []) := rx_at tbX1_putInLine ndX1_putInLine (j := 3) rfl
theorem iX1_putInLine_6 : rx_ins mX1_putInLine 6 = some (21, 7, 0, 0, 0, []) := rx_at tbX1_putInLine ndX1_putInLine (j := 4) rfl
theorem iX1_putInLine_7 : rx_ins mX1_putInLine 7 = some (3, 8, 0, 0, 0, []) := rx_at tbX1_putInLine ndX1_putInLine (j := 5) rfl
theorem iX1_putInLine_8 : rx_ins mX1_putInLine 8 = some (18, 11, 0, 1, 5, [(28, 14)]) := rx_at tbX1_putInLine ndX1_putInLine (j := 6) rfl
theorem iX1_putInLine_11 : rx_ins mX1_putInLine 11 = some (2, 12, 0, 2, 0, []) := rx_at tbX1_putInLine ndX1_putInLine (j := 7) rfl
theorem iX1_putInLine_12 : rx_ins mX1_putInLine 12 = some (2, 13, 0, 1, 0, []) := rx_at tbX1_putInLine ndX1_putInLine (j := 8) rfl
theorem iX1_putInLine_13 : rx_ins mX1_putInLine 13 = some (21, 14, 0, 0, 0, []) := rx_at tbX1_putInLine ndX1_putInLine (j := 9) rfl
theorem iX1_putInLine_14 : rx_ins mX1_putInLine 14 = some (30, 15, 0, 0, 0, []) := rx_at tbX1_putInLine ndX1_putInLine (j := 10) rfl
theorem iX1_swapPosts_0 : rx_ins mX1_swapPosts 0 = some (3, 1, 0, 0, 0, []) := rx_at tbX1_swapPosts ndX1_swapPosts (j := 0) rfl
theorem iX1_swapPosts_1 : rx_ins mX1_swapPosts 1 = some (18, 4, 0, 1, 1, [(15, 10)]) := rx_at tbX1_swapPosts ndX1_swapPosts (j := 1) rfl
theorem iX1_swapPosts_4 : rx_ins mX1_swapPosts 4 = some (2, 5, 0, 1, 0, []) := rx_at tbX1_swapPosts ndX1_swapPosts (j := 2) rfl
theorem iX1_swapPosts_5 : rx_ins mX1_swapPosts 5 = some (20, 6, 0, 0, 0, []) := rx_at tbX1_swapPosts ndX1_swapPosts (j := 3) rfl
theorem iX1_swapPosts_6 : rx_ins mX1_swapPosts 6 = some (4, 7, 0, 3, 0, []) := rx_at tbX1_swapPosts ndX1_swapPosts (j := 4) rfl
theorem iX1_swapPosts_7 : rx_ins mX1_swapPosts 7 = some (3, 8, 0, 0, 0, []) := rx_at tbX1_swapPosts ndX1_swapPosts (j := 5) rfl
theorem iX1_swapPosts_8 : rx_ins mX1_swapPosts 8 = some (18, 11, 0, 1, 2, [(19, 11)]) := rx_at tbX1_swapPosts ndX1_swapPosts (j := 6) rfl
theorem iX1_swapPosts_11 : rx_ins mX1_swapPosts 11 = some (2, 12, 0, 1, 0, []) := rx_at tbX1_swapPosts ndX1_swapPosts (j := 7) rfl
theorem iX1_swapPosts_12 : rx_ins mX1_swapPosts 12 = some (20, 13, 0, 0, 0, []) := rx_at tbX1_swapPosts ndX1_swapPosts (j := 8) rfl
theorem iX1_swapPosts_13 : rx_ins mX1_swapPosts 13 = some (4, 15, 1, 4, 0, []) := rx_at tbX1_swapPosts ndX1_swapPosts (j := 9) rfl
theorem iX1_swapPosts_15 : rx_ins mX1_swapPosts 15 = some (3, 16, 0, 0, 0, []) := rx_at tbX1_swapPosts ndX1_swapPosts (j := 10) rfl
theorem iX1_swapPosts_16 : rx_ins mX1_swapPosts 16 = some (18, 19, 0, 1, 1, [(15, 10)]) := rx_at tbX1_swapPosts ndX1_swapPosts (j := 11) rfl
theorem iX1_swapPosts_19 : rx_ins mX1_swapPosts 19 = some (2, 20, 0, 1, 0, []) := rx_at tbX1_swapPosts ndX1_swapPosts (j := 12) rfl
theorem iX1_swapPosts_20 : rx_ins mX1_swapPosts 20 = some (3, 21, 0, 0, 0, []) := rx_at tbX1_swapPosts ndX1_swapPosts (j := 13) rfl
theorem iX1_swapPosts_21 : rx_ins mX1_swapPosts 21 = some (18, 24, 0, 1, 1, [(15, 10)]) := rx_at tbX1_swapPosts ndX1_swapPosts (j := 14) rfl
theorem iX1_swapPosts_24 : rx_ins mX1_swapPosts 24 = some (2, 25, 0, 2, 0, []) := rx_at tbX1_swapPosts ndX1_swapPosts (j := 15) rfl
theorem iX1_swapPosts_25 : rx_ins mX1_swapPosts 25 = some (20, 26, 0, 0, 0, []) := rx_at tbX1_swapPosts ndX1_swapPosts (j := 16) rfl
theorem iX1_swapPosts_26 : rx_ins mX1_swapPosts 26 = some (21, 27, 0, 0, 0, []) := rx_at tbX1_swapPosts ndX1_swapPosts (j := 17) rfl
theorem iX1_swapPosts_27 : rx_ins mX1_swapPosts 27 = some (3, 28, 0, 0, 0, []) := rx_at tbX1_swapPosts ndX1_swapPosts (j := 18) rfl
theorem iX1_swapPosts_28 : rx_ins mX1_swapPosts 28 = some (18, 31, 0, 1, 2, [(19, 11)]) := rx_at tbX1_swapPosts ndX1_swapPosts (j := 19) rfl
theorem iX1_swapPosts_31 : rx_ins mX1_swapPosts 31 = some (2, 32, 0, 1, 0, []) := rx_at tbX1_swapPosts ndX1_swapPosts (j := 20) rfl
theorem iX1_swapPosts_32 : rx_ins mX1_swapPosts 32 = some (3, 33, 0, 0, 0, []) := rx_at tbX1_swapPosts ndX1_swapPosts (j := 21) rfl
theorem iX1_swapPosts_33 : rx_ins mX1_swapPosts 33 = some (18, 36, 0, 1, 2, [(19, 11)]) := rx_at tbX1_swapPosts ndX1_swapPosts (j := 22) rfl
theorem iX1_swapPosts_36 : rx_ins mX1_swapPosts 36 = some (2, 37, 0, 2, 0, []) := rx_at tbX1_swapPosts ndX1_swapPosts (j := 23) rfl
theorem iX1_swapPosts_37 : rx_ins mX1_swapPosts 37 = some (20, 38, 0, 0, 0, []) := rx_at tbX1_swapPosts ndX1_swapPosts (j := 24) rfl
theorem iX1_swapPosts_38 : rx_ins mX1_swapPosts 38 = some (21, 39, 0, 0, 0, []) := rx_at tbX1_swapPosts ndX1_swapPosts (j := 25) rfl
theorem iX1_swapPosts_39 : rx_ins mX1_swapPosts 39 = some (3, 40, 0, 0, 0, []) := rx_at tbX1_swapPosts ndX1_swapPosts (j := 26) rfl
theorem iX1_swapPosts_40 : rx_ins mX1_swapPosts 40 = some (18, 43, 0, 1, 1, [(15, 10)]) := rx_at tbX1_swapPosts ndX1_swapPosts (j := 27) rfl
theorem iX1_swapPosts_43 : rx_ins mX1_swapPosts 43 = some (2, 44, 0, 2, 0, []) := rx_at tbX1_swapPosts ndX1_swapPosts (j := 28) rfl
theorem iX1_swapPosts_44 : rx_ins mX1_swapPosts 44 = some (2, 45, 0, 3, 0, []) := rx_at tbX1_swapPosts ndX1_swapPosts (j := 29) rfl
theorem iX1_swapPosts_45 : rx_ins mX1_swapPosts 45 = some (21, 46, 0, 0, 0, []) := rx_at tbX1_swapPosts ndX1_swapPosts (j := 30) rfl
theorem iX1_swapPosts_46 : rx_ins mX1_swapPosts 46 = some (3, 47, 0, 0, 0, []) := rx_at tbX1_swapPosts ndX1_swapPosts (j := 31) rfl
theorem iX1_swapPosts_47 : rx_ins mX1_swapPosts 47 = some (18, 50, 0, 1, 2, [(19, 11)]) := rx_at tbX1_swapPosts ndX1_swapPosts (j := 32) rfl
theorem iX1_swapPosts_50 : rx_ins mX1_swapPosts 50 = some (2, 51, 0, 2, 0, []) := rx_at tbX1_swapPosts ndX1_swapPosts (j := 33) rfl
theorem iX1_swapPosts_51 : rx_ins mX1_swapPosts 51 = some (2, 53, 1, 4, 0, []) := rx_at tbX1_swapPosts ndX1_swapPosts (j := 34) rfl
theorem iX1_swapPosts_53 : rx_ins mX1_swapPosts 53 = some (21, 54, 0, 0, 0, []) := rx_at tbX1_swapPosts ndX1_swapPosts (j := 35) rfl
theorem iX1_swapPosts_54 : rx_ins mX1_swapPosts 54 = some (30, 55, 0, 0, 0, []) := rx_at tbX1_swapPosts ndX1_swapPosts (j := 36) rfl
theorem iX1_postsOf_0 : rx_ins mX1_postsOf 0 = some (1, 1, 0, 0, 0, []) := rx_at tbX1_postsOf ndX1_postsOf (j := 0) rfl
theorem iX1_postsOf_1 : rx_ins mX1_postsOf 1 = some (4, 2, 0, 2, 0, []) := rx_at tbX1_postsOf ndX1_postsOf (j := 1) rfl
theorem iX1_postsOf_2 : rx_ins mX1_postsOf 2 = some (1, 3, 0, 0, 0, []) := rx_at tbX1_postsOf ndX1_postsOf (j := 2) rfl
theorem iX1_postsOf_3 : rx_ins mX1_postsOf 3 = some (4, 4, 0, 3, 0, []) := rx_at tbX1_postsOf ndX1_postsOf (j := 3) rfl
theorem iX1_postsOf_4 : rx_ins mX1_postsOf 4 = some (2, 5, 0, 3, 0, []) := rx_at tbX1_postsOf ndX1_postsOf (j := 4) rfl
theorem iX1_postsOf_5 : rx_ins mX1_postsOf 5 = some (3, 6, 0, 0, 0, []) := rx_at tbX1_postsOf ndX1_postsOf (j := 5) rfl
theorem iX1_postsOf_6 : rx_ins mX1_postsOf 6 = some (17, 9, 0, 1, 0, [(9, 9)]) := rx_at tbX1_postsOf ndX1_postsOf (j := 6) rfl
theorem iX1_postsOf_9 : rx_ins mX1_postsOf 9 = some (14, 12, 22, 3, 31, []) := rx_at tbX1_postsOf ndX1_postsOf (j := 7) rfl
theorem iX1_postsOf_31 : rx_ins mX1_postsOf 31 = some (2, 32, 0, 2, 0, []) := rx_at tbX1_postsOf ndX1_postsOf (j := 17) rfl
theorem iX1_postsOf_32 : rx_ins mX1_postsOf 32 = some (29, 33, 0, 0, 0, []) := rx_at tbX1_postsOf ndX1_postsOf (j := 18) rfl
theorem iX1_postsOf_12 : rx_ins mX1_postsOf 12 = some (3, 13, 0, 0, 0, []) := rx_at tbX1_postsOf ndX1_postsOf (j := 8) rfl
theorem iX1_postsOf_13 : rx_ins mX1_postsOf 13 = some (18, 16, 0, 1, 3, [(22, 12)]) := rx_at tbX1_postsOf ndX1_postsOf (j := 9) rfl
theorem iX1_postsOf_16 : rx_ins mX1_postsOf 16 = some (2, 17, 0, 3, 0, []) := rx_at tbX1_postsOf ndX1_postsOf (j := 10) rfl
theorem iX1_postsOf_17 : rx_ins mX1_postsOf 17 = some (20, 18, 0, 0, 0, []) := rx_at tbX1_postsOf ndX1_postsOf (j := 11) rfl
theorem iX1_postsOf_18 : rx_ins mX1_postsOf 18 = some (2, 19, 0, 1, 0, []) := rx_at tbX1_postsOf ndX1_postsOf (j := 12) rfl
theorem iX1_postsOf_19 : rx_ins mX1_postsOf 19 = some (14, 22, 6, 1, 25, []) := rx_at tbX1_postsOf ndX1_postsOf (j := 13) rfl
theorem iX1_postsOf_25 : rx_ins mX1_postsOf 25 = some (6, 28, 1, 3, 0, []) := rx_at tbX1_postsOf ndX1_postsOf (j := 15) rfl
theorem iX1_postsOf_28 : rx_ins mX1_postsOf 28 = some (15, 31, (-24), 0, 4, []) := rx_at tbX1_postsOf ndX1_postsOf (j := 16) rfl
theorem iX1_postsOf_22 : rx_ins mX1_postsOf 22 = some (6, 25, 1, 2, 0, []) := rx_at tbX1_postsOf ndX1_postsOf (j := 14) rfl
theorem iX1_roadsFrom_0 : rx_ins mX1_roadsFrom 0 = some (1, 1, 0, 0, 0, []) := rx_at tbX1_roadsFrom ndX1_roadsFrom (j := 0) rfl
theorem iX1_roadsFrom_1 : rx_ins mX1_roadsFrom 1 = some (4, 2, 0, 2, 0, []) := rx_at tbX1_roadsFrom ndX1_roadsFrom (j := 1) rfl
theorem iX1_roadsFrom_2 : rx_ins mX1_roadsFrom 2 = some (1, 3, 0, 0, 0, []) := rx_at tbX1_roadsFrom ndX1_roadsFrom (j := 2) rfl
theorem iX1_roadsFrom_3 : rx_ins mX1_roadsFrom 3 = some (4, 4, 0, 3, 0, []) := rx_at tbX1_roadsFrom ndX1_roadsFrom (j := 3) rfl
theorem iX1_roadsFrom_4 : rx_ins mX1_roadsFrom 4 = some (2, 5, 0, 3, 0, []) := rx_at tbX1_roadsFrom ndX1_roadsFrom (j := 4) rfl
theorem iX1_roadsFrom_5 : rx_ins mX1_roadsFrom 5 = some (3, 6, 0, 0, 0, []) := rx_at tbX1_roadsFrom ndX1_roadsFrom (j := 5) rfl
theorem iX1_roadsFrom_6 : rx_ins mX1_roadsFrom 6 = some (17, 9, 0, 1, 6, [(31, 15)]) := rx_at tbX1_roadsFrom ndX1_roadsFrom (j := 6) rfl
theorem iX1_roadsFrom_9 : rx_ins mX1_roadsFrom 9 = some (14, 12, 32, 3, 41, []) := rx_at tbX1_roadsFrom ndX1_roadsFrom (j := 7) rfl
theorem iX1_roadsFrom_41 : rx_ins mX1_roadsFrom 41 = some (2, 42, 0, 2, 0, []) := rx_at tbX1_roadsFrom ndX1_roadsFrom (j := 23) rfl
theorem iX1_roadsFrom_42 : rx_ins mX1_roadsFrom 42 = some (29, 43, 0, 0, 0, []) := rx_at tbX1_roadsFrom ndX1_roadsFrom (j := 24) rfl
theorem iX1_roadsFrom_12 : rx_ins mX1_roadsFrom 12 = some (3, 13, 0, 0, 0, []) := rx_at tbX1_roadsFrom ndX1_roadsFrom (j := 8) rfl
theorem iX1_roadsFrom_13 : rx_ins mX1_roadsFrom 13 = some (18, 16, 0, 1, 8, [(37, 17)]) := rx_at tbX1_roadsFrom ndX1_roadsFrom (j := 9) rfl
theorem iX1_roadsFrom_16 : rx_ins mX1_roadsFrom 16 = some (2, 17, 0, 3, 0, []) := rx_at tbX1_roadsFrom ndX1_roadsFrom (j := 10) rfl
theorem iX1_roadsFrom_17 : rx_ins mX1_roadsFrom 17 = some (20, 18, 0, 0, 0, []) := rx_at tbX1_roadsFrom ndX1_roadsFrom (j := 11) rfl
theorem iX1_roadsFrom_18 : rx_ins mX1_roadsFrom 18 = some (2, 19, 0, 1, 0, []) := rx_at tbX1_roadsFrom ndX1_roadsFrom (j := 12) rfl
theorem iX1_roadsFrom_19 : rx_ins mX1_roadsFrom 19 = some (14, 22, 13, 0, 32, []) := rx_at tbX1_roadsFrom ndX1_roadsFrom (j := 13) rfl
theorem iX1_roadsFrom_32 : rx_ins mX1_roadsFrom 32 = some (6, 35, 1, 2, 0, []) := rx_at tbX1_roadsFrom ndX1_roadsFrom (j := 20) rfl
theorem iX1_roadsFrom_35 : rx_ins mX1_roadsFrom 35 = some (6, 38, 1, 3, 0, []) := rx_at tbX1_roadsFrom ndX1_roadsFrom (j := 21) rfl
theorem iX1_roadsFrom_38 : rx_ins mX1_roadsFrom 38 = some (15, 41, (-34), 0, 4, []) := rx_at tbX1_roadsFrom ndX1_roadsFrom (j := 22) rfl
theorem iX1_roadsFrom_22 : rx_ins mX1_roadsFrom 22 = some (3, 23, 0, 0, 0, []) := rx_at tbX1_roadsFrom ndX1_roadsFrom (j := 14) rfl
theorem iX1_roadsFrom_23 : rx_ins mX1_roadsFrom 23 = some (18, 26, 0, 1, 9, [(40, 18)]) := rx_at tbX1_roadsFrom ndX1_roadsFrom (j := 15) rfl
theorem iX1_roadsFrom_26 : rx_ins mX1_roadsFrom 26 = some (2, 27, 0, 3, 0, []) := rx_at tbX1_roadsFrom ndX1_roadsFrom (j := 16) rfl
theorem iX1_roadsFrom_27 : rx_ins mX1_roadsFrom 27 = some (20, 28, 0, 0, 0, []) := rx_at tbX1_roadsFrom ndX1_roadsFrom (j := 17) rfl
theorem iX1_roadsFrom_28 : rx_ins mX1_roadsFrom 28 = some (2, 29, 0, 1, 0, []) := rx_at tbX1_roadsFrom ndX1_roadsFrom (j := 18) rfl
theorem iX1_roadsFrom_29 : rx_ins mX1_roadsFrom 29 = some (14, 32, 6, 1, 35, []) := rx_at tbX1_roadsFrom ndX1_roadsFrom (j := 19) rfl
theorem iX1_hasRoad_0 : rx_ins mX1_hasRoad 0 = some (2, 1, 0, 1, 0, []) := rx_at tbX1_hasRoad ndX1_hasRoad (j := 0) rfl
theorem iX1_hasRoad_1 : rx_ins mX1_hasRoad 1 = some (2, 2, 0, 2, 0, []) := rx_at tbX1_hasRoad ndX1_hasRoad (j := 1) rfl
theorem iX1_hasRoad_2 : rx_ins mX1_hasRoad 2 = some (31, 5, 0, 1, 0, [(59, 0)]) := rx_at tbX1_hasRoad ndX1_hasRoad (j := 2) rfl
theorem iX1_hasRoad_5 : rx_ins mX1_hasRoad 5 = some (4, 6, 0, 3, 0, []) := rx_at tbX1_hasRoad ndX1_hasRoad (j := 3) rfl
theorem iX1_hasRoad_6 : rx_ins mX1_hasRoad 6 = some (2, 7, 0, 1, 0, []) := rx_at tbX1_hasRoad ndX1_hasRoad (j := 4) rfl
theorem iX1_hasRoad_7 : rx_ins mX1_hasRoad 7 = some (2, 8, 0, 2, 0, []) := rx_at tbX1_hasRoad ndX1_hasRoad (j := 5) rfl
theorem iX1_hasRoad_8 : rx_ins mX1_hasRoad 8 = some (31, 11, 0, 0, 0, [(85, 1)]) := rx_at tbX1_hasRoad ndX1_hasRoad (j := 6) rfl
theorem iX1_hasRoad_11 : rx_ins mX1_hasRoad 11 = some (4, 13, 1, 4, 0, []) := rx_at tbX1_hasRoad ndX1_hasRoad (j := 7) rfl
theorem iX1_hasRoad_13 : rx_ins mX1_hasRoad 13 = some (1, 14, 0, 0, 0, []) := rx_at tbX1_hasRoad ndX1_hasRoad (j := 8) rfl
theorem iX1_hasRoad_14 : rx_ins mX1_hasRoad 14 = some (4, 16, 1, 5, 0, []) := rx_at tbX1_hasRoad ndX1_hasRoad (j := 9) rfl
theorem iX1_hasRoad_16 : rx_ins mX1_hasRoad 16 = some (2, 18, 1, 5, 0, []) := rx_at tbX1_hasRoad ndX1_hasRoad (j := 10) rfl
theorem iX1_hasRoad_18 : rx_ins mX1_hasRoad 18 = some (3, 19, 0, 0, 0, []) := rx_at tbX1_hasRoad ndX1_hasRoad (j := 11) rfl
theorem iX1_hasRoad_19 : rx_ins mX1_hasRoad 19 = some (17, 22, 0, 1, 6, [(31, 15)]) := rx_at tbX1_hasRoad ndX1_hasRoad (j := 12) rfl
theorem iX1_hasRoad_22 : rx_ins mX1_hasRoad 22 = some (14, 25, 34, 3, 56, []) := rx_at tbX1_hasRoad ndX1_hasRoad (j := 13) rfl
theorem iX1_hasRoad_56 : rx_ins mX1_hasRoad 56 = some (1, 57, 0, 0, 0, []) := rx_at tbX1_hasRoad ndX1_hasRoad (j := 30) rfl
theorem iX1_hasRoad_57 : rx_ins mX1_hasRoad 57 = some (29, 58, 1, 0, 0, []) := rx_at tbX1_hasRoad ndX1_hasRoad (j := 31) rfl
theorem iX1_hasRoad_25 : rx_ins mX1_hasRoad 25 = some (3, 26, 0, 0, 0, []) := rx_at tbX1_hasRoad ndX1_hasRoad (j := 14) rfl
theorem iX1_hasRoad_26 : rx_ins mX1_hasRoad 26 = some (18, 29, 0, 1, 8, [(37, 17)]) := rx_at tbX1_hasRoad ndX1_hasRoad (j := 15) rfl
theorem iX1_hasRoad_29 : rx_ins mX1_hasRoad 29 = some (2, 31, 1, 5, 0, []) := rx_at tbX1_hasRoad ndX1_hasRoad (j := 16) rfl
theorem iX1_hasRoad_31 : rx_ins mX1_hasRoad 31 = some (20, 32, 0, 0, 0, []) := rx_at tbX1_hasRoad ndX1_hasRoad (j := 17) rfl
theorem iX1_hasRoad_32 : rx_ins mX1_hasRoad 32 = some (2, 33, 0, 3, 0, []) := rx_at tbX1_hasRoad ndX1_hasRoad (j := 18) rfl
theorem iX1_hasRoad_33 : rx_ins mX1_hasRoad 33 = some (14, 36, 17, 1, 50, []) := rx_at tbX1_hasRoad ndX1_hasRoad (j := 19) rfl
theorem iX1_hasRoad_50 : rx_ins mX1_hasRoad 50 = some (6, 53, 1, 5, 0, []) := rx_at tbX1_hasRoad ndX1_hasRoad (j := 28) rfl
theorem iX1_hasRoad_53 : rx_ins mX1_hasRoad 53 = some (15, 56, (-37), 0, 16, []) := rx_at tbX1_hasRoad ndX1_hasRoad (j := 29) rfl
theorem iX1_hasRoad_36 : rx_ins mX1_hasRoad 36 = some (3, 37, 0, 0, 0, []) := rx_at tbX1_hasRoad ndX1_hasRoad (j := 20) rfl
theorem iX1_hasRoad_37 : rx_ins mX1_hasRoad 37 = some (18, 40, 0, 1, 9, [(40, 18)]) := rx_at tbX1_hasRoad ndX1_hasRoad (j := 21) rfl
theorem iX1_hasRoad_40 : rx_ins mX1_hasRoad 40 = some (2, 42, 1, 5, 0, []) := rx_at tbX1_hasRoad ndX1_hasRoad (j := 22) rfl
theorem iX1_hasRoad_42 : rx_ins mX1_hasRoad 42 = some (20, 43, 0, 0, 0, []) := rx_at tbX1_hasRoad ndX1_hasRoad (j := 23) rfl
theorem iX1_hasRoad_43 : rx_ins mX1_hasRoad 43 = some (2, 45, 1, 4, 0, []) := rx_at tbX1_hasRoad ndX1_hasRoad (j := 24) rfl
theorem iX1_hasRoad_45 : rx_ins mX1_hasRoad 45 = some (14, 48, 5, 1, 50, []) := rx_at tbX1_hasRoad ndX1_hasRoad (j := 25) rfl
theorem iX1_hasRoad_48 : rx_ins mX1_hasRoad 48 = some (1, 49, 1, 0, 0, []) := rx_at tbX1_hasRoad ndX1_hasRoad (j := 26) rfl
theorem iX1_hasRoad_49 : rx_ins mX1_hasRoad 49 = some (29, 50, 1, 0, 0, []) := rx_at tbX1_hasRoad ndX1_hasRoad (j := 27) rfl
theorem iX1_roadRefusal_0 : rx_ins mX1_roadRefusal 0 = some (3, 1, 0, 0, 0, []) := rx_at tbX1_roadRefusal ndX1_roadRefusal (j := 0) rfl
theorem iX1_roadRefusal_1 : rx_ins mX1_roadRefusal 1 = some (2, 2, 0, 1, 0, []) := rx_at tbX1_roadRefusal ndX1_roadRefusal (j := 1) rfl
theorem iX1_roadRefusal_2 : rx_ins mX1_roadRefusal 2 = some (28, 5, 3, 7, 2, [(88, 96)]) := rx_at tbX1_roadRefusal ndX1_roadRefusal (j := 2) rfl
theorem iX1_roadRefusal_5 : rx_ins mX1_roadRefusal 5 = some (13, 8, 16, 0, 21, []) := rx_at tbX1_roadRefusal ndX1_roadRefusal (j := 3) rfl
theorem iX1_roadRefusal_21 : rx_ins mX1_roadRefusal 21 = some (1, 23, (-1000000001), 3, 0, [(75, 0)]) := rx_at tbX1_roadRefusal ndX1_roadRefusal (j := 11) rfl
theorem iX1_roadRefusal_23 : rx_ins mX1_roadRefusal 23 = some (29, 24, 0, 0, 0, []) := rx_at tbX1_roadRefusal ndX1_roadRefusal (j := 12) rfl
theorem iX1_roadRefusal_8 : rx_ins mX1_roadRefusal 8 = some (3, 9, 0, 0, 0, []) := rx_at tbX1_roadRefusal ndX1_roadRefusal (j := 4) rfl
theorem iX1_roadRefusal_9 : rx_ins mX1_roadRefusal 9 = some (2, 10, 0, 2, 0, []) := rx_at tbX1_roadRefusal ndX1_roadRefusal (j := 5) rfl
theorem iX1_roadRefusal_10 : rx_ins mX1_roadRefusal 10 = some (28, 13, 3, 7, 2, [(88, 96)]) := rx_at tbX1_roadRefusal ndX1_roadRefusal (j := 6) rfl
theorem iX1_roadRefusal_13 : rx_ins mX1_roadRefusal 13 = some (13, 16, 8, 0, 21, []) := rx_at tbX1_roadRefusal ndX1_roadRefusal (j := 7) rfl
theorem iX1_roadRefusal_16 : rx_ins mX1_roadRefusal 16 = some (2, 17, 0, 1, 0, []) := rx_at tbX1_roadRefusal ndX1_roadRefusal (j := 8) rfl
theorem iX1_roadRefusal_17 : rx_ins mX1_roadRefusal 17 = some (2, 18, 0, 2, 0, []) := rx_at tbX1_roadRefusal ndX1_roadRefusal (j := 9) rfl
theorem iX1_roadRefusal_18 : rx_ins mX1_roadRefusal 18 = some (14, 21, 6, 1, 24, []) := rx_at tbX1_roadRefusal ndX1_roadRefusal (j := 10) rfl
theorem iX1_roadRefusal_24 : rx_ins mX1_roadRefusal 24 = some (3, 25, 0, 0, 0, []) := rx_at tbX1_roadRefusal ndX1_roadRefusal (j := 13) rfl
theorem iX1_roadRefusal_25 : rx_ins mX1_roadRefusal 25 = some (2, 26, 0, 1, 0, []) := rx_at tbX1_roadRefusal ndX1_roadRefusal (j := 14) rfl
theorem iX1_roadRefusal_26 : rx_ins mX1_roadRefusal 26 = some (2, 27, 0, 2, 0, []) := rx_at tbX1_roadRefusal ndX1_roadRefusal (j := 15) rfl
theorem iX1_roadRefusal_27 : rx_ins mX1_roadRefusal 27 = some (28, 30, 3, 16, 3, [(92, 97)]) := rx_at tbX1_roadRefusal ndX1_roadRefusal (j := 16) rfl
theorem iX1_roadRefusal_30 : rx_ins mX1_roadRefusal 30 = some (13, 33, 6, 0, 36, []) := rx_at tbX1_roadRefusal ndX1_roadRefusal (j := 17) rfl
theorem iX1_roadRefusal_36 : rx_ins mX1_roadRefusal 36 = some (3, 37, 0, 0, 0, []) := rx_at tbX1_roadRefusal ndX1_roadRefusal (j := 20) rfl
theorem iX1_roadRefusal_37 : rx_ins mX1_roadRefusal 37 = some (17, 40, 0, 1, 6, [(31, 15)]) := rx_at tbX1_roadRefusal ndX1_roadRefusal (j := 21) rfl
theorem iX1_roadRefusal_40 : rx_ins mX1_roadRefusal 40 = some (1, 42, 18, 1, 0, []) := rx_at tbX1_roadRefusal ndX1_roadRefusal (j := 22) rfl
theorem iX1_roadRefusal_42 : rx_ins mX1_roadRefusal 42 = some (14, 45, 8, 2, 50, []) := rx_at tbX1_roadRefusal ndX1_roadRefusal (j := 23) rfl
theorem iX1_roadRefusal_50 : rx_ins mX1_roadRefusal 50 = some (1, 51, 0, 0, 0, []) := rx_at tbX1_roadRefusal ndX1_roadRefusal (j := 26) rfl
theorem iX1_roadRefusal_51 : rx_ins mX1_roadRefusal 51 = some (29, 52, 0, 0, 0, []) := rx_at tbX1_roadRefusal ndX1_roadRefusal (j := 27) rfl
theorem iX1_roadRefusal_45 : rx_ins mX1_roadRefusal 45 = some (1, 47, (-1000000003), 3, 2, [(80, 0)]) := rx_at tbX1_roadRefusal ndX1_roadRefusal (j := 24) rfl
theorem iX1_roadRefusal_47 : rx_ins mX1_roadRefusal 47 = some (15, 50, 4, 0, 51, []) := rx_at tbX1_roadRefusal ndX1_roadRefusal (j := 25) rfl
theorem iX1_roadRefusal_33 : rx_ins mX1_roadRefusal 33 = some (1, 35, (-1000000002), 3, 1, [(79, 0)]) := rx_at tbX1_roadRefusal ndX1_roadRefusal (j := 18) rfl
theorem iX1_roadRefusal_35 : rx_ins mX1_roadRefusal 35 = some (29, 36, 0, 0, 0, []) := rx_at tbX1_roadRefusal ndX1_roadRefusal (j := 19) rfl
theorem iX1_addRoad_0 : rx_ins mX1_addRoad 0 = some (3, 1, 0, 0, 0, []) := rx_at tbX1_addRoad ndX1_addRoad (j := 0) rfl
theorem iX1_addRoad_1 : rx_ins mX1_addRoad 1 = some (17, 4, 0, 1, 6, [(31, 15)]) := rx_at tbX1_addRoad ndX1_addRoad (j := 1) rfl
theorem iX1_addRoad_4 : rx_ins mX1_addRoad 4 = some (4, 6, 1, 5, 0, []) := rx_at tbX1_addRoad ndX1_addRoad (j := 2) rfl
theorem iX1_addRoad_6 : rx_ins mX1_addRoad 6 = some (3, 7, 0, 0, 0, []) := rx_at tbX1_addRoad ndX1_addRoad (j := 3) rfl
theorem iX1_addRoad_7 : rx_ins mX1_addRoad 7 = some (10, 8, 0, 0, 0, []) := rx_at tbX1_addRoad ndX1_addRoad (j := 4) rfl
theorem iX1_addRoad_8 : rx_ins mX1_addRoad 8 = some (17, 11, 0, 1, 6, [(31, 15)]) := rx_at tbX1_addRoad ndX1_addRoad (j := 5) rfl
theorem iX1_addRoad_11 : rx_ins mX1_addRoad 11 = some (1, 12, 1, 0, 0, []) := rx_at tbX1_addRoad ndX1_addRoad (j := 6) rfl
theorem iX1_addRoad_12 : rx_ins mX1_addRoad 12 = some (7, 13, 0, 0, 0, []) := rx_at tbX1_addRoad ndX1_addRoad (j := 7) rfl
theorem iX1_addRoad_13 : rx_ins mX1_addRoad 13 = some (19, 16, 0, 1, 6, [(31, 15)]) := rx_at tbX1_addRoad ndX1_addRoad (j := 8) rfl
theorem iX1_addRoad_16 : rx_ins mX1_addRoad 16 = some (3, 17, 0, 0, 0, []) := rx_at tbX1_addRoad ndX1_addRoad (j := 9) rfl
theorem iX1_addRoad_17 : rx_ins mX1_addRoad 17 = some (18, 20, 0, 1, 7, [(34, 16)]) := rx_at tbX1_addRoad ndX1_addRoad (j := 10) rfl
theorem iX1_addRoad_20 : rx_ins mX1_addRoad 20 = some (2, 22, 1, 5, 0, []) := rx_at tbX1_addRoad ndX1_addRoad (j := 11) rfl
theorem iX1_addRoad_22 : rx_ins mX1_addRoad 22 = some (2, 23, 0, 1, 0, []) := rx_at tbX1_addRoad ndX1_addRoad (j := 12) rfl
theorem iX1_addRoad_23 : rx_ins mX1_addRoad 23 = some (21, 24, 0, 0, 0, []) := rx_at tbX1_addRoad ndX1_addRoad (j := 13) rfl
theorem iX1_addRoad_24 : rx_ins mX1_addRoad 24 = some (3, 25, 0, 0, 0, []) := rx_at tbX1_addRoad ndX1_addRoad (j := 14) rfl
theorem iX1_addRoad_25 : rx_ins mX1_addRoad 25 = some (18, 28, 0, 1, 8, [(37, 17)]) := rx_at tbX1_addRoad ndX1_addRoad (j := 15) rfl
theorem iX1_addRoad_28 : rx_ins mX1_addRoad 28 = some (2, 30, 1, 5, 0, []) := rx_at tbX1_addRoad ndX1_addRoad (j := 16) rfl
theorem iX1_addRoad_30 : rx_ins mX1_addRoad 30 = some (2, 31, 0, 2, 0, []) := rx_at tbX1_addRoad ndX1_addRoad (j := 17) rfl
theorem iX1_addRoad_31 : rx_ins mX1_addRoad 31 = some (2, 32, 0, 3, 0, []) := rx_at tbX1_addRoad ndX1_addRoad (j := 18) rfl
theorem iX1_addRoad_32 : rx_ins mX1_addRoad 32 = some (31, 35, 0, 1, 0, [(59, 0)]) := rx_at tbX1_addRoad ndX1_addRoad (j := 19) rfl
theorem iX1_addRoad_35 : rx_ins mX1_addRoad 35 = some (21, 36, 0, 0, 0, []) := rx_at tbX1_addRoad ndX1_addRoad (j := 20) rfl
theorem iX1_addRoad_36 : rx_ins mX1_addRoad 36 = some (3, 37, 0, 0, 0, []) := rx_at tbX1_addRoad ndX1_addRoad (j := 21) rfl
theorem iX1_addRoad_37 : rx_ins mX1_addRoad 37 = some (18, 40, 0, 1, 9, [(40, 18)]) := rx_at tbX1_addRoad ndX1_addRoad (j := 22) rfl
theorem iX1_addRoad_40 : rx_ins mX1_addRoad 40 = some (2, 42, 1, 5, 0, []) := rx_at tbX1_addRoad ndX1_addRoad (j := 23) rfl
theorem iX1_addRoad_42 : rx_ins mX1_addRoad 42 = some (2, 43, 0, 2, 0, []) := rx_at tbX1_addRoad ndX1_addRoad (j := 24) rfl
theorem iX1_addRoad_43 : rx_ins mX1_addRoad 43 = some (2, 44, 0, 3, 0, []) := rx_at tbX1_addRoad ndX1_addRoad (j := 25) rfl
theorem iX1_addRoad_44 : rx_ins mX1_addRoad 44 = some (31, 47, 0, 0, 0, [(85, 1)]) := rx_at tbX1_addRoad ndX1_addRoad (j := 26) rfl
theorem iX1_addRoad_47 : rx_ins mX1_addRoad 47 = some (21, 48, 0, 0, 0, []) := rx_at tbX1_addRoad ndX1_addRoad (j := 27) rfl
theorem iX1_addRoad_48 : rx_ins mX1_addRoad 48 = some (3, 49, 0, 0, 0, []) := rx_at tbX1_addRoad ndX1_addRoad (j := 28) rfl
theorem iX1_addRoad_49 : rx_ins mX1_addRoad 49 = some (18, 52, 0, 1, 10, [(43, 19)]) := rx_at tbX1_addRoad ndX1_addRoad (j := 29) rfl
theorem iX1_addRoad_52 : rx_ins mX1_addRoad 52 = some (2, 54, 1, 5, 0, []) := rx_at tbX1_addRoad ndX1_addRoad (j := 30) rfl
theorem iX1_addRoad_54 : rx_ins mX1_addRoad 54 = some (2, 56, 1, 4, 0, []) := rx_at tbX1_addRoad ndX1_addRoad (j := 31) rfl
theorem iX1_addRoad_56 : rx_ins mX1_addRoad 56 = some (21, 57, 0, 0, 0, []) := rx_at tbX1_addRoad ndX1_addRoad (j := 32) rfl
theorem iX1_addRoad_57 : rx_ins mX1_addRoad 57 = some (3, 58, 0, 0, 0, []) := rx_at tbX1_addRoad ndX1_addRoad (j := 33) rfl
theorem iX1_addRoad_58 : rx_ins mX1_addRoad 58 = some (18, 61, 0, 1, 11, [(46, 20)]) := rx_at tbX1_addRoad ndX1_addRoad (j := 34) rfl
theorem iX1_addRoad_61 : rx_ins mX1_addRoad 61 = some (2, 63, 1, 5, 0, []) := rx_at tbX1_addRoad ndX1_addRoad (j := 35) rfl
theorem iX1_addRoad_63 : rx_ins mX1_addRoad 63 = some (1, 64, 0, 0, 0, []) := rx_at tbX1_addRoad ndX1_addRoad (j := 36) rfl
theorem iX1_addRoad_64 : rx_ins mX1_addRoad 64 = some (21, 65, 0, 0, 0, []) := rx_at tbX1_addRoad ndX1_addRoad (j := 37) rfl
theorem iX1_addRoad_65 : rx_ins mX1_addRoad 65 = some (2, 67, 1, 5, 0, []) := rx_at tbX1_addRoad ndX1_addRoad (j := 38) rfl
theorem iX1_addRoad_67 : rx_ins mX1_addRoad 67 = some (29, 68, 0, 0, 0, []) := rx_at tbX1_addRoad ndX1_addRoad (j := 39) rfl
theorem iX1_dropRoad_0 : rx_ins mX1_dropRoad 0 = some (2, 1, 0, 1, 0, []) := rx_at tbX1_dropRoad ndX1_dropRoad (j := 0) rfl
theorem iX1_dropRoad_1 : rx_ins mX1_dropRoad 1 = some (4, 2, 0, 2, 0, []) := rx_at tbX1_dropRoad ndX1_dropRoad (j := 1) rfl
theorem iX1_dropRoad_2 : rx_ins mX1_dropRoad 2 = some (2, 3, 0, 2, 0, []) := rx_at tbX1_dropRoad ndX1_dropRoad (j := 2) rfl
theorem iX1_dropRoad_3 : rx_ins mX1_dropRoad 3 = some (1, 4, 1, 0, 0, []) := rx_at tbX1_dropRoad ndX1_dropRoad (j := 3) rfl
theorem iX1_dropRoad_4 : rx_ins mX1_dropRoad 4 = some (7, 5, 0, 0, 0, []) := rx_at tbX1_dropRoad ndX1_dropRoad (j := 4) rfl
theorem iX1_dropRoad_5 : rx_ins mX1_dropRoad 5 = some (3, 6, 0, 0, 0, []) := rx_at tbX1_dropRoad ndX1_dropRoad (j := 5) rfl
theorem iX1_dropRoad_6 : rx_ins mX1_dropRoad 6 = some (17, 9, 0, 1, 6, [(31, 15)]) := rx_at tbX1_dropRoad ndX1_dropRoad (j := 6) rfl
theorem iX1_dropRoad_9 : rx_ins mX1_dropRoad 9 = some (14, 12, 79, 3, 88, []) := rx_at tbX1_dropRoad ndX1_dropRoad (j := 7) rfl
theorem iX1_dropRoad_88 : rx_ins mX1_dropRoad 88 = some (3, 89, 0, 0, 0, []) := rx_at tbX1_dropRoad ndX1_dropRoad (j := 60) rfl
theorem iX1_dropRoad_89 : rx_ins mX1_dropRoad 89 = some (10, 90, 0, 0, 0, []) := rx_at tbX1_dropRoad ndX1_dropRoad (j := 61) rfl
theorem iX1_dropRoad_90 : rx_ins mX1_dropRoad 90 = some (17, 93, 0, 1, 6, [(31, 15)]) := rx_at tbX1_dropRoad ndX1_dropRoad (j := 62) rfl
theorem iX1_dropRoad_93 : rx_ins mX1_dropRoad 93 = some (1, 94, 1, 0, 0, []) := rx_at tbX1_dropRoad ndX1_dropRoad (j := 63) rfl
theorem iX1_dropRoad_94 : rx_ins mX1_dropRoad 94 = some (7, 95, 0, 1, 0, []) := rx_at tbX1_dropRoad ndX1_dropRoad (j := 64) rfl
theorem iX1_dropRoad_95 : rx_ins mX1_dropRoad 95 = some (19, 98, 0, 1, 6, [(31, 15)]) := rx_at tbX1_dropRoad ndX1_dropRoad (j := 65) rfl
theorem iX1_dropRoad_98 : rx_ins mX1_dropRoad 98 = some (30, 99, 0, 0, 0, []) := rx_at tbX1_dropRoad ndX1_dropRoad (j := 66) rfl
theorem iX1_dropRoad_12 : rx_ins mX1_dropRoad 12 = some (3, 13, 0, 0, 0, []) := rx_at tbX1_dropRoad ndX1_dropRoad (j := 8) rfl
theorem iX1_dropRoad_13 : rx_ins mX1_dropRoad 13 = some (18, 16, 0, 1, 7, [(34, 16)]) := rx_at tbX1_dropRoad ndX1_dropRoad (j := 9) rfl
theorem iX1_dropRoad_16 : rx_ins mX1_dropRoad 16 = some (2, 17, 0, 2, 0, []) := rx_at tbX1_dropRoad ndX1_dropRoad (j := 10) rfl
theorem iX1_dropRoad_17 : rx_ins mX1_dropRoad 17 = some (3, 18, 0, 0, 0, []) := rx_at tbX1_dropRoad ndX1_dropRoad (j := 11) rfl
theorem iX1_dropRoad_18 : rx_ins mX1_dropRoad 18 = some (18, 21, 0, 1, 7, [(34, 16)]) := rx_at tbX1_dropRoad ndX1_dropRoad (j := 12) rfl
theorem iX1_dropRoad_21 : rx_ins mX1_dropRoad 21 = some (2, 22, 0, 2, 0, []) := rx_at tbX1_dropRoad ndX1_dropRoad (j := 13) rfl
theorem iX1_dropRoad_22 : rx_ins mX1_dropRoad 22 = some (1, 23, 1, 0, 0, []) := rx_at tbX1_dropRoad ndX1_dropRoad (j := 14) rfl
theorem iX1_dropRoad_23 : rx_ins mX1_dropRoad 23 = some (7, 24, 0, 0, 0, []) := rx_at tbX1_dropRoad ndX1_dropRoad (j := 15) rfl
theorem iX1_dropRoad_24 : rx_ins mX1_dropRoad 24 = some (20, 25, 0, 0, 0, []) := rx_at tbX1_dropRoad ndX1_dropRoad (j := 16) rfl
theorem iX1_dropRoad_25 : rx_ins mX1_dropRoad 25 = some (21, 26, 0, 0, 0, []) := rx_at tbX1_dropRoad ndX1_dropRoad (j := 17) rfl
theorem iX1_dropRoad_26 : rx_ins mX1_dropRoad 26 = some (3, 27, 0, 0, 0, []) := rx_at tbX1_dropRoad ndX1_dropRoad (j := 18) rfl
theorem iX1_dropRoad_27 : rx_ins mX1_dropRoad 27 = some (18, 30, 0, 1, 8, [(37, 17)]) := rx_at tbX1_dropRoad ndX1_dropRoad (j := 19) rfl
theorem iX1_dropRoad_30 : rx_ins mX1_dropRoad 30 = some (2, 31, 0, 2, 0, []) := rx_at tbX1_dropRoad ndX1_dropRoad (j := 20) rfl
theorem iX1_dropRoad_31 : rx_ins mX1_dropRoad 31 = some (3, 32, 0, 0, 0, []) := rx_at tbX1_dropRoad ndX1_dropRoad (j := 21) rfl
theorem iX1_dropRoad_32 : rx_ins mX1_dropRoad 32 = some (18, 35, 0, 1, 8, [(37, 17)]) := rx_at tbX1_dropRoad ndX1_dropRoad (j := 22) rfl
theorem iX1_dropRoad_35 : rx_ins mX1_dropRoad 35 = some (2, 36, 0, 2, 0, []) := rx_at tbX1_dropRoad ndX1_dropRoad (j := 23) rfl
theorem iX1_dropRoad_36 : rx_ins mX1_dropRoad 36 = some (1, 37, 1, 0, 0, []) := rx_at tbX1_dropRoad ndX1_dropRoad (j := 24) rfl
theorem iX1_dropRoad_37 : rx_ins mX1_dropRoad 37 = some (7, 38, 0, 0, 0, []) := rx_at tbX1_dropRoad ndX1_dropRoad (j := 25) rfl
theorem iX1_dropRoad_38 : rx_ins mX1_dropRoad 38 = some (20, 39, 0, 0, 0, []) := rx_at tbX1_dropRoad ndX1_dropRoad (j := 26) rfl
theorem iX1_dropRoad_39 : rx_ins mX1_dropRoad 39 = some (21, 40, 0, 0, 0, []) := rx_at tbX1_dropRoad ndX1_dropRoad (j := 27) rfl
theorem iX1_dropRoad_40 : rx_ins mX1_dropRoad 40 = some (3, 41, 0, 0, 0, []) := rx_at tbX1_dropRoad ndX1_dropRoad (j := 28) rfl
theorem iX1_dropRoad_41 : rx_ins mX1_dropRoad 41 = some (18, 44, 0, 1, 9, [(40, 18)]) := rx_at tbX1_dropRoad ndX1_dropRoad (j := 29) rfl
theorem iX1_dropRoad_44 : rx_ins mX1_dropRoad 44 = some (2, 45, 0, 2, 0, []) := rx_at tbX1_dropRoad ndX1_dropRoad (j := 30) rfl
theorem iX1_dropRoad_45 : rx_ins mX1_dropRoad 45 = some (3, 46, 0, 0, 0, []) := rx_at tbX1_dropRoad ndX1_dropRoad (j := 31) rfl
theorem iX1_dropRoad_46 : rx_ins mX1_dropRoad 46 = some (18, 49, 0, 1, 9, [(40, 18)]) := rx_at tbX1_dropRoad ndX1_dropRoad (j := 32) rfl
theorem iX1_dropRoad_49 : rx_ins mX1_dropRoad 49 = some (2, 50, 0, 2, 0, []) := rx_at tbX1_dropRoad ndX1_dropRoad (j := 33) rfl
theorem iX1_dropRoad_50 : rx_ins mX1_dropRoad 50 = some (1, 51, 1, 0, 0, []) := rx_at tbX1_dropRoad ndX1_dropRoad (j := 34) rfl
theorem iX1_dropRoad_51 : rx_ins mX1_dropRoad 51 = some (7, 52, 0, 0, 0, []) := rx_at tbX1_dropRoad ndX1_dropRoad (j := 35) rfl
theorem iX1_dropRoad_52 : rx_ins mX1_dropRoad 52 = some (20, 53, 0, 0, 0, []) := rx_at tbX1_dropRoad ndX1_dropRoad (j := 36) rfl
theorem iX1_dropRoad_53 : rx_ins mX1_dropRoad 53 = some (21, 54, 0, 0, 0, []) := rx_at tbX1_dropRoad ndX1_dropRoad (j := 37) rfl
theorem iX1_dropRoad_54 : rx_ins mX1_dropRoad 54 = some (3, 55, 0, 0, 0, []) := rx_at tbX1_dropRoad ndX1_dropRoad (j := 38) rfl
theorem iX1_dropRoad_55 : rx_ins mX1_dropRoad 55 = some (18, 58, 0, 1, 10, [(43, 19)]) := rx_at tbX1_dropRoad ndX1_dropRoad (j := 39) rfl
theorem iX1_dropRoad_58 : rx_ins mX1_dropRoad 58 = some (2, 59, 0, 2, 0, []) := rx_at tbX1_dropRoad ndX1_dropRoad (j := 40) rfl
theorem iX1_dropRoad_59 : rx_ins mX1_dropRoad 59 = some (3, 60, 0, 0, 0, []) := rx_at tbX1_dropRoad ndX1_dropRoad (j := 41) rfl
theorem iX1_dropRoad_60 : rx_ins mX1_dropRoad 60 = some (18, 63, 0, 1, 10, [(43, 19)]) := rx_at tbX1_dropRoad ndX1_dropRoad (j := 42) rfl
theorem iX1_dropRoad_63 : rx_ins mX1_dropRoad 63 = some (2, 64, 0, 2, 0, []) := rx_at tbX1_dropRoad ndX1_dropRoad (j := 43) rfl
theorem iX1_dropRoad_64 : rx_ins mX1_dropRoad 64 = some (1, 65, 1, 0, 0, []) := rx_at tbX1_dropRoad ndX1_dropRoad (j := 44) rfl
theorem iX1_dropRoad_65 : rx_ins mX1_dropRoad 65 = some (7, 66, 0, 0, 0, []) := rx_at tbX1_dropRoad ndX1_dropRoad (j := 45) rfl
theorem iX1_dropRoad_66 : rx_ins mX1_dropRoad 66 = some (20, 67, 0, 0, 0, []) := rx_at tbX1_dropRoad ndX1_dropRoad (j := 46) rfl
theorem iX1_dropRoad_67 : rx_ins mX1_dropRoad 67 = some (21, 68, 0, 0, 0, []) := rx_at tbX1_dropRoad ndX1_dropRoad (j := 47) rfl
theorem iX1_dropRoad_68 : rx_ins mX1_dropRoad 68 = some (3, 69, 0, 0, 0, []) := rx_at tbX1_dropRoad ndX1_dropRoad (j := 48) rfl
theorem iX1_dropRoad_69 : rx_ins mX1_dropRoad 69 = some (18, 72, 0, 1, 11, [(46, 20)]) := rx_at tbX1_dropRoad ndX1_dropRoad (j := 49) rfl
theorem iX1_dropRoad_72 : rx_ins mX1_dropRoad 72 = some (2, 73, 0, 2, 0, []) := rx_at tbX1_dropRoad ndX1_dropRoad (j := 50) rfl
theorem iX1_dropRoad_73 : rx_ins mX1_dropRoad 73 = some (3, 74, 0, 0, 0, []) := rx_at tbX1_dropRoad ndX1_dropRoad (j := 51) rfl
theorem iX1_dropRoad_74 : rx_ins mX1_dropRoad 74 = some (18, 77, 0, 1, 11, [(46, 20)]) := rx_at tbX1_dropRoad ndX1_dropRoad (j := 52) rfl
theorem iX1_dropRoad_77 : rx_ins mX1_dropRoad 77 = some (2, 78, 0, 2, 0, []) := rx_at tbX1_dropRoad ndX1_dropRoad (j := 53) rfl
theorem iX1_dropRoad_78 : rx_ins mX1_dropRoad 78 = some (1, 79, 1, 0, 0, []) := rx_at tbX1_dropRoad ndX1_dropRoad (j := 54) rfl
theorem iX1_dropRoad_79 : rx_ins mX1_dropRoad 79 = some (7, 80, 0, 0, 0, []) := rx_at tbX1_dropRoad ndX1_dropRoad (j := 55) rfl
theorem iX1_dropRoad_80 : rx_ins mX1_dropRoad 80 = some (20, 81, 0, 0, 0, []) := rx_at tbX1_dropRoad ndX1_dropRoad (j := 56) rfl
theorem iX1_dropRoad_81 : rx_ins mX1_dropRoad 81 = some (21, 82, 0, 0, 0, []) := rx_at tbX1_dropRoad ndX1_dropRoad (j := 57) rfl
theorem iX1_dropRoad_82 : rx_ins mX1_dropRoad 82 = some (6, 85, 1, 2, 0, []) := rx_at tbX1_dropRoad ndX1_dropRoad (j := 58) rfl
theorem iX1_dropRoad_85 : rx_ins mX1_dropRoad 85 = some (15, 88, (-83), 0, 2, []) := rx_at tbX1_dropRoad ndX1_dropRoad (j := 59) rfl
theorem iX1_draw_0 : rx_ins mX1_draw 0 = some (3, 1, 0, 0, 0, []) := rx_at tbX1_draw ndX1_draw (j := 0) rfl
theorem iX1_draw_1 : rx_ins mX1_draw 1 = some (3, 2, 0, 0, 0, []) := rx_at tbX1_draw ndX1_draw (j := 1) rfl
theorem iX1_draw_2 : rx_ins mX1_draw 2 = some (17, 5, 0, 1, 13, [(52, 22)]) := rx_at tbX1_draw ndX1_draw (j := 2) rfl
theorem iX1_draw_5 : rx_ins mX1_draw 5 = some (1, 7, 1103515245, 3, 3, [(95, 0)]) := rx_at tbX1_draw ndX1_draw (j := 3) rfl
theorem iX1_draw_7 : rx_ins mX1_draw 7 = some (7, 8, 0, 2, 0, []) := rx_at tbX1_draw ndX1_draw (j := 4) rfl
theorem iX1_draw_8 : rx_ins mX1_draw 8 = some (1, 11, 12345, 2, 0, []) := rx_at tbX1_draw ndX1_draw (j := 5) rfl
theorem iX1_draw_11 : rx_ins mX1_draw 11 = some (7, 12, 0, 0, 0, []) := rx_at tbX1_draw ndX1_draw (j := 6) rfl
theorem iX1_draw_12 : rx_ins mX1_draw 12 = some (19, 15, 0, 1, 13, [(52, 22)]) := rx_at tbX1_draw ndX1_draw (j := 7) rfl
theorem iX1_draw_15 : rx_ins mX1_draw 15 = some (2, 16, 0, 1, 0, []) := rx_at tbX1_draw ndX1_draw (j := 8) rfl
theorem iX1_draw_16 : rx_ins mX1_draw 16 = some (13, 19, 15, 5, 31, []) := rx_at tbX1_draw ndX1_draw (j := 9) rfl
theorem iX1_draw_31 : rx_ins mX1_draw 31 = some (1, 32, 0, 0, 0, []) := rx_at tbX1_draw ndX1_draw (j := 17) rfl
theorem iX1_draw_32 : rx_ins mX1_draw 32 = some (29, 33, 0, 0, 0, []) := rx_at tbX1_draw ndX1_draw (j := 18) rfl
theorem iX1_draw_19 : rx_ins mX1_draw 19 = some (3, 20, 0, 0, 0, []) := rx_at tbX1_draw ndX1_draw (j := 10) rfl
theorem iX1_draw_20 : rx_ins mX1_draw 20 = some (17, 23, 0, 1, 13, [(52, 22)]) := rx_at tbX1_draw ndX1_draw (j := 11) rfl
theorem iX1_draw_23 : rx_ins mX1_draw 23 = some (1, 25, 8, 1, 0, []) := rx_at tbX1_draw ndX1_draw (j := 12) rfl
theorem iX1_draw_25 : rx_ins mX1_draw 25 = some (7, 26, 0, 8, 0, []) := rx_at tbX1_draw ndX1_draw (j := 13) rfl
theorem iX1_draw_26 : rx_ins mX1_draw 26 = some (2, 27, 0, 1, 0, []) := rx_at tbX1_draw ndX1_draw (j := 14) rfl
theorem iX1_draw_27 : rx_ins mX1_draw 27 = some (8, 28, 0, 1, 0, []) := rx_at tbX1_draw ndX1_draw (j := 15) rfl
theorem iX1_draw_28 : rx_ins mX1_draw 28 = some (15, 31, 4, 0, 32, []) := rx_at tbX1_draw ndX1_draw (j := 16) rfl
theorem iX1_drawPost_0 : rx_ins mX1_drawPost 0 = some (3, 1, 0, 0, 0, []) := rx_at tbX1_drawPost ndX1_drawPost (j := 0) rfl
theorem iX1_drawPost_1 : rx_ins mX1_drawPost 1 = some (1, 3, 100, 1, 0, []) := rx_at tbX1_drawPost ndX1_drawPost (j := 1) rfl
theorem iX1_drawPost_3 : rx_ins mX1_drawPost 3 = some (28, 6, 3, 20, 2, [(96, 98)]) := rx_at tbX1_drawPost ndX1_drawPost (j := 2) rfl
theorem iX1_drawPost_6 : rx_ins mX1_drawPost 6 = some (4, 7, 0, 1, 0, []) := rx_at tbX1_drawPost ndX1_drawPost (j := 3) rfl
theorem iX1_drawPost_7 : rx_ins mX1_drawPost 7 = some (3, 8, 0, 0, 0, []) := rx_at tbX1_drawPost ndX1_drawPost (j := 4) rfl
theorem iX1_drawPost_8 : rx_ins mX1_drawPost 8 = some (1, 10, 100, 1, 0, []) := rx_at tbX1_drawPost ndX1_drawPost (j := 5) rfl
theorem iX1_drawPost_10 : rx_ins mX1_drawPost 10 = some (28, 13, 3, 20, 2, [(96, 98)]) := rx_at tbX1_drawPost ndX1_drawPost (j := 6) rfl
theorem iX1_drawPost_13 : rx_ins mX1_drawPost 13 = some (4, 14, 0, 2, 0, []) := rx_at tbX1_drawPost ndX1_drawPost (j := 7) rfl
theorem iX1_drawPost_14 : rx_ins mX1_drawPost 14 = some (3, 15, 0, 0, 0, []) := rx_at tbX1_drawPost ndX1_drawPost (j := 8) rfl
theorem iX1_drawPost_15 : rx_ins mX1_drawPost 15 = some (2, 16, 0, 1, 0, []) := rx_at tbX1_drawPost ndX1_drawPost (j := 9) rfl
theorem iX1_drawPost_16 : rx_ins mX1_drawPost 16 = some (2, 17, 0, 2, 0, []) := rx_at tbX1_drawPost ndX1_drawPost (j := 10) rfl
theorem iX1_drawPost_17 : rx_ins mX1_drawPost 17 = some (28, 20, 3, 10, 3, [(100, 99)]) := rx_at tbX1_drawPost ndX1_drawPost (j := 11) rfl
theorem iX1_drawPost_20 : rx_ins mX1_drawPost 20 = some (13, 23, 5, 0, 25, []) := rx_at tbX1_drawPost ndX1_drawPost (j := 12) rfl
theorem iX1_drawPost_25 : rx_ins mX1_drawPost 25 = some (3, 26, 0, 0, 0, []) := rx_at tbX1_drawPost ndX1_drawPost (j := 15) rfl
theorem iX1_drawPost_26 : rx_ins mX1_drawPost 26 = some (2, 27, 0, 1, 0, []) := rx_at tbX1_drawPost ndX1_drawPost (j := 16) rfl
theorem iX1_drawPost_27 : rx_ins mX1_drawPost 27 = some (2, 28, 0, 2, 0, []) := rx_at tbX1_drawPost ndX1_drawPost (j := 17) rfl
theorem iX1_drawPost_28 : rx_ins mX1_drawPost 28 = some (28, 31, 3, 11, 3, [(103, 100)]) := rx_at tbX1_drawPost ndX1_drawPost (j := 18) rfl
theorem iX1_drawPost_31 : rx_ins mX1_drawPost 31 = some (12, 32, 0, 0, 0, []) := rx_at tbX1_drawPost ndX1_drawPost (j := 19) rfl
theorem iX1_drawPost_32 : rx_ins mX1_drawPost 32 = some (1, 33, 1, 0, 0, []) := rx_at tbX1_drawPost ndX1_drawPost (j := 20) rfl
theorem iX1_drawPost_33 : rx_ins mX1_drawPost 33 = some (29, 34, 1, 0, 0, []) := rx_at tbX1_drawPost ndX1_drawPost (j := 21) rfl
theorem iX1_drawPost_23 : rx_ins mX1_drawPost 23 = some (1, 24, 0, 0, 0, []) := rx_at tbX1_drawPost ndX1_drawPost (j := 13) rfl
theorem iX1_drawPost_24 : rx_ins mX1_drawPost 24 = some (29, 25, 1, 0, 0, []) := rx_at tbX1_drawPost ndX1_drawPost (j := 14) rfl
theorem iX1_drawRoad_0 : rx_ins mX1_drawRoad 0 = some (3, 1, 0, 0, 0, []) := rx_at tbX1_drawRoad ndX1_drawRoad (j := 0) rfl
theorem iX1_drawRoad_1 : rx_ins mX1_drawRoad 1 = some (3, 2, 0, 0, 0, []) := rx_at tbX1_drawRoad ndX1_drawRoad (j := 1) rfl
theorem iX1_drawRoad_2 : rx_ins mX1_drawRoad 2 = some (17, 5, 0, 1, 0, [(9, 9)]) := rx_at tbX1_drawRoad ndX1_drawRoad (j := 2) rfl
theorem iX1_drawRoad_5 : rx_ins mX1_drawRoad 5 = some (28, 8, 3, 20, 2, [(96, 98)]) := rx_at tbX1_drawRoad ndX1_drawRoad (j := 3) rfl
theorem iX1_drawRoad_8 : rx_ins mX1_drawRoad 8 = some (4, 9, 0, 1, 0, []) := rx_at tbX1_drawRoad ndX1_drawRoad (j := 4) rfl
theorem iX1_drawRoad_9 : rx_ins mX1_drawRoad 9 = some (3, 10, 0, 0, 0, []) := rx_at tbX1_drawRoad ndX1_drawRoad (j := 5) rfl
theorem iX1_drawRoad_10 : rx_ins mX1_drawRoad 10 = some (3, 11, 0, 0, 0, []) := rx_at tbX1_drawRoad ndX1_drawRoad (j := 6) rfl
theorem iX1_drawRoad_11 : rx_ins mX1_drawRoad 11 = some (17, 14, 0, 1, 0, [(9, 9)]) := rx_at tbX1_drawRoad ndX1_drawRoad (j := 7) rfl
theorem iX1_drawRoad_14 : rx_ins mX1_drawRoad 14 = some (28, 17, 3, 20, 2, [(96, 98)]) := rx_at tbX1_drawRoad ndX1_drawRoad (j := 8) rfl
theorem iX1_drawRoad_17 : rx_ins mX1_drawRoad 17 = some (4, 18, 0, 2, 0, []) := rx_at tbX1_drawRoad ndX1_drawRoad (j := 9) rfl
theorem iX1_drawRoad_18 : rx_ins mX1_drawRoad 18 = some (3, 19, 0, 0, 0, []) := rx_at tbX1_drawRoad ndX1_drawRoad (j := 10) rfl
theorem iX1_drawRoad_19 : rx_ins mX1_drawRoad 19 = some (2, 20, 0, 1, 0, []) := rx_at tbX1_drawRoad ndX1_drawRoad (j := 11) rfl
theorem iX1_drawRoad_20 : rx_ins mX1_drawRoad 20 = some (2, 21, 0, 2, 0, []) := rx_at tbX1_drawRoad ndX1_drawRoad (j := 12) rfl
theorem iX1_drawRoad_21 : rx_ins mX1_drawRoad 21 = some (28, 24, 3, 17, 3, [(106, 101)]) := rx_at tbX1_drawRoad ndX1_drawRoad (j := 13) rfl
theorem iX1_drawRoad_24 : rx_ins mX1_drawRoad 24 = some (13, 27, 5, 0, 29, []) := rx_at tbX1_drawRoad ndX1_drawRoad (j := 14) rfl
theorem iX1_drawRoad_29 : rx_ins mX1_drawRoad 29 = some (3, 30, 0, 0, 0, []) := rx_at tbX1_drawRoad ndX1_drawRoad (j := 17) rfl
theorem iX1_drawRoad_30 : rx_ins mX1_drawRoad 30 = some (1, 31, 0, 0, 0, []) := rx_at tbX1_drawRoad ndX1_drawRoad (j := 18) rfl
theorem iX1_drawRoad_31 : rx_ins mX1_drawRoad 31 = some (2, 32, 0, 1, 0, []) := rx_at tbX1_drawRoad ndX1_drawRoad (j := 19) rfl
theorem iX1_drawRoad_32 : rx_ins mX1_drawRoad 32 = some (2, 33, 0, 2, 0, []) := rx_at tbX1_drawRoad ndX1_drawRoad (j := 20) rfl
theorem iX1_drawRoad_33 : rx_ins mX1_drawRoad 33 = some (1, 34, 1, 0, 0, []) := rx_at tbX1_drawRoad ndX1_drawRoad (j := 21) rfl
theorem iX1_drawRoad_34 : rx_ins mX1_drawRoad 34 = some (3, 35, 0, 0, 0, []) := rx_at tbX1_drawRoad ndX1_drawRoad (j := 22) rfl
theorem iX1_drawRoad_35 : rx_ins mX1_drawRoad 35 = some (1, 37, 9, 1, 0, []) := rx_at tbX1_drawRoad ndX1_drawRoad (j := 23) rfl
theorem iX1_drawRoad_37 : rx_ins mX1_drawRoad 37 = some (28, 40, 3, 20, 2, [(96, 98)]) := rx_at tbX1_drawRoad ndX1_drawRoad (j := 24) rfl
theorem iX1_drawRoad_40 : rx_ins mX1_drawRoad 40 = some (7, 41, 0, 0, 0, []) := rx_at tbX1_drawRoad ndX1_drawRoad (j := 25) rfl
theorem iX1_drawRoad_41 : rx_ins mX1_drawRoad 41 = some (28, 44, 3, 18, 5, [(109, 102)]) := rx_at tbX1_drawRoad ndX1_drawRoad (j := 26) rfl
theorem iX1_drawRoad_44 : rx_ins mX1_drawRoad 44 = some (12, 45, 0, 0, 0, []) := rx_at tbX1_drawRoad ndX1_drawRoad (j := 27) rfl
theorem iX1_drawRoad_45 : rx_ins mX1_drawRoad 45 = some (1, 46, 1, 0, 0, []) := rx_at tbX1_drawRoad ndX1_drawRoad (j := 28) rfl
theorem iX1_drawRoad_46 : rx_ins mX1_drawRoad 46 = some (29, 47, 1, 0, 0, []) := rx_at tbX1_drawRoad ndX1_drawRoad (j := 29) rfl
theorem iX1_drawRoad_27 : rx_ins mX1_drawRoad 27 = some (1, 28, 0, 0, 0, []) := rx_at tbX1_drawRoad ndX1_drawRoad (j := 15) rfl
theorem iX1_drawRoad_28 : rx_ins mX1_drawRoad 28 = some (29, 29, 1, 0, 0, []) := rx_at tbX1_drawRoad ndX1_drawRoad (j := 16) rfl
theorem iX1_isTwoSided_0 : rx_ins mX1_isTwoSided 0 = some (1, 1, 0, 0, 0, []) := rx_at tbX1_isTwoSided ndX1_isTwoSided (j := 0) rfl
theorem iX1_isTwoSided_1 : rx_ins mX1_isTwoSided 1 = some (4, 2, 0, 1, 0, []) := rx_at tbX1_isTwoSided ndX1_isTwoSided (j := 1) rfl
theorem iX1_isTwoSided_2 : rx_ins mX1_isTwoSided 2 = some (2, 3, 0, 1, 0, []) := rx_at tbX1_isTwoSided ndX1_isTwoSided (j := 2) rfl
theorem iX1_isTwoSided_3 : rx_ins mX1_isTwoSided 3 = some (1, 4, 1, 0, 0, []) := rx_at tbX1_isTwoSided ndX1_isTwoSided (j := 3) rfl
theorem iX1_isTwoSided_4 : rx_ins mX1_isTwoSided 4 = some (3, 5, 0, 0, 0, []) := rx_at tbX1_isTwoSided ndX1_isTwoSided (j := 4) rfl
theorem iX1_isTwoSided_5 : rx_ins mX1_isTwoSided 5 = some (17, 8, 0, 1, 0, [(9, 9)]) := rx_at tbX1_isTwoSided ndX1_isTwoSided (j := 5) rfl
theorem iX1_isTwoSided_8 : rx_ins mX1_isTwoSided 8 = some (7, 9, 0, 6, 0, []) := rx_at tbX1_isTwoSided ndX1_isTwoSided (j := 6) rfl
theorem iX1_isTwoSided_9 : rx_ins mX1_isTwoSided 9 = some (14, 12, 19, 3, 28, []) := rx_at tbX1_isTwoSided ndX1_isTwoSided (j := 7) rfl
theorem iX1_isTwoSided_28 : rx_ins mX1_isTwoSided 28 = some (1, 29, 0, 0, 0, []) := rx_at tbX1_isTwoSided ndX1_isTwoSided (j := 16) rfl
theorem iX1_isTwoSided_29 : rx_ins mX1_isTwoSided 29 = some (29, 30, 1, 0, 0, []) := rx_at tbX1_isTwoSided ndX1_isTwoSided (j := 17) rfl
theorem iX1_isTwoSided_12 : rx_ins mX1_isTwoSided 12 = some (3, 13, 0, 0, 0, []) := rx_at tbX1_isTwoSided ndX1_isTwoSided (j := 8) rfl
theorem iX1_isTwoSided_13 : rx_ins mX1_isTwoSided 13 = some (2, 14, 0, 1, 0, []) := rx_at tbX1_isTwoSided ndX1_isTwoSided (j := 9) rfl
theorem iX1_isTwoSided_14 : rx_ins mX1_isTwoSided 14 = some (28, 17, 3, 24, 2, [(113, 103)]) := rx_at tbX1_isTwoSided ndX1_isTwoSided (j := 10) rfl
theorem iX1_isTwoSided_17 : rx_ins mX1_isTwoSided 17 = some (13, 20, 5, 0, 22, []) := rx_at tbX1_isTwoSided ndX1_isTwoSided (j := 11) rfl
theorem iX1_isTwoSided_22 : rx_ins mX1_isTwoSided 22 = some (6, 25, 1, 1, 0, []) := rx_at tbX1_isTwoSided ndX1_isTwoSided (j := 14) rfl
theorem iX1_isTwoSided_25 : rx_ins mX1_isTwoSided 25 = some (15, 28, (-23), 0, 2, []) := rx_at tbX1_isTwoSided ndX1_isTwoSided (j := 15) rfl
theorem iX1_isTwoSided_20 : rx_ins mX1_isTwoSided 20 = some (1, 21, 1, 0, 0, []) := rx_at tbX1_isTwoSided ndX1_isTwoSided (j := 12) rfl
theorem iX1_isTwoSided_21 : rx_ins mX1_isTwoSided 21 = some (29, 22, 1, 0, 0, []) := rx_at tbX1_isTwoSided ndX1_isTwoSided (j := 13) rfl
theorem iX1_isParted_0 : rx_ins mX1_isParted 0 = some (1, 1, 0, 0, 0, []) := rx_at tbX1_isParted ndX1_isParted (j := 0) rfl
theorem iX1_isParted_1 : rx_ins mX1_isParted 1 = some (4, 2, 0, 2, 0, []) := rx_at tbX1_isParted ndX1_isParted (j := 1) rfl
theorem iX1_isParted_2 : rx_ins mX1_isParted 2 = some (2, 3, 0, 2, 0, []) := rx_at tbX1_isParted ndX1_isParted (j := 2) rfl
theorem iX1_isParted_3 : rx_ins mX1_isParted 3 = some (3, 4, 0, 0, 0, []) := rx_at tbX1_isParted ndX1_isParted (j := 3) rfl
theorem iX1_isParted_4 : rx_ins mX1_isParted 4 = some (17, 7, 0, 1, 6, [(31, 15)]) := rx_at tbX1_isParted ndX1_isParted (j := 4) rfl
theorem iX1_isParted_7 : rx_ins mX1_isParted 7 = some (14, 10, 34, 3, 41, []) := rx_at tbX1_isParted ndX1_isParted (j := 5) rfl
theorem iX1_isParted_41 : rx_ins mX1_isParted 41 = some (1, 42, 1, 0, 0, []) := rx_at tbX1_isParted ndX1_isParted (j := 27) rfl
theorem iX1_isParted_42 : rx_ins mX1_isParted 42 = some (29, 43, 1, 0, 0, []) := rx_at tbX1_isParted ndX1_isParted (j := 28) rfl
theorem iX1_isParted_10 : rx_ins mX1_isParted 10 = some (2, 11, 0, 1, 0, []) := rx_at tbX1_isParted ndX1_isParted (j := 6) rfl
theorem iX1_isParted_11 : rx_ins mX1_isParted 11 = some (3, 12, 0, 0, 0, []) := rx_at tbX1_isParted ndX1_isParted (j := 7) rfl
theorem iX1_isParted_12 : rx_ins mX1_isParted 12 = some (18, 15, 0, 1, 8, [(37, 17)]) := rx_at tbX1_isParted ndX1_isParted (j := 8) rfl
theorem iX1_isParted_15 : rx_ins mX1_isParted 15 = some (2, 16, 0, 2, 0, []) := rx_at tbX1_isParted ndX1_isParted (j := 9) rfl
theorem iX1_isParted_16 : rx_ins mX1_isParted 16 = some (20, 17, 0, 0, 0, []) := rx_at tbX1_isParted ndX1_isParted (j := 10) rfl
theorem iX1_isParted_17 : rx_ins mX1_isParted 17 = some (7, 18, 0, 7, 0, []) := rx_at tbX1_isParted ndX1_isParted (j := 11) rfl
theorem iX1_isParted_18 : rx_ins mX1_isParted 18 = some (1, 19, 1, 0, 0, []) := rx_at tbX1_isParted ndX1_isParted (j := 12) rfl
theorem iX1_isParted_19 : rx_ins mX1_isParted 19 = some (7, 20, 0, 3, 0, []) := rx_at tbX1_isParted ndX1_isParted (j := 13) rfl
theorem iX1_isParted_20 : rx_ins mX1_isParted 20 = some (2, 21, 0, 1, 0, []) := rx_at tbX1_isParted ndX1_isParted (j := 14) rfl
theorem iX1_isParted_21 : rx_ins mX1_isParted 21 = some (3, 22, 0, 0, 0, []) := rx_at tbX1_isParted ndX1_isParted (j := 15) rfl
theorem iX1_isParted_22 : rx_ins mX1_isParted 22 = some (18, 25, 0, 1, 9, [(40, 18)]) := rx_at tbX1_isParted ndX1_isParted (j := 16) rfl
theorem iX1_isParted_25 : rx_ins mX1_isParted 25 = some (2, 26, 0, 2, 0, []) := rx_at tbX1_isParted ndX1_isParted (j := 17) rfl
theorem iX1_isParted_26 : rx_ins mX1_isParted 26 = some (20, 27, 0, 0, 0, []) := rx_at tbX1_isParted ndX1_isParted (j := 18) rfl
theorem iX1_isParted_27 : rx_ins mX1_isParted 27 = some (7, 28, 0, 7, 0, []) := rx_at tbX1_isParted ndX1_isParted (j := 19) rfl
theorem iX1_isParted_28 : rx_ins mX1_isParted 28 = some (1, 29, 1, 0, 0, []) := rx_at tbX1_isParted ndX1_isParted (j := 20) rfl
theorem iX1_isParted_29 : rx_ins mX1_isParted 29 = some (7, 30, 0, 3, 0, []) := rx_at tbX1_isParted ndX1_isParted (j := 21) rfl
theorem iX1_isParted_30 : rx_ins mX1_isParted 30 = some (14, 33, 5, 1, 35, []) := rx_at tbX1_isParted ndX1_isParted (j := 22) rfl
theorem iX1_isParted_35 : rx_ins mX1_isParted 35 = some (6, 38, 1, 2, 0, []) := rx_at tbX1_isParted ndX1_isParted (j := 25) rfl
theorem iX1_isParted_38 : rx_ins mX1_isParted 38 = some (15, 41, (-36), 0, 2, []) := rx_at tbX1_isParted ndX1_isParted (j := 26) rfl
theorem iX1_isParted_33 : rx_ins mX1_isParted 33 = some (1, 34, 0, 0, 0, []) := rx_at tbX1_isParted ndX1_isParted (j := 23) rfl
theorem iX1_isParted_34 : rx_ins mX1_isParted 34 = some (29, 35, 1, 0, 0, []) := rx_at tbX1_isParted ndX1_isParted (j := 24) rfl
theorem iX1_pairsThatMeet_0 : rx_ins mX1_pairsThatMeet 0 = some (1, 1, 0, 0, 0, []) := rx_at tbX1_pairsThatMeet ndX1_pairsThatMeet (j := 0) rfl
theorem iX1_pairsThatMeet_1 : rx_ins mX1_pairsThatMeet 1 = some (4, 2, 0, 2, 0, []) := rx_at tbX1_pairsThatMeet ndX1_pairsThatMeet (j := 1) rfl
theorem iX1_pairsThatMeet_2 : rx_ins mX1_pairsThatMeet 2 = some (1, 3, 0, 0, 0, []) := rx_at tbX1_pairsThatMeet ndX1_pairsThatMeet (j := 2) rfl
theorem iX1_pairsThatMeet_3 : rx_ins mX1_pairsThatMeet 3 = some (4, 4, 0, 3, 0, []) := rx_at tbX1_pairsThatMeet ndX1_pairsThatMeet (j := 3) rfl
theorem iX1_pairsThatMeet_4 : rx_ins mX1_pairsThatMeet 4 = some (2, 5, 0, 3, 0, []) := rx_at tbX1_pairsThatMeet ndX1_pairsThatMeet (j := 4) rfl
theorem iX1_pairsThatMeet_5 : rx_ins mX1_pairsThatMeet 5 = some (3, 6, 0, 0, 0, []) := rx_at tbX1_pairsThatMeet ndX1_pairsThatMeet (j := 5) rfl
theorem iX1_pairsThatMeet_6 : rx_ins mX1_pairsThatMeet 6 = some (17, 9, 0, 1, 6, [(31, 15)]) := rx_at tbX1_pairsThatMeet ndX1_pairsThatMeet (j := 6) rfl
theorem iX1_pairsThatMeet_9 : rx_ins mX1_pairsThatMeet 9 = some (14, 12, 43, 3, 52, []) := rx_at tbX1_pairsThatMeet ndX1_pairsThatMeet (j := 7) rfl
theorem iX1_pairsThatMeet_52 : rx_ins mX1_pairsThatMeet 52 = some (2, 53, 0, 2, 0, []) := rx_at tbX1_pairsThatMeet ndX1_pairsThatMeet (j := 27) rfl
theorem iX1_pairsThatMeet_53 : rx_ins mX1_pairsThatMeet 53 = some (29, 54, 0, 0, 0, []) := rx_at tbX1_pairsThatMeet ndX1_pairsThatMeet (j := 28) rfl
theorem iX1_pairsThatMeet_12 : rx_ins mX1_pairsThatMeet 12 = some (2, 13, 0, 3, 0, []) := rx_at tbX1_pairsThatMeet ndX1_pairsThatMeet (j := 8) rfl
theorem iX1_pairsThatMeet_13 : rx_ins mX1_pairsThatMeet 13 = some (1, 14, 1, 0, 0, []) := rx_at tbX1_pairsThatMeet ndX1_pairsThatMeet (j := 9) rfl
theorem iX1_pairsThatMeet_14 : rx_ins mX1_pairsThatMeet 14 = some (7, 15, 0, 0, 0, []) := rx_at tbX1_pairsThatMeet ndX1_pairsThatMeet (j := 10) rfl
theorem iX1_pairsThatMeet_15 : rx_ins mX1_pairsThatMeet 15 = some (4, 17, 1, 4, 0, []) := rx_at tbX1_pairsThatMeet ndX1_pairsThatMeet (j := 11) rfl
theorem iX1_pairsThatMeet_17 : rx_ins mX1_pairsThatMeet 17 = some (2, 19, 1, 4, 0, []) := rx_at tbX1_pairsThatMeet ndX1_pairsThatMeet (j := 12) rfl
theorem iX1_pairsThatMeet_19 : rx_ins mX1_pairsThatMeet 19 = some (3, 20, 0, 0, 0, []) := rx_at tbX1_pairsThatMeet ndX1_pairsThatMeet (j := 13) rfl
theorem iX1_pairsThatMeet_20 : rx_ins mX1_pairsThatMeet 20 = some (17, 23, 0, 1, 6, [(31, 15)]) := rx_at tbX1_pairsThatMeet ndX1_pairsThatMeet (j := 14) rfl
theorem iX1_pairsThatMeet_23 : rx_ins mX1_pairsThatMeet 23 = some (14, 26, 23, 3, 46, []) := rx_at tbX1_pairsThatMeet ndX1_pairsThatMeet (j := 15) rfl
theorem iX1_pairsThatMeet_46 : rx_ins mX1_pairsThatMeet 46 = some (6, 49, 1, 3, 0, []) := rx_at tbX1_pairsThatMeet ndX1_pairsThatMeet (j := 25) rfl
theorem iX1_pairsThatMeet_49 : rx_ins mX1_pairsThatMeet 49 = some (15, 52, (-45), 0, 4, []) := rx_at tbX1_pairsThatMeet ndX1_pairsThatMeet (j := 26) rfl
theorem iX1_pairsThatMeet_26 : rx_ins mX1_pairsThatMeet 26 = some (3, 27, 0, 0, 0, []) := rx_at tbX1_pairsThatMeet ndX1_pairsThatMeet (j := 16) rfl
theorem iX1_pairsThatMeet_27 : rx_ins mX1_pairsThatMeet 27 = some (2, 28, 0, 1, 0, []) := rx_at tbX1_pairsThatMeet ndX1_pairsThatMeet (j := 17) rfl
theorem iX1_pairsThatMeet_28 : rx_ins mX1_pairsThatMeet 28 = some (2, 29, 0, 3, 0, []) := rx_at tbX1_pairsThatMeet ndX1_pairsThatMeet (j := 18) rfl
theorem iX1_pairsThatMeet_29 : rx_ins mX1_pairsThatMeet 29 = some (2, 31, 1, 4, 0, []) := rx_at tbX1_pairsThatMeet ndX1_pairsThatMeet (j := 19) rfl
theorem iX1_pairsThatMeet_31 : rx_ins mX1_pairsThatMeet 31 = some (28, 34, 3, 26, 4, [(116, 104)]) := rx_at tbX1_pairsThatMeet ndX1_pairsThatMeet (j := 20) rfl
theorem iX1_pairsThatMeet_34 : rx_ins mX1_pairsThatMeet 34 = some (13, 37, 6, 0, 40, []) := rx_at tbX1_pairsThatMeet ndX1_pairsThatMeet (j := 21) rfl
theorem iX1_pairsThatMeet_40 : rx_ins mX1_pairsThatMeet 40 = some (6, 43, 1, 4, 0, []) := rx_at tbX1_pairsThatMeet ndX1_pairsThatMeet (j := 23) rfl
theorem iX1_pairsThatMeet_43 : rx_ins mX1_pairsThatMeet 43 = some (15, 46, (-26), 0, 17, []) := rx_at tbX1_pairsThatMeet ndX1_pairsThatMeet (j := 24) rfl
theorem iX1_pairsThatMeet_37 : rx_ins mX1_pairsThatMeet 37 = some (6, 40, 1, 2, 0, []) := rx_at tbX1_pairsThatMeet ndX1_pairsThatMeet (j := 22) rfl
theorem iX1_meet_0 : rx_ins mX1_meet 0 = some (3, 1, 0, 0, 0, []) := rx_at tbX1_meet ndX1_meet (j := 0) rfl
theorem iX1_meet_1 : rx_ins mX1_meet 1 = some (2, 2, 0, 2, 0, []) := rx_at tbX1_meet ndX1_meet (j := 1) rfl
theorem iX1_meet_2 : rx_ins mX1_meet 2 = some (2, 3, 0, 3, 0, []) := rx_at tbX1_meet ndX1_meet (j := 2) rfl
theorem iX1_meet_3 : rx_ins mX1_meet 3 = some (28, 6, 3, 27, 3, [(120, 105)]) := rx_at tbX1_meet ndX1_meet (j := 3) rfl
theorem iX1_meet_6 : rx_ins mX1_meet 6 = some (13, 9, 5, 0, 11, []) := rx_at tbX1_meet ndX1_meet (j := 4) rfl
theorem iX1_meet_11 : rx_ins mX1_meet 11 = some (2, 12, 0, 1, 0, []) := rx_at tbX1_meet ndX1_meet (j := 7) rfl
theorem iX1_meet_12 : rx_ins mX1_meet 12 = some (16, 40, 1, 0, 99, [(0, 40), (1, 69)]) := rx_at tbX1_meet ndX1_meet (j := 8) rfl
theorem iX1_meet_40 : rx_ins mX1_meet 40 = some (3, 41, 0, 0, 0, []) := rx_at tbX1_meet ndX1_meet (j := 9) rfl
theorem iX1_meet_41 : rx_ins mX1_meet 41 = some (3, 42, 0, 0, 0, []) := rx_at tbX1_meet ndX1_meet (j := 10) rfl
theorem iX1_meet_42 : rx_ins mX1_meet 42 = some (18, 45, 0, 1, 8, [(37, 17)]) := rx_at tbX1_meet ndX1_meet (j := 11) rfl
theorem iX1_meet_45 : rx_ins mX1_meet 45 = some (2, 46, 0, 2, 0, []) := rx_at tbX1_meet ndX1_meet (j := 12) rfl
theorem iX1_meet_46 : rx_ins mX1_meet 46 = some (20, 47, 0, 0, 0, []) := rx_at tbX1_meet ndX1_meet (j := 13) rfl
theorem iX1_meet_47 : rx_ins mX1_meet 47 = some (3, 48, 0, 0, 0, []) := rx_at tbX1_meet ndX1_meet (j := 14) rfl
theorem iX1_meet_48 : rx_ins mX1_meet 48 = some (18, 51, 0, 1, 9, [(40, 18)]) := rx_at tbX1_meet ndX1_meet (j := 15) rfl
theorem iX1_meet_51 : rx_ins mX1_meet 51 = some (2, 52, 0, 2, 0, []) := rx_at tbX1_meet ndX1_meet (j := 16) rfl
theorem iX1_meet_52 : rx_ins mX1_meet 52 = some (20, 53, 0, 0, 0, []) := rx_at tbX1_meet ndX1_meet (j := 17) rfl
theorem iX1_meet_53 : rx_ins mX1_meet 53 = some (3, 54, 0, 0, 0, []) := rx_at tbX1_meet ndX1_meet (j := 18) rfl
theorem iX1_meet_54 : rx_ins mX1_meet 54 = some (18, 57, 0, 1, 8, [(37, 17)]) := rx_at tbX1_meet ndX1_meet (j := 19) rfl
theorem iX1_meet_57 : rx_ins mX1_meet 57 = some (2, 58, 0, 3, 0, []) := rx_at tbX1_meet ndX1_meet (j := 20) rfl
theorem iX1_meet_58 : rx_ins mX1_meet 58 = some (20, 59, 0, 0, 0, []) := rx_at tbX1_meet ndX1_meet (j := 21) rfl
theorem iX1_meet_59 : rx_ins mX1_meet 59 = some (3, 60, 0, 0, 0, []) := rx_at tbX1_meet ndX1_meet (j := 22) rfl
theorem iX1_meet_60 : rx_ins mX1_meet 60 = some (18, 63, 0, 1, 9, [(40, 18)]) := rx_at tbX1_meet ndX1_meet (j := 23) rfl
theorem iX1_meet_63 : rx_ins mX1_meet 63 = some (2, 64, 0, 3, 0, []) := rx_at tbX1_meet ndX1_meet (j := 24) rfl
theorem iX1_meet_64 : rx_ins mX1_meet 64 = some (20, 65, 0, 0, 0, []) := rx_at tbX1_meet ndX1_meet (j := 25) rfl
theorem iX1_meet_65 : rx_ins mX1_meet 65 = some (28, 68, 3, 28, 5, [(123, 106)]) := rx_at tbX1_meet ndX1_meet (j := 26) rfl
theorem iX1_meet_68 : rx_ins mX1_meet 68 = some (29, 69, 1, 0, 0, []) := rx_at tbX1_meet ndX1_meet (j := 27) rfl
theorem iX1_meet_69 : rx_ins mX1_meet 69 = some (3, 70, 0, 0, 0, []) := rx_at tbX1_meet ndX1_meet (j := 28) rfl
theorem iX1_meet_70 : rx_ins mX1_meet 70 = some (18, 73, 0, 1, 11, [(46, 20)]) := rx_at tbX1_meet ndX1_meet (j := 29) rfl
theorem iX1_meet_73 : rx_ins mX1_meet 73 = some (2, 74, 0, 2, 0, []) := rx_at tbX1_meet ndX1_meet (j := 30) rfl
theorem iX1_meet_74 : rx_ins mX1_meet 74 = some (20, 75, 0, 0, 0, []) := rx_at tbX1_meet ndX1_meet (j := 31) rfl
theorem iX1_meet_75 : rx_ins mX1_meet 75 = some (3, 76, 0, 0, 0, []) := rx_at tbX1_meet ndX1_meet (j := 32) rfl
theorem iX1_meet_76 : rx_ins mX1_meet 76 = some (18, 79, 0, 1, 11, [(46, 20)]) := rx_at tbX1_meet ndX1_meet (j := 33) rfl
theorem iX1_meet_79 : rx_ins mX1_meet 79 = some (2, 80, 0, 3, 0, []) := rx_at tbX1_meet ndX1_meet (j := 34) rfl
theorem iX1_meet_80 : rx_ins mX1_meet 80 = some (20, 81, 0, 0, 0, []) := rx_at tbX1_meet ndX1_meet (j := 35) rfl
theorem iX1_meet_81 : rx_ins mX1_meet 81 = some (14, 84, 16, 1, 97, []) := rx_at tbX1_meet ndX1_meet (j := 36) rfl
theorem iX1_meet_97 : rx_ins mX1_meet 97 = some (1, 98, 0, 0, 0, []) := rx_at tbX1_meet ndX1_meet (j := 44) rfl
theorem iX1_meet_98 : rx_ins mX1_meet 98 = some (29, 99, 1, 0, 0, []) := rx_at tbX1_meet ndX1_meet (j := 45) rfl
theorem iX1_meet_84 : rx_ins mX1_meet 84 = some (3, 85, 0, 0, 0, []) := rx_at tbX1_meet ndX1_meet (j := 37) rfl
theorem iX1_meet_85 : rx_ins mX1_meet 85 = some (2, 86, 0, 2, 0, []) := rx_at tbX1_meet ndX1_meet (j := 38) rfl
theorem iX1_meet_86 : rx_ins mX1_meet 86 = some (2, 87, 0, 3, 0, []) := rx_at tbX1_meet ndX1_meet (j := 39) rfl
theorem iX1_meet_87 : rx_ins mX1_meet 87 = some (28, 90, 3, 31, 3, [(127, 107)]) := rx_at tbX1_meet ndX1_meet (j := 40) rfl
theorem iX1_meet_90 : rx_ins mX1_meet 90 = some (13, 93, 7, 0, 97, []) := rx_at tbX1_meet ndX1_meet (j := 41) rfl
theorem iX1_meet_93 : rx_ins mX1_meet 93 = some (1, 94, 1, 0, 0, []) := rx_at tbX1_meet ndX1_meet (j := 42) rfl
theorem iX1_meet_94 : rx_ins mX1_meet 94 = some (15, 97, 4, 0, 98, []) := rx_at tbX1_meet ndX1_meet (j := 43) rfl
theorem iX1_meet_99 : rx_ins mX1_meet 99 = some (3, 100, 0, 0, 0, []) := rx_at tbX1_meet ndX1_meet (j := 46) rfl
theorem iX1_meet_100 : rx_ins mX1_meet 100 = some (2, 101, 0, 2, 0, []) := rx_at tbX1_meet ndX1_meet (j := 47) rfl
theorem iX1_meet_101 : rx_ins mX1_meet 101 = some (2, 102, 0, 3, 0, []) := rx_at tbX1_meet ndX1_meet (j := 48) rfl
theorem iX1_meet_102 : rx_ins mX1_meet 102 = some (28, 105, 3, 32, 3, [(130, 108)]) := rx_at tbX1_meet ndX1_meet (j := 49) rfl
theorem iX1_meet_105 : rx_ins mX1_meet 105 = some (29, 106, 1, 0, 0, []) := rx_at tbX1_meet ndX1_meet (j := 50) rfl
theorem iX1_meet_9 : rx_ins mX1_meet 9 = some (1, 10, 0, 0, 0, []) := rx_at tbX1_meet ndX1_meet (j := 5) rfl
theorem iX1_meet_10 : rx_ins mX1_meet 10 = some (29, 11, 1, 0, 0, []) := rx_at tbX1_meet ndX1_meet (j := 6) rfl
theorem iX1_shareEnd_0 : rx_ins mX1_shareEnd 0 = some (3, 1, 0, 0, 0, []) := rx_at tbX1_shareEnd ndX1_shareEnd (j := 0) rfl
theorem iX1_shareEnd_1 : rx_ins mX1_shareEnd 1 = some (18, 4, 0, 1, 8, [(37, 17)]) := rx_at tbX1_shareEnd ndX1_shareEnd (j := 1) rfl
theorem iX1_shareEnd_4 : rx_ins mX1_shareEnd 4 = some (2, 5, 0, 1, 0, []) := rx_at tbX1_shareEnd ndX1_shareEnd (j := 2) rfl
theorem iX1_shareEnd_5 : rx_ins mX1_shareEnd 5 = some (20, 6, 0, 0, 0, []) := rx_at tbX1_shareEnd ndX1_shareEnd (j := 3) rfl
theorem iX1_shareEnd_6 : rx_ins mX1_shareEnd 6 = some (3, 7, 0, 0, 0, []) := rx_at tbX1_shareEnd ndX1_shareEnd (j := 4) rfl
theorem iX1_shareEnd_7 : rx_ins mX1_shareEnd 7 = some (18, 10, 0, 1, 8, [(37, 17)]) := rx_at tbX1_shareEnd ndX1_shareEnd (j := 5) rfl
theorem iX1_shareEnd_10 : rx_ins mX1_shareEnd 10 = some (2, 11, 0, 2, 0, []) := rx_at tbX1_shareEnd ndX1_shareEnd (j := 6) rfl
theorem iX1_shareEnd_11 : rx_ins mX1_shareEnd 11 = some (20, 12, 0, 0, 0, []) := rx_at tbX1_shareEnd ndX1_shareEnd (j := 7) rfl
theorem iX1_shareEnd_12 : rx_ins mX1_shareEnd 12 = some (14, 15, 48, 0, 60, []) := rx_at tbX1_shareEnd ndX1_shareEnd (j := 8) rfl
theorem iX1_shareEnd_60 : rx_ins mX1_shareEnd 60 = some (1, 61, 1, 0, 0, []) := rx_at tbX1_shareEnd ndX1_shareEnd (j := 36) rfl
theorem iX1_shareEnd_61 : rx_ins mX1_shareEnd 61 = some (15, 64, 4, 0, 65, []) := rx_at tbX1_shareEnd ndX1_shareEnd (j := 37) rfl
theorem iX1_shareEnd_65 : rx_ins mX1_shareEnd 65 = some (29, 66, 1, 0, 0, []) := rx_at tbX1_shareEnd ndX1_shareEnd (j := 39) rfl
theorem iX1_shareEnd_15 : rx_ins mX1_shareEnd 15 = some (3, 16, 0, 0, 0, []) := rx_at tbX1_shareEnd ndX1_shareEnd (j := 9) rfl
theorem iX1_shareEnd_16 : rx_ins mX1_shareEnd 16 = some (18, 19, 0, 1, 8, [(37, 17)]) := rx_at tbX1_shareEnd ndX1_shareEnd (j := 10) rfl
theorem iX1_shareEnd_19 : rx_ins mX1_shareEnd 19 = some (2, 20, 0, 1, 0, []) := rx_at tbX1_shareEnd ndX1_shareEnd (j := 11) rfl
theorem iX1_shareEnd_20 : rx_ins mX1_shareEnd 20 = some (20, 21, 0, 0, 0, []) := rx_at tbX1_shareEnd ndX1_shareEnd (j := 12) rfl
theorem iX1_shareEnd_21 : rx_ins mX1_shareEnd 21 = some (3, 22, 0, 0, 0, []) := rx_at tbX1_shareEnd ndX1_shareEnd (j := 13) rfl
theorem iX1_shareEnd_22 : rx_ins mX1_shareEnd 22 = some (18, 25, 0, 1, 9, [(40, 18)]) := rx_at tbX1_shareEnd ndX1_shareEnd (j := 14) rfl
theorem iX1_shareEnd_25 : rx_ins mX1_shareEnd 25 = some (2, 26, 0, 2, 0, []) := rx_at tbX1_shareEnd ndX1_shareEnd (j := 15) rfl
theorem iX1_shareEnd_26 : rx_ins mX1_shareEnd 26 = some (20, 27, 0, 0, 0, []) := rx_at tbX1_shareEnd ndX1_shareEnd (j := 16) rfl
theorem iX1_shareEnd_27 : rx_ins mX1_shareEnd 27 = some (14, 30, 33, 0, 60, []) := rx_at tbX1_shareEnd ndX1_shareEnd (j := 17) rfl
theorem iX1_shareEnd_30 : rx_ins mX1_shareEnd 30 = some (3, 31, 0, 0, 0, []) := rx_at tbX1_shareEnd ndX1_shareEnd (j := 18) rfl
theorem iX1_shareEnd_31 : rx_ins mX1_shareEnd 31 = some (18, 34, 0, 1, 9, [(40, 18)]) := rx_at tbX1_shareEnd ndX1_shareEnd (j := 19) rfl
theorem iX1_shareEnd_34 : rx_ins mX1_shareEnd 34 = some (2, 35, 0, 1, 0, []) := rx_at tbX1_shareEnd ndX1_shareEnd (j := 20) rfl
theorem iX1_shareEnd_35 : rx_ins mX1_shareEnd 35 = some (20, 36, 0, 0, 0, []) := rx_at tbX1_shareEnd ndX1_shareEnd (j := 21) rfl
theorem iX1_shareEnd_36 : rx_ins mX1_shareEnd 36 = some (3, 37, 0, 0, 0, []) := rx_at tbX1_shareEnd ndX1_shareEnd (j := 22) rfl
theorem iX1_shareEnd_37 : rx_ins mX1_shareEnd 37 = some (18, 40, 0, 1, 8, [(37, 17)]) := rx_at tbX1_shareEnd ndX1_shareEnd (j := 23) rfl
theorem iX1_shareEnd_40 : rx_ins mX1_shareEnd 40 = some (2, 41, 0, 2, 0, []) := rx_at tbX1_shareEnd ndX1_shareEnd (j := 24) rfl
theorem iX1_shareEnd_41 : rx_ins mX1_shareEnd 41 = some (20, 42, 0, 0, 0, []) := rx_at tbX1_shareEnd ndX1_shareEnd (j := 25) rfl
theorem iX1_shareEnd_42 : rx_ins mX1_shareEnd 42 = some (14, 45, 18, 0, 60, []) := rx_at tbX1_shareEnd ndX1_shareEnd (j := 26) rfl
theorem iX1_shareEnd_45 : rx_ins mX1_shareEnd 45 = some (3, 46, 0, 0, 0, []) := rx_at tbX1_shareEnd ndX1_shareEnd (j := 27) rfl
theorem iX1_shareEnd_46 : rx_ins mX1_shareEnd 46 = some (18, 49, 0, 1, 9, [(40, 18)]) := rx_at tbX1_shareEnd ndX1_shareEnd (j := 28) rfl
theorem iX1_shareEnd_49 : rx_ins mX1_shareEnd 49 = some (2, 50, 0, 1, 0, []) := rx_at tbX1_shareEnd ndX1_shareEnd (j := 29) rfl
theorem iX1_shareEnd_50 : rx_ins mX1_shareEnd 50 = some (20, 51, 0, 0, 0, []) := rx_at tbX1_shareEnd ndX1_shareEnd (j := 30) rfl
theorem iX1_shareEnd_51 : rx_ins mX1_shareEnd 51 = some (3, 52, 0, 0, 0, []) := rx_at tbX1_shareEnd ndX1_shareEnd (j := 31) rfl
theorem iX1_shareEnd_52 : rx_ins mX1_shareEnd 52 = some (18, 55, 0, 1, 9, [(40, 18)]) := rx_at tbX1_shareEnd ndX1_shareEnd (j := 32) rfl
theorem iX1_shareEnd_55 : rx_ins mX1_shareEnd 55 = some (2, 56, 0, 2, 0, []) := rx_at tbX1_shareEnd ndX1_shareEnd (j := 33) rfl
theorem iX1_shareEnd_56 : rx_ins mX1_shareEnd 56 = some (20, 57, 0, 0, 0, []) := rx_at tbX1_shareEnd ndX1_shareEnd (j := 34) rfl
theorem iX1_shareEnd_57 : rx_ins mX1_shareEnd 57 = some (14, 60, 7, 1, 64, []) := rx_at tbX1_shareEnd ndX1_shareEnd (j := 35) rfl
theorem iX1_shareEnd_64 : rx_ins mX1_shareEnd 64 = some (1, 65, 0, 0, 0, []) := rx_at tbX1_shareEnd ndX1_shareEnd (j := 38) rfl
theorem iX1_meetStraight_0 : rx_ins mX1_meetStraight 0 = some (3, 1, 0, 0, 0, []) := rx_at tbX1_meetStraight ndX1_meetStraight (j := 0) rfl
theorem iX1_meetStraight_1 : rx_ins mX1_meetStraight 1 = some (18, 4, 0, 1, 1, [(15, 10)]) := rx_at tbX1_meetStraight ndX1_meetStraight (j := 1) rfl
theorem iX1_meetStraight_4 : rx_ins mX1_meetStraight 4 = some (2, 5, 0, 1, 0, []) := rx_at tbX1_meetStraight ndX1_meetStraight (j := 2) rfl
theorem iX1_meetStraight_5 : rx_ins mX1_meetStraight 5 = some (20, 6, 0, 0, 0, []) := rx_at tbX1_meetStraight ndX1_meetStraight (j := 3) rfl
theorem iX1_meetStraight_6 : rx_ins mX1_meetStraight 6 = some (3, 7, 0, 0, 0, []) := rx_at tbX1_meetStraight ndX1_meetStraight (j := 4) rfl
theorem iX1_meetStraight_7 : rx_ins mX1_meetStraight 7 = some (18, 10, 0, 1, 1, [(15, 10)]) := rx_at tbX1_meetStraight ndX1_meetStraight (j := 5) rfl
theorem iX1_meetStraight_10 : rx_ins mX1_meetStraight 10 = some (2, 11, 0, 2, 0, []) := rx_at tbX1_meetStraight ndX1_meetStraight (j := 6) rfl
theorem iX1_meetStraight_11 : rx_ins mX1_meetStraight 11 = some (20, 12, 0, 0, 0, []) := rx_at tbX1_meetStraight ndX1_meetStraight (j := 7) rfl
theorem iX1_meetStraight_12 : rx_ins mX1_meetStraight 12 = some (3, 13, 0, 0, 0, []) := rx_at tbX1_meetStraight ndX1_meetStraight (j := 8) rfl
theorem iX1_meetStraight_13 : rx_ins mX1_meetStraight 13 = some (18, 16, 0, 1, 1, [(15, 10)]) := rx_at tbX1_meetStraight ndX1_meetStraight (j := 9) rfl
theorem iX1_meetStraight_16 : rx_ins mX1_meetStraight 16 = some (2, 17, 0, 3, 0, []) := rx_at tbX1_meetStraight ndX1_meetStraight (j := 10) rfl
theorem iX1_meetStraight_17 : rx_ins mX1_meetStraight 17 = some (20, 18, 0, 0, 0, []) := rx_at tbX1_meetStraight ndX1_meetStraight (j := 11) rfl
theorem iX1_meetStraight_18 : rx_ins mX1_meetStraight 18 = some (3, 19, 0, 0, 0, []) := rx_at tbX1_meetStraight ndX1_meetStraight (j := 12) rfl
theorem iX1_meetStraight_19 : rx_ins mX1_meetStraight 19 = some (18, 22, 0, 1, 1, [(15, 10)]) := rx_at tbX1_meetStraight ndX1_meetStraight (j := 13) rfl
theorem iX1_meetStraight_22 : rx_ins mX1_meetStraight 22 = some (2, 24, 1, 4, 0, []) := rx_at tbX1_meetStraight ndX1_meetStraight (j := 14) rfl
theorem iX1_meetStraight_24 : rx_ins mX1_meetStraight 24 = some (20, 25, 0, 0, 0, []) := rx_at tbX1_meetStraight ndX1_meetStraight (j := 15) rfl
theorem iX1_meetStraight_25 : rx_ins mX1_meetStraight 25 = some (28, 28, 0, 29, 4, [(133, 109)]) := rx_at tbX1_meetStraight ndX1_meetStraight (j := 16) rfl
theorem iX1_meetStraight_28 : rx_ins mX1_meetStraight 28 = some (13, 31, 77, 1, 105, []) := rx_at tbX1_meetStraight ndX1_meetStraight (j := 17) rfl
theorem iX1_meetStraight_105 : rx_ins mX1_meetStraight 105 = some (1, 106, 0, 0, 0, []) := rx_at tbX1_meetStraight ndX1_meetStraight (j := 62) rfl
theorem iX1_meetStraight_106 : rx_ins mX1_meetStraight 106 = some (29, 107, 1, 0, 0, []) := rx_at tbX1_meetStraight ndX1_meetStraight (j := 63) rfl
theorem iX1_meetStraight_31 : rx_ins mX1_meetStraight 31 = some (3, 32, 0, 0, 0, []) := rx_at tbX1_meetStraight ndX1_meetStraight (j := 18) rfl
theorem iX1_meetStraight_32 : rx_ins mX1_meetStraight 32 = some (18, 35, 0, 1, 2, [(19, 11)]) := rx_at tbX1_meetStraight ndX1_meetStraight (j := 19) rfl
theorem iX1_meetStraight_35 : rx_ins mX1_meetStraight 35 = some (2, 36, 0, 1, 0, []) := rx_at tbX1_meetStraight ndX1_meetStraight (j := 20) rfl
theorem iX1_meetStraight_36 : rx_ins mX1_meetStraight 36 = some (20, 37, 0, 0, 0, []) := rx_at tbX1_meetStraight ndX1_meetStraight (j := 21) rfl
theorem iX1_meetStraight_37 : rx_ins mX1_meetStraight 37 = some (3, 38, 0, 0, 0, []) := rx_at tbX1_meetStraight ndX1_meetStraight (j := 22) rfl
theorem iX1_meetStraight_38 : rx_ins mX1_meetStraight 38 = some (18, 41, 0, 1, 2, [(19, 11)]) := rx_at tbX1_meetStraight ndX1_meetStraight (j := 23) rfl
theorem iX1_meetStraight_41 : rx_ins mX1_meetStraight 41 = some (2, 42, 0, 2, 0, []) := rx_at tbX1_meetStraight ndX1_meetStraight (j := 24) rfl
theorem iX1_meetStraight_42 : rx_ins mX1_meetStraight 42 = some (20, 43, 0, 0, 0, []) := rx_at tbX1_meetStraight ndX1_meetStraight (j := 25) rfl
theorem iX1_meetStraight_43 : rx_ins mX1_meetStraight 43 = some (3, 44, 0, 0, 0, []) := rx_at tbX1_meetStraight ndX1_meetStraight (j := 26) rfl
theorem iX1_meetStraight_44 : rx_ins mX1_meetStraight 44 = some (18, 47, 0, 1, 2, [(19, 11)]) := rx_at tbX1_meetStraight ndX1_meetStraight (j := 27) rfl
theorem iX1_meetStraight_47 : rx_ins mX1_meetStraight 47 = some (2, 48, 0, 3, 0, []) := rx_at tbX1_meetStraight ndX1_meetStraight (j := 28) rfl
theorem iX1_meetStraight_48 : rx_ins mX1_meetStraight 48 = some (20, 49, 0, 0, 0, []) := rx_at tbX1_meetStraight ndX1_meetStraight (j := 29) rfl
theorem iX1_meetStraight_49 : rx_ins mX1_meetStraight 49 = some (3, 50, 0, 0, 0, []) := rx_at tbX1_meetStraight ndX1_meetStraight (j := 30) rfl
theorem iX1_meetStraight_50 : rx_ins mX1_meetStraight 50 = some (18, 53, 0, 1, 2, [(19, 11)]) := rx_at tbX1_meetStraight ndX1_meetStraight (j := 31) rfl
theorem iX1_meetStraight_53 : rx_ins mX1_meetStraight 53 = some (2, 55, 1, 4, 0, []) := rx_at tbX1_meetStraight ndX1_meetStraight (j := 32) rfl
theorem iX1_meetStraight_55 : rx_ins mX1_meetStraight 55 = some (20, 56, 0, 0, 0, []) := rx_at tbX1_meetStraight ndX1_meetStraight (j := 33) rfl
theorem iX1_meetStraight_56 : rx_ins mX1_meetStraight 56 = some (28, 59, 0, 29, 4, [(133, 109)]) := rx_at tbX1_meetStraight ndX1_meetStraight (j := 34) rfl
theorem iX1_meetStraight_59 : rx_ins mX1_meetStraight 59 = some (13, 62, 46, 1, 105, []) := rx_at tbX1_meetStraight ndX1_meetStraight (j := 35) rfl
theorem iX1_meetStraight_62 : rx_ins mX1_meetStraight 62 = some (3, 63, 0, 0, 0, []) := rx_at tbX1_meetStraight ndX1_meetStraight (j := 36) rfl
theorem iX1_meetStraight_63 : rx_ins mX1_meetStraight 63 = some (2, 64, 0, 1, 0, []) := rx_at tbX1_meetStraight ndX1_meetStraight (j := 37) rfl
theorem iX1_meetStraight_64 : rx_ins mX1_meetStraight 64 = some (2, 65, 0, 2, 0, []) := rx_at tbX1_meetStraight ndX1_meetStraight (j := 38) rfl
theorem iX1_meetStraight_65 : rx_ins mX1_meetStraight 65 = some (2, 66, 0, 3, 0, []) := rx_at tbX1_meetStraight ndX1_meetStraight (j := 39) rfl
theorem iX1_meetStraight_66 : rx_ins mX1_meetStraight 66 = some (28, 69, 3, 30, 4, [(136, 110)]) := rx_at tbX1_meetStraight ndX1_meetStraight (j := 40) rfl
theorem iX1_meetStraight_69 : rx_ins mX1_meetStraight 69 = some (3, 70, 0, 0, 0, []) := rx_at tbX1_meetStraight ndX1_meetStraight (j := 41) rfl
theorem iX1_meetStraight_70 : rx_ins mX1_meetStraight 70 = some (2, 71, 0, 1, 0, []) := rx_at tbX1_meetStraight ndX1_meetStraight (j := 42) rfl
theorem iX1_meetStraight_71 : rx_ins mX1_meetStraight 71 = some (2, 72, 0, 2, 0, []) := rx_at tbX1_meetStraight ndX1_meetStraight (j := 43) rfl
theorem iX1_meetStraight_72 : rx_ins mX1_meetStraight 72 = some (2, 74, 1, 4, 0, []) := rx_at tbX1_meetStraight ndX1_meetStraight (j := 44) rfl
theorem iX1_meetStraight_74 : rx_ins mX1_meetStraight 74 = some (28, 77, 3, 30, 4, [(136, 110)]) := rx_at tbX1_meetStraight ndX1_meetStraight (j := 45) rfl
theorem iX1_meetStraight_77 : rx_ins mX1_meetStraight 77 = some (7, 78, 0, 2, 0, []) := rx_at tbX1_meetStraight ndX1_meetStraight (j := 46) rfl
theorem iX1_meetStraight_78 : rx_ins mX1_meetStraight 78 = some (13, 81, 27, 4, 105, []) := rx_at tbX1_meetStraight ndX1_meetStraight (j := 47) rfl
theorem iX1_meetStraight_81 : rx_ins mX1_meetStraight 81 = some (3, 82, 0, 0, 0, []) := rx_at tbX1_meetStraight ndX1_meetStraight (j := 48) rfl
theorem iX1_meetStraight_82 : rx_ins mX1_meetStraight 82 = some (2, 83, 0, 3, 0, []) := rx_at tbX1_meetStraight ndX1_meetStraight (j := 49) rfl
theorem iX1_meetStraight_83 : rx_ins mX1_meetStraight 83 = some (2, 85, 1, 4, 0, []) := rx_at tbX1_meetStraight ndX1_meetStraight (j := 50) rfl
theorem iX1_meetStraight_85 : rx_ins mX1_meetStraight 85 = some (2, 86, 0, 1, 0, []) := rx_at tbX1_meetStraight ndX1_meetStraight (j := 51) rfl
theorem iX1_meetStraight_86 : rx_ins mX1_meetStraight 86 = some (28, 89, 3, 30, 4, [(136, 110)]) := rx_at tbX1_meetStraight ndX1_meetStraight (j := 52) rfl
theorem iX1_meetStraight_89 : rx_ins mX1_meetStraight 89 = some (3, 90, 0, 0, 0, []) := rx_at tbX1_meetStraight ndX1_meetStraight (j := 53) rfl
theorem iX1_meetStraight_90 : rx_ins mX1_meetStraight 90 = some (2, 91, 0, 3, 0, []) := rx_at tbX1_meetStraight ndX1_meetStraight (j := 54) rfl
theorem iX1_meetStraight_91 : rx_ins mX1_meetStraight 91 = some (2, 93, 1, 4, 0, []) := rx_at tbX1_meetStraight ndX1_meetStraight (j := 55) rfl
theorem iX1_meetStraight_93 : rx_ins mX1_meetStraight 93 = some (2, 94, 0, 2, 0, []) := rx_at tbX1_meetStraight ndX1_meetStraight (j := 56) rfl
theorem iX1_meetStraight_94 : rx_ins mX1_meetStraight 94 = some (28, 97, 3, 30, 4, [(136, 110)]) := rx_at tbX1_meetStraight ndX1_meetStraight (j := 57) rfl
theorem iX1_meetStraight_97 : rx_ins mX1_meetStraight 97 = some (7, 98, 0, 2, 0, []) := rx_at tbX1_meetStraight ndX1_meetStraight (j := 58) rfl
theorem iX1_meetStraight_98 : rx_ins mX1_meetStraight 98 = some (13, 101, 7, 4, 105, []) := rx_at tbX1_meetStraight ndX1_meetStraight (j := 59) rfl
theorem iX1_meetStraight_101 : rx_ins mX1_meetStraight 101 = some (1, 102, 1, 0, 0, []) := rx_at tbX1_meetStraight ndX1_meetStraight (j := 60) rfl
theorem iX1_meetStraight_102 : rx_ins mX1_meetStraight 102 = some (15, 105, 4, 0, 106, []) := rx_at tbX1_meetStraight ndX1_meetStraight (j := 61) rfl
theorem iX1_areApart_0 : rx_ins mX1_areApart 0 = some (2, 1, 0, 0, 0, []) := rx_at tbX1_areApart ndX1_areApart (j := 0) rfl
theorem iX1_areApart_1 : rx_ins mX1_areApart 1 = some (2, 2, 0, 2, 0, []) := rx_at tbX1_areApart ndX1_areApart (j := 1) rfl
theorem iX1_areApart_2 : rx_ins mX1_areApart 2 = some (14, 5, 18, 3, 20, []) := rx_at tbX1_areApart ndX1_areApart (j := 2) rfl
theorem iX1_areApart_20 : rx_ins mX1_areApart 20 = some (2, 21, 0, 0, 0, []) := rx_at tbX1_areApart ndX1_areApart (j := 12) rfl
theorem iX1_areApart_21 : rx_ins mX1_areApart 21 = some (2, 22, 0, 2, 0, []) := rx_at tbX1_areApart ndX1_areApart (j := 13) rfl
theorem iX1_areApart_22 : rx_ins mX1_areApart 22 = some (14, 25, 22, 5, 44, []) := rx_at tbX1_areApart ndX1_areApart (j := 14) rfl
theorem iX1_areApart_44 : rx_ins mX1_areApart 44 = some (1, 45, 0, 0, 0, []) := rx_at tbX1_areApart ndX1_areApart (j := 26) rfl
theorem iX1_areApart_45 : rx_ins mX1_areApart 45 = some (29, 46, 1, 0, 0, []) := rx_at tbX1_areApart ndX1_areApart (j := 27) rfl
theorem iX1_areApart_25 : rx_ins mX1_areApart 25 = some (2, 26, 0, 0, 0, []) := rx_at tbX1_areApart ndX1_areApart (j := 15) rfl
theorem iX1_areApart_26 : rx_ins mX1_areApart 26 = some (2, 27, 0, 3, 0, []) := rx_at tbX1_areApart ndX1_areApart (j := 16) rfl
theorem iX1_areApart_27 : rx_ins mX1_areApart 27 = some (14, 30, 17, 5, 44, []) := rx_at tbX1_areApart ndX1_areApart (j := 17) rfl
theorem iX1_areApart_30 : rx_ins mX1_areApart 30 = some (2, 31, 0, 1, 0, []) := rx_at tbX1_areApart ndX1_areApart (j := 18) rfl
theorem iX1_areApart_31 : rx_ins mX1_areApart 31 = some (2, 32, 0, 2, 0, []) := rx_at tbX1_areApart ndX1_areApart (j := 19) rfl
theorem iX1_areApart_32 : rx_ins mX1_areApart 32 = some (14, 35, 12, 5, 44, []) := rx_at tbX1_areApart ndX1_areApart (j := 20) rfl
theorem iX1_areApart_35 : rx_ins mX1_areApart 35 = some (2, 36, 0, 1, 0, []) := rx_at tbX1_areApart ndX1_areApart (j := 21) rfl
theorem iX1_areApart_36 : rx_ins mX1_areApart 36 = some (2, 37, 0, 3, 0, []) := rx_at tbX1_areApart ndX1_areApart (j := 22) rfl
theorem iX1_areApart_37 : rx_ins mX1_areApart 37 = some (14, 40, 7, 5, 44, []) := rx_at tbX1_areApart ndX1_areApart (j := 23) rfl
theorem iX1_areApart_40 : rx_ins mX1_areApart 40 = some (1, 41, 1, 0, 0, []) := rx_at tbX1_areApart ndX1_areApart (j := 24) rfl
theorem iX1_areApart_41 : rx_ins mX1_areApart 41 = some (15, 44, 4, 0, 45, []) := rx_at tbX1_areApart ndX1_areApart (j := 25) rfl
theorem iX1_areApart_5 : rx_ins mX1_areApart 5 = some (2, 6, 0, 0, 0, []) := rx_at tbX1_areApart ndX1_areApart (j := 3) rfl
theorem iX1_areApart_6 : rx_ins mX1_areApart 6 = some (2, 7, 0, 3, 0, []) := rx_at tbX1_areApart ndX1_areApart (j := 4) rfl
theorem iX1_areApart_7 : rx_ins mX1_areApart 7 = some (14, 10, 13, 3, 20, []) := rx_at tbX1_areApart ndX1_areApart (j := 5) rfl
theorem iX1_areApart_10 : rx_ins mX1_areApart 10 = some (2, 11, 0, 1, 0, []) := rx_at tbX1_areApart ndX1_areApart (j := 6) rfl
theorem iX1_areApart_11 : rx_ins mX1_areApart 11 = some (2, 12, 0, 2, 0, []) := rx_at tbX1_areApart ndX1_areApart (j := 7) rfl
theorem iX1_areApart_12 : rx_ins mX1_areApart 12 = some (14, 15, 8, 3, 20, []) := rx_at tbX1_areApart ndX1_areApart (j := 8) rfl
theorem iX1_areApart_15 : rx_ins mX1_areApart 15 = some (2, 16, 0, 1, 0, []) := rx_at tbX1_areApart ndX1_areApart (j := 9) rfl
theorem iX1_areApart_16 : rx_ins mX1_areApart 16 = some (2, 17, 0, 3, 0, []) := rx_at tbX1_areApart ndX1_areApart (j := 10) rfl
theorem iX1_areApart_17 : rx_ins mX1_areApart 17 = some (14, 20, 23, 2, 40, []) := rx_at tbX1_areApart ndX1_areApart (j := 11) rfl
theorem iX1_side_0 : rx_ins mX1_side 0 = some (3, 1, 0, 0, 0, []) := rx_at tbX1_side ndX1_side (j := 0) rfl
theorem iX1_side_1 : rx_ins mX1_side 1 = some (18, 4, 0, 1, 1, [(15, 10)]) := rx_at tbX1_side ndX1_side (j := 1) rfl
theorem iX1_side_4 : rx_ins mX1_side 4 = some (2, 5, 0, 2, 0, []) := rx_at tbX1_side ndX1_side (j := 2) rfl
theorem iX1_side_5 : rx_ins mX1_side 5 = some (20, 6, 0, 0, 0, []) := rx_at tbX1_side ndX1_side (j := 3) rfl
theorem iX1_side_6 : rx_ins mX1_side 6 = some (3, 7, 0, 0, 0, []) := rx_at tbX1_side ndX1_side (j := 4) rfl
theorem iX1_side_7 : rx_ins mX1_side 7 = some (18, 10, 0, 1, 1, [(15, 10)]) := rx_at tbX1_side ndX1_side (j := 5) rfl
theorem iX1_side_10 : rx_ins mX1_side 10 = some (2, 11, 0, 1, 0, []) := rx_at tbX1_side ndX1_side (j := 6) rfl
theorem iX1_side_11 : rx_ins mX1_side 11 = some (20, 12, 0, 0, 0, []) := rx_at tbX1_side ndX1_side (j := 7) rfl
theorem iX1_side_12 : rx_ins mX1_side 12 = some (7, 13, 0, 1, 0, []) := rx_at tbX1_side ndX1_side (j := 8) rfl
theorem iX1_side_13 : rx_ins mX1_side 13 = some (3, 14, 0, 0, 0, []) := rx_at tbX1_side ndX1_side (j := 9) rfl
theorem iX1_side_14 : rx_ins mX1_side 14 = some (18, 17, 0, 1, 2, [(19, 11)]) := rx_at tbX1_side ndX1_side (j := 10) rfl
theorem iX1_side_17 : rx_ins mX1_side 17 = some (2, 18, 0, 3, 0, []) := rx_at tbX1_side ndX1_side (j := 11) rfl
theorem iX1_side_18 : rx_ins mX1_side 18 = some (20, 19, 0, 0, 0, []) := rx_at tbX1_side ndX1_side (j := 12) rfl
theorem iX1_side_19 : rx_ins mX1_side 19 = some (3, 20, 0, 0, 0, []) := rx_at tbX1_side ndX1_side (j := 13) rfl
theorem iX1_side_20 : rx_ins mX1_side 20 = some (18, 23, 0, 1, 2, [(19, 11)]) := rx_at tbX1_side ndX1_side (j := 14) rfl
theorem iX1_side_23 : rx_ins mX1_side 23 = some (2, 24, 0, 1, 0, []) := rx_at tbX1_side ndX1_side (j := 15) rfl
theorem iX1_side_24 : rx_ins mX1_side 24 = some (20, 25, 0, 0, 0, []) := rx_at tbX1_side ndX1_side (j := 16) rfl
theorem iX1_side_25 : rx_ins mX1_side 25 = some (7, 26, 0, 1, 0, []) := rx_at tbX1_side ndX1_side (j := 17) rfl
theorem iX1_side_26 : rx_ins mX1_side 26 = some (7, 27, 0, 2, 0, []) := rx_at tbX1_side ndX1_side (j := 18) rfl
theorem iX1_side_27 : rx_ins mX1_side 27 = some (3, 28, 0, 0, 0, []) := rx_at tbX1_side ndX1_side (j := 19) rfl
theorem iX1_side_28 : rx_ins mX1_side 28 = some (18, 31, 0, 1, 2, [(19, 11)]) := rx_at tbX1_side ndX1_side (j := 20) rfl
theorem iX1_side_31 : rx_ins mX1_side 31 = some (2, 32, 0, 2, 0, []) := rx_at tbX1_side ndX1_side (j := 21) rfl
theorem iX1_side_32 : rx_ins mX1_side 32 = some (20, 33, 0, 0, 0, []) := rx_at tbX1_side ndX1_side (j := 22) rfl
theorem iX1_side_33 : rx_ins mX1_side 33 = some (3, 34, 0, 0, 0, []) := rx_at tbX1_side ndX1_side (j := 23) rfl
theorem iX1_side_34 : rx_ins mX1_side 34 = some (18, 37, 0, 1, 2, [(19, 11)]) := rx_at tbX1_side ndX1_side (j := 24) rfl
theorem iX1_side_37 : rx_ins mX1_side 37 = some (2, 38, 0, 1, 0, []) := rx_at tbX1_side ndX1_side (j := 25) rfl
theorem iX1_side_38 : rx_ins mX1_side 38 = some (20, 39, 0, 0, 0, []) := rx_at tbX1_side ndX1_side (j := 26) rfl
theorem iX1_side_39 : rx_ins mX1_side 39 = some (7, 40, 0, 1, 0, []) := rx_at tbX1_side ndX1_side (j := 27) rfl
theorem iX1_side_40 : rx_ins mX1_side 40 = some (3, 41, 0, 0, 0, []) := rx_at tbX1_side ndX1_side (j := 28) rfl
theorem iX1_side_41 : rx_ins mX1_side 41 = some (18, 44, 0, 1, 1, [(15, 10)]) := rx_at tbX1_side ndX1_side (j := 29) rfl
theorem iX1_side_44 : rx_ins mX1_side 44 = some (2, 45, 0, 3, 0, []) := rx_at tbX1_side ndX1_side (j := 30) rfl
theorem iX1_side_45 : rx_ins mX1_side 45 = some (20, 46, 0, 0, 0, []) := rx_at tbX1_side ndX1_side (j := 31) rfl
theorem iX1_side_46 : rx_ins mX1_side 46 = some (3, 47, 0, 0, 0, []) := rx_at tbX1_side ndX1_side (j := 32) rfl
theorem iX1_side_47 : rx_ins mX1_side 47 = some (18, 50, 0, 1, 1, [(15, 10)]) := rx_at tbX1_side ndX1_side (j := 33) rfl
theorem iX1_side_50 : rx_ins mX1_side 50 = some (2, 51, 0, 1, 0, []) := rx_at tbX1_side ndX1_side (j := 34) rfl
theorem iX1_side_51 : rx_ins mX1_side 51 = some (20, 52, 0, 0, 0, []) := rx_at tbX1_side ndX1_side (j := 35) rfl
theorem iX1_side_52 : rx_ins mX1_side 52 = some (7, 53, 0, 1, 0, []) := rx_at tbX1_side ndX1_side (j := 36) rfl
theorem iX1_side_53 : rx_ins mX1_side 53 = some (7, 54, 0, 2, 0, []) := rx_at tbX1_side ndX1_side (j := 37) rfl
theorem iX1_side_54 : rx_ins mX1_side 54 = some (7, 55, 0, 1, 0, []) := rx_at tbX1_side ndX1_side (j := 38) rfl
theorem iX1_side_55 : rx_ins mX1_side 55 = some (29, 56, 0, 0, 0, []) := rx_at tbX1_side ndX1_side (j := 39) rfl
theorem iX1_meetInLine_0 : rx_ins mX1_meetInLine 0 = some (3, 1, 0, 0, 0, []) := rx_at tbX1_meetInLine ndX1_meetInLine (j := 0) rfl
theorem iX1_meetInLine_1 : rx_ins mX1_meetInLine 1 = some (18, 4, 0, 1, 5, [(28, 14)]) := rx_at tbX1_meetInLine ndX1_meetInLine (j := 1) rfl
theorem iX1_meetInLine_4 : rx_ins mX1_meetInLine 4 = some (3, 5, 0, 0, 0, []) := rx_at tbX1_meetInLine ndX1_meetInLine (j := 2) rfl
theorem iX1_meetInLine_5 : rx_ins mX1_meetInLine 5 = some (18, 8, 0, 1, 8, [(37, 17)]) := rx_at tbX1_meetInLine ndX1_meetInLine (j := 3) rfl
theorem iX1_meetInLine_8 : rx_ins mX1_meetInLine 8 = some (2, 9, 0, 1, 0, []) := rx_at tbX1_meetInLine ndX1_meetInLine (j := 4) rfl
theorem iX1_meetInLine_9 : rx_ins mX1_meetInLine 9 = some (20, 10, 0, 0, 0, []) := rx_at tbX1_meetInLine ndX1_meetInLine (j := 5) rfl
theorem iX1_meetInLine_10 : rx_ins mX1_meetInLine 10 = some (20, 11, 0, 0, 0, []) := rx_at tbX1_meetInLine ndX1_meetInLine (j := 6) rfl
theorem iX1_meetInLine_11 : rx_ins mX1_meetInLine 11 = some (3, 12, 0, 0, 0, []) := rx_at tbX1_meetInLine ndX1_meetInLine (j := 7) rfl
theorem iX1_meetInLine_12 : rx_ins mX1_meetInLine 12 = some (18, 15, 0, 1, 5, [(28, 14)]) := rx_at tbX1_meetInLine ndX1_meetInLine (j := 8) rfl
theorem iX1_meetInLine_15 : rx_ins mX1_meetInLine 15 = some (3, 16, 0, 0, 0, []) := rx_at tbX1_meetInLine ndX1_meetInLine (j := 9) rfl
theorem iX1_meetInLine_16 : rx_ins mX1_meetInLine 16 = some (18, 19, 0, 1, 9, [(40, 18)]) := rx_at tbX1_meetInLine ndX1_meetInLine (j := 10) rfl
theorem iX1_meetInLine_19 : rx_ins mX1_meetInLine 19 = some (2, 20, 0, 1, 0, []) := rx_at tbX1_meetInLine ndX1_meetInLine (j := 11) rfl
theorem iX1_meetInLine_20 : rx_ins mX1_meetInLine 20 = some (20, 21, 0, 0, 0, []) := rx_at tbX1_meetInLine ndX1_meetInLine (j := 12) rfl
theorem iX1_meetInLine_21 : rx_ins mX1_meetInLine 21 = some (20, 22, 0, 0, 0, []) := rx_at tbX1_meetInLine ndX1_meetInLine (j := 13) rfl
theorem iX1_meetInLine_22 : rx_ins mX1_meetInLine 22 = some (31, 25, 0, 1, 0, [(59, 0)]) := rx_at tbX1_meetInLine ndX1_meetInLine (j := 14) rfl
theorem iX1_meetInLine_25 : rx_ins mX1_meetInLine 25 = some (4, 26, 0, 3, 0, []) := rx_at tbX1_meetInLine ndX1_meetInLine (j := 15) rfl
theorem iX1_meetInLine_26 : rx_ins mX1_meetInLine 26 = some (3, 27, 0, 0, 0, []) := rx_at tbX1_meetInLine ndX1_meetInLine (j := 16) rfl
theorem iX1_meetInLine_27 : rx_ins mX1_meetInLine 27 = some (18, 30, 0, 1, 5, [(28, 14)]) := rx_at tbX1_meetInLine ndX1_meetInLine (j := 17) rfl
theorem iX1_meetInLine_30 : rx_ins mX1_meetInLine 30 = some (3, 31, 0, 0, 0, []) := rx_at tbX1_meetInLine ndX1_meetInLine (j := 18) rfl
theorem iX1_meetInLine_31 : rx_ins mX1_meetInLine 31 = some (18, 34, 0, 1, 8, [(37, 17)]) := rx_at tbX1_meetInLine ndX1_meetInLine (j := 19) rfl
theorem iX1_meetInLine_34 : rx_ins mX1_meetInLine 34 = some (2, 35, 0, 1, 0, []) := rx_at tbX1_meetInLine ndX1_meetInLine (j := 20) rfl
theorem iX1_meetInLine_35 : rx_ins mX1_meetInLine 35 = some (20, 36, 0, 0, 0, []) := rx_at tbX1_meetInLine ndX1_meetInLine (j := 21) rfl
theorem iX1_meetInLine_36 : rx_ins mX1_meetInLine 36 = some (20, 37, 0, 0, 0, []) := rx_at tbX1_meetInLine ndX1_meetInLine (j := 22) rfl
theorem iX1_meetInLine_37 : rx_ins mX1_meetInLine 37 = some (3, 38, 0, 0, 0, []) := rx_at tbX1_meetInLine ndX1_meetInLine (j := 23) rfl
theorem iX1_meetInLine_38 : rx_ins mX1_meetInLine 38 = some (18, 41, 0, 1, 5, [(28, 14)]) := rx_at tbX1_meetInLine ndX1_meetInLine (j := 24) rfl
theorem iX1_meetInLine_41 : rx_ins mX1_meetInLine 41 = some (3, 42, 0, 0, 0, []) := rx_at tbX1_meetInLine ndX1_meetInLine (j := 25) rfl
theorem iX1_meetInLine_42 : rx_ins mX1_meetInLine 42 = some (18, 45, 0, 1, 9, [(40, 18)]) := rx_at tbX1_meetInLine ndX1_meetInLine (j := 26) rfl
theorem iX1_meetInLine_45 : rx_ins mX1_meetInLine 45 = some (2, 46, 0, 1, 0, []) := rx_at tbX1_meetInLine ndX1_meetInLine (j := 27) rfl
theorem iX1_meetInLine_46 : rx_ins mX1_meetInLine 46 = some (20, 47, 0, 0, 0, []) := rx_at tbX1_meetInLine ndX1_meetInLine (j := 28) rfl
theorem iX1_meetInLine_47 : rx_ins mX1_meetInLine 47 = some (20, 48, 0, 0, 0, []) := rx_at tbX1_meetInLine ndX1_meetInLine (j := 29) rfl
theorem iX1_meetInLine_48 : rx_ins mX1_meetInLine 48 = some (31, 51, 0, 0, 0, [(85, 1)]) := rx_at tbX1_meetInLine ndX1_meetInLine (j := 30) rfl
theorem iX1_meetInLine_51 : rx_ins mX1_meetInLine 51 = some (4, 53, 1, 4, 0, []) := rx_at tbX1_meetInLine ndX1_meetInLine (j := 31) rfl
theorem iX1_meetInLine_53 : rx_ins mX1_meetInLine 53 = some (3, 54, 0, 0, 0, []) := rx_at tbX1_meetInLine ndX1_meetInLine (j := 32) rfl
theorem iX1_meetInLine_54 : rx_ins mX1_meetInLine 54 = some (18, 57, 0, 1, 5, [(28, 14)]) := rx_at tbX1_meetInLine ndX1_meetInLine (j := 33) rfl
theorem iX1_meetInLine_57 : rx_ins mX1_meetInLine 57 = some (3, 58, 0, 0, 0, []) := rx_at tbX1_meetInLine ndX1_meetInLine (j := 34) rfl
theorem iX1_meetInLine_58 : rx_ins mX1_meetInLine 58 = some (18, 61, 0, 1, 8, [(37, 17)]) := rx_at tbX1_meetInLine ndX1_meetInLine (j := 35) rfl
theorem iX1_meetInLine_61 : rx_ins mX1_meetInLine 61 = some (2, 62, 0, 2, 0, []) := rx_at tbX1_meetInLine ndX1_meetInLine (j := 36) rfl
theorem iX1_meetInLine_62 : rx_ins mX1_meetInLine 62 = some (20, 63, 0, 0, 0, []) := rx_at tbX1_meetInLine ndX1_meetInLine (j := 37) rfl
theorem iX1_meetInLine_63 : rx_ins mX1_meetInLine 63 = some (20, 64, 0, 0, 0, []) := rx_at tbX1_meetInLine ndX1_meetInLine (j := 38) rfl
theorem iX1_meetInLine_64 : rx_ins mX1_meetInLine 64 = some (4, 66, 1, 5, 0, []) := rx_at tbX1_meetInLine ndX1_meetInLine (j := 39) rfl
theorem iX1_meetInLine_66 : rx_ins mX1_meetInLine 66 = some (3, 67, 0, 0, 0, []) := rx_at tbX1_meetInLine ndX1_meetInLine (j := 40) rfl
theorem iX1_meetInLine_67 : rx_ins mX1_meetInLine 67 = some (18, 70, 0, 1, 5, [(28, 14)]) := rx_at tbX1_meetInLine ndX1_meetInLine (j := 41) rfl
theorem iX1_meetInLine_70 : rx_ins mX1_meetInLine 70 = some (3, 71, 0, 0, 0, []) := rx_at tbX1_meetInLine ndX1_meetInLine (j := 42) rfl
theorem iX1_meetInLine_71 : rx_ins mX1_meetInLine 71 = some (18, 74, 0, 1, 9, [(40, 18)]) := rx_at tbX1_meetInLine ndX1_meetInLine (j := 43) rfl
theorem iX1_meetInLine_74 : rx_ins mX1_meetInLine 74 = some (2, 75, 0, 2, 0, []) := rx_at tbX1_meetInLine ndX1_meetInLine (j := 44) rfl
theorem iX1_meetInLine_75 : rx_ins mX1_meetInLine 75 = some (20, 76, 0, 0, 0, []) := rx_at tbX1_meetInLine ndX1_meetInLine (j := 45) rfl
theorem iX1_meetInLine_76 : rx_ins mX1_meetInLine 76 = some (20, 77, 0, 0, 0, []) := rx_at tbX1_meetInLine ndX1_meetInLine (j := 46) rfl
theorem iX1_meetInLine_77 : rx_ins mX1_meetInLine 77 = some (4, 79, 1, 6, 0, []) := rx_at tbX1_meetInLine ndX1_meetInLine (j := 47) rfl
theorem iX1_meetInLine_79 : rx_ins mX1_meetInLine 79 = some (2, 80, 0, 3, 0, []) := rx_at tbX1_meetInLine ndX1_meetInLine (j := 48) rfl
theorem iX1_meetInLine_80 : rx_ins mX1_meetInLine 80 = some (2, 82, 1, 5, 0, []) := rx_at tbX1_meetInLine ndX1_meetInLine (j := 49) rfl
theorem iX1_meetInLine_82 : rx_ins mX1_meetInLine 82 = some (14, 85, 14, 3, 96, []) := rx_at tbX1_meetInLine ndX1_meetInLine (j := 50) rfl
theorem iX1_meetInLine_96 : rx_ins mX1_meetInLine 96 = some (1, 97, 0, 0, 0, []) := rx_at tbX1_meetInLine ndX1_meetInLine (j := 56) rfl
theorem iX1_meetInLine_97 : rx_ins mX1_meetInLine 97 = some (2, 98, 0, 3, 0, []) := rx_at tbX1_meetInLine ndX1_meetInLine (j := 57) rfl
theorem iX1_meetInLine_98 : rx_ins mX1_meetInLine 98 = some (2, 100, 1, 6, 0, []) := rx_at tbX1_meetInLine ndX1_meetInLine (j := 58) rfl
theorem iX1_meetInLine_100 : rx_ins mX1_meetInLine 100 = some (14, 103, 14, 3, 114, []) := rx_at tbX1_meetInLine ndX1_meetInLine (j := 59) rfl
theorem iX1_meetInLine_114 : rx_ins mX1_meetInLine 114 = some (1, 115, 0, 0, 0, []) := rx_at tbX1_meetInLine ndX1_meetInLine (j := 65) rfl
theorem iX1_meetInLine_115 : rx_ins mX1_meetInLine 115 = some (14, 118, 7, 0, 122, []) := rx_at tbX1_meetInLine ndX1_meetInLine (j := 66) rfl
theorem iX1_meetInLine_122 : rx_ins mX1_meetInLine 122 = some (1, 123, 0, 0, 0, []) := rx_at tbX1_meetInLine ndX1_meetInLine (j := 69) rfl
theorem iX1_meetInLine_123 : rx_ins mX1_meetInLine 123 = some (29, 124, 1, 0, 0, []) := rx_at tbX1_meetInLine ndX1_meetInLine (j := 70) rfl
theorem iX1_meetInLine_103 : rx_ins mX1_meetInLine 103 = some (2, 105, 1, 6, 0, []) := rx_at tbX1_meetInLine ndX1_meetInLine (j := 60) rfl
theorem iX1_meetInLine_105 : rx_ins mX1_meetInLine 105 = some (2, 107, 1, 4, 0, []) := rx_at tbX1_meetInLine ndX1_meetInLine (j := 61) rfl
theorem iX1_meetInLine_107 : rx_ins mX1_meetInLine 107 = some (14, 110, 7, 3, 114, []) := rx_at tbX1_meetInLine ndX1_meetInLine (j := 62) rfl
theorem iX1_meetInLine_110 : rx_ins mX1_meetInLine 110 = some (1, 111, 1, 0, 0, []) := rx_at tbX1_meetInLine ndX1_meetInLine (j := 63) rfl
theorem iX1_meetInLine_111 : rx_ins mX1_meetInLine 111 = some (15, 114, 4, 0, 115, []) := rx_at tbX1_meetInLine ndX1_meetInLine (j := 64) rfl
theorem iX1_meetInLine_118 : rx_ins mX1_meetInLine 118 = some (1, 119, 1, 0, 0, []) := rx_at tbX1_meetInLine ndX1_meetInLine (j := 67) rfl
theorem iX1_meetInLine_119 : rx_ins mX1_meetInLine 119 = some (15, 122, 4, 0, 123, []) := rx_at tbX1_meetInLine ndX1_meetInLine (j := 68) rfl
theorem iX1_meetInLine_85 : rx_ins mX1_meetInLine 85 = some (2, 87, 1, 5, 0, []) := rx_at tbX1_meetInLine ndX1_meetInLine (j := 51) rfl
theorem iX1_meetInLine_87 : rx_ins mX1_meetInLine 87 = some (2, 89, 1, 4, 0, []) := rx_at tbX1_meetInLine ndX1_meetInLine (j := 52) rfl
theorem iX1_meetInLine_89 : rx_ins mX1_meetInLine 89 = some (14, 92, 7, 3, 96, []) := rx_at tbX1_meetInLine ndX1_meetInLine (j := 53) rfl
theorem iX1_meetInLine_92 : rx_ins mX1_meetInLine 92 = some (1, 93, 1, 0, 0, []) := rx_at tbX1_meetInLine ndX1_meetInLine (j := 54) rfl
theorem iX1_meetInLine_93 : rx_ins mX1_meetInLine 93 = some (15, 96, 4, 0, 97, []) := rx_at tbX1_meetInLine ndX1_meetInLine (j := 55) rfl
theorem iX1_meetInLayers_0 : rx_ins mX1_meetInLayers 0 = some (3, 1, 0, 0, 0, []) := rx_at tbX1_meetInLayers ndX1_meetInLayers (j := 0) rfl
theorem iX1_meetInLayers_1 : rx_ins mX1_meetInLayers 1 = some (2, 2, 0, 1, 0, []) := rx_at tbX1_meetInLayers ndX1_meetInLayers (j := 1) rfl
theorem iX1_meetInLayers_2 : rx_ins mX1_meetInLayers 2 = some (28, 5, 3, 33, 2, [(140, 111)]) := rx_at tbX1_meetInLayers ndX1_meetInLayers (j := 2) rfl
theorem iX1_meetInLayers_5 : rx_ins mX1_meetInLayers 5 = some (4, 6, 0, 3, 0, []) := rx_at tbX1_meetInLayers ndX1_meetInLayers (j := 3) rfl
theorem iX1_meetInLayers_6 : rx_ins mX1_meetInLayers 6 = some (2, 7, 0, 3, 0, []) := rx_at tbX1_meetInLayers ndX1_meetInLayers (j := 4) rfl
theorem iX1_meetInLayers_7 : rx_ins mX1_meetInLayers 7 = some (13, 10, 12, 2, 19, []) := rx_at tbX1_meetInLayers ndX1_meetInLayers (j := 5) rfl
theorem iX1_meetInLayers_19 : rx_ins mX1_meetInLayers 19 = some (1, 20, 0, 0, 0, []) := rx_at tbX1_meetInLayers ndX1_meetInLayers (j := 11) rfl
theorem iX1_meetInLayers_20 : rx_ins mX1_meetInLayers 20 = some (29, 21, 1, 0, 0, []) := rx_at tbX1_meetInLayers ndX1_meetInLayers (j := 12) rfl
theorem iX1_meetInLayers_10 : rx_ins mX1_meetInLayers 10 = some (2, 11, 0, 3, 0, []) := rx_at tbX1_meetInLayers ndX1_meetInLayers (j := 6) rfl
theorem iX1_meetInLayers_11 : rx_ins mX1_meetInLayers 11 = some (3, 12, 0, 0, 0, []) := rx_at tbX1_meetInLayers ndX1_meetInLayers (j := 7) rfl
theorem iX1_meetInLayers_12 : rx_ins mX1_meetInLayers 12 = some (2, 13, 0, 2, 0, []) := rx_at tbX1_meetInLayers ndX1_meetInLayers (j := 8) rfl
theorem iX1_meetInLayers_13 : rx_ins mX1_meetInLayers 13 = some (28, 16, 3, 33, 2, [(140, 111)]) := rx_at tbX1_meetInLayers ndX1_meetInLayers (j := 9) rfl
theorem iX1_meetInLayers_16 : rx_ins mX1_meetInLayers 16 = some (14, 19, 5, 0, 21, []) := rx_at tbX1_meetInLayers ndX1_meetInLayers (j := 10) rfl
theorem iX1_meetInLayers_21 : rx_ins mX1_meetInLayers 21 = some (3, 22, 0, 0, 0, []) := rx_at tbX1_meetInLayers ndX1_meetInLayers (j := 13) rfl
theorem iX1_meetInLayers_22 : rx_ins mX1_meetInLayers 22 = some (18, 25, 0, 1, 5, [(28, 14)]) := rx_at tbX1_meetInLayers ndX1_meetInLayers (j := 14) rfl
theorem iX1_meetInLayers_25 : rx_ins mX1_meetInLayers 25 = some (3, 26, 0, 0, 0, []) := rx_at tbX1_meetInLayers ndX1_meetInLayers (j := 15) rfl
theorem iX1_meetInLayers_26 : rx_ins mX1_meetInLayers 26 = some (2, 27, 0, 1, 0, []) := rx_at tbX1_meetInLayers ndX1_meetInLayers (j := 16) rfl
theorem iX1_meetInLayers_27 : rx_ins mX1_meetInLayers 27 = some (2, 28, 0, 3, 0, []) := rx_at tbX1_meetInLayers ndX1_meetInLayers (j := 17) rfl
theorem iX1_meetInLayers_28 : rx_ins mX1_meetInLayers 28 = some (28, 31, 3, 34, 3, [(143, 112)]) := rx_at tbX1_meetInLayers ndX1_meetInLayers (j := 18) rfl
theorem iX1_meetInLayers_31 : rx_ins mX1_meetInLayers 31 = some (20, 32, 0, 0, 0, []) := rx_at tbX1_meetInLayers ndX1_meetInLayers (j := 19) rfl
theorem iX1_meetInLayers_32 : rx_ins mX1_meetInLayers 32 = some (3, 33, 0, 0, 0, []) := rx_at tbX1_meetInLayers ndX1_meetInLayers (j := 20) rfl
theorem iX1_meetInLayers_33 : rx_ins mX1_meetInLayers 33 = some (18, 36, 0, 1, 5, [(28, 14)]) := rx_at tbX1_meetInLayers ndX1_meetInLayers (j := 21) rfl
theorem iX1_meetInLayers_36 : rx_ins mX1_meetInLayers 36 = some (3, 37, 0, 0, 0, []) := rx_at tbX1_meetInLayers ndX1_meetInLayers (j := 22) rfl
theorem iX1_meetInLayers_37 : rx_ins mX1_meetInLayers 37 = some (2, 38, 0, 2, 0, []) := rx_at tbX1_meetInLayers ndX1_meetInLayers (j := 23) rfl
theorem iX1_meetInLayers_38 : rx_ins mX1_meetInLayers 38 = some (2, 39, 0, 3, 0, []) := rx_at tbX1_meetInLayers ndX1_meetInLayers (j := 24) rfl
theorem iX1_meetInLayers_39 : rx_ins mX1_meetInLayers 39 = some (28, 42, 3, 34, 3, [(143, 112)]) := rx_at tbX1_meetInLayers ndX1_meetInLayers (j := 25) rfl
theorem iX1_meetInLayers_42 : rx_ins mX1_meetInLayers 42 = some (20, 43, 0, 0, 0, []) := rx_at tbX1_meetInLayers ndX1_meetInLayers (j := 26) rfl
theorem iX1_meetInLayers_43 : rx_ins mX1_meetInLayers 43 = some (7, 44, 0, 1, 0, []) := rx_at tbX1_meetInLayers ndX1_meetInLayers (j := 27) rfl
theorem iX1_meetInLayers_44 : rx_ins mX1_meetInLayers 44 = some (4, 46, 1, 4, 0, []) := rx_at tbX1_meetInLayers ndX1_meetInLayers (j := 28) rfl
theorem iX1_meetInLayers_46 : rx_ins mX1_meetInLayers 46 = some (3, 47, 0, 0, 0, []) := rx_at tbX1_meetInLayers ndX1_meetInLayers (j := 29) rfl
theorem iX1_meetInLayers_47 : rx_ins mX1_meetInLayers 47 = some (18, 50, 0, 1, 5, [(28, 14)]) := rx_at tbX1_meetInLayers ndX1_meetInLayers (j := 30) rfl
theorem iX1_meetInLayers_50 : rx_ins mX1_meetInLayers 50 = some (3, 51, 0, 0, 0, []) := rx_at tbX1_meetInLayers ndX1_meetInLayers (j := 31) rfl
theorem iX1_meetInLayers_51 : rx_ins mX1_meetInLayers 51 = some (2, 52, 0, 1, 0, []) := rx_at tbX1_meetInLayers ndX1_meetInLayers (j := 32) rfl
theorem iX1_meetInLayers_52 : rx_ins mX1_meetInLayers 52 = some (2, 53, 0, 3, 0, []) := rx_at tbX1_meetInLayers ndX1_meetInLayers (j := 33) rfl
theorem iX1_meetInLayers_53 : rx_ins mX1_meetInLayers 53 = some (1, 54, 1, 0, 0, []) := rx_at tbX1_meetInLayers ndX1_meetInLayers (j := 34) rfl
theorem iX1_meetInLayers_54 : rx_ins mX1_meetInLayers 54 = some (7, 55, 0, 0, 0, []) := rx_at tbX1_meetInLayers ndX1_meetInLayers (j := 35) rfl
theorem iX1_meetInLayers_55 : rx_ins mX1_meetInLayers 55 = some (28, 58, 3, 34, 3, [(143, 112)]) := rx_at tbX1_meetInLayers ndX1_meetInLayers (j := 36) rfl
theorem iX1_meetInLayers_58 : rx_ins mX1_meetInLayers 58 = some (20, 59, 0, 0, 0, []) := rx_at tbX1_meetInLayers ndX1_meetInLayers (j := 37) rfl
theorem iX1_meetInLayers_59 : rx_ins mX1_meetInLayers 59 = some (3, 60, 0, 0, 0, []) := rx_at tbX1_meetInLayers ndX1_meetInLayers (j := 38) rfl
theorem iX1_meetInLayers_60 : rx_ins mX1_meetInLayers 60 = some (18, 63, 0, 1, 5, [(28, 14)]) := rx_at tbX1_meetInLayers ndX1_meetInLayers (j := 39) rfl
theorem iX1_meetInLayers_63 : rx_ins mX1_meetInLayers 63 = some (3, 64, 0, 0, 0, []) := rx_at tbX1_meetInLayers ndX1_meetInLayers (j := 40) rfl
theorem iX1_meetInLayers_64 : rx_ins mX1_meetInLayers 64 = some (2, 65, 0, 2, 0, []) := rx_at tbX1_meetInLayers ndX1_meetInLayers (j := 41) rfl
theorem iX1_meetInLayers_65 : rx_ins mX1_meetInLayers 65 = some (2, 66, 0, 3, 0, []) := rx_at tbX1_meetInLayers ndX1_meetInLayers (j := 42) rfl
theorem iX1_meetInLayers_66 : rx_ins mX1_meetInLayers 66 = some (1, 67, 1, 0, 0, []) := rx_at tbX1_meetInLayers ndX1_meetInLayers (j := 43) rfl
theorem iX1_meetInLayers_67 : rx_ins mX1_meetInLayers 67 = some (7, 68, 0, 0, 0, []) := rx_at tbX1_meetInLayers ndX1_meetInLayers (j := 44) rfl
theorem iX1_meetInLayers_68 : rx_ins mX1_meetInLayers 68 = some (28, 71, 3, 34, 3, [(143, 112)]) := rx_at tbX1_meetInLayers ndX1_meetInLayers (j := 45) rfl
theorem iX1_meetInLayers_71 : rx_ins mX1_meetInLayers 71 = some (20, 72, 0, 0, 0, []) := rx_at tbX1_meetInLayers ndX1_meetInLayers (j := 46) rfl
theorem iX1_meetInLayers_72 : rx_ins mX1_meetInLayers 72 = some (7, 73, 0, 1, 0, []) := rx_at tbX1_meetInLayers ndX1_meetInLayers (j := 47) rfl
theorem iX1_meetInLayers_73 : rx_ins mX1_meetInLayers 73 = some (4, 75, 1, 5, 0, []) := rx_at tbX1_meetInLayers ndX1_meetInLayers (j := 48) rfl
theorem iX1_meetInLayers_75 : rx_ins mX1_meetInLayers 75 = some (2, 77, 1, 4, 0, []) := rx_at tbX1_meetInLayers ndX1_meetInLayers (j := 49) rfl
theorem iX1_meetInLayers_77 : rx_ins mX1_meetInLayers 77 = some (13, 80, 7, 3, 84, []) := rx_at tbX1_meetInLayers ndX1_meetInLayers (j := 50) rfl
theorem iX1_meetInLayers_84 : rx_ins mX1_meetInLayers 84 = some (1, 85, 0, 0, 0, []) := rx_at tbX1_meetInLayers ndX1_meetInLayers (j := 53) rfl
theorem iX1_meetInLayers_85 : rx_ins mX1_meetInLayers 85 = some (2, 87, 1, 5, 0, []) := rx_at tbX1_meetInLayers ndX1_meetInLayers (j := 54) rfl
theorem iX1_meetInLayers_87 : rx_ins mX1_meetInLayers 87 = some (13, 90, 7, 3, 94, []) := rx_at tbX1_meetInLayers ndX1_meetInLayers (j := 55) rfl
theorem iX1_meetInLayers_94 : rx_ins mX1_meetInLayers 94 = some (1, 95, 0, 0, 0, []) := rx_at tbX1_meetInLayers ndX1_meetInLayers (j := 58) rfl
theorem iX1_meetInLayers_95 : rx_ins mX1_meetInLayers 95 = some (14, 98, 7, 0, 102, []) := rx_at tbX1_meetInLayers ndX1_meetInLayers (j := 59) rfl
theorem iX1_meetInLayers_102 : rx_ins mX1_meetInLayers 102 = some (1, 103, 0, 0, 0, []) := rx_at tbX1_meetInLayers ndX1_meetInLayers (j := 62) rfl
theorem iX1_meetInLayers_103 : rx_ins mX1_meetInLayers 103 = some (29, 104, 1, 0, 0, []) := rx_at tbX1_meetInLayers ndX1_meetInLayers (j := 63) rfl
theorem iX1_meetInLayers_90 : rx_ins mX1_meetInLayers 90 = some (1, 91, 1, 0, 0, []) := rx_at tbX1_meetInLayers ndX1_meetInLayers (j := 56) rfl
theorem iX1_meetInLayers_91 : rx_ins mX1_meetInLayers 91 = some (15, 94, 4, 0, 95, []) := rx_at tbX1_meetInLayers ndX1_meetInLayers (j := 57) rfl
theorem iX1_meetInLayers_98 : rx_ins mX1_meetInLayers 98 = some (1, 99, 1, 0, 0, []) := rx_at tbX1_meetInLayers ndX1_meetInLayers (j := 60) rfl
theorem iX1_meetInLayers_99 : rx_ins mX1_meetInLayers 99 = some (15, 102, 4, 0, 103, []) := rx_at tbX1_meetInLayers ndX1_meetInLayers (j := 61) rfl
theorem iX1_meetInLayers_80 : rx_ins mX1_meetInLayers 80 = some (1, 81, 1, 0, 0, []) := rx_at tbX1_meetInLayers ndX1_meetInLayers (j := 51) rfl
theorem iX1_meetInLayers_81 : rx_ins mX1_meetInLayers 81 = some (15, 84, 4, 0, 85, []) := rx_at tbX1_meetInLayers ndX1_meetInLayers (j := 52) rfl
theorem iX1_upperLayer_0 : rx_ins mX1_upperLayer 0 = some (3, 1, 0, 0, 0, []) := rx_at tbX1_upperLayer ndX1_upperLayer (j := 0) rfl
theorem iX1_upperLayer_1 : rx_ins mX1_upperLayer 1 = some (18, 4, 0, 1, 3, [(22, 12)]) := rx_at tbX1_upperLayer ndX1_upperLayer (j := 1) rfl
theorem iX1_upperLayer_4 : rx_ins mX1_upperLayer 4 = some (3, 5, 0, 0, 0, []) := rx_at tbX1_upperLayer ndX1_upperLayer (j := 2) rfl
theorem iX1_upperLayer_5 : rx_ins mX1_upperLayer 5 = some (18, 8, 0, 1, 8, [(37, 17)]) := rx_at tbX1_upperLayer ndX1_upperLayer (j := 3) rfl
theorem iX1_upperLayer_8 : rx_ins mX1_upperLayer 8 = some (2, 9, 0, 1, 0, []) := rx_at tbX1_upperLayer ndX1_upperLayer (j := 4) rfl
theorem iX1_upperLayer_9 : rx_ins mX1_upperLayer 9 = some (20, 10, 0, 0, 0, []) := rx_at tbX1_upperLayer ndX1_upperLayer (j := 5) rfl
theorem iX1_upperLayer_10 : rx_ins mX1_upperLayer 10 = some (20, 11, 0, 0, 0, []) := rx_at tbX1_upperLayer ndX1_upperLayer (j := 6) rfl
theorem iX1_upperLayer_11 : rx_ins mX1_upperLayer 11 = some (4, 12, 0, 2, 0, []) := rx_at tbX1_upperLayer ndX1_upperLayer (j := 7) rfl
theorem iX1_upperLayer_12 : rx_ins mX1_upperLayer 12 = some (3, 13, 0, 0, 0, []) := rx_at tbX1_upperLayer ndX1_upperLayer (j := 8) rfl
theorem iX1_upperLayer_13 : rx_ins mX1_upperLayer 13 = some (18, 16, 0, 1, 3, [(22, 12)]) := rx_at tbX1_upperLayer ndX1_upperLayer (j := 9) rfl
theorem iX1_upperLayer_16 : rx_ins mX1_upperLayer 16 = some (3, 17, 0, 0, 0, []) := rx_at tbX1_upperLayer ndX1_upperLayer (j := 10) rfl
theorem iX1_upperLayer_17 : rx_ins mX1_upperLayer 17 = some (18, 20, 0, 1, 9, [(40, 18)]) := rx_at tbX1_upperLayer ndX1_upperLayer (j := 11) rfl
theorem iX1_upperLayer_20 : rx_ins mX1_upperLayer 20 = some (2, 21, 0, 1, 0, []) := rx_at tbX1_upperLayer ndX1_upperLayer (j := 12) rfl
theorem iX1_upperLayer_21 : rx_ins mX1_upperLayer 21 = some (20, 22, 0, 0, 0, []) := rx_at tbX1_upperLayer ndX1_upperLayer (j := 13) rfl
theorem iX1_upperLayer_22 : rx_ins mX1_upperLayer 22 = some (20, 23, 0, 0, 0, []) := rx_at tbX1_upperLayer ndX1_upperLayer (j := 14) rfl
theorem iX1_upperLayer_23 : rx_ins mX1_upperLayer 23 = some (4, 24, 0, 3, 0, []) := rx_at tbX1_upperLayer ndX1_upperLayer (j := 15) rfl
theorem iX1_upperLayer_24 : rx_ins mX1_upperLayer 24 = some (2, 25, 0, 2, 0, []) := rx_at tbX1_upperLayer ndX1_upperLayer (j := 16) rfl
theorem iX1_upperLayer_25 : rx_ins mX1_upperLayer 25 = some (2, 26, 0, 3, 0, []) := rx_at tbX1_upperLayer ndX1_upperLayer (j := 17) rfl
theorem iX1_upperLayer_26 : rx_ins mX1_upperLayer 26 = some (7, 27, 0, 1, 0, []) := rx_at tbX1_upperLayer ndX1_upperLayer (j := 18) rfl
theorem iX1_upperLayer_27 : rx_ins mX1_upperLayer 27 = some (32, 30, 0, 2, 0, [(146, 2)]) := rx_at tbX1_upperLayer ndX1_upperLayer (j := 19) rfl
theorem iX1_upperLayer_30 : rx_ins mX1_upperLayer 30 = some (1, 31, 1, 0, 0, []) := rx_at tbX1_upperLayer ndX1_upperLayer (j := 20) rfl
theorem iX1_upperLayer_31 : rx_ins mX1_upperLayer 31 = some (14, 34, 11, 1, 42, []) := rx_at tbX1_upperLayer ndX1_upperLayer (j := 21) rfl
theorem iX1_upperLayer_42 : rx_ins mX1_upperLayer 42 = some (1, 43, (-1), 0, 0, []) := rx_at tbX1_upperLayer ndX1_upperLayer (j := 26) rfl
theorem iX1_upperLayer_43 : rx_ins mX1_upperLayer 43 = some (29, 44, 0, 0, 0, []) := rx_at tbX1_upperLayer ndX1_upperLayer (j := 27) rfl
theorem iX1_upperLayer_34 : rx_ins mX1_upperLayer 34 = some (2, 35, 0, 2, 0, []) := rx_at tbX1_upperLayer ndX1_upperLayer (j := 22) rfl
theorem iX1_upperLayer_35 : rx_ins mX1_upperLayer 35 = some (2, 36, 0, 3, 0, []) := rx_at tbX1_upperLayer ndX1_upperLayer (j := 23) rfl
theorem iX1_upperLayer_36 : rx_ins mX1_upperLayer 36 = some (31, 39, 0, 1, 0, [(59, 0)]) := rx_at tbX1_upperLayer ndX1_upperLayer (j := 24) rfl
theorem iX1_upperLayer_39 : rx_ins mX1_upperLayer 39 = some (15, 42, 4, 0, 43, []) := rx_at tbX1_upperLayer ndX1_upperLayer (j := 25) rfl
theorem iX1_endIn_0 : rx_ins mX1_endIn 0 = some (3, 1, 0, 0, 0, []) := rx_at tbX1_endIn ndX1_endIn (j := 0) rfl
theorem iX1_endIn_1 : rx_ins mX1_endIn 1 = some (18, 4, 0, 1, 3, [(22, 12)]) := rx_at tbX1_endIn ndX1_endIn (j := 1) rfl
theorem iX1_endIn_4 : rx_ins mX1_endIn 4 = some (3, 5, 0, 0, 0, []) := rx_at tbX1_endIn ndX1_endIn (j := 2) rfl
theorem iX1_endIn_5 : rx_ins mX1_endIn 5 = some (18, 8, 0, 1, 8, [(37, 17)]) := rx_at tbX1_endIn ndX1_endIn (j := 3) rfl
theorem iX1_endIn_8 : rx_ins mX1_endIn 8 = some (2, 9, 0, 1, 0, []) := rx_at tbX1_endIn ndX1_endIn (j := 4) rfl
theorem iX1_endIn_9 : rx_ins mX1_endIn 9 = some (20, 10, 0, 0, 0, []) := rx_at tbX1_endIn ndX1_endIn (j := 5) rfl
theorem iX1_endIn_10 : rx_ins mX1_endIn 10 = some (20, 11, 0, 0, 0, []) := rx_at tbX1_endIn ndX1_endIn (j := 6) rfl
theorem iX1_endIn_11 : rx_ins mX1_endIn 11 = some (2, 12, 0, 2, 0, []) := rx_at tbX1_endIn ndX1_endIn (j := 7) rfl
theorem iX1_endIn_12 : rx_ins mX1_endIn 12 = some (14, 15, 12, 1, 24, []) := rx_at tbX1_endIn ndX1_endIn (j := 8) rfl
theorem iX1_endIn_24 : rx_ins mX1_endIn 24 = some (3, 25, 0, 0, 0, []) := rx_at tbX1_endIn ndX1_endIn (j := 14) rfl
theorem iX1_endIn_25 : rx_ins mX1_endIn 25 = some (18, 28, 0, 1, 9, [(40, 18)]) := rx_at tbX1_endIn ndX1_endIn (j := 15) rfl
theorem iX1_endIn_28 : rx_ins mX1_endIn 28 = some (2, 29, 0, 1, 0, []) := rx_at tbX1_endIn ndX1_endIn (j := 16) rfl
theorem iX1_endIn_29 : rx_ins mX1_endIn 29 = some (20, 30, 0, 0, 0, []) := rx_at tbX1_endIn ndX1_endIn (j := 17) rfl
theorem iX1_endIn_30 : rx_ins mX1_endIn 30 = some (29, 31, 0, 0, 0, []) := rx_at tbX1_endIn ndX1_endIn (j := 18) rfl
theorem iX1_endIn_15 : rx_ins mX1_endIn 15 = some (3, 16, 0, 0, 0, []) := rx_at tbX1_endIn ndX1_endIn (j := 9) rfl
theorem iX1_endIn_16 : rx_ins mX1_endIn 16 = some (18, 19, 0, 1, 8, [(37, 17)]) := rx_at tbX1_endIn ndX1_endIn (j := 10) rfl
theorem iX1_endIn_19 : rx_ins mX1_endIn 19 = some (2, 20, 0, 1, 0, []) := rx_at tbX1_endIn ndX1_endIn (j := 11) rfl
theorem iX1_endIn_20 : rx_ins mX1_endIn 20 = some (20, 21, 0, 0, 0, []) := rx_at tbX1_endIn ndX1_endIn (j := 12) rfl
theorem iX1_endIn_21 : rx_ins mX1_endIn 21 = some (15, 24, 9, 0, 30, []) := rx_at tbX1_endIn ndX1_endIn (j := 13) rfl
set_option maxRecDepth 20000 in
set_option maxHeartbeats 4000000 in
theorem bX1_takeFrom (L d : Nat) (A0 : Nat) (hA0 : rx_isO 1 A0 = true) (A1 : Nat) (hA1 : rx_isO 1 A1 = true) (σ : rx_St) (K : rx_St → Prop)
    (H : rx_CV L d mX1_takeRow [.inr (A1 + 1), .inr (A0 + 1)] (rx_up σ A0 0 (σ A1 0)) (fun σ1 => rx_CV L d mX1_takeRow [.inr (A1 + 2), .inr (A0 + 2)] σ1 (fun σ2 => rx_CV L d mX1_takeRow [.inr (A1 + 3), .inr (A0 + 3)] σ2 (fun σ3 => rx_CV L d mX1_takeRow [.inr (A1 + 4), .inr (A0 + 4)] σ3 (fun σ4 => rx_CV L d mX1_takeRow [.inr (A1 + 5), .inr (A0 + 5)] σ4 (fun σ5 => rx_CV L d mX1_takeRow [.inr (A1 + 6), .inr (A0 + 6)] (rx_up σ5 A0 6 (σ5 A1 6)) (fun σ6 => rx_CV L d mX1_takeRow [.inr (A1 + 7), .inr (A0 + 7)] σ6 (fun σ7 => rx_CV L d mX1_takeRow [.inr (A1 + 8), .inr (A0 + 8)] σ7 (fun σ8 => rx_CV L d mX1_takeRow [.inr (A1 + 9), .inr (A0 + 9)] σ8 (fun σ9 => rx_CV L d mX1_takeRow [.inr (A1 + 10), .inr (A0 + 10)] σ9 (fun σ10 => K (rx_up (rx_up σ10 A0 12 (σ10 A1 12)) A0 13 ((rx_up σ10 A0 12 (σ10 A1 12)) A1 13))))))))))))) :
    rx_CV L (d + 1) mX1_takeFrom [.inr A0, .inr A1] σ K := by
  refine rx_CV.of (la := [some (.inr A0), some (.inr A1)]) rfl ?_
  refine g_al iX1_takeFrom_0 rfl ?_
  refine g_al iX1_takeFrom_1 rfl ?_
  refine g_gf (kI := 0) rfl iX1_takeFrom_2 (fi_1_0 hA1) ?_
  refine g_pf (kI := 0) rfl iX1_takeFrom_5 (fi_1_0 hA0) (Or.inl rfl) ?_
  refine g_al iX1_takeFrom_8 rfl ?_
  refine g_gr iX1_takeFrom_9 (fr_1_1 hA1) ?_
  refine g_al iX1_takeFrom_12 rfl ?_
  refine g_gr iX1_takeFrom_13 (fr_1_1 hA0) ?_
  refine g_cv (as := [.inr (A1 + 1), .inr (A0 + 1)]) (rest := []) iX1_takeFrom_16 rfl rfl (Nat.le_of_ble_eq_true rfl) (Or.inl (by decide)) (rx_CV.imp H (fun σ1 H => ?_))
  refine g_al iX1_takeFrom_19 rfl ?_
  refine g_gr iX1_takeFrom_20 (fr_1_2 hA1) ?_
  refine g_al iX1_takeFrom_23 rfl ?_
  refine g_gr iX1_takeFrom_24 (fr_1_2 hA0) ?_
  refine g_cv (as := [.inr (A1 + 2), .inr (A0 + 2)]) (rest := []) iX1_takeFrom_27 rfl rfl (Nat.le_of_ble_eq_true rfl) (Or.inl (by decide)) (rx_CV.imp H (fun σ2 H => ?_))
  refine g_al iX1_takeFrom_30 rfl ?_
  refine g_gr iX1_takeFrom_31 (fr_1_3 hA1) ?_
  refine g_al iX1_takeFrom_34 rfl ?_
  refine g_gr iX1_takeFrom_35 (fr_1_3 hA0) ?_
  refine g_cv (as := [.inr (A1 + 3), .inr (A0 + 3)]) (rest := []) iX1_takeFrom_38 rfl rfl (Nat.le_of_ble_eq_true rfl) (Or.inl (by decide)) (rx_CV.imp H (fun σ3 H => ?_))
  refine g_al iX1_takeFrom_41 rfl ?_
  refine g_gr iX1_takeFrom_42 (fr_1_4 hA1) ?_
  refine g_al iX1_takeFrom_45 rfl ?_
  refine g_gr iX1_takeFrom_46 (fr_1_4 hA0) ?_
  refine g_cv (as := [.inr (A1 + 4), .inr (A0 + 4)]) (rest := []) iX1_takeFrom_49 rfl rfl (Nat.le_of_ble_eq_true rfl) (Or.inl (by decide)) (rx_CV.imp H (fun σ4 H => ?_))
  refine g_al iX1_takeFrom_52 rfl ?_
  refine g_gr iX1_takeFrom_53 (fr_1_5 hA1) ?_
  refine g_al iX1_takeFrom_56 rfl ?_
  refine g_gr iX1_takeFrom_57 (fr_1_5 hA0) ?_
  refine g_cv (as := [.inr (A1 + 5), .inr (A0 + 5)]) (rest := []) iX1_takeFrom_60 rfl rfl (Nat.le_of_ble_eq_true rfl) (Or.inl (by decide)) (rx_CV.imp H (fun σ5 H => ?_))
  refine g_al iX1_takeFrom_63 rfl ?_
  refine g_al iX1_takeFrom_64 rfl ?_
  refine g_gf (kI := 6) rfl iX1_takeFrom_65 (fi_1_6 hA1) ?_
  refine g_pf (kI := 6) rfl iX1_takeFrom_68 (fi_1_6 hA0) (Or.inl rfl) ?_
  refine g_al iX1_takeFrom_71 rfl ?_
  refine g_gr iX1_takeFrom_72 (fr_1_7 hA1) ?_
  refine g_al iX1_takeFrom_75 rfl ?_
  refine g_gr iX1_takeFrom_76 (fr_1_7 hA0) ?_
  refine g_cv (as := [.inr (A1 + 6), .inr (A0 + 6)]) (rest := []) iX1_takeFrom_79 rfl rfl (Nat.le_of_ble_eq_true rfl) (Or.inl (by decide)) (rx_CV.imp H (fun σ6 H => ?_))
  refine g_al iX1_takeFrom_82 rfl ?_
  refine g_gr iX1_takeFrom_83 (fr_1_8 hA1) ?_
  refine g_al iX1_takeFrom_86 rfl ?_
  refine g_gr iX1_takeFrom_87 (fr_1_8 hA0) ?_
  refine g_cv (as := [.inr (A1 + 7), .inr (A0 + 7)]) (rest := []) iX1_takeFrom_90 rfl rfl (Nat.le_of_ble_eq_true rfl) (Or.inl (by decide)) (rx_CV.imp H (fun σ7 H => ?_))
  refine g_al iX1_takeFrom_93 rfl ?_
  refine g_gr iX1_takeFrom_94 (fr_1_9 hA1) ?_
  refine g_al iX1_takeFrom_97 rfl ?_
  refine g_gr iX1_takeFrom_98 (fr_1_9 hA0) ?_
  refine g_cv (as := [.inr (A1 + 8), .inr (A0 + 8)]) (rest := []) iX1_takeFrom_101 rfl rfl (Nat.le_of_ble_eq_true rfl) (Or.inl (by decide)) (rx_CV.imp H (fun σ8 H => ?_))
  refine g_al iX1_takeFrom_104 rfl ?_
  refine g_gr iX1_takeFrom_105 (fr_1_10 hA1) ?_
  refine g_al iX1_takeFrom_108 rfl ?_
  refine g_gr iX1_takeFrom_109 (fr_1_10 hA0) ?_
  refine g_cv (as := [.inr (A1 + 9), .inr (A0 + 9)]) (rest := []) iX1_takeFrom_112 rfl rfl (Nat.le_of_ble_eq_true rfl) (Or.inl (by decide)) (rx_CV.imp H (fun σ9 H => ?_))
  refine g_al iX1_takeFrom_115 rfl ?_
  refine g_gr iX1_takeFrom_116 (fr_1_11 hA1) ?_
  refine g_al iX1_takeFrom_119 rfl ?_
  refine g_gr iX1_takeFrom_120 (fr_1_11 hA0) ?_
  refine g_cv (as := [.inr (A1 + 10), .inr (A0 + 10)]) (rest := []) iX1_takeFrom_123 rfl rfl (Nat.le_of_ble_eq_true rfl) (Or.inl (by decide)) (rx_CV.imp H (fun σ10 H => ?_))
  refine g_al iX1_takeFrom_126 rfl ?_
  refine g_al iX1_takeFrom_127 rfl ?_
  refine g_gf (kI := 12) rfl iX1_takeFrom_128 (fi_1_12 hA1) ?_
  refine g_pf (kI := 12) rfl iX1_takeFrom_131 (fi_1_12 hA0) (Or.inl rfl) ?_
  refine g_al iX1_takeFrom_134 rfl ?_
  refine g_al iX1_takeFrom_135 rfl ?_
  refine g_gf (kI := 13) rfl iX1_takeFrom_136 (fi_1_13 hA1) ?_
  refine g_pf (kI := 13) rfl iX1_takeFrom_139 (fi_1_13 hA0) (Or.inl rfl) ?_
  exact g_rv iX1_takeFrom_142 H
set_option maxRecDepth 20000 in
set_option maxHeartbeats 4000000 in
theorem bX1_takeRow (L d : Nat) (A0 : Nat) (n0 : Int) (hA0 : rx_len L 0 A0 = n0 ∧ A0 < 159) (hA0a : rx_alen L A0 = some n0) (A1 : Nat) (n1 : Int) (hA1 : rx_len L 0 A1 = n1 ∧ A1 < 159) (hA1a : rx_alen L A1 = some n1) (σ : rx_St) (K : rx_St → Prop)
    (H : rx_cpOK (rx_mn n0 n1) 0 n0 0 n1 ∧ (K (rx_cp σ A0 0 A1 0 (rx_mn n0 n1)))) :
    rx_CV L d mX1_takeRow [.inr A0, .inr A1] σ K := by
  refine rx_CV.of (la := [some (.inr A0), some (.inr A1)]) rfl ?_
  refine g_al iX1_takeRow_0 rfl ?_
  refine g_c iX1_takeRow_1 ?_
  refine g_al iX1_takeRow_2 rfl ?_
  refine g_c iX1_takeRow_3 ?_
  refine g_al iX1_takeRow_4 rfl ?_
  refine g_len (n := n0) iX1_takeRow_5 hA0a ?_
  refine g_al iX1_takeRow_6 rfl ?_
  refine g_len (n := n1) iX1_takeRow_7 hA1a ?_
  refine g_mn iX1_takeRow_8 (Nat.le_of_ble_eq_true rfl) ?_
  obtain ⟨o1, H⟩ := H
  refine g_cp iX1_takeRow_11 hA0.1 hA1.1 o1 ⟨hA0.2, hA1.2⟩ ?_
  exact g_rv iX1_takeRow_14 H
set_option maxRecDepth 20000 in
set_option maxHeartbeats 4000000 in
theorem bX1_isPost (L d : Nat) (A0 : Nat) (hA0 : rx_isO 1 A0 = true) (x1 : Int) (σ : rx_St) (K : Int → rx_St → Prop)
    (H : if x1 < 0 then (K 0 σ) else (if (σ A0 0) ≤ x1 then (K 0 σ) else (K 1 σ))) :
    rx_CI L d mX1_isPost [.inr A0, .inl x1] σ K := by
  refine rx_CI.of (la := [some (.inr A0), some (.inl x1)]) rfl ?_
  refine g_il iX1_isPost_0 rfl ?_
  by_cases c1 : x1 < 0
  · rw [if_pos c1] at H
    refine g_if2t iX1_isPost_1 c1 ?_
    refine g_c iX1_isPost_16 ?_
    exact g_ri iX1_isPost_17 (by decide) H
  · rw [if_neg c1] at H
    refine g_if2f iX1_isPost_1 c1 ?_
    refine g_il iX1_isPost_4 rfl ?_
    refine g_al iX1_isPost_5 rfl ?_
    refine g_gf (kI := 0) rfl iX1_isPost_6 (fi_1_0 hA0) ?_
    by_cases c2 : (σ A0 0) ≤ x1
    · rw [if_pos c2] at H
      refine g_ic3t iX1_isPost_9 c2 ?_
      refine g_c iX1_isPost_16 ?_
      exact g_ri iX1_isPost_17 (by decide) H
    · rw [if_neg c2] at H
      refine g_ic3f iX1_isPost_9 c2 ?_
      refine g_c iX1_isPost_12 ?_
      refine g_goto iX1_isPost_13 ?_
      exact g_ri iX1_isPost_17 (by decide) H
set_option maxRecDepth 20000 in
set_option maxHeartbeats 4000000 in
theorem bX1_isRoad (L d : Nat) (A0 : Nat) (hA0 : rx_isO 1 A0 = true) (x1 : Int) (σ : rx_St) (K : Int → rx_St → Prop)
    (H : if x1 < 0 then (K 0 σ) else (if (σ A0 6) ≤ x1 then (K 0 σ) else (K 1 σ))) :
    rx_CI L d mX1_isRoad [.inr A0, .inl x1] σ K := by
  refine rx_CI.of (la := [some (.inr A0), some (.inl x1)]) rfl ?_
  refine g_il iX1_isRoad_0 rfl ?_
  by_cases c1 : x1 < 0
  · rw [if_pos c1] at H
    refine g_if2t iX1_isRoad_1 c1 ?_
    refine g_c iX1_isRoad_16 ?_
    exact g_ri iX1_isRoad_17 (by decide) H
  · rw [if_neg c1] at H
    refine g_if2f iX1_isRoad_1 c1 ?_
    refine g_il iX1_isRoad_4 rfl ?_
    refine g_al iX1_isRoad_5 rfl ?_
    refine g_gf (kI := 6) rfl iX1_isRoad_6 (fi_1_6 hA0) ?_
    by_cases c2 : (σ A0 6) ≤ x1
    · rw [if_pos c2] at H
      refine g_ic3t iX1_isRoad_9 c2 ?_
      refine g_c iX1_isRoad_16 ?_
      exact g_ri iX1_isRoad_17 (by decide) H
    · rw [if_neg c2] at H
      refine g_ic3f iX1_isRoad_9 c2 ?_
      refine g_c iX1_isRoad_12 ?_
      refine g_goto iX1_isRoad_13 ?_
      exact g_ri iX1_isRoad_17 (by decide) H
set_option maxRecDepth 20000 in
set_option maxHeartbeats 4000000 in
theorem bX1_postAt (L d : Nat) (A0 : Nat) (hA0 : rx_isO 1 A0 = true) (x1 : Int) (x2 : Int) (σ : rx_St) (K : Int → rx_St → Prop)
    (H : rx_Go L d mX1_postAt 2 [some (.inr A0), some (.inl x1), some (.inl x2), some (.inl 0)] [] σ (rx_PI K)) :
    rx_CI L d mX1_postAt [.inr A0, .inl x1, .inl x2] σ K := by
  refine rx_CI.of (la := [some (.inr A0), some (.inl x1), some (.inl x2), none]) rfl ?_
  refine g_c iX1_postAt_0 ?_
  refine g_is iX1_postAt_1 (Nat.le_of_ble_eq_true rfl) ?_
  refine rx_Go.ls (la := [some (.inr A0), some (.inl x1), some (.inl x2), some (.inl 0)]) rfl ?_
  exact H
set_option maxRecDepth 20000 in
set_option maxHeartbeats 4000000 in
theorem bX1_postAt_2 (L d : Nat) (A0 : Nat) (hA0 : rx_isO 1 A0 = true) (x1 : Int) (x2 : Int) (x3 : Int) (σ : rx_St) (K : Int → rx_St → Prop)
    (H : if (σ A0 0) ≤ x3 then (K (-1) σ) else ((0 ≤ x3 ∧ x3 < 8) ∧ (if (σ (A0 + 1) x3) ≠ x1 then (rx_Go L d mX1_postAt 2 [some (.inr A0), some (.inl x1), some (.inl x2), some (.inl (rx_w (x3 + 1)))] [] σ (rx_PI K)) else (if (σ (A0 + 2) x3) ≠ x2 then (rx_Go L d mX1_postAt 2 [some (.inr A0), some (.inl x1), some (.inl x2), some (.inl (rx_w (x3 + 1)))] [] σ (rx_PI K)) else (K x3 σ))))) :
    rx_Go L d mX1_postAt 2 [some (.inr A0), some (.inl x1), some (.inl x2), some (.inl x3)] [] σ (rx_PI K) := by
  refine g_il iX1_postAt_2 rfl ?_
  refine g_al iX1_postAt_3 rfl ?_
  refine g_gf (kI := 0) rfl iX1_postAt_4 (fi_1_0 hA0) ?_
  by_cases c1 : (σ A0 0) ≤ x3
  · rw [if_pos c1] at H
    refine g_ic3t iX1_postAt_7 c1 ?_
    refine g_c iX1_postAt_38 ?_
    exact g_ri iX1_postAt_39 (Or.inl rfl) H
  · rw [if_neg c1] at H
    refine g_ic3f iX1_postAt_7 c1 ?_
    refine g_al iX1_postAt_10 rfl ?_
    refine g_gr iX1_postAt_11 (fr_1_1 hA0) ?_
    refine g_il iX1_postAt_14 rfl ?_
    obtain ⟨o2, H⟩ := H
    refine g_ld iX1_postAt_15 (ln_1_o1 L hA0).1 o2 ?_
    refine g_il iX1_postAt_16 rfl ?_
    by_cases c3 : (σ (A0 + 1) x3) ≠ x1
    · rw [if_pos c3] at H
      refine g_ic1t iX1_postAt_17 c3 ?_
      refine g_ii iX1_postAt_32 rfl ?_
      refine rx_Go.ls (la := [some (.inr A0), some (.inl x1), some (.inl x2), some (.inl (rx_w (x3 + 1)))]) rfl ?_
      refine g_goto iX1_postAt_35 ?_
      exact H
    · rw [if_neg c3] at H
      refine g_ic1f iX1_postAt_17 c3 ?_
      refine g_al iX1_postAt_20 rfl ?_
      refine g_gr iX1_postAt_21 (fr_1_2 hA0) ?_
      refine g_il iX1_postAt_24 rfl ?_
      refine g_ld iX1_postAt_25 (ln_1_o2 L hA0).1 o2 ?_
      refine g_il iX1_postAt_26 rfl ?_
      by_cases c4 : (σ (A0 + 2) x3) ≠ x2
      · rw [if_pos c4] at H
        refine g_ic1t iX1_postAt_27 c4 ?_
        refine g_ii iX1_postAt_32 rfl ?_
        refine rx_Go.ls (la := [some (.inr A0), some (.inl x1), some (.inl x2), some (.inl (rx_w (x3 + 1)))]) rfl ?_
        refine g_goto iX1_postAt_35 ?_
        exact H
      · rw [if_neg c4] at H
        refine g_ic1f iX1_postAt_27 c4 ?_
        refine g_il iX1_postAt_30 rfl ?_
        exact g_ri iX1_postAt_31 (Or.inl rfl) H
set_option maxRecDepth 20000 in
set_option maxHeartbeats 4000000 in
theorem bX1_postRefusal (L d : Nat) (A0 : Nat) (hA0 : rx_isO 1 A0 = true) (x1 : Int) (x2 : Int) (σ : rx_St) (K : Int → rx_St → Prop)
    (H : rx_CI L d mX10_isPlace [.inl x1, .inl x2] σ (fun v2 σ1 => if v2 ≠ 0 then (rx_CI L d mX1_postAt [.inr A0, .inl x1, .inl x2] σ1 (fun v5 σ4 => if v5 < 0 then (if (σ4 A0 0) < 8 then (K 0 σ4) else (K (-1000000003) σ4)) else (K (-1000000002) σ4))) else (K (-1000000001) σ1))) :
    rx_CI L (d + 1) mX1_postRefusal [.inr A0, .inl x1, .inl x2] σ K := by
  refine rx_CI.of (la := [some (.inr A0), some (.inl x1), some (.inl x2)]) rfl ?_
  refine g_il iX1_postRefusal_0 rfl ?_
  refine g_il iX1_postRefusal_1 rfl ?_
  refine g_ci (as := [.inl x1, .inl x2]) (rest := []) iX1_postRefusal_2 rfl rfl (Nat.le_of_ble_eq_true rfl) (Or.inl (by decide)) (rx_CI.imp H (fun v2 σ1 H => ?_))
  by_cases c3 : v2 ≠ 0
  · rw [if_pos c3] at H
    refine g_if1t iX1_postRefusal_5 c3 ?_
    refine g_al iX1_postRefusal_11 rfl ?_
    refine g_il iX1_postRefusal_12 rfl ?_
    refine g_il iX1_postRefusal_13 rfl ?_
    refine g_ci (as := [.inr A0, .inl x1, .inl x2]) (rest := []) iX1_postRefusal_14 rfl rfl (Nat.le_of_ble_eq_true rfl) (Or.inr ⟨_, _, rfl, hA0⟩) (rx_CI.imp H (fun v5 σ4 H => ?_))
    by_cases c6 : v5 < 0
    · rw [if_pos c6] at H
      refine g_if2t iX1_postRefusal_17 c6 ?_
      refine g_al iX1_postRefusal_23 rfl ?_
      refine g_gf (kI := 0) rfl iX1_postRefusal_24 (fi_1_0 hA0) ?_
      refine g_c iX1_postRefusal_27 ?_
      by_cases c7 : (σ4 A0 0) < 8
      · rw [if_pos c7] at H
        refine g_ic2t iX1_postRefusal_29 c7 ?_
        refine g_c iX1_postRefusal_37 ?_
        exact g_ri iX1_postRefusal_38 (Or.inl rfl) H
      · rw [if_neg c7] at H
        refine g_ic2f iX1_postRefusal_29 c7 ?_
        refine g_c iX1_postRefusal_32 ?_
        refine g_goto iX1_postRefusal_34 ?_
        exact g_ri iX1_postRefusal_38 (Or.inl rfl) H
    · rw [if_neg c6] at H
      refine g_if2f iX1_postRefusal_17 c6 ?_
      refine g_c iX1_postRefusal_20 ?_
      exact g_ri iX1_postRefusal_22 (Or.inl rfl) H
  · rw [if_neg c3] at H
    refine g_if1f iX1_postRefusal_5 c3 ?_
    refine g_c iX1_postRefusal_8 ?_
    exact g_ri iX1_postRefusal_10 (Or.inl rfl) H
set_option maxRecDepth 20000 in
set_option maxHeartbeats 4000000 in
theorem bX1_addPost (L d : Nat) (A0 : Nat) (hA0 : rx_isO 1 A0 = true) (x1 : Int) (x2 : Int) (σ : rx_St) (K : Int → rx_St → Prop)
    (H : (0 ≤ (σ A0 0) ∧ (σ A0 0) < 8) ∧ (rx_CV L d mX1_putInLine [.inr A0, .inl (σ A0 0), .inl (σ A0 0)] (rx_up (rx_up (rx_up (rx_up σ A0 0 (rx_w ((σ A0 0) + 1))) (A0 + 1) (σ A0 0) x1) (A0 + 2) (σ A0 0) x2) (A0 + 3) (σ A0 0) 0) (fun σ2 => K (σ A0 0) σ2))) :
    rx_CI L (d + 1) mX1_addPost [.inr A0, .inl x1, .inl x2] σ K := by
  refine rx_CI.of (la := [some (.inr A0), some (.inl x1), some (.inl x2), none]) rfl ?_
  refine g_al iX1_addPost_0 rfl ?_
  refine g_gf (kI := 0) rfl iX1_addPost_1 (fi_1_0 hA0) ?_
  refine g_is iX1_addPost_4 (Nat.le_of_ble_eq_true rfl) ?_
  refine rx_Go.ls (la := [some (.inr A0), some (.inl x1), some (.inl x2), some (.inl (σ A0 0))]) rfl ?_
  refine g_al iX1_addPost_5 rfl ?_
  refine g_dup iX1_addPost_6 ?_
  refine g_gf (kI := 0) rfl iX1_addPost_7 (fi_1_0 hA0) ?_
  refine g_c iX1_addPost_10 ?_
  refine g_add iX1_addPost_11 ?_
  refine g_pf (kI := 0) rfl iX1_addPost_12 (fi_1_0 hA0) (Or.inl rfl) ?_
  refine g_al iX1_addPost_15 rfl ?_
  refine g_gr iX1_addPost_16 (fr_1_1 hA0) ?_
  refine g_il iX1_addPost_19 rfl ?_
  refine g_il iX1_addPost_20 rfl ?_
  obtain ⟨o1, H⟩ := H
  refine g_st iX1_addPost_21 (ln_1_o1 L hA0).1 (ln_1_o1 L hA0).2 o1 rfl ?_
  refine g_al iX1_addPost_22 rfl ?_
  refine g_gr iX1_addPost_23 (fr_1_2 hA0) ?_
  refine g_il iX1_addPost_26 rfl ?_
  refine g_il iX1_addPost_27 rfl ?_
  refine g_st iX1_addPost_28 (ln_1_o2 L hA0).1 (ln_1_o2 L hA0).2 o1 rfl ?_
  refine g_al iX1_addPost_29 rfl ?_
  refine g_gr iX1_addPost_30 (fr_1_3 hA0) ?_
  refine g_il iX1_addPost_33 rfl ?_
  refine g_c iX1_addPost_34 ?_
  refine g_st iX1_addPost_35 (ln_1_o3 L hA0).1 (ln_1_o3 L hA0).2 o1 rfl ?_
  refine g_al iX1_addPost_36 rfl ?_
  refine g_il iX1_addPost_37 rfl ?_
  refine g_il iX1_addPost_38 rfl ?_
  refine g_cv (as := [.inr A0, .inl (σ A0 0), .inl (σ A0 0)]) (rest := []) iX1_addPost_39 rfl rfl (Nat.le_of_ble_eq_true rfl) (Or.inr ⟨_, _, rfl, hA0⟩) (rx_CV.imp H (fun σ2 H => ?_))
  refine g_il iX1_addPost_42 rfl ?_
  exact g_ri iX1_addPost_43 (Or.inl rfl) H
set_option maxRecDepth 20000 in
set_option maxHeartbeats 4000000 in
theorem bX1_putInLine (L d : Nat) (A0 : Nat) (hA0 : rx_isO 1 A0 = true) (x1 : Int) (x2 : Int) (σ : rx_St) (K : rx_St → Prop)
    (H : (0 ≤ x1 ∧ x1 < 8) ∧ ((0 ≤ x2 ∧ x2 < 8) ∧ (K (rx_up (rx_up σ (A0 + 4) x1 x2) (A0 + 5) x2 x1)))) :
    rx_CV L d mX1_putInLine [.inr A0, .inl x1, .inl x2] σ K := by
  refine rx_CV.of (la := [some (.inr A0), some (.inl x1), some (.inl x2)]) rfl ?_
  refine g_al iX1_putInLine_0 rfl ?_
  refine g_gr iX1_putInLine_1 (fr_1_4 hA0) ?_
  refine g_il iX1_putInLine_4 rfl ?_
  refine g_il iX1_putInLine_5 rfl ?_
  obtain ⟨o1, H⟩ := H
  refine g_st iX1_putInLine_6 (ln_1_o4 L hA0).1 (ln_1_o4 L hA0).2 o1 rfl ?_
  refine g_al iX1_putInLine_7 rfl ?_
  refine g_gr iX1_putInLine_8 (fr_1_5 hA0) ?_
  refine g_il iX1_putInLine_11 rfl ?_
  refine g_il iX1_putInLine_12 rfl ?_
  obtain ⟨o2, H⟩ := H
  refine g_st iX1_putInLine_13 (ln_1_o5 L hA0).1 (ln_1_o5 L hA0).2 o2 rfl ?_
  exact g_rv iX1_putInLine_14 H
set_option maxRecDepth 20000 in
set_option maxHeartbeats 4000000 in
theorem bX1_swapPosts (L d : Nat) (A0 : Nat) (hA0 : rx_isO 1 A0 = true) (x1 : Int) (x2 : Int) (σ : rx_St) (K : rx_St → Prop)
    (H : (0 ≤ x1 ∧ x1 < 8) ∧ ((0 ≤ x2 ∧ x2 < 8) ∧ (K (rx_up (rx_up (rx_up (rx_up σ (A0 + 1) x1 (σ (A0 + 1) x2)) (A0 + 2) x1 ((rx_up σ (A0 + 1) x1 (σ (A0 + 1) x2)) (A0 + 2) x2)) (A0 + 1) x2 (σ (A0 + 1) x1)) (A0 + 2) x2 (σ (A0 + 2) x1))))) :
    rx_CV L d mX1_swapPosts [.inr A0, .inl x1, .inl x2] σ K := by
  refine rx_CV.of (la := [some (.inr A0), some (.inl x1), some (.inl x2), none, none]) rfl ?_
  refine g_al iX1_swapPosts_0 rfl ?_
  refine g_gr iX1_swapPosts_1 (fr_1_1 hA0) ?_
  refine g_il iX1_swapPosts_4 rfl ?_
  obtain ⟨o1, H⟩ := H
  refine g_ld iX1_swapPosts_5 (ln_1_o1 L hA0).1 o1 ?_
  refine g_is iX1_swapPosts_6 (Nat.le_of_ble_eq_true rfl) ?_
  refine rx_Go.ls (la := [some (.inr A0), some (.inl x1), some (.inl x2), some (.inl (σ (A0 + 1) x1)), none]) rfl ?_
  refine g_al iX1_swapPosts_7 rfl ?_
  refine g_gr iX1_swapPosts_8 (fr_1_2 hA0) ?_
  refine g_il iX1_swapPosts_11 rfl ?_
  refine g_ld iX1_swapPosts_12 (ln_1_o2 L hA0).1 o1 ?_
  refine g_is iX1_swapPosts_13 (Nat.le_of_ble_eq_true rfl) ?_
  refine rx_Go.ls (la := [some (.inr A0), some (.inl x1), some (.inl x2), some (.inl (σ (A0 + 1) x1)), some (.inl (σ (A0 + 2) x1))]) rfl ?_
  refine g_al iX1_swapPosts_15 rfl ?_
  refine g_gr iX1_swapPosts_16 (fr_1_1 hA0) ?_
  refine g_il iX1_swapPosts_19 rfl ?_
  refine g_al iX1_swapPosts_20 rfl ?_
  refine g_gr iX1_swapPosts_21 (fr_1_1 hA0) ?_
  refine g_il iX1_swapPosts_24 rfl ?_
  obtain ⟨o2, H⟩ := H
  refine g_ld iX1_swapPosts_25 (ln_1_o1 L hA0).1 o2 ?_
  refine g_st iX1_swapPosts_26 (ln_1_o1 L hA0).1 (ln_1_o1 L hA0).2 o1 rfl ?_
  refine g_al iX1_swapPosts_27 rfl ?_
  refine g_gr iX1_swapPosts_28 (fr_1_2 hA0) ?_
  refine g_il iX1_swapPosts_31 rfl ?_
  refine g_al iX1_swapPosts_32 rfl ?_
  refine g_gr iX1_swapPosts_33 (fr_1_2 hA0) ?_
  refine g_il iX1_swapPosts_36 rfl ?_
  refine g_ld iX1_swapPosts_37 (ln_1_o2 L hA0).1 o2 ?_
  refine g_st iX1_swapPosts_38 (ln_1_o2 L hA0).1 (ln_1_o2 L hA0).2 o1 rfl ?_
  refine g_al iX1_swapPosts_39 rfl ?_
  refine g_gr iX1_swapPosts_40 (fr_1_1 hA0) ?_
  refine g_il iX1_swapPosts_43 rfl ?_
  refine g_il iX1_swapPosts_44 rfl ?_
  refine g_st iX1_swapPosts_45 (ln_1_o1 L hA0).1 (ln_1_o1 L hA0).2 o2 rfl ?_
  refine g_al iX1_swapPosts_46 rfl ?_
  refine g_gr iX1_swapPosts_47 (fr_1_2 hA0) ?_
  refine g_il iX1_swapPosts_50 rfl ?_
  refine g_il iX1_swapPosts_51 rfl ?_
  refine g_st iX1_swapPosts_53 (ln_1_o2 L hA0).1 (ln_1_o2 L hA0).2 o2 rfl ?_
  exact g_rv iX1_swapPosts_54 H
set_option maxRecDepth 20000 in
set_option maxHeartbeats 4000000 in
theorem bX1_postsOf (L d : Nat) (A0 : Nat) (hA0 : rx_isO 1 A0 = true) (x1 : Int) (σ : rx_St) (K : Int → rx_St → Prop)
    (H : rx_Go L d mX1_postsOf 4 [some (.inr A0), some (.inl x1), some (.inl 0), some (.inl 0)] [] σ (rx_PI K)) :
    rx_CI L d mX1_postsOf [.inr A0, .inl x1] σ K := by
  refine rx_CI.of (la := [some (.inr A0), some (.inl x1), none, none]) rfl ?_
  refine g_c iX1_postsOf_0 ?_
  refine g_is iX1_postsOf_1 (Nat.le_of_ble_eq_true rfl) ?_
  refine rx_Go.ls (la := [some (.inr A0), some (.inl x1), some (.inl 0), none]) rfl ?_
  refine g_c iX1_postsOf_2 ?_
  refine g_is iX1_postsOf_3 (Nat.le_of_ble_eq_true rfl) ?_
  refine rx_Go.ls (la := [some (.inr A0), some (.inl x1), some (.inl 0), some (.inl 0)]) rfl ?_
  exact H
set_option maxRecDepth 20000 in
set_option maxHeartbeats 4000000 in
theorem bX1_postsOf_4 (L d : Nat) (A0 : Nat) (hA0 : rx_isO 1 A0 = true) (x1 : Int) (x2 : Int) (x3 : Int) (σ : rx_St) (K : Int → rx_St → Prop)
    (H : if (σ A0 0) ≤ x3 then (K x2 σ) else ((0 ≤ x3 ∧ x3 < 8) ∧ (if (σ (A0 + 3) x3) ≠ x1 then (rx_Go L d mX1_postsOf 4 [some (.inr A0), some (.inl x1), some (.inl x2), some (.inl (rx_w (x3 + 1)))] [] σ (rx_PI K)) else (rx_Go L d mX1_postsOf 4 [some (.inr A0), some (.inl x1), some (.inl (rx_w (x2 + 1))), some (.inl (rx_w (x3 + 1)))] [] σ (rx_PI K))))) :
    rx_Go L d mX1_postsOf 4 [some (.inr A0), some (.inl x1), some (.inl x2), some (.inl x3)] [] σ (rx_PI K) := by
  refine g_il iX1_postsOf_4 rfl ?_
  refine g_al iX1_postsOf_5 rfl ?_
  refine g_gf (kI := 0) rfl iX1_postsOf_6 (fi_1_0 hA0) ?_
  by_cases c1 : (σ A0 0) ≤ x3
  · rw [if_pos c1] at H
    refine g_ic3t iX1_postsOf_9 c1 ?_
    refine g_il iX1_postsOf_31 rfl ?_
    exact g_ri iX1_postsOf_32 (Or.inl rfl) H
  · rw [if_neg c1] at H
    refine g_ic3f iX1_postsOf_9 c1 ?_
    refine g_al iX1_postsOf_12 rfl ?_
    refine g_gr iX1_postsOf_13 (fr_1_3 hA0) ?_
    refine g_il iX1_postsOf_16 rfl ?_
    obtain ⟨o2, H⟩ := H
    refine g_ld iX1_postsOf_17 (ln_1_o3 L hA0).1 o2 ?_
    refine g_il iX1_postsOf_18 rfl ?_
    by_cases c3 : (σ (A0 + 3) x3) ≠ x1
    · rw [if_pos c3] at H
      refine g_ic1t iX1_postsOf_19 c3 ?_
      refine g_ii iX1_postsOf_25 rfl ?_
      refine rx_Go.ls (la := [some (.inr A0), some (.inl x1), some (.inl x2), some (.inl (rx_w (x3 + 1)))]) rfl ?_
      refine g_goto iX1_postsOf_28 ?_
      exact H
    · rw [if_neg c3] at H
      refine g_ic1f iX1_postsOf_19 c3 ?_
      refine g_ii iX1_postsOf_22 rfl ?_
      refine rx_Go.ls (la := [some (.inr A0), some (.inl x1), some (.inl (rx_w (x2 + 1))), some (.inl x3)]) rfl ?_
      refine g_ii iX1_postsOf_25 rfl ?_
      refine rx_Go.ls (la := [some (.inr A0), some (.inl x1), some (.inl (rx_w (x2 + 1))), some (.inl (rx_w (x3 + 1)))]) rfl ?_
      refine g_goto iX1_postsOf_28 ?_
      exact H
set_option maxRecDepth 20000 in
set_option maxHeartbeats 4000000 in
theorem bX1_roadsFrom (L d : Nat) (A0 : Nat) (hA0 : rx_isO 1 A0 = true) (x1 : Int) (σ : rx_St) (K : Int → rx_St → Prop)
    (H : rx_Go L d mX1_roadsFrom 4 [some (.inr A0), some (.inl x1), some (.inl 0), some (.inl 0)] [] σ (rx_PI K)) :
    rx_CI L d mX1_roadsFrom [.inr A0, .inl x1] σ K := by
  refine rx_CI.of (la := [some (.inr A0), some (.inl x1), none, none]) rfl ?_
  refine g_c iX1_roadsFrom_0 ?_
  refine g_is iX1_roadsFrom_1 (Nat.le_of_ble_eq_true rfl) ?_
  refine rx_Go.ls (la := [some (.inr A0), some (.inl x1), some (.inl 0), none]) rfl ?_
  refine g_c iX1_roadsFrom_2 ?_
  refine g_is iX1_roadsFrom_3 (Nat.le_of_ble_eq_true rfl) ?_
  refine rx_Go.ls (la := [some (.inr A0), some (.inl x1), some (.inl 0), some (.inl 0)]) rfl ?_
  exact H
set_option maxRecDepth 20000 in
set_option maxHeartbeats 4000000 in
theorem bX1_roadsFrom_4 (L d : Nat) (A0 : Nat) (hA0 : rx_isO 1 A0 = true) (x1 : Int) (x2 : Int) (x3 : Int) (σ : rx_St) (K : Int → rx_St → Prop)
    (H : if (σ A0 6) ≤ x3 then (K x2 σ) else ((0 ≤ x3 ∧ x3 < 18) ∧ (if (σ (A0 + 7) x3) = x1 then (rx_Go L d mX1_roadsFrom 4 [some (.inr A0), some (.inl x1), some (.inl (rx_w (x2 + 1))), some (.inl (rx_w (x3 + 1)))] [] σ (rx_PI K)) else (if (σ (A0 + 8) x3) ≠ x1 then (rx_Go L d mX1_roadsFrom 4 [some (.inr A0), some (.inl x1), some (.inl x2), some (.inl (rx_w (x3 + 1)))] [] σ (rx_PI K)) else (rx_Go L d mX1_roadsFrom 4 [some (.inr A0), some (.inl x1), some (.inl (rx_w (x2 + 1))), some (.inl (rx_w (x3 + 1)))] [] σ (rx_PI K)))))) :
    rx_Go L d mX1_roadsFrom 4 [some (.inr A0), some (.inl x1), some (.inl x2), some (.inl x3)] [] σ (rx_PI K) := by
  refine g_il iX1_roadsFrom_4 rfl ?_
  refine g_al iX1_roadsFrom_5 rfl ?_
  refine g_gf (kI := 6) rfl iX1_roadsFrom_6 (fi_1_6 hA0) ?_
  by_cases c1 : (σ A0 6) ≤ x3
  · rw [if_pos c1] at H
    refine g_ic3t iX1_roadsFrom_9 c1 ?_
    refine g_il iX1_roadsFrom_41 rfl ?_
    exact g_ri iX1_roadsFrom_42 (Or.inl rfl) H
  · rw [if_neg c1] at H
    refine g_ic3f iX1_roadsFrom_9 c1 ?_
    refine g_al iX1_roadsFrom_12 rfl ?_
    refine g_gr iX1_roadsFrom_13 (fr_1_8 hA0) ?_
    refine g_il iX1_roadsFrom_16 rfl ?_
    obtain ⟨o2, H⟩ := H
    refine g_ld iX1_roadsFrom_17 (ln_1_o7 L hA0).1 o2 ?_
    refine g_il iX1_roadsFrom_18 rfl ?_
    by_cases c3 : (σ (A0 + 7) x3) = x1
    · rw [if_pos c3] at H
      refine g_ic0t iX1_roadsFrom_19 c3 ?_
      refine g_ii iX1_roadsFrom_32 rfl ?_
      refine rx_Go.ls (la := [some (.inr A0), some (.inl x1), some (.inl (rx_w (x2 + 1))), some (.inl x3)]) rfl ?_
      refine g_ii iX1_roadsFrom_35 rfl ?_
      refine rx_Go.ls (la := [some (.inr A0), some (.inl x1), some (.inl (rx_w (x2 + 1))), some (.inl (rx_w (x3 + 1)))]) rfl ?_
      refine g_goto iX1_roadsFrom_38 ?_
      exact H
    · rw [if_neg c3] at H
      refine g_ic0f iX1_roadsFrom_19 c3 ?_
      refine g_al iX1_roadsFrom_22 rfl ?_
      refine g_gr iX1_roadsFrom_23 (fr_1_9 hA0) ?_
      refine g_il iX1_roadsFrom_26 rfl ?_
      refine g_ld iX1_roadsFrom_27 (ln_1_o8 L hA0).1 o2 ?_
      refine g_il iX1_roadsFrom_28 rfl ?_
      by_cases c4 : (σ (A0 + 8) x3) ≠ x1
      · rw [if_pos c4] at H
        refine g_ic1t iX1_roadsFrom_29 c4 ?_
        refine g_ii iX1_roadsFrom_35 rfl ?_
        refine rx_Go.ls (la := [some (.inr A0), some (.inl x1), some (.inl x2), some (.inl (rx_w (x3 + 1)))]) rfl ?_
        refine g_goto iX1_roadsFrom_38 ?_
        exact H
      · rw [if_neg c4] at H
        refine g_ic1f iX1_roadsFrom_29 c4 ?_
        refine g_ii iX1_roadsFrom_32 rfl ?_
        refine rx_Go.ls (la := [some (.inr A0), some (.inl x1), some (.inl (rx_w (x2 + 1))), some (.inl x3)]) rfl ?_
        refine g_ii iX1_roadsFrom_35 rfl ?_
        refine rx_Go.ls (la := [some (.inr A0), some (.inl x1), some (.inl (rx_w (x2 + 1))), some (.inl (rx_w (x3 + 1)))]) rfl ?_
        refine g_goto iX1_roadsFrom_38 ?_
        exact H
set_option maxRecDepth 20000 in
set_option maxHeartbeats 4000000 in
theorem bX1_hasRoad (L d : Nat) (A0 : Nat) (hA0 : rx_isO 1 A0 = true) (x1 : Int) (x2 : Int) (σ : rx_St) (K : Int → rx_St → Prop)
    (H : rx_Go L d mX1_hasRoad 16 [some (.inr A0), some (.inl x1), some (.inl x2), some (.inl (rx_mn x1 x2)), some (.inl (rx_mx x1 x2)), some (.inl 0)] [] σ (rx_PI K)) :
    rx_CI L d mX1_hasRoad [.inr A0, .inl x1, .inl x2] σ K := by
  refine rx_CI.of (la := [some (.inr A0), some (.inl x1), some (.inl x2), none, none, none]) rfl ?_
  refine g_il iX1_hasRoad_0 rfl ?_
  refine g_il iX1_hasRoad_1 rfl ?_
  refine g_mn iX1_hasRoad_2 (Nat.le_of_ble_eq_true rfl) ?_
  refine g_is iX1_hasRoad_5 (Nat.le_of_ble_eq_true rfl) ?_
  refine rx_Go.ls (la := [some (.inr A0), some (.inl x1), some (.inl x2), some (.inl (rx_mn x1 x2)), none, none]) rfl ?_
  refine g_il iX1_hasRoad_6 rfl ?_
  refine g_il iX1_hasRoad_7 rfl ?_
  refine g_mx iX1_hasRoad_8 (Nat.le_of_ble_eq_true rfl) ?_
  refine g_is iX1_hasRoad_11 (Nat.le_of_ble_eq_true rfl) ?_
  refine rx_Go.ls (la := [some (.inr A0), some (.inl x1), some (.inl x2), some (.inl (rx_mn x1 x2)), some (.inl (rx_mx x1 x2)), none]) rfl ?_
  refine g_c iX1_hasRoad_13 ?_
  refine g_is iX1_hasRoad_14 (Nat.le_of_ble_eq_true rfl) ?_
  refine rx_Go.ls (la := [some (.inr A0), some (.inl x1), some (.inl x2), some (.inl (rx_mn x1 x2)), some (.inl (rx_mx x1 x2)), some (.inl 0)]) rfl ?_
  exact H
set_option maxRecDepth 20000 in
set_option maxHeartbeats 4000000 in
theorem bX1_hasRoad_16 (L d : Nat) (A0 : Nat) (hA0 : rx_isO 1 A0 = true) (q1 : Option rx_V) (q2 : Option rx_V) (x3 : Int) (x4 : Int) (x5 : Int) (σ : rx_St) (K : Int → rx_St → Prop)
    (H : if (σ A0 6) ≤ x5 then (K 0 σ) else ((0 ≤ x5 ∧ x5 < 18) ∧ (if (σ (A0 + 7) x5) ≠ x3 then (rx_Go L d mX1_hasRoad 16 [some (.inr A0), q1, q2, some (.inl x3), some (.inl x4), some (.inl (rx_w (x5 + 1)))] [] σ (rx_PI K)) else (if (σ (A0 + 8) x5) ≠ x4 then (rx_Go L d mX1_hasRoad 16 [some (.inr A0), q1, q2, some (.inl x3), some (.inl x4), some (.inl (rx_w (x5 + 1)))] [] σ (rx_PI K)) else (K 1 σ))))) :
    rx_Go L d mX1_hasRoad 16 [some (.inr A0), q1, q2, some (.inl x3), some (.inl x4), some (.inl x5)] [] σ (rx_PI K) := by
  refine g_il iX1_hasRoad_16 rfl ?_
  refine g_al iX1_hasRoad_18 rfl ?_
  refine g_gf (kI := 6) rfl iX1_hasRoad_19 (fi_1_6 hA0) ?_
  by_cases c1 : (σ A0 6) ≤ x5
  · rw [if_pos c1] at H
    refine g_ic3t iX1_hasRoad_22 c1 ?_
    refine g_c iX1_hasRoad_56 ?_
    exact g_ri iX1_hasRoad_57 (by decide) H
  · rw [if_neg c1] at H
    refine g_ic3f iX1_hasRoad_22 c1 ?_
    refine g_al iX1_hasRoad_25 rfl ?_
    refine g_gr iX1_hasRoad_26 (fr_1_8 hA0) ?_
    refine g_il iX1_hasRoad_29 rfl ?_
    obtain ⟨o2, H⟩ := H
    refine g_ld iX1_hasRoad_31 (ln_1_o7 L hA0).1 o2 ?_
    refine g_il iX1_hasRoad_32 rfl ?_
    by_cases c3 : (σ (A0 + 7) x5) ≠ x3
    · rw [if_pos c3] at H
      refine g_ic1t iX1_hasRoad_33 c3 ?_
      refine g_ii iX1_hasRoad_50 rfl ?_
      refine rx_Go.ls (la := [some (.inr A0), q1, q2, some (.inl x3), some (.inl x4), some (.inl (rx_w (x5 + 1)))]) rfl ?_
      refine g_goto iX1_hasRoad_53 ?_
      exact H
    · rw [if_neg c3] at H
      refine g_ic1f iX1_hasRoad_33 c3 ?_
      refine g_al iX1_hasRoad_36 rfl ?_
      refine g_gr iX1_hasRoad_37 (fr_1_9 hA0) ?_
      refine g_il iX1_hasRoad_40 rfl ?_
      refine g_ld iX1_hasRoad_42 (ln_1_o8 L hA0).1 o2 ?_
      refine g_il iX1_hasRoad_43 rfl ?_
      by_cases c4 : (σ (A0 + 8) x5) ≠ x4
      · rw [if_pos c4] at H
        refine g_ic1t iX1_hasRoad_45 c4 ?_
        refine g_ii iX1_hasRoad_50 rfl ?_
        refine rx_Go.ls (la := [some (.inr A0), q1, q2, some (.inl x3), some (.inl x4), some (.inl (rx_w (x5 + 1)))]) rfl ?_
        refine g_goto iX1_hasRoad_53 ?_
        exact H
      · rw [if_neg c4] at H
        refine g_ic1f iX1_hasRoad_45 c4 ?_
        refine g_c iX1_hasRoad_48 ?_
        exact g_ri iX1_hasRoad_49 (by decide) H
set_option maxRecDepth 20000 in
set_option maxHeartbeats 4000000 in
theorem bX1_roadRefusal (L d : Nat) (A0 : Nat) (hA0 : rx_isO 1 A0 = true) (x1 : Int) (x2 : Int) (σ : rx_St) (K : Int → rx_St → Prop)
    (H : rx_CI L d mX1_isPost [.inr A0, .inl x1] σ (fun v2 σ1 => if v2 = 0 then (K (-1000000001) σ1) else (rx_CI L d mX1_isPost [.inr A0, .inl x2] σ1 (fun v5 σ4 => if v5 = 0 then (K (-1000000001) σ4) else (if x1 ≠ x2 then (rx_CI L d mX1_hasRoad [.inr A0, .inl x1, .inl x2] σ4 (fun v9 σ8 => if v9 = 0 then (if (σ8 A0 6) < 18 then (K 0 σ8) else (K (-1000000003) σ8)) else (K (-1000000002) σ8))) else (K (-1000000001) σ4)))))) :
    rx_CI L (d + 1) mX1_roadRefusal [.inr A0, .inl x1, .inl x2] σ K := by
  refine rx_CI.of (la := [some (.inr A0), some (.inl x1), some (.inl x2)]) rfl ?_
  refine g_al iX1_roadRefusal_0 rfl ?_
  refine g_il iX1_roadRefusal_1 rfl ?_
  refine g_ci (as := [.inr A0, .inl x1]) (rest := []) iX1_roadRefusal_2 rfl rfl (Nat.le_of_ble_eq_true rfl) (Or.inr ⟨_, _, rfl, hA0⟩) (rx_CI.imp H (fun v2 σ1 H => ?_))
  by_cases c3 : v2 = 0
  · rw [if_pos c3] at H
    refine g_if0t iX1_roadRefusal_5 c3 ?_
    refine g_c iX1_roadRefusal_21 ?_
    exact g_ri iX1_roadRefusal_23 (Or.inl rfl) H
  · rw [if_neg c3] at H
    refine g_if0f iX1_roadRefusal_5 c3 ?_
    refine g_al iX1_roadRefusal_8 rfl ?_
    refine g_il iX1_roadRefusal_9 rfl ?_
    refine g_ci (as := [.inr A0, .inl x2]) (rest := []) iX1_roadRefusal_10 rfl rfl (Nat.le_of_ble_eq_true rfl) (Or.inr ⟨_, _, rfl, hA0⟩) (rx_CI.imp H (fun v5 σ4 H => ?_))
    by_cases c6 : v5 = 0
    · rw [if_pos c6] at H
      refine g_if0t iX1_roadRefusal_13 c6 ?_
      refine g_c iX1_roadRefusal_21 ?_
      exact g_ri iX1_roadRefusal_23 (Or.inl rfl) H
    · rw [if_neg c6] at H
      refine g_if0f iX1_roadRefusal_13 c6 ?_
      refine g_il iX1_roadRefusal_16 rfl ?_
      refine g_il iX1_roadRefusal_17 rfl ?_
      by_cases c7 : x1 ≠ x2
      · rw [if_pos c7] at H
        refine g_ic1t iX1_roadRefusal_18 c7 ?_
        refine g_al iX1_roadRefusal_24 rfl ?_
        refine g_il iX1_roadRefusal_25 rfl ?_
        refine g_il iX1_roadRefusal_26 rfl ?_
        refine g_ci (as := [.inr A0, .inl x1, .inl x2]) (rest := []) iX1_roadRefusal_27 rfl rfl (Nat.le_of_ble_eq_true rfl) (Or.inr ⟨_, _, rfl, hA0⟩) (rx_CI.imp H (fun v9 σ8 H => ?_))
        by_cases c10 : v9 = 0
        · rw [if_pos c10] at H
          refine g_if0t iX1_roadRefusal_30 c10 ?_
          refine g_al iX1_roadRefusal_36 rfl ?_
          refine g_gf (kI := 6) rfl iX1_roadRefusal_37 (fi_1_6 hA0) ?_
          refine g_c iX1_roadRefusal_40 ?_
          by_cases c11 : (σ8 A0 6) < 18
          · rw [if_pos c11] at H
            refine g_ic2t iX1_roadRefusal_42 c11 ?_
            refine g_c iX1_roadRefusal_50 ?_
            exact g_ri iX1_roadRefusal_51 (Or.inl rfl) H
          · rw [if_neg c11] at H
            refine g_ic2f iX1_roadRefusal_42 c11 ?_
            refine g_c iX1_roadRefusal_45 ?_
            refine g_goto iX1_roadRefusal_47 ?_
            exact g_ri iX1_roadRefusal_51 (Or.inl rfl) H
        · rw [if_neg c10] at H
          refine g_if0f iX1_roadRefusal_30 c10 ?_
          refine g_c iX1_roadRefusal_33 ?_
          exact g_ri iX1_roadRefusal_35 (Or.inl rfl) H
      · rw [if_neg c7] at H
        refine g_ic1f iX1_roadRefusal_18 c7 ?_
        refine g_c iX1_roadRefusal_21 ?_
        exact g_ri iX1_roadRefusal_23 (Or.inl rfl) H
set_option maxRecDepth 20000 in
set_option maxHeartbeats 4000000 in
theorem bX1_addRoad (L d : Nat) (A0 : Nat) (hA0 : rx_isO 1 A0 = true) (x1 : Int) (x2 : Int) (x3 : Int) (x4 : Int) (σ : rx_St) (K : Int → rx_St → Prop)
    (H : (0 ≤ (σ A0 6) ∧ (σ A0 6) < 18) ∧ (K (σ A0 6) (rx_up (rx_up (rx_up (rx_up (rx_up (rx_up σ A0 6 (rx_w ((σ A0 6) + 1))) (A0 + 6) (σ A0 6) x1) (A0 + 7) (σ A0 6) (rx_mn x2 x3)) (A0 + 8) (σ A0 6) (rx_mx x2 x3)) (A0 + 9) (σ A0 6) x4) (A0 + 10) (σ A0 6) 0))) :
    rx_CI L d mX1_addRoad [.inr A0, .inl x1, .inl x2, .inl x3, .inl x4] σ K := by
  refine rx_CI.of (la := [some (.inr A0), some (.inl x1), some (.inl x2), some (.inl x3), some (.inl x4), none]) rfl ?_
  refine g_al iX1_addRoad_0 rfl ?_
  refine g_gf (kI := 6) rfl iX1_addRoad_1 (fi_1_6 hA0) ?_
  refine g_is iX1_addRoad_4 (Nat.le_of_ble_eq_true rfl) ?_
  refine rx_Go.ls (la := [some (.inr A0), some (.inl x1), some (.inl x2), some (.inl x3), some (.inl x4), some (.inl (σ A0 6))]) rfl ?_
  refine g_al iX1_addRoad_6 rfl ?_
  refine g_dup iX1_addRoad_7 ?_
  refine g_gf (kI := 6) rfl iX1_addRoad_8 (fi_1_6 hA0) ?_
  refine g_c iX1_addRoad_11 ?_
  refine g_add iX1_addRoad_12 ?_
  refine g_pf (kI := 6) rfl iX1_addRoad_13 (fi_1_6 hA0) (Or.inl rfl) ?_
  refine g_al iX1_addRoad_16 rfl ?_
  refine g_gr iX1_addRoad_17 (fr_1_7 hA0) ?_
  refine g_il iX1_addRoad_20 rfl ?_
  refine g_il iX1_addRoad_22 rfl ?_
  obtain ⟨o1, H⟩ := H
  refine g_st iX1_addRoad_23 (ln_1_o6 L hA0).1 (ln_1_o6 L hA0).2 o1 rfl ?_
  refine g_al iX1_addRoad_24 rfl ?_
  refine g_gr iX1_addRoad_25 (fr_1_8 hA0) ?_
  refine g_il iX1_addRoad_28 rfl ?_
  refine g_il iX1_addRoad_30 rfl ?_
  refine g_il iX1_addRoad_31 rfl ?_
  refine g_mn iX1_addRoad_32 (Nat.le_of_ble_eq_true rfl) ?_
  refine g_st iX1_addRoad_35 (ln_1_o7 L hA0).1 (ln_1_o7 L hA0).2 o1 rfl ?_
  refine g_al iX1_addRoad_36 rfl ?_
  refine g_gr iX1_addRoad_37 (fr_1_9 hA0) ?_
  refine g_il iX1_addRoad_40 rfl ?_
  refine g_il iX1_addRoad_42 rfl ?_
  refine g_il iX1_addRoad_43 rfl ?_
  refine g_mx iX1_addRoad_44 (Nat.le_of_ble_eq_true rfl) ?_
  refine g_st iX1_addRoad_47 (ln_1_o8 L hA0).1 (ln_1_o8 L hA0).2 o1 rfl ?_
  refine g_al iX1_addRoad_48 rfl ?_
  refine g_gr iX1_addRoad_49 (fr_1_10 hA0) ?_
  refine g_il iX1_addRoad_52 rfl ?_
  refine g_il iX1_addRoad_54 rfl ?_
  refine g_st iX1_addRoad_56 (ln_1_o9 L hA0).1 (ln_1_o9 L hA0).2 o1 rfl ?_
  refine g_al iX1_addRoad_57 rfl ?_
  refine g_gr iX1_addRoad_58 (fr_1_11 hA0) ?_
  refine g_il iX1_addRoad_61 rfl ?_
  refine g_c iX1_addRoad_63 ?_
  refine g_st iX1_addRoad_64 (ln_1_o10 L hA0).1 (ln_1_o10 L hA0).2 o1 rfl ?_
  refine g_il iX1_addRoad_65 rfl ?_
  exact g_ri iX1_addRoad_67 (Or.inl rfl) H
set_option maxRecDepth 20000 in
set_option maxHeartbeats 4000000 in
theorem bX1_dropRoad (L d : Nat) (A0 : Nat) (hA0 : rx_isO 1 A0 = true) (x1 : Int) (σ : rx_St) (K : rx_St → Prop)
    (H : rx_Go L d mX1_dropRoad 2 [some (.inr A0), some (.inl x1), some (.inl x1)] [] σ (rx_PV K)) :
    rx_CV L d mX1_dropRoad [.inr A0, .inl x1] σ K := by
  refine rx_CV.of (la := [some (.inr A0), some (.inl x1), none]) rfl ?_
  refine g_il iX1_dropRoad_0 rfl ?_
  refine g_is iX1_dropRoad_1 (Nat.le_of_ble_eq_true rfl) ?_
  refine rx_Go.ls (la := [some (.inr A0), some (.inl x1), some (.inl x1)]) rfl ?_
  exact H
set_option maxRecDepth 20000 in
set_option maxHeartbeats 4000000 in
theorem bX1_dropRoad_2 (L d : Nat) (A0 : Nat) (hA0 : rx_isO 1 A0 = true) (q1 : Option rx_V) (x2 : Int) (σ : rx_St) (K : rx_St → Prop)
    (H : if (σ A0 6) ≤ (rx_w (x2 + 1)) then (K (rx_up σ A0 6 (rx_w ((σ A0 6) - 1)))) else ((0 ≤ (rx_w (x2 + 1)) ∧ (rx_w (x2 + 1)) < 18) ∧ ((0 ≤ x2 ∧ x2 < 18) ∧ (rx_Go L d mX1_dropRoad 2 [some (.inr A0), q1, some (.inl (rx_w (x2 + 1)))] [] (rx_up (rx_up (rx_up (rx_up (rx_up σ (A0 + 6) x2 (σ (A0 + 6) (rx_w (x2 + 1)))) (A0 + 7) x2 ((rx_up σ (A0 + 6) x2 (σ (A0 + 6) (rx_w (x2 + 1)))) (A0 + 7) (rx_w (x2 + 1)))) (A0 + 8) x2 ((rx_up (rx_up σ (A0 + 6) x2 (σ (A0 + 6) (rx_w (x2 + 1)))) (A0 + 7) x2 ((rx_up σ (A0 + 6) x2 (σ (A0 + 6) (rx_w (x2 + 1)))) (A0 + 7) (rx_w (x2 + 1)))) (A0 + 8) (rx_w (x2 + 1)))) (A0 + 9) x2 ((rx_up (rx_up (rx_up σ (A0 + 6) x2 (σ (A0 + 6) (rx_w (x2 + 1)))) (A0 + 7) x2 ((rx_up σ (A0 + 6) x2 (σ (A0 + 6) (rx_w (x2 + 1)))) (A0 + 7) (rx_w (x2 + 1)))) (A0 + 8) x2 ((rx_up (rx_up σ (A0 + 6) x2 (σ (A0 + 6) (rx_w (x2 + 1)))) (A0 + 7) x2 ((rx_up σ (A0 + 6) x2 (σ (A0 + 6) (rx_w (x2 + 1)))) (A0 + 7) (rx_w (x2 + 1)))) (A0 + 8) (rx_w (x2 + 1)))) (A0 + 9) (rx_w (x2 + 1)))) (A0 + 10) x2 ((rx_up (rx_up (rx_up (rx_up σ (A0 + 6) x2 (σ (A0 + 6) (rx_w (x2 + 1)))) (A0 + 7) x2 ((rx_up σ (A0 + 6) x2 (σ (A0 + 6) (rx_w (x2 + 1)))) (A0 + 7) (rx_w (x2 + 1)))) (A0 + 8) x2 ((rx_up (rx_up σ (A0 + 6) x2 (σ (A0 + 6) (rx_w (x2 + 1)))) (A0 + 7) x2 ((rx_up σ (A0 + 6) x2 (σ (A0 + 6) (rx_w (x2 + 1)))) (A0 + 7) (rx_w (x2 + 1)))) (A0 + 8) (rx_w (x2 + 1)))) (A0 + 9) x2 ((rx_up (rx_up (rx_up σ (A0 + 6) x2 (σ (A0 + 6) (rx_w (x2 + 1)))) (A0 + 7) x2 ((rx_up σ (A0 + 6) x2 (σ (A0 + 6) (rx_w (x2 + 1)))) (A0 + 7) (rx_w (x2 + 1)))) (A0 + 8) x2 ((rx_up (rx_up σ (A0 + 6) x2 (σ (A0 + 6) (rx_w (x2 + 1)))) (A0 + 7) x2 ((rx_up σ (A0 + 6) x2 (σ (A0 + 6) (rx_w (x2 + 1)))) (A0 + 7) (rx_w (x2 + 1)))) (A0 + 8) (rx_w (x2 + 1)))) (A0 + 9) (rx_w (x2 + 1)))) (A0 + 10) (rx_w (x2 + 1)))) (rx_PV K))))) :
    rx_Go L d mX1_dropRoad 2 [some (.inr A0), q1, some (.inl x2)] [] σ (rx_PV K) := by
  refine g_il iX1_dropRoad_2 rfl ?_
  refine g_c iX1_dropRoad_3 ?_
  refine g_add iX1_dropRoad_4 ?_
  refine g_al iX1_dropRoad_5 rfl ?_
  refine g_gf (kI := 6) rfl iX1_dropRoad_6 (fi_1_6 hA0) ?_
  by_cases c1 : (σ A0 6) ≤ (rx_w (x2 + 1))
  · rw [if_pos c1] at H
    refine g_ic3t iX1_dropRoad_9 c1 ?_
    refine g_al iX1_dropRoad_88 rfl ?_
    refine g_dup iX1_dropRoad_89 ?_
    refine g_gf (kI := 6) rfl iX1_dropRoad_90 (fi_1_6 hA0) ?_
    refine g_c iX1_dropRoad_93 ?_
    refine g_sub iX1_dropRoad_94 ?_
    refine g_pf (kI := 6) rfl iX1_dropRoad_95 (fi_1_6 hA0) (Or.inl rfl) ?_
    exact g_rv iX1_dropRoad_98 H
  · rw [if_neg c1] at H
    refine g_ic3f iX1_dropRoad_9 c1 ?_
    refine g_al iX1_dropRoad_12 rfl ?_
    refine g_gr iX1_dropRoad_13 (fr_1_7 hA0) ?_
    refine g_il iX1_dropRoad_16 rfl ?_
    refine g_al iX1_dropRoad_17 rfl ?_
    refine g_gr iX1_dropRoad_18 (fr_1_7 hA0) ?_
    refine g_il iX1_dropRoad_21 rfl ?_
    refine g_c iX1_dropRoad_22 ?_
    refine g_add iX1_dropRoad_23 ?_
    obtain ⟨o2, H⟩ := H
    refine g_ld iX1_dropRoad_24 (ln_1_o6 L hA0).1 o2 ?_
    obtain ⟨o3, H⟩ := H
    refine g_st iX1_dropRoad_25 (ln_1_o6 L hA0).1 (ln_1_o6 L hA0).2 o3 rfl ?_
    refine g_al iX1_dropRoad_26 rfl ?_
    refine g_gr iX1_dropRoad_27 (fr_1_8 hA0) ?_
    refine g_il iX1_dropRoad_30 rfl ?_
    refine g_al iX1_dropRoad_31 rfl ?_
    refine g_gr iX1_dropRoad_32 (fr_1_8 hA0) ?_
    refine g_il iX1_dropRoad_35 rfl ?_
    refine g_c iX1_dropRoad_36 ?_
    refine g_add iX1_dropRoad_37 ?_
    refine g_ld iX1_dropRoad_38 (ln_1_o7 L hA0).1 o2 ?_
    refine g_st iX1_dropRoad_39 (ln_1_o7 L hA0).1 (ln_1_o7 L hA0).2 o3 rfl ?_
    refine g_al iX1_dropRoad_40 rfl ?_
    refine g_gr iX1_dropRoad_41 (fr_1_9 hA0) ?_
    refine g_il iX1_dropRoad_44 rfl ?_
    refine g_al iX1_dropRoad_45 rfl ?_
    refine g_gr iX1_dropRoad_46 (fr_1_9 hA0) ?_
    refine g_il iX1_dropRoad_49 rfl ?_
    refine g_c iX1_dropRoad_50 ?_
    refine g_add iX1_dropRoad_51 ?_
    refine g_ld iX1_dropRoad_52 (ln_1_o8 L hA0).1 o2 ?_
    refine g_st iX1_dropRoad_53 (ln_1_o8 L hA0).1 (ln_1_o8 L hA0).2 o3 rfl ?_
    refine g_al iX1_dropRoad_54 rfl ?_
    refine g_gr iX1_dropRoad_55 (fr_1_10 hA0) ?_
    refine g_il iX1_dropRoad_58 rfl ?_
    refine g_al iX1_dropRoad_59 rfl ?_
    refine g_gr iX1_dropRoad_60 (fr_1_10 hA0) ?_
    refine g_il iX1_dropRoad_63 rfl ?_
    refine g_c iX1_dropRoad_64 ?_
    refine g_add iX1_dropRoad_65 ?_
    refine g_ld iX1_dropRoad_66 (ln_1_o9 L hA0).1 o2 ?_
    refine g_st iX1_dropRoad_67 (ln_1_o9 L hA0).1 (ln_1_o9 L hA0).2 o3 rfl ?_
    refine g_al iX1_dropRoad_68 rfl ?_
    refine g_gr iX1_dropRoad_69 (fr_1_11 hA0) ?_
    refine g_il iX1_dropRoad_72 rfl ?_
    refine g_al iX1_dropRoad_73 rfl ?_
    refine g_gr iX1_dropRoad_74 (fr_1_11 hA0) ?_
    refine g_il iX1_dropRoad_77 rfl ?_
    refine g_c iX1_dropRoad_78 ?_
    refine g_add iX1_dropRoad_79 ?_
    refine g_ld iX1_dropRoad_80 (ln_1_o10 L hA0).1 o2 ?_
    refine g_st iX1_dropRoad_81 (ln_1_o10 L hA0).1 (ln_1_o10 L hA0).2 o3 rfl ?_
    refine g_ii iX1_dropRoad_82 rfl ?_
    refine rx_Go.ls (la := [some (.inr A0), q1, some (.inl (rx_w (x2 + 1)))]) rfl ?_
    refine g_goto iX1_dropRoad_85 ?_
    exact H
set_option maxRecDepth 20000 in
set_option maxHeartbeats 4000000 in
theorem bX1_draw (L d : Nat) (A0 : Nat) (hA0 : rx_isO 1 A0 = true) (x1 : Int) (σ : rx_St) (K : Int → rx_St → Prop)
    (H : if x1 ≤ 0 then (K 0 (rx_up σ A0 13 (rx_w ((rx_w ((σ A0 13) * 1103515245)) + 12345)))) else (¬ x1 = 0 ∧ (K (Int.tmod (rx_alu 8 ((rx_up σ A0 13 (rx_w ((rx_w ((σ A0 13) * 1103515245)) + 12345))) A0 13) 8) x1) (rx_up σ A0 13 (rx_w ((rx_w ((σ A0 13) * 1103515245)) + 12345)))))) :
    rx_CI L d mX1_draw [.inr A0, .inl x1] σ K := by
  refine rx_CI.of (la := [some (.inr A0), some (.inl x1)]) rfl ?_
  refine g_al iX1_draw_0 rfl ?_
  refine g_al iX1_draw_1 rfl ?_
  refine g_gf (kI := 13) rfl iX1_draw_2 (fi_1_13 hA0) ?_
  refine g_c iX1_draw_5 ?_
  refine g_mul iX1_draw_7 ?_
  refine g_c iX1_draw_8 ?_
  refine g_add iX1_draw_11 ?_
  refine g_pf (kI := 13) rfl iX1_draw_12 (fi_1_13 hA0) (Or.inl rfl) ?_
  refine g_il iX1_draw_15 rfl ?_
  by_cases c1 : x1 ≤ 0
  · rw [if_pos c1] at H
    refine g_if5t iX1_draw_16 c1 ?_
    refine g_c iX1_draw_31 ?_
    exact g_ri iX1_draw_32 (Or.inl rfl) H
  · rw [if_neg c1] at H
    refine g_if5f iX1_draw_16 c1 ?_
    refine g_al iX1_draw_19 rfl ?_
    refine g_gf (kI := 13) rfl iX1_draw_20 (fi_1_13 hA0) ?_
    refine g_c iX1_draw_23 ?_
    refine g_bit iX1_draw_25 ?_
    refine g_il iX1_draw_26 rfl ?_
    obtain ⟨o2, H⟩ := H
    refine g_rem iX1_draw_27 o2 ?_
    refine g_goto iX1_draw_28 ?_
    exact g_ri iX1_draw_32 (Or.inl rfl) H
set_option maxRecDepth 20000 in
set_option maxHeartbeats 4000000 in
theorem bX1_drawPost (L d : Nat) (A0 : Nat) (hA0 : rx_isO 1 A0 = true) (σ : rx_St) (K : Int → rx_St → Prop)
    (H : rx_CI L d mX1_draw [.inr A0, .inl 100] σ (fun v2 σ1 => rx_CI L d mX1_draw [.inr A0, .inl 100] σ1 (fun v4 σ3 => rx_CI L d mX1_postRefusal [.inr A0, .inl v2, .inl v4] σ3 (fun v6 σ5 => if v6 = 0 then (rx_CI L d mX1_addPost [.inr A0, .inl v2, .inl v4] σ5 (fun v9 σ8 => K 1 σ8)) else (K 0 σ5))))) :
    rx_CI L (d + 1) mX1_drawPost [.inr A0] σ K := by
  refine rx_CI.of (la := [some (.inr A0), none, none]) rfl ?_
  refine g_al iX1_drawPost_0 rfl ?_
  refine g_c iX1_drawPost_1 ?_
  refine g_ci (as := [.inr A0, .inl 100]) (rest := []) iX1_drawPost_3 rfl rfl (Nat.le_of_ble_eq_true rfl) (Or.inr ⟨_, _, rfl, hA0⟩) (rx_CI.imp H (fun v2 σ1 H => ?_))
  refine g_is iX1_drawPost_6 (Nat.le_of_ble_eq_true rfl) ?_
  refine rx_Go.ls (la := [some (.inr A0), some (.inl v2), none]) rfl ?_
  refine g_al iX1_drawPost_7 rfl ?_
  refine g_c iX1_drawPost_8 ?_
  refine g_ci (as := [.inr A0, .inl 100]) (rest := []) iX1_drawPost_10 rfl rfl (Nat.le_of_ble_eq_true rfl) (Or.inr ⟨_, _, rfl, hA0⟩) (rx_CI.imp H (fun v4 σ3 H => ?_))
  refine g_is iX1_drawPost_13 (Nat.le_of_ble_eq_true rfl) ?_
  refine rx_Go.ls (la := [some (.inr A0), some (.inl v2), some (.inl v4)]) rfl ?_
  refine g_al iX1_drawPost_14 rfl ?_
  refine g_il iX1_drawPost_15 rfl ?_
  refine g_il iX1_drawPost_16 rfl ?_
  refine g_ci (as := [.inr A0, .inl v2, .inl v4]) (rest := []) iX1_drawPost_17 rfl rfl (Nat.le_of_ble_eq_true rfl) (Or.inr ⟨_, _, rfl, hA0⟩) (rx_CI.imp H (fun v6 σ5 H => ?_))
  by_cases c7 : v6 = 0
  · rw [if_pos c7] at H
    refine g_if0t iX1_drawPost_20 c7 ?_
    refine g_al iX1_drawPost_25 rfl ?_
    refine g_il iX1_drawPost_26 rfl ?_
    refine g_il iX1_drawPost_27 rfl ?_
    refine g_ci (as := [.inr A0, .inl v2, .inl v4]) (rest := []) iX1_drawPost_28 rfl rfl (Nat.le_of_ble_eq_true rfl) (Or.inr ⟨_, _, rfl, hA0⟩) (rx_CI.imp H (fun v9 σ8 H => ?_))
    refine g_pop iX1_drawPost_31 ?_
    refine g_c iX1_drawPost_32 ?_
    exact g_ri iX1_drawPost_33 (by decide) H
  · rw [if_neg c7] at H
    refine g_if0f iX1_drawPost_20 c7 ?_
    refine g_c iX1_drawPost_23 ?_
    exact g_ri iX1_drawPost_24 (by decide) H
set_option maxRecDepth 20000 in
set_option maxHeartbeats 4000000 in
theorem bX1_drawRoad (L d : Nat) (A0 : Nat) (hA0 : rx_isO 1 A0 = true) (σ : rx_St) (K : Int → rx_St → Prop)
    (H : rx_CI L d mX1_draw [.inr A0, .inl (σ A0 0)] σ (fun v2 σ1 => rx_CI L d mX1_draw [.inr A0, .inl (σ1 A0 0)] σ1 (fun v4 σ3 => rx_CI L d mX1_roadRefusal [.inr A0, .inl v2, .inl v4] σ3 (fun v6 σ5 => if v6 = 0 then (rx_CI L d mX1_draw [.inr A0, .inl 9] σ5 (fun v9 σ8 => rx_CI L d mX1_addRoad [.inr A0, .inl 0, .inl v2, .inl v4, .inl (rx_w (1 + v9))] σ8 (fun v11 σ10 => K 1 σ10))) else (K 0 σ5))))) :
    rx_CI L (d + 1) mX1_drawRoad [.inr A0] σ K := by
  refine rx_CI.of (la := [some (.inr A0), none, none]) rfl ?_
  refine g_al iX1_drawRoad_0 rfl ?_
  refine g_al iX1_drawRoad_1 rfl ?_
  refine g_gf (kI := 0) rfl iX1_drawRoad_2 (fi_1_0 hA0) ?_
  refine g_ci (as := [.inr A0, .inl (σ A0 0)]) (rest := []) iX1_drawRoad_5 rfl rfl (Nat.le_of_ble_eq_true rfl) (Or.inr ⟨_, _, rfl, hA0⟩) (rx_CI.imp H (fun v2 σ1 H => ?_))
  refine g_is iX1_drawRoad_8 (Nat.le_of_ble_eq_true rfl) ?_
  refine rx_Go.ls (la := [some (.inr A0), some (.inl v2), none]) rfl ?_
  refine g_al iX1_drawRoad_9 rfl ?_
  refine g_al iX1_drawRoad_10 rfl ?_
  refine g_gf (kI := 0) rfl iX1_drawRoad_11 (fi_1_0 hA0) ?_
  refine g_ci (as := [.inr A0, .inl (σ1 A0 0)]) (rest := []) iX1_drawRoad_14 rfl rfl (Nat.le_of_ble_eq_true rfl) (Or.inr ⟨_, _, rfl, hA0⟩) (rx_CI.imp H (fun v4 σ3 H => ?_))
  refine g_is iX1_drawRoad_17 (Nat.le_of_ble_eq_true rfl) ?_
  refine rx_Go.ls (la := [some (.inr A0), some (.inl v2), some (.inl v4)]) rfl ?_
  refine g_al iX1_drawRoad_18 rfl ?_
  refine g_il iX1_drawRoad_19 rfl ?_
  refine g_il iX1_drawRoad_20 rfl ?_
  refine g_ci (as := [.inr A0, .inl v2, .inl v4]) (rest := []) iX1_drawRoad_21 rfl rfl (Nat.le_of_ble_eq_true rfl) (Or.inr ⟨_, _, rfl, hA0⟩) (rx_CI.imp H (fun v6 σ5 H => ?_))
  by_cases c7 : v6 = 0
  · rw [if_pos c7] at H
    refine g_if0t iX1_drawRoad_24 c7 ?_
    refine g_al iX1_drawRoad_29 rfl ?_
    refine g_c iX1_drawRoad_30 ?_
    refine g_il iX1_drawRoad_31 rfl ?_
    refine g_il iX1_drawRoad_32 rfl ?_
    refine g_c iX1_drawRoad_33 ?_
    refine g_al iX1_drawRoad_34 rfl ?_
    refine g_c iX1_drawRoad_35 ?_
    refine g_ci (as := [.inr A0, .inl 9]) (rest := [.inl 1, .inl v4, .inl v2, .inl 0, .inr A0]) iX1_drawRoad_37 rfl rfl (Nat.le_of_ble_eq_true rfl) (Or.inr ⟨_, _, rfl, hA0⟩) (rx_CI.imp H (fun v9 σ8 H => ?_))
    refine g_add iX1_drawRoad_40 ?_
    refine g_ci (as := [.inr A0, .inl 0, .inl v2, .inl v4, .inl (rx_w (1 + v9))]) (rest := []) iX1_drawRoad_41 rfl rfl (Nat.le_of_ble_eq_true rfl) (Or.inr ⟨_, _, rfl, hA0⟩) (rx_CI.imp H (fun v11 σ10 H => ?_))
    refine g_pop iX1_drawRoad_44 ?_
    refine g_c iX1_drawRoad_45 ?_
    exact g_ri iX1_drawRoad_46 (by decide) H
  · rw [if_neg c7] at H
    refine g_if0f iX1_drawRoad_24 c7 ?_
    refine g_c iX1_drawRoad_27 ?_
    exact g_ri iX1_drawRoad_28 (by decide) H
set_option maxRecDepth 20000 in
set_option maxHeartbeats 4000000 in
theorem bX1_isTwoSided (L d : Nat) (A0 : Nat) (hA0 : rx_isO 1 A0 = true) (σ : rx_St) (K : Int → rx_St → Prop)
    (H : rx_Go L (d + 1) mX1_isTwoSided 2 [some (.inr A0), some (.inl 0)] [] σ (rx_PI K)) :
    rx_CI L (d + 1) mX1_isTwoSided [.inr A0] σ K := by
  refine rx_CI.of (la := [some (.inr A0), none]) rfl ?_
  refine g_c iX1_isTwoSided_0 ?_
  refine g_is iX1_isTwoSided_1 (Nat.le_of_ble_eq_true rfl) ?_
  refine rx_Go.ls (la := [some (.inr A0), some (.inl 0)]) rfl ?_
  exact H
set_option maxRecDepth 20000 in
set_option maxHeartbeats 4000000 in
theorem bX1_isTwoSided_2 (L d : Nat) (A0 : Nat) (hA0 : rx_isO 1 A0 = true) (x1 : Int) (σ : rx_St) (K : Int → rx_St → Prop)
    (H : if (rx_alu 6 1 (σ A0 0)) ≤ x1 then (K 0 σ) else (rx_CI L d mX1_isParted [.inr A0, .inl x1] σ (fun v3 σ2 => if v3 = 0 then (rx_Go L (d + 1) mX1_isTwoSided 2 [some (.inr A0), some (.inl (rx_w (x1 + 1)))] [] σ2 (rx_PI K)) else (K 1 σ2)))) :
    rx_Go L (d + 1) mX1_isTwoSided 2 [some (.inr A0), some (.inl x1)] [] σ (rx_PI K) := by
  refine g_il iX1_isTwoSided_2 rfl ?_
  refine g_c iX1_isTwoSided_3 ?_
  refine g_al iX1_isTwoSided_4 rfl ?_
  refine g_gf (kI := 0) rfl iX1_isTwoSided_5 (fi_1_0 hA0) ?_
  refine g_bit iX1_isTwoSided_8 ?_
  by_cases c1 : (rx_alu 6 1 (σ A0 0)) ≤ x1
  · rw [if_pos c1] at H
    refine g_ic3t iX1_isTwoSided_9 c1 ?_
    refine g_c iX1_isTwoSided_28 ?_
    exact g_ri iX1_isTwoSided_29 (by decide) H
  · rw [if_neg c1] at H
    refine g_ic3f iX1_isTwoSided_9 c1 ?_
    refine g_al iX1_isTwoSided_12 rfl ?_
    refine g_il iX1_isTwoSided_13 rfl ?_
    refine g_ci (as := [.inr A0, .inl x1]) (rest := []) iX1_isTwoSided_14 rfl rfl (Nat.le_of_ble_eq_true rfl) (Or.inr ⟨_, _, rfl, hA0⟩) (rx_CI.imp H (fun v3 σ2 H => ?_))
    by_cases c4 : v3 = 0
    · rw [if_pos c4] at H
      refine g_if0t iX1_isTwoSided_17 c4 ?_
      refine g_ii iX1_isTwoSided_22 rfl ?_
      refine rx_Go.ls (la := [some (.inr A0), some (.inl (rx_w (x1 + 1)))]) rfl ?_
      refine g_goto iX1_isTwoSided_25 ?_
      exact H
    · rw [if_neg c4] at H
      refine g_if0f iX1_isTwoSided_17 c4 ?_
      refine g_c iX1_isTwoSided_20 ?_
      exact g_ri iX1_isTwoSided_21 (by decide) H
set_option maxRecDepth 20000 in
set_option maxHeartbeats 4000000 in
theorem bX1_isParted (L d : Nat) (A0 : Nat) (hA0 : rx_isO 1 A0 = true) (x1 : Int) (σ : rx_St) (K : Int → rx_St → Prop)
    (H : rx_Go L d mX1_isParted 2 [some (.inr A0), some (.inl x1), some (.inl 0)] [] σ (rx_PI K)) :
    rx_CI L d mX1_isParted [.inr A0, .inl x1] σ K := by
  refine rx_CI.of (la := [some (.inr A0), some (.inl x1), none]) rfl ?_
  refine g_c iX1_isParted_0 ?_
  refine g_is iX1_isParted_1 (Nat.le_of_ble_eq_true rfl) ?_
  refine rx_Go.ls (la := [some (.inr A0), some (.inl x1), some (.inl 0)]) rfl ?_
  exact H
set_option maxRecDepth 20000 in
set_option maxHeartbeats 4000000 in
theorem bX1_isParted_2 (L d : Nat) (A0 : Nat) (hA0 : rx_isO 1 A0 = true) (x1 : Int) (x2 : Int) (σ : rx_St) (K : Int → rx_St → Prop)
    (H : if (σ A0 6) ≤ x2 then (K 1 σ) else ((0 ≤ x2 ∧ x2 < 18) ∧ (if (rx_alu 3 (rx_alu 7 x1 (σ (A0 + 7) x2)) 1) ≠ (rx_alu 3 (rx_alu 7 x1 (σ (A0 + 8) x2)) 1) then (rx_Go L d mX1_isParted 2 [some (.inr A0), some (.inl x1), some (.inl (rx_w (x2 + 1)))] [] σ (rx_PI K)) else (K 0 σ)))) :
    rx_Go L d mX1_isParted 2 [some (.inr A0), some (.inl x1), some (.inl x2)] [] σ (rx_PI K) := by
  refine g_il iX1_isParted_2 rfl ?_
  refine g_al iX1_isParted_3 rfl ?_
  refine g_gf (kI := 6) rfl iX1_isParted_4 (fi_1_6 hA0) ?_
  by_cases c1 : (σ A0 6) ≤ x2
  · rw [if_pos c1] at H
    refine g_ic3t iX1_isParted_7 c1 ?_
    refine g_c iX1_isParted_41 ?_
    exact g_ri iX1_isParted_42 (by decide) H
  · rw [if_neg c1] at H
    refine g_ic3f iX1_isParted_7 c1 ?_
    refine g_il iX1_isParted_10 rfl ?_
    refine g_al iX1_isParted_11 rfl ?_
    refine g_gr iX1_isParted_12 (fr_1_8 hA0) ?_
    refine g_il iX1_isParted_15 rfl ?_
    obtain ⟨o2, H⟩ := H
    refine g_ld iX1_isParted_16 (ln_1_o7 L hA0).1 o2 ?_
    refine g_bit iX1_isParted_17 ?_
    refine g_c iX1_isParted_18 ?_
    refine g_bit iX1_isParted_19 ?_
    refine g_il iX1_isParted_20 rfl ?_
    refine g_al iX1_isParted_21 rfl ?_
    refine g_gr iX1_isParted_22 (fr_1_9 hA0) ?_
    refine g_il iX1_isParted_25 rfl ?_
    refine g_ld iX1_isParted_26 (ln_1_o8 L hA0).1 o2 ?_
    refine g_bit iX1_isParted_27 ?_
    refine g_c iX1_isParted_28 ?_
    refine g_bit iX1_isParted_29 ?_
    by_cases c3 : (rx_alu 3 (rx_alu 7 x1 (σ (A0 + 7) x2)) 1) ≠ (rx_alu 3 (rx_alu 7 x1 (σ (A0 + 8) x2)) 1)
    · rw [if_pos c3] at H
      refine g_ic1t iX1_isParted_30 c3 ?_
      refine g_ii iX1_isParted_35 rfl ?_
      refine rx_Go.ls (la := [some (.inr A0), some (.inl x1), some (.inl (rx_w (x2 + 1)))]) rfl ?_
      refine g_goto iX1_isParted_38 ?_
      exact H
    · rw [if_neg c3] at H
      refine g_ic1f iX1_isParted_30 c3 ?_
      refine g_c iX1_isParted_33 ?_
      exact g_ri iX1_isParted_34 (by decide) H
set_option maxRecDepth 20000 in
set_option maxHeartbeats 4000000 in
theorem bX1_pairsThatMeet (L d : Nat) (A0 : Nat) (hA0 : rx_isO 1 A0 = true) (x1 : Int) (σ : rx_St) (K : Int → rx_St → Prop)
    (H : rx_Go L (d + 1) mX1_pairsThatMeet 4 [some (.inr A0), some (.inl x1), some (.inl 0), some (.inl 0), none] [] σ (rx_PI K)) :
    rx_CI L (d + 1) mX1_pairsThatMeet [.inr A0, .inl x1] σ K := by
  refine rx_CI.of (la := [some (.inr A0), some (.inl x1), none, none, none]) rfl ?_
  refine g_c iX1_pairsThatMeet_0 ?_
  refine g_is iX1_pairsThatMeet_1 (Nat.le_of_ble_eq_true rfl) ?_
  refine rx_Go.ls (la := [some (.inr A0), some (.inl x1), some (.inl 0), none, none]) rfl ?_
  refine g_c iX1_pairsThatMeet_2 ?_
  refine g_is iX1_pairsThatMeet_3 (Nat.le_of_ble_eq_true rfl) ?_
  refine rx_Go.ls (la := [some (.inr A0), some (.inl x1), some (.inl 0), some (.inl 0), none]) rfl ?_
  exact H
set_option maxRecDepth 20000 in
set_option maxHeartbeats 4000000 in
theorem bX1_pairsThatMeet_4 (L d : Nat) (A0 : Nat) (hA0 : rx_isO 1 A0 = true) (x1 : Int) (x2 : Int) (x3 : Int) (q4 : Option rx_V) (σ : rx_St) (K : Int → rx_St → Prop)
    (H : if (σ A0 6) ≤ x3 then (K x2 σ) else (rx_Go L (d + 1) mX1_pairsThatMeet 17 [some (.inr A0), some (.inl x1), some (.inl x2), some (.inl x3), some (.inl (rx_w (x3 + 1)))] [] σ (rx_PI K))) :
    rx_Go L (d + 1) mX1_pairsThatMeet 4 [some (.inr A0), some (.inl x1), some (.inl x2), some (.inl x3), q4] [] σ (rx_PI K) := by
  refine g_il iX1_pairsThatMeet_4 rfl ?_
  refine g_al iX1_pairsThatMeet_5 rfl ?_
  refine g_gf (kI := 6) rfl iX1_pairsThatMeet_6 (fi_1_6 hA0) ?_
  by_cases c1 : (σ A0 6) ≤ x3
  · rw [if_pos c1] at H
    refine g_ic3t iX1_pairsThatMeet_9 c1 ?_
    refine g_il iX1_pairsThatMeet_52 rfl ?_
    exact g_ri iX1_pairsThatMeet_53 (Or.inl rfl) H
  · rw [if_neg c1] at H
    refine g_ic3f iX1_pairsThatMeet_9 c1 ?_
    refine g_il iX1_pairsThatMeet_12 rfl ?_
    refine g_c iX1_pairsThatMeet_13 ?_
    refine g_add iX1_pairsThatMeet_14 ?_
    refine g_is iX1_pairsThatMeet_15 (Nat.le_of_ble_eq_true rfl) ?_
    refine rx_Go.ls (la := [some (.inr A0), some (.inl x1), some (.inl x2), some (.inl x3), some (.inl (rx_w (x3 + 1)))]) rfl ?_
    exact H
set_option maxRecDepth 20000 in
set_option maxHeartbeats 4000000 in
theorem bX1_pairsThatMeet_17 (L d : Nat) (A0 : Nat) (hA0 : rx_isO 1 A0 = true) (x1 : Int) (x2 : Int) (x3 : Int) (x4 : Int) (σ : rx_St) (K : Int → rx_St → Prop)
    (H : if (σ A0 6) ≤ x4 then (rx_Go L (d + 1) mX1_pairsThatMeet 4 [some (.inr A0), some (.inl x1), some (.inl x2), some (.inl (rx_w (x3 + 1))), some (.inl x4)] [] σ (rx_PI K)) else (rx_CI L d mX1_meet [.inr A0, .inl x1, .inl x3, .inl x4] σ (fun v4 σ3 => if v4 = 0 then (rx_Go L (d + 1) mX1_pairsThatMeet 17 [some (.inr A0), some (.inl x1), some (.inl x2), some (.inl x3), some (.inl (rx_w (x4 + 1)))] [] σ3 (rx_PI K)) else (rx_Go L (d + 1) mX1_pairsThatMeet 17 [some (.inr A0), some (.inl x1), some (.inl (rx_w (x2 + 1))), some (.inl x3), some (.inl (rx_w (x4 + 1)))] [] σ3 (rx_PI K))))) :
    rx_Go L (d + 1) mX1_pairsThatMeet 17 [some (.inr A0), some (.inl x1), some (.inl x2), some (.inl x3), some (.inl x4)] [] σ (rx_PI K) := by
  refine g_il iX1_pairsThatMeet_17 rfl ?_
  refine g_al iX1_pairsThatMeet_19 rfl ?_
  refine g_gf (kI := 6) rfl iX1_pairsThatMeet_20 (fi_1_6 hA0) ?_
  by_cases c2 : (σ A0 6) ≤ x4
  · rw [if_pos c2] at H
    refine g_ic3t iX1_pairsThatMeet_23 c2 ?_
    refine g_ii iX1_pairsThatMeet_46 rfl ?_
    refine rx_Go.ls (la := [some (.inr A0), some (.inl x1), some (.inl x2), some (.inl (rx_w (x3 + 1))), some (.inl x4)]) rfl ?_
    refine g_goto iX1_pairsThatMeet_49 ?_
    exact H
  · rw [if_neg c2] at H
    refine g_ic3f iX1_pairsThatMeet_23 c2 ?_
    refine g_al iX1_pairsThatMeet_26 rfl ?_
    refine g_il iX1_pairsThatMeet_27 rfl ?_
    refine g_il iX1_pairsThatMeet_28 rfl ?_
    refine g_il iX1_pairsThatMeet_29 rfl ?_
    refine g_ci (as := [.inr A0, .inl x1, .inl x3, .inl x4]) (rest := []) iX1_pairsThatMeet_31 rfl rfl (Nat.le_of_ble_eq_true rfl) (Or.inr ⟨_, _, rfl, hA0⟩) (rx_CI.imp H (fun v4 σ3 H => ?_))
    by_cases c5 : v4 = 0
    · rw [if_pos c5] at H
      refine g_if0t iX1_pairsThatMeet_34 c5 ?_
      refine g_ii iX1_pairsThatMeet_40 rfl ?_
      refine rx_Go.ls (la := [some (.inr A0), some (.inl x1), some (.inl x2), some (.inl x3), some (.inl (rx_w (x4 + 1)))]) rfl ?_
      refine g_goto iX1_pairsThatMeet_43 ?_
      exact H
    · rw [if_neg c5] at H
      refine g_if0f iX1_pairsThatMeet_34 c5 ?_
      refine g_ii iX1_pairsThatMeet_37 rfl ?_
      refine rx_Go.ls (la := [some (.inr A0), some (.inl x1), some (.inl (rx_w (x2 + 1))), some (.inl x3), some (.inl x4)]) rfl ?_
      refine g_ii iX1_pairsThatMeet_40 rfl ?_
      refine rx_Go.ls (la := [some (.inr A0), some (.inl x1), some (.inl (rx_w (x2 + 1))), some (.inl x3), some (.inl (rx_w (x4 + 1)))]) rfl ?_
      refine g_goto iX1_pairsThatMeet_43 ?_
      exact H
set_option maxRecDepth 20000 in
set_option maxHeartbeats 4000000 in
theorem bX1_meet (L d : Nat) (A0 : Nat) (hA0 : rx_isO 1 A0 = true) (x1 : Int) (x2 : Int) (x3 : Int) (σ : rx_St) (K : Int → rx_St → Prop)
    (H : rx_CI L d mX1_shareEnd [.inr A0, .inl x2, .inl x3] σ (fun v2 σ1 => if v2 = 0 then (if x1 = 0 then ((0 ≤ x2 ∧ x2 < 18) ∧ ((0 ≤ x3 ∧ x3 < 18) ∧ (rx_CI L d mX1_meetStraight [.inr A0, .inl (σ1 (A0 + 7) x2), .inl (σ1 (A0 + 8) x2), .inl (σ1 (A0 + 7) x3), .inl (σ1 (A0 + 8) x3)] σ1 (fun v8 σ7 => (v8 = 0 ∨ v8 = 1) ∧ K v8 σ7)))) else (if x1 = 1 then ((0 ≤ x2 ∧ x2 < 18) ∧ ((0 ≤ x3 ∧ x3 < 18) ∧ (if (σ1 (A0 + 10) x2) ≠ (σ1 (A0 + 10) x3) then (K 0 σ1) else (rx_CI L d mX1_meetInLine [.inr A0, .inl x2, .inl x3] σ1 (fun v14 σ13 => if v14 = 0 then (K 0 σ13) else (K 1 σ13)))))) else (rx_CI L d mX1_meetInLayers [.inr A0, .inl x2, .inl x3] σ1 (fun v17 σ16 => (v17 = 0 ∨ v17 = 1) ∧ K v17 σ16)))) else (K 0 σ1))) :
    rx_CI L (d + 1) mX1_meet [.inr A0, .inl x1, .inl x2, .inl x3] σ K := by
  refine rx_CI.of (la := [some (.inr A0), some (.inl x1), some (.inl x2), some (.inl x3)]) rfl ?_
  refine g_al iX1_meet_0 rfl ?_
  refine g_il iX1_meet_1 rfl ?_
  refine g_il iX1_meet_2 rfl ?_
  refine g_ci (as := [.inr A0, .inl x2, .inl x3]) (rest := []) iX1_meet_3 rfl rfl (Nat.le_of_ble_eq_true rfl) (Or.inr ⟨_, _, rfl, hA0⟩) (rx_CI.imp H (fun v2 σ1 H => ?_))
  by_cases c3 : v2 = 0
  · rw [if_pos c3] at H
    refine g_if0t iX1_meet_6 c3 ?_
    refine g_il iX1_meet_11 rfl ?_
    by_cases c4 : x1 = 0
    · rw [if_pos c4] at H
      refine g_sw iX1_meet_12 (by simp only [rx_sw]; rw [if_pos c4]) ?_
      refine g_al iX1_meet_40 rfl ?_
      refine g_al iX1_meet_41 rfl ?_
      refine g_gr iX1_meet_42 (fr_1_8 hA0) ?_
      refine g_il iX1_meet_45 rfl ?_
      obtain ⟨o5, H⟩ := H
      refine g_ld iX1_meet_46 (ln_1_o7 L hA0).1 o5 ?_
      refine g_al iX1_meet_47 rfl ?_
      refine g_gr iX1_meet_48 (fr_1_9 hA0) ?_
      refine g_il iX1_meet_51 rfl ?_
      refine g_ld iX1_meet_52 (ln_1_o8 L hA0).1 o5 ?_
      refine g_al iX1_meet_53 rfl ?_
      refine g_gr iX1_meet_54 (fr_1_8 hA0) ?_
      refine g_il iX1_meet_57 rfl ?_
      obtain ⟨o6, H⟩ := H
      refine g_ld iX1_meet_58 (ln_1_o7 L hA0).1 o6 ?_
      refine g_al iX1_meet_59 rfl ?_
      refine g_gr iX1_meet_60 (fr_1_9 hA0) ?_
      refine g_il iX1_meet_63 rfl ?_
      refine g_ld iX1_meet_64 (ln_1_o8 L hA0).1 o6 ?_
      refine g_ci (as := [.inr A0, .inl (σ1 (A0 + 7) x2), .inl (σ1 (A0 + 8) x2), .inl (σ1 (A0 + 7) x3), .inl (σ1 (A0 + 8) x3)]) (rest := []) iX1_meet_65 rfl rfl (Nat.le_of_ble_eq_true rfl) (Or.inr ⟨_, _, rfl, hA0⟩) (rx_CI.imp H (fun v8 σ7 H => ?_))
      exact g_ri iX1_meet_68 (Or.inr H.1) H.2
    · rw [if_neg c4] at H
      by_cases c9 : x1 = 1
      · rw [if_pos c9] at H
        refine g_sw iX1_meet_12 (by simp only [rx_sw]; rw [if_neg c4, if_pos c9]) ?_
        refine g_al iX1_meet_69 rfl ?_
        refine g_gr iX1_meet_70 (fr_1_11 hA0) ?_
        refine g_il iX1_meet_73 rfl ?_
        obtain ⟨o10, H⟩ := H
        refine g_ld iX1_meet_74 (ln_1_o10 L hA0).1 o10 ?_
        refine g_al iX1_meet_75 rfl ?_
        refine g_gr iX1_meet_76 (fr_1_11 hA0) ?_
        refine g_il iX1_meet_79 rfl ?_
        obtain ⟨o11, H⟩ := H
        refine g_ld iX1_meet_80 (ln_1_o10 L hA0).1 o11 ?_
        by_cases c12 : (σ1 (A0 + 10) x2) ≠ (σ1 (A0 + 10) x3)
        · rw [if_pos c12] at H
          refine g_ic1t iX1_meet_81 c12 ?_
          refine g_c iX1_meet_97 ?_
          exact g_ri iX1_meet_98 (by decide) H
        · rw [if_neg c12] at H
          refine g_ic1f iX1_meet_81 c12 ?_
          refine g_al iX1_meet_84 rfl ?_
          refine g_il iX1_meet_85 rfl ?_
          refine g_il iX1_meet_86 rfl ?_
          refine g_ci (as := [.inr A0, .inl x2, .inl x3]) (rest := []) iX1_meet_87 rfl rfl (Nat.le_of_ble_eq_true rfl) (Or.inr ⟨_, _, rfl, hA0⟩) (rx_CI.imp H (fun v14 σ13 H => ?_))
          by_cases c15 : v14 = 0
          · rw [if_pos c15] at H
            refine g_if0t iX1_meet_90 c15 ?_
            refine g_c iX1_meet_97 ?_
            exact g_ri iX1_meet_98 (by decide) H
          · rw [if_neg c15] at H
            refine g_if0f iX1_meet_90 c15 ?_
            refine g_c iX1_meet_93 ?_
            refine g_goto iX1_meet_94 ?_
            exact g_ri iX1_meet_98 (by decide) H
      · rw [if_neg c9] at H
        refine g_sw (t := 99) iX1_meet_12 (by simp only [rx_sw, c4, c9, if_false]) ?_
        refine g_al iX1_meet_99 rfl ?_
        refine g_il iX1_meet_100 rfl ?_
        refine g_il iX1_meet_101 rfl ?_
        refine g_ci (as := [.inr A0, .inl x2, .inl x3]) (rest := []) iX1_meet_102 rfl rfl (Nat.le_of_ble_eq_true rfl) (Or.inr ⟨_, _, rfl, hA0⟩) (rx_CI.imp H (fun v17 σ16 H => ?_))
        exact g_ri iX1_meet_105 (Or.inr H.1) H.2
  · rw [if_neg c3] at H
    refine g_if0f iX1_meet_6 c3 ?_
    refine g_c iX1_meet_9 ?_
    exact g_ri iX1_meet_10 (by decide) H
set_option maxRecDepth 20000 in
set_option maxHeartbeats 4000000 in
theorem bX1_shareEnd (L d : Nat) (A0 : Nat) (hA0 : rx_isO 1 A0 = true) (x1 : Int) (x2 : Int) (σ : rx_St) (K : Int → rx_St → Prop)
    (H : (0 ≤ x1 ∧ x1 < 18) ∧ ((0 ≤ x2 ∧ x2 < 18) ∧ (if (σ (A0 + 7) x1) = (σ (A0 + 7) x2) then (K 1 σ) else (if (σ (A0 + 7) x1) = (σ (A0 + 8) x2) then (K 1 σ) else (if (σ (A0 + 8) x1) = (σ (A0 + 7) x2) then (K 1 σ) else (if (σ (A0 + 8) x1) ≠ (σ (A0 + 8) x2) then (K 0 σ) else (K 1 σ))))))) :
    rx_CI L d mX1_shareEnd [.inr A0, .inl x1, .inl x2] σ K := by
  refine rx_CI.of (la := [some (.inr A0), some (.inl x1), some (.inl x2)]) rfl ?_
  refine g_al iX1_shareEnd_0 rfl ?_
  refine g_gr iX1_shareEnd_1 (fr_1_8 hA0) ?_
  refine g_il iX1_shareEnd_4 rfl ?_
  obtain ⟨o1, H⟩ := H
  refine g_ld iX1_shareEnd_5 (ln_1_o7 L hA0).1 o1 ?_
  refine g_al iX1_shareEnd_6 rfl ?_
  refine g_gr iX1_shareEnd_7 (fr_1_8 hA0) ?_
  refine g_il iX1_shareEnd_10 rfl ?_
  obtain ⟨o2, H⟩ := H
  refine g_ld iX1_shareEnd_11 (ln_1_o7 L hA0).1 o2 ?_
  by_cases c3 : (σ (A0 + 7) x1) = (σ (A0 + 7) x2)
  · rw [if_pos c3] at H
    refine g_ic0t iX1_shareEnd_12 c3 ?_
    refine g_c iX1_shareEnd_60 ?_
    refine g_goto iX1_shareEnd_61 ?_
    exact g_ri iX1_shareEnd_65 (by decide) H
  · rw [if_neg c3] at H
    refine g_ic0f iX1_shareEnd_12 c3 ?_
    refine g_al iX1_shareEnd_15 rfl ?_
    refine g_gr iX1_shareEnd_16 (fr_1_8 hA0) ?_
    refine g_il iX1_shareEnd_19 rfl ?_
    refine g_ld iX1_shareEnd_20 (ln_1_o7 L hA0).1 o1 ?_
    refine g_al iX1_shareEnd_21 rfl ?_
    refine g_gr iX1_shareEnd_22 (fr_1_9 hA0) ?_
    refine g_il iX1_shareEnd_25 rfl ?_
    refine g_ld iX1_shareEnd_26 (ln_1_o8 L hA0).1 o2 ?_
    by_cases c4 : (σ (A0 + 7) x1) = (σ (A0 + 8) x2)
    · rw [if_pos c4] at H
      refine g_ic0t iX1_shareEnd_27 c4 ?_
      refine g_c iX1_shareEnd_60 ?_
      refine g_goto iX1_shareEnd_61 ?_
      exact g_ri iX1_shareEnd_65 (by decide) H
    · rw [if_neg c4] at H
      refine g_ic0f iX1_shareEnd_27 c4 ?_
      refine g_al iX1_shareEnd_30 rfl ?_
      refine g_gr iX1_shareEnd_31 (fr_1_9 hA0) ?_
      refine g_il iX1_shareEnd_34 rfl ?_
      refine g_ld iX1_shareEnd_35 (ln_1_o8 L hA0).1 o1 ?_
      refine g_al iX1_shareEnd_36 rfl ?_
      refine g_gr iX1_shareEnd_37 (fr_1_8 hA0) ?_
      refine g_il iX1_shareEnd_40 rfl ?_
      refine g_ld iX1_shareEnd_41 (ln_1_o7 L hA0).1 o2 ?_
      by_cases c5 : (σ (A0 + 8) x1) = (σ (A0 + 7) x2)
      · rw [if_pos c5] at H
        refine g_ic0t iX1_shareEnd_42 c5 ?_
        refine g_c iX1_shareEnd_60 ?_
        refine g_goto iX1_shareEnd_61 ?_
        exact g_ri iX1_shareEnd_65 (by decide) H
      · rw [if_neg c5] at H
        refine g_ic0f iX1_shareEnd_42 c5 ?_
        refine g_al iX1_shareEnd_45 rfl ?_
        refine g_gr iX1_shareEnd_46 (fr_1_9 hA0) ?_
        refine g_il iX1_shareEnd_49 rfl ?_
        refine g_ld iX1_shareEnd_50 (ln_1_o8 L hA0).1 o1 ?_
        refine g_al iX1_shareEnd_51 rfl ?_
        refine g_gr iX1_shareEnd_52 (fr_1_9 hA0) ?_
        refine g_il iX1_shareEnd_55 rfl ?_
        refine g_ld iX1_shareEnd_56 (ln_1_o8 L hA0).1 o2 ?_
        by_cases c6 : (σ (A0 + 8) x1) ≠ (σ (A0 + 8) x2)
        · rw [if_pos c6] at H
          refine g_ic1t iX1_shareEnd_57 c6 ?_
          refine g_c iX1_shareEnd_64 ?_
          exact g_ri iX1_shareEnd_65 (by decide) H
        · rw [if_neg c6] at H
          refine g_ic1f iX1_shareEnd_57 c6 ?_
          refine g_c iX1_shareEnd_60 ?_
          refine g_goto iX1_shareEnd_61 ?_
          exact g_ri iX1_shareEnd_65 (by decide) H
set_option maxRecDepth 20000 in
set_option maxHeartbeats 4000000 in
theorem bX1_meetStraight (L d : Nat) (A0 : Nat) (hA0 : rx_isO 1 A0 = true) (x1 : Int) (x2 : Int) (x3 : Int) (x4 : Int) (σ : rx_St) (K : Int → rx_St → Prop)
    (H : (0 ≤ x1 ∧ x1 < 8) ∧ ((0 ≤ x2 ∧ x2 < 8) ∧ ((0 ≤ x3 ∧ x3 < 8) ∧ ((0 ≤ x4 ∧ x4 < 8) ∧ (rx_CI L d mX1_areApart [.inl (σ (A0 + 1) x1), .inl (σ (A0 + 1) x2), .inl (σ (A0 + 1) x3), .inl (σ (A0 + 1) x4)] σ (fun v6 σ5 => if v6 ≠ 0 then (K 0 σ5) else (rx_CI L d mX1_areApart [.inl (σ5 (A0 + 2) x1), .inl (σ5 (A0 + 2) x2), .inl (σ5 (A0 + 2) x3), .inl (σ5 (A0 + 2) x4)] σ5 (fun v9 σ8 => if v9 ≠ 0 then (K 0 σ8) else (rx_CI L d mX1_side [.inr A0, .inl x1, .inl x2, .inl x3] σ8 (fun v12 σ11 => rx_CI L d mX1_side [.inr A0, .inl x1, .inl x2, .inl x4] σ11 (fun v14 σ13 => if 0 < (rx_w (v12 * v14)) then (K 0 σ13) else (rx_CI L d mX1_side [.inr A0, .inl x3, .inl x4, .inl x1] σ13 (fun v17 σ16 => rx_CI L d mX1_side [.inr A0, .inl x3, .inl x4, .inl x2] σ16 (fun v19 σ18 => if 0 < (rx_w (v17 * v19)) then (K 0 σ18) else (K 1 σ18))))))))))))))) :
    rx_CI L (d + 1) mX1_meetStraight [.inr A0, .inl x1, .inl x2, .inl x3, .inl x4] σ K := by
  refine rx_CI.of (la := [some (.inr A0), some (.inl x1), some (.inl x2), some (.inl x3), some (.inl x4)]) rfl ?_
  refine g_al iX1_meetStraight_0 rfl ?_
  refine g_gr iX1_meetStraight_1 (fr_1_1 hA0) ?_
  refine g_il iX1_meetStraight_4 rfl ?_
  obtain ⟨o1, H⟩ := H
  refine g_ld iX1_meetStraight_5 (ln_1_o1 L hA0).1 o1 ?_
  refine g_al iX1_meetStraight_6 rfl ?_
  refine g_gr iX1_meetStraight_7 (fr_1_1 hA0) ?_
  refine g_il iX1_meetStraight_10 rfl ?_
  obtain ⟨o2, H⟩ := H
  refine g_ld iX1_meetStraight_11 (ln_1_o1 L hA0).1 o2 ?_
  refine g_al iX1_meetStraight_12 rfl ?_
  refine g_gr iX1_meetStraight_13 (fr_1_1 hA0) ?_
  refine g_il iX1_meetStraight_16 rfl ?_
  obtain ⟨o3, H⟩ := H
  refine g_ld iX1_meetStraight_17 (ln_1_o1 L hA0).1 o3 ?_
  refine g_al iX1_meetStraight_18 rfl ?_
  refine g_gr iX1_meetStraight_19 (fr_1_1 hA0) ?_
  refine g_il iX1_meetStraight_22 rfl ?_
  obtain ⟨o4, H⟩ := H
  refine g_ld iX1_meetStraight_24 (ln_1_o1 L hA0).1 o4 ?_
  refine g_ci (as := [.inl (σ (A0 + 1) x1), .inl (σ (A0 + 1) x2), .inl (σ (A0 + 1) x3), .inl (σ (A0 + 1) x4)]) (rest := []) iX1_meetStraight_25 rfl rfl (Nat.le_of_ble_eq_true rfl) (Or.inl (by decide)) (rx_CI.imp H (fun v6 σ5 H => ?_))
  by_cases c7 : v6 ≠ 0
  · rw [if_pos c7] at H
    refine g_if1t iX1_meetStraight_28 c7 ?_
    refine g_c iX1_meetStraight_105 ?_
    exact g_ri iX1_meetStraight_106 (by decide) H
  · rw [if_neg c7] at H
    refine g_if1f iX1_meetStraight_28 c7 ?_
    refine g_al iX1_meetStraight_31 rfl ?_
    refine g_gr iX1_meetStraight_32 (fr_1_2 hA0) ?_
    refine g_il iX1_meetStraight_35 rfl ?_
    refine g_ld iX1_meetStraight_36 (ln_1_o2 L hA0).1 o1 ?_
    refine g_al iX1_meetStraight_37 rfl ?_
    refine g_gr iX1_meetStraight_38 (fr_1_2 hA0) ?_
    refine g_il iX1_meetStraight_41 rfl ?_
    refine g_ld iX1_meetStraight_42 (ln_1_o2 L hA0).1 o2 ?_
    refine g_al iX1_meetStraight_43 rfl ?_
    refine g_gr iX1_meetStraight_44 (fr_1_2 hA0) ?_
    refine g_il iX1_meetStraight_47 rfl ?_
    refine g_ld iX1_meetStraight_48 (ln_1_o2 L hA0).1 o3 ?_
    refine g_al iX1_meetStraight_49 rfl ?_
    refine g_gr iX1_meetStraight_50 (fr_1_2 hA0) ?_
    refine g_il iX1_meetStraight_53 rfl ?_
    refine g_ld iX1_meetStraight_55 (ln_1_o2 L hA0).1 o4 ?_
    refine g_ci (as := [.inl (σ5 (A0 + 2) x1), .inl (σ5 (A0 + 2) x2), .inl (σ5 (A0 + 2) x3), .inl (σ5 (A0 + 2) x4)]) (rest := []) iX1_meetStraight_56 rfl rfl (Nat.le_of_ble_eq_true rfl) (Or.inl (by decide)) (rx_CI.imp H (fun v9 σ8 H => ?_))
    by_cases c10 : v9 ≠ 0
    · rw [if_pos c10] at H
      refine g_if1t iX1_meetStraight_59 c10 ?_
      refine g_c iX1_meetStraight_105 ?_
      exact g_ri iX1_meetStraight_106 (by decide) H
    · rw [if_neg c10] at H
      refine g_if1f iX1_meetStraight_59 c10 ?_
      refine g_al iX1_meetStraight_62 rfl ?_
      refine g_il iX1_meetStraight_63 rfl ?_
      refine g_il iX1_meetStraight_64 rfl ?_
      refine g_il iX1_meetStraight_65 rfl ?_
      refine g_ci (as := [.inr A0, .inl x1, .inl x2, .inl x3]) (rest := []) iX1_meetStraight_66 rfl rfl (Nat.le_of_ble_eq_true rfl) (Or.inr ⟨_, _, rfl, hA0⟩) (rx_CI.imp H (fun v12 σ11 H => ?_))
      refine g_al iX1_meetStraight_69 rfl ?_
      refine g_il iX1_meetStraight_70 rfl ?_
      refine g_il iX1_meetStraight_71 rfl ?_
      refine g_il iX1_meetStraight_72 rfl ?_
      refine g_ci (as := [.inr A0, .inl x1, .inl x2, .inl x4]) (rest := [.inl v12]) iX1_meetStraight_74 rfl rfl (Nat.le_of_ble_eq_true rfl) (Or.inr ⟨_, _, rfl, hA0⟩) (rx_CI.imp H (fun v14 σ13 H => ?_))
      refine g_mul iX1_meetStraight_77 ?_
      by_cases c15 : 0 < (rx_w (v12 * v14))
      · rw [if_pos c15] at H
        refine g_if4t iX1_meetStraight_78 c15 ?_
        refine g_c iX1_meetStraight_105 ?_
        exact g_ri iX1_meetStraight_106 (by decide) H
      · rw [if_neg c15] at H
        refine g_if4f iX1_meetStraight_78 c15 ?_
        refine g_al iX1_meetStraight_81 rfl ?_
        refine g_il iX1_meetStraight_82 rfl ?_
        refine g_il iX1_meetStraight_83 rfl ?_
        refine g_il iX1_meetStraight_85 rfl ?_
        refine g_ci (as := [.inr A0, .inl x3, .inl x4, .inl x1]) (rest := []) iX1_meetStraight_86 rfl rfl (Nat.le_of_ble_eq_true rfl) (Or.inr ⟨_, _, rfl, hA0⟩) (rx_CI.imp H (fun v17 σ16 H => ?_))
        refine g_al iX1_meetStraight_89 rfl ?_
        refine g_il iX1_meetStraight_90 rfl ?_
        refine g_il iX1_meetStraight_91 rfl ?_
        refine g_il iX1_meetStraight_93 rfl ?_
        refine g_ci (as := [.inr A0, .inl x3, .inl x4, .inl x2]) (rest := [.inl v17]) iX1_meetStraight_94 rfl rfl (Nat.le_of_ble_eq_true rfl) (Or.inr ⟨_, _, rfl, hA0⟩) (rx_CI.imp H (fun v19 σ18 H => ?_))
        refine g_mul iX1_meetStraight_97 ?_
        by_cases c20 : 0 < (rx_w (v17 * v19))
        · rw [if_pos c20] at H
          refine g_if4t iX1_meetStraight_98 c20 ?_
          refine g_c iX1_meetStraight_105 ?_
          exact g_ri iX1_meetStraight_106 (by decide) H
        · rw [if_neg c20] at H
          refine g_if4f iX1_meetStraight_98 c20 ?_
          refine g_c iX1_meetStraight_101 ?_
          refine g_goto iX1_meetStraight_102 ?_
          exact g_ri iX1_meetStraight_106 (by decide) H
set_option maxRecDepth 20000 in
set_option maxHeartbeats 4000000 in
theorem bX1_areApart (L d : Nat) (x0 : Int) (x1 : Int) (x2 : Int) (x3 : Int) (σ : rx_St) (K : Int → rx_St → Prop)
    (H : if x2 ≤ x0 then (if x0 ≤ x2 then (K 0 σ) else (if x0 ≤ x3 then (K 0 σ) else (if x1 ≤ x2 then (K 0 σ) else (if x1 ≤ x3 then (K 0 σ) else (K 1 σ))))) else (if x3 ≤ x0 then (if x0 ≤ x2 then (K 0 σ) else (if x0 ≤ x3 then (K 0 σ) else (if x1 ≤ x2 then (K 0 σ) else (if x1 ≤ x3 then (K 0 σ) else (K 1 σ))))) else (if x2 ≤ x1 then (if x0 ≤ x2 then (K 0 σ) else (if x0 ≤ x3 then (K 0 σ) else (if x1 ≤ x2 then (K 0 σ) else (if x1 ≤ x3 then (K 0 σ) else (K 1 σ))))) else (if x1 < x3 then (K 1 σ) else (if x0 ≤ x2 then (K 0 σ) else (if x0 ≤ x3 then (K 0 σ) else (if x1 ≤ x2 then (K 0 σ) else (if x1 ≤ x3 then (K 0 σ) else (K 1 σ))))))))) :
    rx_CI L d mX1_areApart [.inl x0, .inl x1, .inl x2, .inl x3] σ K := by
  refine rx_CI.of (la := [some (.inl x0), some (.inl x1), some (.inl x2), some (.inl x3)]) rfl ?_
  refine g_il iX1_areApart_0 rfl ?_
  refine g_il iX1_areApart_1 rfl ?_
  by_cases c1 : x2 ≤ x0
  · rw [if_pos c1] at H
    refine g_ic3t iX1_areApart_2 c1 ?_
    refine g_il iX1_areApart_20 rfl ?_
    refine g_il iX1_areApart_21 rfl ?_
    by_cases c2 : x0 ≤ x2
    · rw [if_pos c2] at H
      refine g_ic5t iX1_areApart_22 c2 ?_
      refine g_c iX1_areApart_44 ?_
      exact g_ri iX1_areApart_45 (by decide) H
    · rw [if_neg c2] at H
      refine g_ic5f iX1_areApart_22 c2 ?_
      refine g_il iX1_areApart_25 rfl ?_
      refine g_il iX1_areApart_26 rfl ?_
      by_cases c3 : x0 ≤ x3
      · rw [if_pos c3] at H
        refine g_ic5t iX1_areApart_27 c3 ?_
        refine g_c iX1_areApart_44 ?_
        exact g_ri iX1_areApart_45 (by decide) H
      · rw [if_neg c3] at H
        refine g_ic5f iX1_areApart_27 c3 ?_
        refine g_il iX1_areApart_30 rfl ?_
        refine g_il iX1_areApart_31 rfl ?_
        by_cases c4 : x1 ≤ x2
        · rw [if_pos c4] at H
          refine g_ic5t iX1_areApart_32 c4 ?_
          refine g_c iX1_areApart_44 ?_
          exact g_ri iX1_areApart_45 (by decide) H
        · rw [if_neg c4] at H
          refine g_ic5f iX1_areApart_32 c4 ?_
          refine g_il iX1_areApart_35 rfl ?_
          refine g_il iX1_areApart_36 rfl ?_
          by_cases c5 : x1 ≤ x3
          · rw [if_pos c5] at H
            refine g_ic5t iX1_areApart_37 c5 ?_
            refine g_c iX1_areApart_44 ?_
            exact g_ri iX1_areApart_45 (by decide) H
          · rw [if_neg c5] at H
            refine g_ic5f iX1_areApart_37 c5 ?_
            refine g_c iX1_areApart_40 ?_
            refine g_goto iX1_areApart_41 ?_
            exact g_ri iX1_areApart_45 (by decide) H
  · rw [if_neg c1] at H
    refine g_ic3f iX1_areApart_2 c1 ?_
    refine g_il iX1_areApart_5 rfl ?_
    refine g_il iX1_areApart_6 rfl ?_
    by_cases c6 : x3 ≤ x0
    · rw [if_pos c6] at H
      refine g_ic3t iX1_areApart_7 c6 ?_
      refine g_il iX1_areApart_20 rfl ?_
      refine g_il iX1_areApart_21 rfl ?_
      by_cases c7 : x0 ≤ x2
      · rw [if_pos c7] at H
        refine g_ic5t iX1_areApart_22 c7 ?_
        refine g_c iX1_areApart_44 ?_
        exact g_ri iX1_areApart_45 (by decide) H
      · rw [if_neg c7] at H
        refine g_ic5f iX1_areApart_22 c7 ?_
        refine g_il iX1_areApart_25 rfl ?_
        refine g_il iX1_areApart_26 rfl ?_
        by_cases c8 : x0 ≤ x3
        · rw [if_pos c8] at H
          refine g_ic5t iX1_areApart_27 c8 ?_
          refine g_c iX1_areApart_44 ?_
          exact g_ri iX1_areApart_45 (by decide) H
        · rw [if_neg c8] at H
          refine g_ic5f iX1_areApart_27 c8 ?_
          refine g_il iX1_areApart_30 rfl ?_
          refine g_il iX1_areApart_31 rfl ?_
          by_cases c9 : x1 ≤ x2
          · rw [if_pos c9] at H
            refine g_ic5t iX1_areApart_32 c9 ?_
            refine g_c iX1_areApart_44 ?_
            exact g_ri iX1_areApart_45 (by decide) H
          · rw [if_neg c9] at H
            refine g_ic5f iX1_areApart_32 c9 ?_
            refine g_il iX1_areApart_35 rfl ?_
            refine g_il iX1_areApart_36 rfl ?_
            by_cases c10 : x1 ≤ x3
            · rw [if_pos c10] at H
              refine g_ic5t iX1_areApart_37 c10 ?_
              refine g_c iX1_areApart_44 ?_
              exact g_ri iX1_areApart_45 (by decide) H
            · rw [if_neg c10] at H
              refine g_ic5f iX1_areApart_37 c10 ?_
              refine g_c iX1_areApart_40 ?_
              refine g_goto iX1_areApart_41 ?_
              exact g_ri iX1_areApart_45 (by decide) H
    · rw [if_neg c6] at H
      refine g_ic3f iX1_areApart_7 c6 ?_
      refine g_il iX1_areApart_10 rfl ?_
      refine g_il iX1_areApart_11 rfl ?_
      by_cases c11 : x2 ≤ x1
      · rw [if_pos c11] at H
        refine g_ic3t iX1_areApart_12 c11 ?_
        refine g_il iX1_areApart_20 rfl ?_
        refine g_il iX1_areApart_21 rfl ?_
        by_cases c12 : x0 ≤ x2
        · rw [if_pos c12] at H
          refine g_ic5t iX1_areApart_22 c12 ?_
          refine g_c iX1_areApart_44 ?_
          exact g_ri iX1_areApart_45 (by decide) H
        · rw [if_neg c12] at H
          refine g_ic5f iX1_areApart_22 c12 ?_
          refine g_il iX1_areApart_25 rfl ?_
          refine g_il iX1_areApart_26 rfl ?_
          by_cases c13 : x0 ≤ x3
          · rw [if_pos c13] at H
            refine g_ic5t iX1_areApart_27 c13 ?_
            refine g_c iX1_areApart_44 ?_
            exact g_ri iX1_areApart_45 (by decide) H
          · rw [if_neg c13] at H
            refine g_ic5f iX1_areApart_27 c13 ?_
            refine g_il iX1_areApart_30 rfl ?_
            refine g_il iX1_areApart_31 rfl ?_
            by_cases c14 : x1 ≤ x2
            · rw [if_pos c14] at H
              refine g_ic5t iX1_areApart_32 c14 ?_
              refine g_c iX1_areApart_44 ?_
              exact g_ri iX1_areApart_45 (by decide) H
            · rw [if_neg c14] at H
              refine g_ic5f iX1_areApart_32 c14 ?_
              refine g_il iX1_areApart_35 rfl ?_
              refine g_il iX1_areApart_36 rfl ?_
              by_cases c15 : x1 ≤ x3
              · rw [if_pos c15] at H
                refine g_ic5t iX1_areApart_37 c15 ?_
                refine g_c iX1_areApart_44 ?_
                exact g_ri iX1_areApart_45 (by decide) H
              · rw [if_neg c15] at H
                refine g_ic5f iX1_areApart_37 c15 ?_
                refine g_c iX1_areApart_40 ?_
                refine g_goto iX1_areApart_41 ?_
                exact g_ri iX1_areApart_45 (by decide) H
      · rw [if_neg c11] at H
        refine g_ic3f iX1_areApart_12 c11 ?_
        refine g_il iX1_areApart_15 rfl ?_
        refine g_il iX1_areApart_16 rfl ?_
        by_cases c16 : x1 < x3
        · rw [if_pos c16] at H
          refine g_ic2t iX1_areApart_17 c16 ?_
          refine g_c iX1_areApart_40 ?_
          refine g_goto iX1_areApart_41 ?_
          exact g_ri iX1_areApart_45 (by decide) H
        · rw [if_neg c16] at H
          refine g_ic2f iX1_areApart_17 c16 ?_
          refine g_il iX1_areApart_20 rfl ?_
          refine g_il iX1_areApart_21 rfl ?_
          by_cases c17 : x0 ≤ x2
          · rw [if_pos c17] at H
            refine g_ic5t iX1_areApart_22 c17 ?_
            refine g_c iX1_areApart_44 ?_
            exact g_ri iX1_areApart_45 (by decide) H
          · rw [if_neg c17] at H
            refine g_ic5f iX1_areApart_22 c17 ?_
            refine g_il iX1_areApart_25 rfl ?_
            refine g_il iX1_areApart_26 rfl ?_
            by_cases c18 : x0 ≤ x3
            · rw [if_pos c18] at H
              refine g_ic5t iX1_areApart_27 c18 ?_
              refine g_c iX1_areApart_44 ?_
              exact g_ri iX1_areApart_45 (by decide) H
            · rw [if_neg c18] at H
              refine g_ic5f iX1_areApart_27 c18 ?_
              refine g_il iX1_areApart_30 rfl ?_
              refine g_il iX1_areApart_31 rfl ?_
              by_cases c19 : x1 ≤ x2
              · rw [if_pos c19] at H
                refine g_ic5t iX1_areApart_32 c19 ?_
                refine g_c iX1_areApart_44 ?_
                exact g_ri iX1_areApart_45 (by decide) H
              · rw [if_neg c19] at H
                refine g_ic5f iX1_areApart_32 c19 ?_
                refine g_il iX1_areApart_35 rfl ?_
                refine g_il iX1_areApart_36 rfl ?_
                by_cases c20 : x1 ≤ x3
                · rw [if_pos c20] at H
                  refine g_ic5t iX1_areApart_37 c20 ?_
                  refine g_c iX1_areApart_44 ?_
                  exact g_ri iX1_areApart_45 (by decide) H
                · rw [if_neg c20] at H
                  refine g_ic5f iX1_areApart_37 c20 ?_
                  refine g_c iX1_areApart_40 ?_
                  refine g_goto iX1_areApart_41 ?_
                  exact g_ri iX1_areApart_45 (by decide) H
set_option maxRecDepth 20000 in
set_option maxHeartbeats 4000000 in
theorem bX1_side (L d : Nat) (A0 : Nat) (hA0 : rx_isO 1 A0 = true) (x1 : Int) (x2 : Int) (x3 : Int) (σ : rx_St) (K : Int → rx_St → Prop)
    (H : (0 ≤ x2 ∧ x2 < 8) ∧ ((0 ≤ x1 ∧ x1 < 8) ∧ ((0 ≤ x3 ∧ x3 < 8) ∧ (K (rx_w ((rx_w ((rx_w ((σ (A0 + 1) x2) - (σ (A0 + 1) x1))) * (rx_w ((σ (A0 + 2) x3) - (σ (A0 + 2) x1))))) - (rx_w ((rx_w ((σ (A0 + 2) x2) - (σ (A0 + 2) x1))) * (rx_w ((σ (A0 + 1) x3) - (σ (A0 + 1) x1))))))) σ)))) :
    rx_CI L d mX1_side [.inr A0, .inl x1, .inl x2, .inl x3] σ K := by
  refine rx_CI.of (la := [some (.inr A0), some (.inl x1), some (.inl x2), some (.inl x3)]) rfl ?_
  refine g_al iX1_side_0 rfl ?_
  refine g_gr iX1_side_1 (fr_1_1 hA0) ?_
  refine g_il iX1_side_4 rfl ?_
  obtain ⟨o1, H⟩ := H
  refine g_ld iX1_side_5 (ln_1_o1 L hA0).1 o1 ?_
  refine g_al iX1_side_6 rfl ?_
  refine g_gr iX1_side_7 (fr_1_1 hA0) ?_
  refine g_il iX1_side_10 rfl ?_
  obtain ⟨o2, H⟩ := H
  refine g_ld iX1_side_11 (ln_1_o1 L hA0).1 o2 ?_
  refine g_sub iX1_side_12 ?_
  refine g_al iX1_side_13 rfl ?_
  refine g_gr iX1_side_14 (fr_1_2 hA0) ?_
  refine g_il iX1_side_17 rfl ?_
  obtain ⟨o3, H⟩ := H
  refine g_ld iX1_side_18 (ln_1_o2 L hA0).1 o3 ?_
  refine g_al iX1_side_19 rfl ?_
  refine g_gr iX1_side_20 (fr_1_2 hA0) ?_
  refine g_il iX1_side_23 rfl ?_
  refine g_ld iX1_side_24 (ln_1_o2 L hA0).1 o2 ?_
  refine g_sub iX1_side_25 ?_
  refine g_mul iX1_side_26 ?_
  refine g_al iX1_side_27 rfl ?_
  refine g_gr iX1_side_28 (fr_1_2 hA0) ?_
  refine g_il iX1_side_31 rfl ?_
  refine g_ld iX1_side_32 (ln_1_o2 L hA0).1 o1 ?_
  refine g_al iX1_side_33 rfl ?_
  refine g_gr iX1_side_34 (fr_1_2 hA0) ?_
  refine g_il iX1_side_37 rfl ?_
  refine g_ld iX1_side_38 (ln_1_o2 L hA0).1 o2 ?_
  refine g_sub iX1_side_39 ?_
  refine g_al iX1_side_40 rfl ?_
  refine g_gr iX1_side_41 (fr_1_1 hA0) ?_
  refine g_il iX1_side_44 rfl ?_
  refine g_ld iX1_side_45 (ln_1_o1 L hA0).1 o3 ?_
  refine g_al iX1_side_46 rfl ?_
  refine g_gr iX1_side_47 (fr_1_1 hA0) ?_
  refine g_il iX1_side_50 rfl ?_
  refine g_ld iX1_side_51 (ln_1_o1 L hA0).1 o2 ?_
  refine g_sub iX1_side_52 ?_
  refine g_mul iX1_side_53 ?_
  refine g_sub iX1_side_54 ?_
  exact g_ri iX1_side_55 (Or.inl rfl) H
set_option maxRecDepth 20000 in
set_option maxHeartbeats 4000000 in
theorem bX1_meetInLine (L d : Nat) (A0 : Nat) (hA0 : rx_isO 1 A0 = true) (x1 : Int) (x2 : Int) (σ : rx_St) (K : Int → rx_St → Prop)
    (H : (0 ≤ x1 ∧ x1 < 18) ∧ ((0 ≤ (σ (A0 + 7) x1) ∧ (σ (A0 + 7) x1) < 8) ∧ ((0 ≤ (σ (A0 + 8) x1) ∧ (σ (A0 + 8) x1) < 8) ∧ ((0 ≤ x2 ∧ x2 < 18) ∧ ((0 ≤ (σ (A0 + 7) x2) ∧ (σ (A0 + 7) x2) < 8) ∧ ((0 ≤ (σ (A0 + 8) x2) ∧ (σ (A0 + 8) x2) < 8) ∧ (if (σ (A0 + 5) (σ (A0 + 7) x2)) ≤ (rx_mn (σ (A0 + 5) (σ (A0 + 7) x1)) (σ (A0 + 5) (σ (A0 + 8) x1))) then (if (σ (A0 + 5) (σ (A0 + 8) x2)) ≤ (rx_mn (σ (A0 + 5) (σ (A0 + 7) x1)) (σ (A0 + 5) (σ (A0 + 8) x1))) then (K 0 σ) else (if (rx_mx (σ (A0 + 5) (σ (A0 + 7) x1)) (σ (A0 + 5) (σ (A0 + 8) x1))) ≤ (σ (A0 + 5) (σ (A0 + 8) x2)) then (K 0 σ) else (K 1 σ))) else (if (rx_mx (σ (A0 + 5) (σ (A0 + 7) x1)) (σ (A0 + 5) (σ (A0 + 8) x1))) ≤ (σ (A0 + 5) (σ (A0 + 7) x2)) then (if (σ (A0 + 5) (σ (A0 + 8) x2)) ≤ (rx_mn (σ (A0 + 5) (σ (A0 + 7) x1)) (σ (A0 + 5) (σ (A0 + 8) x1))) then (K 0 σ) else (if (rx_mx (σ (A0 + 5) (σ (A0 + 7) x1)) (σ (A0 + 5) (σ (A0 + 8) x1))) ≤ (σ (A0 + 5) (σ (A0 + 8) x2)) then (K 0 σ) else (K 1 σ))) else (if (σ (A0 + 5) (σ (A0 + 8) x2)) ≤ (rx_mn (σ (A0 + 5) (σ (A0 + 7) x1)) (σ (A0 + 5) (σ (A0 + 8) x1))) then (K 1 σ) else (if (rx_mx (σ (A0 + 5) (σ (A0 + 7) x1)) (σ (A0 + 5) (σ (A0 + 8) x1))) ≤ (σ (A0 + 5) (σ (A0 + 8) x2)) then (K 1 σ) else (K 0 σ))))))))))) :
    rx_CI L d mX1_meetInLine [.inr A0, .inl x1, .inl x2] σ K := by
  refine rx_CI.of (la := [some (.inr A0), some (.inl x1), some (.inl x2), none, none, none, none]) rfl ?_
  refine g_al iX1_meetInLine_0 rfl ?_
  refine g_gr iX1_meetInLine_1 (fr_1_5 hA0) ?_
  refine g_al iX1_meetInLine_4 rfl ?_
  refine g_gr iX1_meetInLine_5 (fr_1_8 hA0) ?_
  refine g_il iX1_meetInLine_8 rfl ?_
  obtain ⟨o1, H⟩ := H
  refine g_ld iX1_meetInLine_9 (ln_1_o7 L hA0).1 o1 ?_
  obtain ⟨o2, H⟩ := H
  refine g_ld iX1_meetInLine_10 (ln_1_o5 L hA0).1 o2 ?_
  refine g_al iX1_meetInLine_11 rfl ?_
  refine g_gr iX1_meetInLine_12 (fr_1_5 hA0) ?_
  refine g_al iX1_meetInLine_15 rfl ?_
  refine g_gr iX1_meetInLine_16 (fr_1_9 hA0) ?_
  refine g_il iX1_meetInLine_19 rfl ?_
  refine g_ld iX1_meetInLine_20 (ln_1_o8 L hA0).1 o1 ?_
  obtain ⟨o3, H⟩ := H
  refine g_ld iX1_meetInLine_21 (ln_1_o5 L hA0).1 o3 ?_
  refine g_mn iX1_meetInLine_22 (Nat.le_of_ble_eq_true rfl) ?_
  refine g_is iX1_meetInLine_25 (Nat.le_of_ble_eq_true rfl) ?_
  refine rx_Go.ls (la := [some (.inr A0), some (.inl x1), some (.inl x2), some (.inl (rx_mn (σ (A0 + 5) (σ (A0 + 7) x1)) (σ (A0 + 5) (σ (A0 + 8) x1)))), none, none, none]) rfl ?_
  refine g_al iX1_meetInLine_26 rfl ?_
  refine g_gr iX1_meetInLine_27 (fr_1_5 hA0) ?_
  refine g_al iX1_meetInLine_30 rfl ?_
  refine g_gr iX1_meetInLine_31 (fr_1_8 hA0) ?_
  refine g_il iX1_meetInLine_34 rfl ?_
  refine g_ld iX1_meetInLine_35 (ln_1_o7 L hA0).1 o1 ?_
  refine g_ld iX1_meetInLine_36 (ln_1_o5 L hA0).1 o2 ?_
  refine g_al iX1_meetInLine_37 rfl ?_
  refine g_gr iX1_meetInLine_38 (fr_1_5 hA0) ?_
  refine g_al iX1_meetInLine_41 rfl ?_
  refine g_gr iX1_meetInLine_42 (fr_1_9 hA0) ?_
  refine g_il iX1_meetInLine_45 rfl ?_
  refine g_ld iX1_meetInLine_46 (ln_1_o8 L hA0).1 o1 ?_
  refine g_ld iX1_meetInLine_47 (ln_1_o5 L hA0).1 o3 ?_
  refine g_mx iX1_meetInLine_48 (Nat.le_of_ble_eq_true rfl) ?_
  refine g_is iX1_meetInLine_51 (Nat.le_of_ble_eq_true rfl) ?_
  refine rx_Go.ls (la := [some (.inr A0), some (.inl x1), some (.inl x2), some (.inl (rx_mn (σ (A0 + 5) (σ (A0 + 7) x1)) (σ (A0 + 5) (σ (A0 + 8) x1)))), some (.inl (rx_mx (σ (A0 + 5) (σ (A0 + 7) x1)) (σ (A0 + 5) (σ (A0 + 8) x1)))), none, none]) rfl ?_
  refine g_al iX1_meetInLine_53 rfl ?_
  refine g_gr iX1_meetInLine_54 (fr_1_5 hA0) ?_
  refine g_al iX1_meetInLine_57 rfl ?_
  refine g_gr iX1_meetInLine_58 (fr_1_8 hA0) ?_
  refine g_il iX1_meetInLine_61 rfl ?_
  obtain ⟨o4, H⟩ := H
  refine g_ld iX1_meetInLine_62 (ln_1_o7 L hA0).1 o4 ?_
  obtain ⟨o5, H⟩ := H
  refine g_ld iX1_meetInLine_63 (ln_1_o5 L hA0).1 o5 ?_
  refine g_is iX1_meetInLine_64 (Nat.le_of_ble_eq_true rfl) ?_
  refine rx_Go.ls (la := [some (.inr A0), some (.inl x1), some (.inl x2), some (.inl (rx_mn (σ (A0 + 5) (σ (A0 + 7) x1)) (σ (A0 + 5) (σ (A0 + 8) x1)))), some (.inl (rx_mx (σ (A0 + 5) (σ (A0 + 7) x1)) (σ (A0 + 5) (σ (A0 + 8) x1)))), some (.inl (σ (A0 + 5) (σ (A0 + 7) x2))), none]) rfl ?_
  refine g_al iX1_meetInLine_66 rfl ?_
  refine g_gr iX1_meetInLine_67 (fr_1_5 hA0) ?_
  refine g_al iX1_meetInLine_70 rfl ?_
  refine g_gr iX1_meetInLine_71 (fr_1_9 hA0) ?_
  refine g_il iX1_meetInLine_74 rfl ?_
  refine g_ld iX1_meetInLine_75 (ln_1_o8 L hA0).1 o4 ?_
  obtain ⟨o6, H⟩ := H
  refine g_ld iX1_meetInLine_76 (ln_1_o5 L hA0).1 o6 ?_
  refine g_is iX1_meetInLine_77 (Nat.le_of_ble_eq_true rfl) ?_
  refine rx_Go.ls (la := [some (.inr A0), some (.inl x1), some (.inl x2), some (.inl (rx_mn (σ (A0 + 5) (σ (A0 + 7) x1)) (σ (A0 + 5) (σ (A0 + 8) x1)))), some (.inl (rx_mx (σ (A0 + 5) (σ (A0 + 7) x1)) (σ (A0 + 5) (σ (A0 + 8) x1)))), some (.inl (σ (A0 + 5) (σ (A0 + 7) x2))), some (.inl (σ (A0 + 5) (σ (A0 + 8) x2)))]) rfl ?_
  refine g_il iX1_meetInLine_79 rfl ?_
  refine g_il iX1_meetInLine_80 rfl ?_
  by_cases c7 : (σ (A0 + 5) (σ (A0 + 7) x2)) ≤ (rx_mn (σ (A0 + 5) (σ (A0 + 7) x1)) (σ (A0 + 5) (σ (A0 + 8) x1)))
  · rw [if_pos c7] at H
    refine g_ic3t iX1_meetInLine_82 c7 ?_
    refine g_c iX1_meetInLine_96 ?_
    refine g_il iX1_meetInLine_97 rfl ?_
    refine g_il iX1_meetInLine_98 rfl ?_
    by_cases c8 : (σ (A0 + 5) (σ (A0 + 8) x2)) ≤ (rx_mn (σ (A0 + 5) (σ (A0 + 7) x1)) (σ (A0 + 5) (σ (A0 + 8) x1)))
    · rw [if_pos c8] at H
      refine g_ic3t iX1_meetInLine_100 c8 ?_
      refine g_c iX1_meetInLine_114 ?_
      refine g_ic0t iX1_meetInLine_115 (by decide) ?_
      refine g_c iX1_meetInLine_122 ?_
      exact g_ri iX1_meetInLine_123 (by decide) H
    · rw [if_neg c8] at H
      refine g_ic3f iX1_meetInLine_100 c8 ?_
      refine g_il iX1_meetInLine_103 rfl ?_
      refine g_il iX1_meetInLine_105 rfl ?_
      by_cases c9 : (rx_mx (σ (A0 + 5) (σ (A0 + 7) x1)) (σ (A0 + 5) (σ (A0 + 8) x1))) ≤ (σ (A0 + 5) (σ (A0 + 8) x2))
      · rw [if_pos c9] at H
        refine g_ic3t iX1_meetInLine_107 c9 ?_
        refine g_c iX1_meetInLine_114 ?_
        refine g_ic0t iX1_meetInLine_115 (by decide) ?_
        refine g_c iX1_meetInLine_122 ?_
        exact g_ri iX1_meetInLine_123 (by decide) H
      · rw [if_neg c9] at H
        refine g_ic3f iX1_meetInLine_107 c9 ?_
        refine g_c iX1_meetInLine_110 ?_
        refine g_goto iX1_meetInLine_111 ?_
        refine g_ic0f iX1_meetInLine_115 (by decide) ?_
        refine g_c iX1_meetInLine_118 ?_
        refine g_goto iX1_meetInLine_119 ?_
        exact g_ri iX1_meetInLine_123 (by decide) H
  · rw [if_neg c7] at H
    refine g_ic3f iX1_meetInLine_82 c7 ?_
    refine g_il iX1_meetInLine_85 rfl ?_
    refine g_il iX1_meetInLine_87 rfl ?_
    by_cases c10 : (rx_mx (σ (A0 + 5) (σ (A0 + 7) x1)) (σ (A0 + 5) (σ (A0 + 8) x1))) ≤ (σ (A0 + 5) (σ (A0 + 7) x2))
    · rw [if_pos c10] at H
      refine g_ic3t iX1_meetInLine_89 c10 ?_
      refine g_c iX1_meetInLine_96 ?_
      refine g_il iX1_meetInLine_97 rfl ?_
      refine g_il iX1_meetInLine_98 rfl ?_
      by_cases c11 : (σ (A0 + 5) (σ (A0 + 8) x2)) ≤ (rx_mn (σ (A0 + 5) (σ (A0 + 7) x1)) (σ (A0 + 5) (σ (A0 + 8) x1)))
      · rw [if_pos c11] at H
        refine g_ic3t iX1_meetInLine_100 c11 ?_
        refine g_c iX1_meetInLine_114 ?_
        refine g_ic0t iX1_meetInLine_115 (by decide) ?_
        refine g_c iX1_meetInLine_122 ?_
        exact g_ri iX1_meetInLine_123 (by decide) H
      · rw [if_neg c11] at H
        refine g_ic3f iX1_meetInLine_100 c11 ?_
        refine g_il iX1_meetInLine_103 rfl ?_
        refine g_il iX1_meetInLine_105 rfl ?_
        by_cases c12 : (rx_mx (σ (A0 + 5) (σ (A0 + 7) x1)) (σ (A0 + 5) (σ (A0 + 8) x1))) ≤ (σ (A0 + 5) (σ (A0 + 8) x2))
        · rw [if_pos c12] at H
          refine g_ic3t iX1_meetInLine_107 c12 ?_
          refine g_c iX1_meetInLine_114 ?_
          refine g_ic0t iX1_meetInLine_115 (by decide) ?_
          refine g_c iX1_meetInLine_122 ?_
          exact g_ri iX1_meetInLine_123 (by decide) H
        · rw [if_neg c12] at H
          refine g_ic3f iX1_meetInLine_107 c12 ?_
          refine g_c iX1_meetInLine_110 ?_
          refine g_goto iX1_meetInLine_111 ?_
          refine g_ic0f iX1_meetInLine_115 (by decide) ?_
          refine g_c iX1_meetInLine_118 ?_
          refine g_goto iX1_meetInLine_119 ?_
          exact g_ri iX1_meetInLine_123 (by decide) H
    · rw [if_neg c10] at H
      refine g_ic3f iX1_meetInLine_89 c10 ?_
      refine g_c iX1_meetInLine_92 ?_
      refine g_goto iX1_meetInLine_93 ?_
      refine g_il iX1_meetInLine_97 rfl ?_
      refine g_il iX1_meetInLine_98 rfl ?_
      by_cases c13 : (σ (A0 + 5) (σ (A0 + 8) x2)) ≤ (rx_mn (σ (A0 + 5) (σ (A0 + 7) x1)) (σ (A0 + 5) (σ (A0 + 8) x1)))
      · rw [if_pos c13] at H
        refine g_ic3t iX1_meetInLine_100 c13 ?_
        refine g_c iX1_meetInLine_114 ?_
        refine g_ic0f iX1_meetInLine_115 (by decide) ?_
        refine g_c iX1_meetInLine_118 ?_
        refine g_goto iX1_meetInLine_119 ?_
        exact g_ri iX1_meetInLine_123 (by decide) H
      · rw [if_neg c13] at H
        refine g_ic3f iX1_meetInLine_100 c13 ?_
        refine g_il iX1_meetInLine_103 rfl ?_
        refine g_il iX1_meetInLine_105 rfl ?_
        by_cases c14 : (rx_mx (σ (A0 + 5) (σ (A0 + 7) x1)) (σ (A0 + 5) (σ (A0 + 8) x1))) ≤ (σ (A0 + 5) (σ (A0 + 8) x2))
        · rw [if_pos c14] at H
          refine g_ic3t iX1_meetInLine_107 c14 ?_
          refine g_c iX1_meetInLine_114 ?_
          refine g_ic0f iX1_meetInLine_115 (by decide) ?_
          refine g_c iX1_meetInLine_118 ?_
          refine g_goto iX1_meetInLine_119 ?_
          exact g_ri iX1_meetInLine_123 (by decide) H
        · rw [if_neg c14] at H
          refine g_ic3f iX1_meetInLine_107 c14 ?_
          refine g_c iX1_meetInLine_110 ?_
          refine g_goto iX1_meetInLine_111 ?_
          refine g_ic0t iX1_meetInLine_115 (by decide) ?_
          refine g_c iX1_meetInLine_122 ?_
          exact g_ri iX1_meetInLine_123 (by decide) H
set_option maxRecDepth 20000 in
set_option maxHeartbeats 4000000 in
theorem bX1_meetInLayers (L d : Nat) (A0 : Nat) (hA0 : rx_isO 1 A0 = true) (x1 : Int) (x2 : Int) (σ : rx_St) (K : Int → rx_St → Prop)
    (H : rx_CI L d mX1_upperLayer [.inr A0, .inl x1] σ (fun v2 σ1 => if v2 < 0 then (K 0 σ1) else (rx_CI L d mX1_upperLayer [.inr A0, .inl x2] σ1 (fun v5 σ4 => if v2 = v5 then (rx_CI L d mX1_endIn [.inr A0, .inl x1, .inl v2] σ4 (fun v8 σ7 => (0 ≤ v8 ∧ v8 < 8) ∧ (rx_CI L d mX1_endIn [.inr A0, .inl x2, .inl v2] σ7 (fun v11 σ10 => (0 ≤ v11 ∧ v11 < 8) ∧ (rx_CI L d mX1_endIn [.inr A0, .inl x1, .inl (rx_w (v2 + 1))] σ10 (fun v14 σ13 => (0 ≤ v14 ∧ v14 < 8) ∧ (rx_CI L d mX1_endIn [.inr A0, .inl x2, .inl (rx_w (v2 + 1))] σ13 (fun v17 σ16 => (0 ≤ v17 ∧ v17 < 8) ∧ (if 0 ≤ (rx_w ((σ7 (A0 + 5) v8) - (σ10 (A0 + 5) v11))) then (if 0 ≤ (rx_w ((σ13 (A0 + 5) v14) - (σ16 (A0 + 5) v17))) then (K 0 σ16) else (K 1 σ16)) else (if 0 ≤ (rx_w ((σ13 (A0 + 5) v14) - (σ16 (A0 + 5) v17))) then (K 1 σ16) else (K 0 σ16))))))))))) else (K 0 σ4))))) :
    rx_CI L (d + 1) mX1_meetInLayers [.inr A0, .inl x1, .inl x2] σ K := by
  refine rx_CI.of (la := [some (.inr A0), some (.inl x1), some (.inl x2), none, none, none]) rfl ?_
  refine g_al iX1_meetInLayers_0 rfl ?_
  refine g_il iX1_meetInLayers_1 rfl ?_
  refine g_ci (as := [.inr A0, .inl x1]) (rest := []) iX1_meetInLayers_2 rfl rfl (Nat.le_of_ble_eq_true rfl) (Or.inr ⟨_, _, rfl, hA0⟩) (rx_CI.imp H (fun v2 σ1 H => ?_))
  refine g_is iX1_meetInLayers_5 (Nat.le_of_ble_eq_true rfl) ?_
  refine rx_Go.ls (la := [some (.inr A0), some (.inl x1), some (.inl x2), some (.inl v2), none, none]) rfl ?_
  refine g_il iX1_meetInLayers_6 rfl ?_
  by_cases c3 : v2 < 0
  · rw [if_pos c3] at H
    refine g_if2t iX1_meetInLayers_7 c3 ?_
    refine g_c iX1_meetInLayers_19 ?_
    exact g_ri iX1_meetInLayers_20 (by decide) H
  · rw [if_neg c3] at H
    refine g_if2f iX1_meetInLayers_7 c3 ?_
    refine g_il iX1_meetInLayers_10 rfl ?_
    refine g_al iX1_meetInLayers_11 rfl ?_
    refine g_il iX1_meetInLayers_12 rfl ?_
    refine g_ci (as := [.inr A0, .inl x2]) (rest := [.inl v2]) iX1_meetInLayers_13 rfl rfl (Nat.le_of_ble_eq_true rfl) (Or.inr ⟨_, _, rfl, hA0⟩) (rx_CI.imp H (fun v5 σ4 H => ?_))
    by_cases c6 : v2 = v5
    · rw [if_pos c6] at H
      refine g_ic0t iX1_meetInLayers_16 c6 ?_
      refine g_al iX1_meetInLayers_21 rfl ?_
      refine g_gr iX1_meetInLayers_22 (fr_1_5 hA0) ?_
      refine g_al iX1_meetInLayers_25 rfl ?_
      refine g_il iX1_meetInLayers_26 rfl ?_
      refine g_il iX1_meetInLayers_27 rfl ?_
      refine g_ci (as := [.inr A0, .inl x1, .inl v2]) (rest := [.inr (A0 + 5)]) iX1_meetInLayers_28 rfl rfl (Nat.le_of_ble_eq_true rfl) (Or.inr ⟨_, _, rfl, hA0⟩) (rx_CI.imp H (fun v8 σ7 H => ?_))
      obtain ⟨o9, H⟩ := H
      refine g_ld iX1_meetInLayers_31 (ln_1_o5 L hA0).1 o9 ?_
      refine g_al iX1_meetInLayers_32 rfl ?_
      refine g_gr iX1_meetInLayers_33 (fr_1_5 hA0) ?_
      refine g_al iX1_meetInLayers_36 rfl ?_
      refine g_il iX1_meetInLayers_37 rfl ?_
      refine g_il iX1_meetInLayers_38 rfl ?_
      refine g_ci (as := [.inr A0, .inl x2, .inl v2]) (rest := [.inr (A0 + 5), .inl (σ7 (A0 + 5) v8)]) iX1_meetInLayers_39 rfl rfl (Nat.le_of_ble_eq_true rfl) (Or.inr ⟨_, _, rfl, hA0⟩) (rx_CI.imp H (fun v11 σ10 H => ?_))
      obtain ⟨o12, H⟩ := H
      refine g_ld iX1_meetInLayers_42 (ln_1_o5 L hA0).1 o12 ?_
      refine g_sub iX1_meetInLayers_43 ?_
      refine g_is iX1_meetInLayers_44 (Nat.le_of_ble_eq_true rfl) ?_
      refine rx_Go.ls (la := [some (.inr A0), some (.inl x1), some (.inl x2), some (.inl v2), some (.inl (rx_w ((σ7 (A0 + 5) v8) - (σ10 (A0 + 5) v11)))), none]) rfl ?_
      refine g_al iX1_meetInLayers_46 rfl ?_
      refine g_gr iX1_meetInLayers_47 (fr_1_5 hA0) ?_
      refine g_al iX1_meetInLayers_50 rfl ?_
      refine g_il iX1_meetInLayers_51 rfl ?_
      refine g_il iX1_meetInLayers_52 rfl ?_
      refine g_c iX1_meetInLayers_53 ?_
      refine g_add iX1_meetInLayers_54 ?_
      refine g_ci (as := [.inr A0, .inl x1, .inl (rx_w (v2 + 1))]) (rest := [.inr (A0 + 5)]) iX1_meetInLayers_55 rfl rfl (Nat.le_of_ble_eq_true rfl) (Or.inr ⟨_, _, rfl, hA0⟩) (rx_CI.imp H (fun v14 σ13 H => ?_))
      obtain ⟨o15, H⟩ := H
      refine g_ld iX1_meetInLayers_58 (ln_1_o5 L hA0).1 o15 ?_
      refine g_al iX1_meetInLayers_59 rfl ?_
      refine g_gr iX1_meetInLayers_60 (fr_1_5 hA0) ?_
      refine g_al iX1_meetInLayers_63 rfl ?_
      refine g_il iX1_meetInLayers_64 rfl ?_
      refine g_il iX1_meetInLayers_65 rfl ?_
      refine g_c iX1_meetInLayers_66 ?_
      refine g_add iX1_meetInLayers_67 ?_
      refine g_ci (as := [.inr A0, .inl x2, .inl (rx_w (v2 + 1))]) (rest := [.inr (A0 + 5), .inl (σ13 (A0 + 5) v14)]) iX1_meetInLayers_68 rfl rfl (Nat.le_of_ble_eq_true rfl) (Or.inr ⟨_, _, rfl, hA0⟩) (rx_CI.imp H (fun v17 σ16 H => ?_))
      obtain ⟨o18, H⟩ := H
      refine g_ld iX1_meetInLayers_71 (ln_1_o5 L hA0).1 o18 ?_
      refine g_sub iX1_meetInLayers_72 ?_
      refine g_is iX1_meetInLayers_73 (Nat.le_of_ble_eq_true rfl) ?_
      refine rx_Go.ls (la := [some (.inr A0), some (.inl x1), some (.inl x2), some (.inl v2), some (.inl (rx_w ((σ7 (A0 + 5) v8) - (σ10 (A0 + 5) v11)))), some (.inl (rx_w ((σ13 (A0 + 5) v14) - (σ16 (A0 + 5) v17))))]) rfl ?_
      refine g_il iX1_meetInLayers_75 rfl ?_
      by_cases c19 : 0 ≤ (rx_w ((σ7 (A0 + 5) v8) - (σ10 (A0 + 5) v11)))
      · rw [if_pos c19] at H
        refine g_if3t iX1_meetInLayers_77 c19 ?_
        refine g_c iX1_meetInLayers_84 ?_
        refine g_il iX1_meetInLayers_85 rfl ?_
        by_cases c20 : 0 ≤ (rx_w ((σ13 (A0 + 5) v14) - (σ16 (A0 + 5) v17)))
        · rw [if_pos c20] at H
          refine g_if3t iX1_meetInLayers_87 c20 ?_
          refine g_c iX1_meetInLayers_94 ?_
          refine g_ic0t iX1_meetInLayers_95 (by decide) ?_
          refine g_c iX1_meetInLayers_102 ?_
          exact g_ri iX1_meetInLayers_103 (by decide) H
        · rw [if_neg c20] at H
          refine g_if3f iX1_meetInLayers_87 c20 ?_
          refine g_c iX1_meetInLayers_90 ?_
          refine g_goto iX1_meetInLayers_91 ?_
          refine g_ic0f iX1_meetInLayers_95 (by decide) ?_
          refine g_c iX1_meetInLayers_98 ?_
          refine g_goto iX1_meetInLayers_99 ?_
          exact g_ri iX1_meetInLayers_103 (by decide) H
      · rw [if_neg c19] at H
        refine g_if3f iX1_meetInLayers_77 c19 ?_
        refine g_c iX1_meetInLayers_80 ?_
        refine g_goto iX1_meetInLayers_81 ?_
        refine g_il iX1_meetInLayers_85 rfl ?_
        by_cases c21 : 0 ≤ (rx_w ((σ13 (A0 + 5) v14) - (σ16 (A0 + 5) v17)))
        · rw [if_pos c21] at H
          refine g_if3t iX1_meetInLayers_87 c21 ?_
          refine g_c iX1_meetInLayers_94 ?_
          refine g_ic0f iX1_meetInLayers_95 (by decide) ?_
          refine g_c iX1_meetInLayers_98 ?_
          refine g_goto iX1_meetInLayers_99 ?_
          exact g_ri iX1_meetInLayers_103 (by decide) H
        · rw [if_neg c21] at H
          refine g_if3f iX1_meetInLayers_87 c21 ?_
          refine g_c iX1_meetInLayers_90 ?_
          refine g_goto iX1_meetInLayers_91 ?_
          refine g_ic0t iX1_meetInLayers_95 (by decide) ?_
          refine g_c iX1_meetInLayers_102 ?_
          exact g_ri iX1_meetInLayers_103 (by decide) H
    · rw [if_neg c6] at H
      refine g_ic0f iX1_meetInLayers_16 c6 ?_
      refine g_c iX1_meetInLayers_19 ?_
      exact g_ri iX1_meetInLayers_20 (by decide) H
set_option maxRecDepth 20000 in
set_option maxHeartbeats 4000000 in
theorem bX1_upperLayer (L d : Nat) (A0 : Nat) (hA0 : rx_isO 1 A0 = true) (x1 : Int) (σ : rx_St) (K : Int → rx_St → Prop)
    (H : (0 ≤ x1 ∧ x1 < 18) ∧ ((0 ≤ (σ (A0 + 7) x1) ∧ (σ (A0 + 7) x1) < 8) ∧ ((0 ≤ (σ (A0 + 8) x1) ∧ (σ (A0 + 8) x1) < 8) ∧ (if (rx_ab (rx_w ((σ (A0 + 3) (σ (A0 + 7) x1)) - (σ (A0 + 3) (σ (A0 + 8) x1))))) ≠ 1 then (K (-1) σ) else (K (rx_mn (σ (A0 + 3) (σ (A0 + 7) x1)) (σ (A0 + 3) (σ (A0 + 8) x1))) σ))))) :
    rx_CI L d mX1_upperLayer [.inr A0, .inl x1] σ K := by
  refine rx_CI.of (la := [some (.inr A0), some (.inl x1), none, none]) rfl ?_
  refine g_al iX1_upperLayer_0 rfl ?_
  refine g_gr iX1_upperLayer_1 (fr_1_3 hA0) ?_
  refine g_al iX1_upperLayer_4 rfl ?_
  refine g_gr iX1_upperLayer_5 (fr_1_8 hA0) ?_
  refine g_il iX1_upperLayer_8 rfl ?_
  obtain ⟨o1, H⟩ := H
  refine g_ld iX1_upperLayer_9 (ln_1_o7 L hA0).1 o1 ?_
  obtain ⟨o2, H⟩ := H
  refine g_ld iX1_upperLayer_10 (ln_1_o3 L hA0).1 o2 ?_
  refine g_is iX1_upperLayer_11 (Nat.le_of_ble_eq_true rfl) ?_
  refine rx_Go.ls (la := [some (.inr A0), some (.inl x1), some (.inl (σ (A0 + 3) (σ (A0 + 7) x1))), none]) rfl ?_
  refine g_al iX1_upperLayer_12 rfl ?_
  refine g_gr iX1_upperLayer_13 (fr_1_3 hA0) ?_
  refine g_al iX1_upperLayer_16 rfl ?_
  refine g_gr iX1_upperLayer_17 (fr_1_9 hA0) ?_
  refine g_il iX1_upperLayer_20 rfl ?_
  refine g_ld iX1_upperLayer_21 (ln_1_o8 L hA0).1 o1 ?_
  obtain ⟨o3, H⟩ := H
  refine g_ld iX1_upperLayer_22 (ln_1_o3 L hA0).1 o3 ?_
  refine g_is iX1_upperLayer_23 (Nat.le_of_ble_eq_true rfl) ?_
  refine rx_Go.ls (la := [some (.inr A0), some (.inl x1), some (.inl (σ (A0 + 3) (σ (A0 + 7) x1))), some (.inl (σ (A0 + 3) (σ (A0 + 8) x1)))]) rfl ?_
  refine g_il iX1_upperLayer_24 rfl ?_
  refine g_il iX1_upperLayer_25 rfl ?_
  refine g_sub iX1_upperLayer_26 ?_
  refine g_ab iX1_upperLayer_27 (Nat.le_of_ble_eq_true rfl) ?_
  refine g_c iX1_upperLayer_30 ?_
  by_cases c4 : (rx_ab (rx_w ((σ (A0 + 3) (σ (A0 + 7) x1)) - (σ (A0 + 3) (σ (A0 + 8) x1))))) ≠ 1
  · rw [if_pos c4] at H
    refine g_ic1t iX1_upperLayer_31 c4 ?_
    refine g_c iX1_upperLayer_42 ?_
    exact g_ri iX1_upperLayer_43 (Or.inl rfl) H
  · rw [if_neg c4] at H
    refine g_ic1f iX1_upperLayer_31 c4 ?_
    refine g_il iX1_upperLayer_34 rfl ?_
    refine g_il iX1_upperLayer_35 rfl ?_
    refine g_mn iX1_upperLayer_36 (Nat.le_of_ble_eq_true rfl) ?_
    refine g_goto iX1_upperLayer_39 ?_
    exact g_ri iX1_upperLayer_43 (Or.inl rfl) H
set_option maxRecDepth 20000 in
set_option maxHeartbeats 4000000 in
theorem bX1_endIn (L d : Nat) (A0 : Nat) (hA0 : rx_isO 1 A0 = true) (x1 : Int) (x2 : Int) (σ : rx_St) (K : Int → rx_St → Prop)
    (H : (0 ≤ x1 ∧ x1 < 18) ∧ ((0 ≤ (σ (A0 + 7) x1) ∧ (σ (A0 + 7) x1) < 8) ∧ (if (σ (A0 + 3) (σ (A0 + 7) x1)) ≠ x2 then (K (σ (A0 + 8) x1) σ) else (K (σ (A0 + 7) x1) σ)))) :
    rx_CI L d mX1_endIn [.inr A0, .inl x1, .inl x2] σ K := by
  refine rx_CI.of (la := [some (.inr A0), some (.inl x1), some (.inl x2)]) rfl ?_
  refine g_al iX1_endIn_0 rfl ?_
  refine g_gr iX1_endIn_1 (fr_1_3 hA0) ?_
  refine g_al iX1_endIn_4 rfl ?_
  refine g_gr iX1_endIn_5 (fr_1_8 hA0) ?_
  refine g_il iX1_endIn_8 rfl ?_
  obtain ⟨o1, H⟩ := H
  refine g_ld iX1_endIn_9 (ln_1_o7 L hA0).1 o1 ?_
  obtain ⟨o2, H⟩ := H
  refine g_ld iX1_endIn_10 (ln_1_o3 L hA0).1 o2 ?_
  refine g_il iX1_endIn_11 rfl ?_
  by_cases c3 : (σ (A0 + 3) (σ (A0 + 7) x1)) ≠ x2
  · rw [if_pos c3] at H
    refine g_ic1t iX1_endIn_12 c3 ?_
    refine g_al iX1_endIn_24 rfl ?_
    refine g_gr iX1_endIn_25 (fr_1_9 hA0) ?_
    refine g_il iX1_endIn_28 rfl ?_
    refine g_ld iX1_endIn_29 (ln_1_o8 L hA0).1 o1 ?_
    exact g_ri iX1_endIn_30 (Or.inl rfl) H
  · rw [if_neg c3] at H
    refine g_ic1f iX1_endIn_12 c3 ?_
    refine g_al iX1_endIn_15 rfl ?_
    refine g_gr iX1_endIn_16 (fr_1_8 hA0) ?_
    refine g_il iX1_endIn_19 rfl ?_
    refine g_ld iX1_endIn_20 (ln_1_o7 L hA0).1 o1 ?_
    refine g_goto iX1_endIn_21 ?_
    exact g_ri iX1_endIn_30 (Or.inl rfl) H
