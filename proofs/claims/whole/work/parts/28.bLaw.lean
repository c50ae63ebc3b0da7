theorem tbL_law : rx_tab.getD mL_law [] = rt_L_law := rfl
theorem ndL_law : rx_inc rt_L_law = true := by decide +kernel
theorem lmL_law_0 {x : Nat × rx_I} (h : x ∈ rt_L_law_0) : x ∈ rt_L_law := List.mem_append_left _ h
theorem lmL_law_1 {x : Nat × rx_I} (h : x ∈ rt_L_law_1) : x ∈ rt_L_law := List.mem_append_right _ (List.mem_append_left _ h)
theorem lmL_law_2 {x : Nat × rx_I} (h : x ∈ rt_L_law_2) : x ∈ rt_L_law := List.mem_append_right _ (List.mem_append_right _ (List.mem_append_left _ h))
theorem lmL_law_3 {x : Nat × rx_I} (h : x ∈ rt_L_law_3) : x ∈ rt_L_law := List.mem_append_right _ (List.mem_append_right _ (List.mem_append_right _ (List.mem_append_left _ h)))
theorem lmL_law_4 {x : Nat × rx_I} (h : x ∈ rt_L_law_4) : x ∈ rt_L_law := List.mem_append_right _ (List.mem_append_right _ (List.mem_append_right _ (List.mem_append_right _ (List.mem_append_left _ h))))
theorem lmL_law_5 {x : Nat × rx_I} (h : x ∈ rt_L_law_5) : x ∈ rt_L_law := List.mem_append_right _ (List.mem_append_right _ (List.mem_append_right _ (List.mem_append_right _ (List.mem_append_right _ (List.mem_append_left _ h)))))
theorem lmL_law_6 {x : Nat × rx_I} (h : x ∈ rt_L_law_6) : x ∈ rt_L_law := List.mem_append_right _ (List.mem_append_right _ (List.mem_append_right _ (List.mem_append_right _ (List.mem_append_right _ (List.mem_append_right _ (List.mem_append_left _ h))))))
theorem lmL_law_7 {x : Nat × rx_I} (h : x ∈ rt_L_law_7) : x ∈ rt_L_law := List.mem_append_right _ (List.mem_append_right _ (List.mem_append_right _ (List.mem_append_right _ (List.mem_append_right _ (List.mem_append_right _ (List.mem_append_right _ (List.mem_append_left _ h)))))))
theorem lmL_law_8 {x : Nat × rx_I} (h : x ∈ rt_L_law_8) : x ∈ rt_L_law := List.mem_append_right _ (List.mem_append_right _ (List.mem_append_right _ (List.mem_append_right _ (List.mem_append_right _ (List.mem_append_right _ (List.mem_append_right _ (List.mem_append_right _ (List.mem_append_left _ h))))))))
theorem lmL_law_9 {x : Nat × rx_I} (h : x ∈ rt_L_law_9) : x ∈ rt_L_law := List.mem_append_right _ (List.mem_append_right _ (List.mem_append_right _ (List.mem_append_right _ (List.mem_append_right _ (List.mem_append_right _ (List.mem_append_right _ (List.mem_append_right _ (List.mem_append_right _ (List.mem_append_left _ h)))))))))
theorem lmL_law_10 {x : Nat × rx_I} (h : x ∈ rt_L_law_10) : x ∈ rt_L_law := List.mem_append_right _ (List.mem_append_right _ (List.mem_append_right _ (List.mem_append_right _ (List.mem_append_right _ (List.mem_append_right _ (List.mem_append_right _ (List.mem_append_right _ (List.mem_append_right _ (List.mem_append_right _ (List.mem_append_left _ h))))))))))
theorem lmL_law_11 {x : Nat × rx_I} (h : x ∈ rt_L_law_11) : x ∈ rt_L_law := List.mem_append_right _ (List.mem_append_right _ (List.mem_append_right _ (List.mem_append_right _ (List.mem_append_right _ (List.mem_append_right _ (List.mem_append_right _ (List.mem_append_right _ (List.mem_append_right _ (List.mem_append_right _ (List.mem_append_right _ (List.mem_append_left _ h)))))))))))
theorem lmL_law_12 {x : Nat × rx_I} (h : x ∈ rt_L_law_12) : x ∈ rt_L_law := List.mem_append_right _ (List.mem_append_right _ (List.mem_append_right _ (List.mem_append_right _ (List.mem_append_right _ (List.mem_append_right _ (List.mem_append_right _ (List.mem_append_right _ (List.mem_append_right _ (List.mem_append_right _ (List.mem_append_right _ (List.mem_append_right _ (List.mem_append_left _ h))))))))))))
theorem lmL_law_13 {x : Nat × rx_I} (h : x ∈ rt_L_law_13) : x ∈ rt_L_law := List.mem_append_right _ (List.mem_append_right _ (List.mem_append_right _ (List.mem_append_right _ (List.mem_append_right _ (List.mem_append_right _ (List.mem_append_right _ (List.mem_append_right _ (List.mem_append_right _ (List.mem_append_right _ (List.mem_append_right _ (List.mem_append_right _ (List.mem_append_right _ (List.mem_append_left _ h)))))))))))))
theorem lmL_law_14 {x : Nat × rx_I} (h : x ∈ rt_L_law_14) : x ∈ rt_L_law := List.mem_append_right _ (List.mem_append_right _ (List.mem_append_right _ (List.mem_append_right _ (List.mem_append_right _ (List.mem_append_right _ (List.mem_append_right _ (List.mem_append_right _ (List.mem_append_right _ (List.mem_append_right _ (List.mem_append_right _ (List.mem_append_right _ (List.mem_append_right _ (List.mem_append_right _ (List.mem_append_left _ h))))))))))))))
theorem lmL_law_15 {x : Nat × rx_I} (h : x ∈ rt_L_law_15) : x ∈ rt_L_law := List.mem_append_right _ (List.mem_append_right _ (List.mem_append_right _ (List.mem_append_right _ (List.mem_append_right _ (List.mem_append_right _ (List.mem_append_right _ (List.mem_append_right _ (List.mem_append_right _ (List.mem_append_right _ (List.mem_append_right _ (List.mem_append_right _ (List.mem_append_right _ (List.mem_append_right _ (List.mem_append_right _ (List.mem_append_left _ h)))))))))))))))
theorem lmL_law_16 {x : Nat × rx_I} (h : x ∈ rt_L_law_16) : x ∈ rt_L_law := List.mem_append_right _ (List.mem_append_right _ (List.mem_append_right _ (List.mem_append_right _ (List.mem_append_right _ (List.mem_append_right _ (List.mem_append_right _ (List.mem_append_right _ (List.mem_append_right _ (List.mem_append_right _ (List.mem_append_right _ (List.mem_append_right _ (List.mem_append_right _ (List.mem_append_right _ (List.mem_append_right _ (List.mem_append_right _ (List.mem_append_left _ h))))))))))))))))
theorem lmL_law_17 {x : Nat × rx_I} (h : x ∈ rt_L_law_17) : x ∈ rt_L_law := List.mem_append_right _ (List.mem_append_right _ (List.mem_append_right _ (List.mem_append_right _ (List.mem_append_right _ (List.mem_append_right _ (List.mem_append_right _ (List.mem_append_right _ (List.mem_append_right _ (List.mem_append_right _ (List.mem_append_right _ (List.mem_append_right _ (List.mem_append_right _ (List.mem_append_right _ (List.mem_append_right _ (List.mem_append_right _ (List.mem_append_right _ (List.mem_append_left _ h)))))))))))))))))
theorem lmL_law_18 {x : Nat × rx_I} (h : x ∈ rt_L_law_18) : x ∈ rt_L_law := List.mem_append_right _ (List.mem_append_right _ (List.mem_append_right _ (List.mem_append_right _ (List.mem_append_right _ (List.mem_append_right _ (List.mem_append_right _ (List.mem_append_right _ (List.mem_append_right _ (List.mem_append_right _ (List.mem_append_right _ (List.mem_append_right _ (List.mem_append_right _ (List.mem_append_right _ (List.mem_append_right _ (List.mem_append_right _ (List.mem_append_right _ (List.mem_append_right _ (List.mem_append_left _ h))))))))))))))))))
theorem lmL_law_19 {x : Nat × rx_I} (h : x ∈ rt_L_law_19) : x ∈ rt_L_law := List.mem_append_right _ (List.mem_append_right _ (List.mem_append_right _ (List.mem_append_right _ (List.mem_append_right _ (List.mem_append_right _ (List.mem_append_right _ (List.mem_append_right _ (List.mem_append_right _ (List.mem_append_right _ (List.mem_append_right _ (List.mem_append_right _ (List.mem_append_right _ (List.mem_append_right _ (List.mem_append_right _ (List.mem_append_right _ (List.mem_append_right _ (List.mem_append_right _ (List.mem_append_right _ (List.mem_append_left _ h)))))))))))))))))))
theorem lmL_law_20 {x : Nat × rx_I} (h : x ∈ rt_L_law_20) : x ∈ rt_L_law := List.mem_append_right _ (List.mem_append_right _ (List.mem_append_right _ (List.mem_append_right _ (List.mem_append_right _ (List.mem_append_right _ (List.mem_append_right _ (List.mem_append_right _ (List.mem_append_right _ (List.mem_append_right _ (List.mem_append_right _ (List.mem_append_right _ (List.mem_append_right _ (List.mem_append_right _ (List.mem_append_right _ (List.mem_append_right _ (List.mem_append_right _ (List.mem_append_right _ (List.mem_append_right _ (List.mem_append_right _ (List.mem_append_left _ h))))))))))))))))))))
theorem lmL_law_21 {x : Nat × rx_I} (h : x ∈ rt_L_law_21) : x ∈ rt_L_law := List.mem_append_right _ (List.mem_append_right _ (List.mem_append_right _ (List.mem_append_right _ (List.mem_append_right _ (List.mem_append_right _ (List.mem_append_right _ (List.mem_append_right _ (List.mem_append_right _ (List.mem_append_right _ (List.mem_append_right _ (List.mem_append_right _ (List.mem_append_right _ (List.mem_append_right _ (List.mem_append_right _ (List.mem_append_right _ (List.mem_append_right _ (List.mem_append_right _ (List.mem_append_right _ (List.mem_append_right _ (List.mem_append_right _ (List.mem_append_left _ h)))))))))))))))))))))
theorem lmL_law_22 {x : Nat × rx_I} (h : x ∈ rt_L_law_22) : x ∈ rt_L_law := List.mem_append_right _ (List.mem_append_right _ (List.mem_append_right _ (List.mem_append_right _ (List.mem_append_right _ (List.mem_append_right _ (List.mem_append_right _ (List.mem_append_right _ (List.mem_append_right _ (List.mem_append_right _ (List.mem_append_right _ (List.mem_append_right _ (List.mem_append_right _ (List.mem_append_right _ (List.mem_append_right _ (List.mem_append_right _ (List.mem_append_right _ (List.mem_append_right _ (List.mem_append_right _ (List.mem_append_right _ (List.mem_append_right _ (List.mem_append_right _ (List.mem_append_left _ h))))))))))))))))))))))
theorem lmL_law_23 {x : Nat × rx_I} (h : x ∈ rt_L_law_23) : x ∈ rt_L_law := List.mem_append_right _ (List.mem_append_right _ (List.mem_append_right _ (List.mem_append_right _ (List.mem_append_right _ (List.mem_append_right _ (List.mem_append_right _ (List.mem_append_right _ (List.mem_append_right _ (List.mem_append_right _ (List.mem_append_right _ (List.mem_append_right _ (List.mem_append_right _ (List.mem_append_right _ (List.mem_append_right _ (List.mem_append_right _ (List.mem_append_right _ (List.mem_append_right _ (List.mem_append_right _ (List.mem_append_right _ (List.mem_append_right _ (List.mem_append_right _ (List.mem_append_right _ (List.mem_append_left _ h)))))))))))))))))))))))
theorem lmL_law_24 {x : Nat × rx_I} (h : x ∈ rt_L_law_24) : x ∈ rt_L_law := List.mem_append_right _ (List.mem_append_right _ (List.mem_append_right _ (List.mem_append_right _ (List.mem_append_right _ (List.mem_append_right _ (List.mem_append_right _ (List.mem_append_right _ (List.mem_append_right _ (List.mem_append_right _ (List.mem_append_right _ (List.mem_append_right _ (List.mem_append_right _ (List.mem_append_right _ (List.mem_append_right _ (List.mem_append_right _ (List.mem_append_right _ (List.mem_append_right _ (List.mem_append_right _ (List.mem_append_right _ (List.mem_append_right _ (List.mem_append_right _ (List.mem_append_right _ (List.mem_append_right _ (List.mem_append_left _ h))))))))))))))))))))))))
theorem lmL_law_25 {x : Nat × rx_I} (h : x ∈ rt_L_law_25) : x ∈ rt_L_law := List.mem_append_right _ (List.mem_append_right _ (List.mem_append_right _ (List.mem_append_right _ (List.mem_append_right _ (List.mem_append_right _ (List.mem_append_right _ (List.mem_append_right _ (List.mem_append_right _ (List.mem_append_right _ (List.mem_append_right _ (List.mem_append_right _ (List.mem_append_right _ (List.mem_append_right _ (List.mem_append_right _ (List.mem_append_right _ (List.mem_append_right _ (List.mem_append_right _ (List.mem_append_right _ (List.mem_append_right _ (List.mem_append_right _ (List.mem_append_right _ (List.mem_append_right _ (List.mem_append_right _ (List.mem_append_right _ (h)))))))))))))))))))))))))
theorem iL_law_18 : rx_ins mL_law 18 = some (2, 19, 0, 3, 0, []) := rx_atm tbL_law ndL_law (lmL_law_0 (List.mem_of_getElem? (i := 6) rfl))
theorem iL_law_19 : rx_ins mL_law 19 = some (3, 20, 0, 0, 0, []) := rx_atm tbL_law ndL_law (lmL_law_0 (List.mem_of_getElem? (i := 7) rfl))
theorem iL_law_20 : rx_ins mL_law 20 = some (23, 21, 0, 0, 0, []) := rx_atm tbL_law ndL_law (lmL_law_0 (List.mem_of_getElem? (i := 8) rfl))
theorem iL_law_21 : rx_ins mL_law 21 = some (1, 23, 6, 1, 0, []) := rx_atm tbL_law ndL_law (lmL_law_0 (List.mem_of_getElem? (i := 9) rfl))
theorem iL_law_23 : rx_ins mL_law 23 = some (7, 24, 0, 1, 0, []) := rx_atm tbL_law ndL_law (lmL_law_0 (List.mem_of_getElem? (i := 10) rfl))
theorem iL_law_24 : rx_ins mL_law 24 = some (14, 27, 1471, 4, 1495, []) := rx_atm tbL_law ndL_law (lmL_law_0 (List.mem_of_getElem? (i := 11) rfl))
theorem iL_law_1495 : rx_ins mL_law 1495 = some (1, 1496, 1, 0, 0, []) := rx_atm tbL_law ndL_law (lmL_law_25 (List.mem_of_getElem? (i := 31) rfl))
theorem iL_law_1496 : rx_ins mL_law 1496 = some (29, 1497, 1, 0, 0, []) := rx_atm tbL_law ndL_law (lmL_law_25 (List.mem_of_getElem? (i := 32) rfl))
theorem iL_law_27 : rx_ins mL_law 27 = some (3, 28, 0, 0, 0, []) := rx_atm tbL_law ndL_law (lmL_law_0 (List.mem_of_getElem? (i := 12) rfl))
theorem iL_law_28 : rx_ins mL_law 28 = some (2, 29, 0, 3, 0, []) := rx_atm tbL_law ndL_law (lmL_law_0 (List.mem_of_getElem? (i := 13) rfl))
theorem iL_law_29 : rx_ins mL_law 29 = some (20, 30, 0, 0, 0, []) := rx_atm tbL_law ndL_law (lmL_law_0 (List.mem_of_getElem? (i := 14) rfl))
theorem iL_law_30 : rx_ins mL_law 30 = some (1, 32, 63, 1, 0, []) := rx_atm tbL_law ndL_law (lmL_law_0 (List.mem_of_getElem? (i := 15) rfl))
theorem iL_law_32 : rx_ins mL_law 32 = some (7, 33, 0, 3, 0, []) := rx_atm tbL_law ndL_law (lmL_law_0 (List.mem_of_getElem? (i := 16) rfl))
theorem iL_law_33 : rx_ins mL_law 33 = some (16, 220, 0, 0, 1489, [(0, 220), (1, 253), (2, 286), (3, 329), (4, 362), (5, 405), (6, 438), (7, 471), (8, 504), (9, 547), (10, 570), (11, 603), (12, 626), (13, 639), (14, 672), (15, 695), (16, 718), (17, 741), (18, 764), (19, 787), (20, 810), (21, 833), (22, 856), (23, 889), (24, 922), (25, 945), (26, 988), (27, 1011), (28, 1024), (29, 1057), (30, 1080), (31, 1123), (32, 1166), (33, 1189), (34, 1252), (35, 1295), (36, 1328), (37, 1361), (38, 1394), (39, 1417), (40, 1440), (41, 1453), (42, 1466)]) := rx_atm tbL_law ndL_law (lmL_law_0 (List.mem_of_getElem? (i := 17) rfl))
theorem iL_law_220 : rx_ins mL_law 220 = some (3, 221, 0, 1, 0, []) := rx_atm tbL_law ndL_law (lmL_law_0 (List.mem_of_getElem? (i := 18) rfl))
theorem iL_law_221 : rx_ins mL_law 221 = some (3, 222, 0, 0, 0, []) := rx_atm tbL_law ndL_law (lmL_law_0 (List.mem_of_getElem? (i := 19) rfl))
theorem iL_law_222 : rx_ins mL_law 222 = some (2, 223, 0, 3, 0, []) := rx_atm tbL_law ndL_law (lmL_law_0 (List.mem_of_getElem? (i := 20) rfl))
theorem iL_law_223 : rx_ins mL_law 223 = some (1, 224, 1, 0, 0, []) := rx_atm tbL_law ndL_law (lmL_law_0 (List.mem_of_getElem? (i := 21) rfl))
theorem iL_law_224 : rx_ins mL_law 224 = some (7, 225, 0, 0, 0, []) := rx_atm tbL_law ndL_law (lmL_law_0 (List.mem_of_getElem? (i := 22) rfl))
theorem iL_law_225 : rx_ins mL_law 225 = some (20, 226, 0, 0, 0, []) := rx_atm tbL_law ndL_law (lmL_law_0 (List.mem_of_getElem? (i := 23) rfl))
theorem iL_law_226 : rx_ins mL_law 226 = some (3, 227, 0, 0, 0, []) := rx_atm tbL_law ndL_law (lmL_law_0 (List.mem_of_getElem? (i := 24) rfl))
theorem iL_law_227 : rx_ins mL_law 227 = some (2, 228, 0, 3, 0, []) := rx_atm tbL_law ndL_law (lmL_law_0 (List.mem_of_getElem? (i := 25) rfl))
theorem iL_law_228 : rx_ins mL_law 228 = some (1, 229, 2, 0, 0, []) := rx_atm tbL_law ndL_law (lmL_law_0 (List.mem_of_getElem? (i := 26) rfl))
theorem iL_law_229 : rx_ins mL_law 229 = some (7, 230, 0, 0, 0, []) := rx_atm tbL_law ndL_law (lmL_law_0 (List.mem_of_getElem? (i := 27) rfl))
theorem iL_law_230 : rx_ins mL_law 230 = some (20, 231, 0, 0, 0, []) := rx_atm tbL_law ndL_law (lmL_law_0 (List.mem_of_getElem? (i := 28) rfl))
theorem iL_law_231 : rx_ins mL_law 231 = some (28, 234, 12, 76, 3, [(13, 0)]) := rx_atm tbL_law ndL_law (lmL_law_0 (List.mem_of_getElem? (i := 29) rfl))
theorem iL_law_234 : rx_ins mL_law 234 = some (3, 235, 0, 2, 0, []) := rx_atm tbL_law ndL_law (lmL_law_0 (List.mem_of_getElem? (i := 30) rfl))
theorem iL_law_235 : rx_ins mL_law 235 = some (3, 236, 0, 0, 0, []) := rx_atm tbL_law ndL_law (lmL_law_0 (List.mem_of_getElem? (i := 31) rfl))
theorem iL_law_236 : rx_ins mL_law 236 = some (2, 237, 0, 3, 0, []) := rx_atm tbL_law ndL_law (lmL_law_0 (List.mem_of_getElem? (i := 32) rfl))
theorem iL_law_237 : rx_ins mL_law 237 = some (1, 238, 1, 0, 0, []) := rx_atm tbL_law ndL_law (lmL_law_0 (List.mem_of_getElem? (i := 33) rfl))
theorem iL_law_238 : rx_ins mL_law 238 = some (7, 239, 0, 0, 0, []) := rx_atm tbL_law ndL_law (lmL_law_0 (List.mem_of_getElem? (i := 34) rfl))
theorem iL_law_239 : rx_ins mL_law 239 = some (20, 240, 0, 0, 0, []) := rx_atm tbL_law ndL_law (lmL_law_0 (List.mem_of_getElem? (i := 35) rfl))
theorem iL_law_240 : rx_ins mL_law 240 = some (3, 241, 0, 0, 0, []) := rx_atm tbL_law ndL_law (lmL_law_0 (List.mem_of_getElem? (i := 36) rfl))
theorem iL_law_241 : rx_ins mL_law 241 = some (2, 242, 0, 3, 0, []) := rx_atm tbL_law ndL_law (lmL_law_0 (List.mem_of_getElem? (i := 37) rfl))
theorem iL_law_242 : rx_ins mL_law 242 = some (1, 243, 2, 0, 0, []) := rx_atm tbL_law ndL_law (lmL_law_0 (List.mem_of_getElem? (i := 38) rfl))
theorem iL_law_243 : rx_ins mL_law 243 = some (7, 244, 0, 0, 0, []) := rx_atm tbL_law ndL_law (lmL_law_0 (List.mem_of_getElem? (i := 39) rfl))
theorem iL_law_244 : rx_ins mL_law 244 = some (20, 245, 0, 0, 0, []) := rx_atm tbL_law ndL_law (lmL_law_1 (List.mem_of_getElem? (i := 0) rfl))
theorem iL_law_245 : rx_ins mL_law 245 = some (28, 248, 13, 147, 3, [(17, 1)]) := rx_atm tbL_law ndL_law (lmL_law_1 (List.mem_of_getElem? (i := 1) rfl))
theorem iL_law_248 : rx_ins mL_law 248 = some (14, 251, 1241, 0, 1489, []) := rx_atm tbL_law ndL_law (lmL_law_1 (List.mem_of_getElem? (i := 2) rfl))
theorem iL_law_1489 : rx_ins mL_law 1489 = some (6, 1492, 6, 3, 0, []) := rx_atm tbL_law ndL_law (lmL_law_25 (List.mem_of_getElem? (i := 29) rfl))
theorem iL_law_1492 : rx_ins mL_law 1492 = some (15, 1495, (-1474), 0, 18, []) := rx_atm tbL_law ndL_law (lmL_law_25 (List.mem_of_getElem? (i := 30) rfl))
theorem iL_law_251 : rx_ins mL_law 251 = some (1, 252, 0, 0, 0, []) := rx_atm tbL_law ndL_law (lmL_law_1 (List.mem_of_getElem? (i := 3) rfl))
theorem iL_law_252 : rx_ins mL_law 252 = some (29, 253, 1, 0, 0, []) := rx_atm tbL_law ndL_law (lmL_law_1 (List.mem_of_getElem? (i := 4) rfl))
theorem iL_law_253 : rx_ins mL_law 253 = some (3, 254, 0, 1, 0, []) := rx_atm tbL_law ndL_law (lmL_law_1 (List.mem_of_getElem? (i := 5) rfl))
theorem iL_law_254 : rx_ins mL_law 254 = some (3, 255, 0, 0, 0, []) := rx_atm tbL_law ndL_law (lmL_law_1 (List.mem_of_getElem? (i := 6) rfl))
theorem iL_law_255 : rx_ins mL_law 255 = some (2, 256, 0, 3, 0, []) := rx_atm tbL_law ndL_law (lmL_law_1 (List.mem_of_getElem? (i := 7) rfl))
theorem iL_law_256 : rx_ins mL_law 256 = some (1, 257, 1, 0, 0, []) := rx_atm tbL_law ndL_law (lmL_law_1 (List.mem_of_getElem? (i := 8) rfl))
theorem iL_law_257 : rx_ins mL_law 257 = some (7, 258, 0, 0, 0, []) := rx_atm tbL_law ndL_law (lmL_law_1 (List.mem_of_getElem? (i := 9) rfl))
theorem iL_law_258 : rx_ins mL_law 258 = some (20, 259, 0, 0, 0, []) := rx_atm tbL_law ndL_law (lmL_law_1 (List.mem_of_getElem? (i := 10) rfl))
theorem iL_law_259 : rx_ins mL_law 259 = some (3, 260, 0, 0, 0, []) := rx_atm tbL_law ndL_law (lmL_law_1 (List.mem_of_getElem? (i := 11) rfl))
theorem iL_law_260 : rx_ins mL_law 260 = some (2, 261, 0, 3, 0, []) := rx_atm tbL_law ndL_law (lmL_law_1 (List.mem_of_getElem? (i := 12) rfl))
theorem iL_law_261 : rx_ins mL_law 261 = some (1, 262, 2, 0, 0, []) := rx_atm tbL_law ndL_law (lmL_law_1 (List.mem_of_getElem? (i := 13) rfl))
theorem iL_law_262 : rx_ins mL_law 262 = some (7, 263, 0, 0, 0, []) := rx_atm tbL_law ndL_law (lmL_law_1 (List.mem_of_getElem? (i := 14) rfl))
theorem iL_law_263 : rx_ins mL_law 263 = some (20, 264, 0, 0, 0, []) := rx_atm tbL_law ndL_law (lmL_law_1 (List.mem_of_getElem? (i := 15) rfl))
theorem iL_law_264 : rx_ins mL_law 264 = some (28, 267, 12, 77, 3, [(18, 2)]) := rx_atm tbL_law ndL_law (lmL_law_1 (List.mem_of_getElem? (i := 16) rfl))
theorem iL_law_267 : rx_ins mL_law 267 = some (3, 268, 0, 2, 0, []) := rx_atm tbL_law ndL_law (lmL_law_1 (List.mem_of_getElem? (i := 17) rfl))
theorem iL_law_268 : rx_ins mL_law 268 = some (3, 269, 0, 0, 0, []) := rx_atm tbL_law ndL_law (lmL_law_1 (List.mem_of_getElem? (i := 18) rfl))
theorem iL_law_269 : rx_ins mL_law 269 = some (2, 270, 0, 3, 0, []) := rx_atm tbL_law ndL_law (lmL_law_1 (List.mem_of_getElem? (i := 19) rfl))
theorem iL_law_270 : rx_ins mL_law 270 = some (1, 271, 1, 0, 0, []) := rx_atm tbL_law ndL_law (lmL_law_1 (List.mem_of_getElem? (i := 20) rfl))
theorem iL_law_271 : rx_ins mL_law 271 = some (7, 272, 0, 0, 0, []) := rx_atm tbL_law ndL_law (lmL_law_1 (List.mem_of_getElem? (i := 21) rfl))
theorem iL_law_272 : rx_ins mL_law 272 = some (20, 273, 0, 0, 0, []) := rx_atm tbL_law ndL_law (lmL_law_1 (List.mem_of_getElem? (i := 22) rfl))
theorem iL_law_273 : rx_ins mL_law 273 = some (3, 274, 0, 0, 0, []) := rx_atm tbL_law ndL_law (lmL_law_1 (List.mem_of_getElem? (i := 23) rfl))
theorem iL_law_274 : rx_ins mL_law 274 = some (2, 275, 0, 3, 0, []) := rx_atm tbL_law ndL_law (lmL_law_1 (List.mem_of_getElem? (i := 24) rfl))
theorem iL_law_275 : rx_ins mL_law 275 = some (1, 276, 2, 0, 0, []) := rx_atm tbL_law ndL_law (lmL_law_1 (List.mem_of_getElem? (i := 25) rfl))
theorem iL_law_276 : rx_ins mL_law 276 = some (7, 277, 0, 0, 0, []) := rx_atm tbL_law ndL_law (lmL_law_1 (List.mem_of_getElem? (i := 26) rfl))
theorem iL_law_277 : rx_ins mL_law 277 = some (20, 278, 0, 0, 0, []) := rx_atm tbL_law ndL_law (lmL_law_1 (List.mem_of_getElem? (i := 27) rfl))
theorem iL_law_278 : rx_ins mL_law 278 = some (28, 281, 13, 150, 3, [(21, 3)]) := rx_atm tbL_law ndL_law (lmL_law_1 (List.mem_of_getElem? (i := 28) rfl))
theorem iL_law_281 : rx_ins mL_law 281 = some (14, 284, 1208, 0, 1489, []) := rx_atm tbL_law ndL_law (lmL_law_1 (List.mem_of_getElem? (i := 29) rfl))
theorem iL_law_284 : rx_ins mL_law 284 = some (1, 285, 0, 0, 0, []) := rx_atm tbL_law ndL_law (lmL_law_1 (List.mem_of_getElem? (i := 30) rfl))
theorem iL_law_285 : rx_ins mL_law 285 = some (29, 286, 1, 0, 0, []) := rx_atm tbL_law ndL_law (lmL_law_1 (List.mem_of_getElem? (i := 31) rfl))
theorem iL_law_286 : rx_ins mL_law 286 = some (3, 287, 0, 1, 0, []) := rx_atm tbL_law ndL_law (lmL_law_1 (List.mem_of_getElem? (i := 32) rfl))
theorem iL_law_287 : rx_ins mL_law 287 = some (3, 288, 0, 0, 0, []) := rx_atm tbL_law ndL_law (lmL_law_1 (List.mem_of_getElem? (i := 33) rfl))
theorem iL_law_288 : rx_ins mL_law 288 = some (2, 289, 0, 3, 0, []) := rx_atm tbL_law ndL_law (lmL_law_1 (List.mem_of_getElem? (i := 34) rfl))
theorem iL_law_289 : rx_ins mL_law 289 = some (1, 290, 1, 0, 0, []) := rx_atm tbL_law ndL_law (lmL_law_1 (List.mem_of_getElem? (i := 35) rfl))
theorem iL_law_290 : rx_ins mL_law 290 = some (7, 291, 0, 0, 0, []) := rx_atm tbL_law ndL_law (lmL_law_1 (List.mem_of_getElem? (i := 36) rfl))
theorem iL_law_291 : rx_ins mL_law 291 = some (20, 292, 0, 0, 0, []) := rx_atm tbL_law ndL_law (lmL_law_1 (List.mem_of_getElem? (i := 37) rfl))
theorem iL_law_292 : rx_ins mL_law 292 = some (3, 293, 0, 0, 0, []) := rx_atm tbL_law ndL_law (lmL_law_1 (List.mem_of_getElem? (i := 38) rfl))
theorem iL_law_293 : rx_ins mL_law 293 = some (2, 294, 0, 3, 0, []) := rx_atm tbL_law ndL_law (lmL_law_1 (List.mem_of_getElem? (i := 39) rfl))
theorem iL_law_294 : rx_ins mL_law 294 = some (1, 295, 2, 0, 0, []) := rx_atm tbL_law ndL_law (lmL_law_2 (List.mem_of_getElem? (i := 0) rfl))
theorem iL_law_295 : rx_ins mL_law 295 = some (7, 296, 0, 0, 0, []) := rx_atm tbL_law ndL_law (lmL_law_2 (List.mem_of_getElem? (i := 1) rfl))
theorem iL_law_296 : rx_ins mL_law 296 = some (20, 297, 0, 0, 0, []) := rx_atm tbL_law ndL_law (lmL_law_2 (List.mem_of_getElem? (i := 2) rfl))
theorem iL_law_297 : rx_ins mL_law 297 = some (3, 298, 0, 0, 0, []) := rx_atm tbL_law ndL_law (lmL_law_2 (List.mem_of_getElem? (i := 3) rfl))
theorem iL_law_298 : rx_ins mL_law 298 = some (2, 299, 0, 3, 0, []) := rx_atm tbL_law ndL_law (lmL_law_2 (List.mem_of_getElem? (i := 4) rfl))
theorem iL_law_299 : rx_ins mL_law 299 = some (1, 300, 3, 0, 0, []) := rx_atm tbL_law ndL_law (lmL_law_2 (List.mem_of_getElem? (i := 5) rfl))
theorem iL_law_300 : rx_ins mL_law 300 = some (7, 301, 0, 0, 0, []) := rx_atm tbL_law ndL_law (lmL_law_2 (List.mem_of_getElem? (i := 6) rfl))
theorem iL_law_301 : rx_ins mL_law 301 = some (20, 302, 0, 0, 0, []) := rx_atm tbL_law ndL_law (lmL_law_2 (List.mem_of_getElem? (i := 7) rfl))
theorem iL_law_302 : rx_ins mL_law 302 = some (28, 305, 12, 78, 4, [(22, 4)]) := rx_atm tbL_law ndL_law (lmL_law_2 (List.mem_of_getElem? (i := 8) rfl))
theorem iL_law_305 : rx_ins mL_law 305 = some (3, 306, 0, 2, 0, []) := rx_atm tbL_law ndL_law (lmL_law_2 (List.mem_of_getElem? (i := 9) rfl))
theorem iL_law_306 : rx_ins mL_law 306 = some (3, 307, 0, 0, 0, []) := rx_atm tbL_law ndL_law (lmL_law_2 (List.mem_of_getElem? (i := 10) rfl))
theorem iL_law_307 : rx_ins mL_law 307 = some (2, 308, 0, 3, 0, []) := rx_atm tbL_law ndL_law (lmL_law_2 (List.mem_of_getElem? (i := 11) rfl))
theorem iL_law_308 : rx_ins mL_law 308 = some (1, 309, 1, 0, 0, []) := rx_atm tbL_law ndL_law (lmL_law_2 (List.mem_of_getElem? (i := 12) rfl))
theorem iL_law_309 : rx_ins mL_law 309 = some (7, 310, 0, 0, 0, []) := rx_atm tbL_law ndL_law (lmL_law_2 (List.mem_of_getElem? (i := 13) rfl))
theorem iL_law_310 : rx_ins mL_law 310 = some (20, 311, 0, 0, 0, []) := rx_atm tbL_law ndL_law (lmL_law_2 (List.mem_of_getElem? (i := 14) rfl))
theorem iL_law_311 : rx_ins mL_law 311 = some (3, 312, 0, 0, 0, []) := rx_atm tbL_law ndL_law (lmL_law_2 (List.mem_of_getElem? (i := 15) rfl))
theorem iL_law_312 : rx_ins mL_law 312 = some (2, 313, 0, 3, 0, []) := rx_atm tbL_law ndL_law (lmL_law_2 (List.mem_of_getElem? (i := 16) rfl))
theorem iL_law_313 : rx_ins mL_law 313 = some (1, 314, 2, 0, 0, []) := rx_atm tbL_law ndL_law (lmL_law_2 (List.mem_of_getElem? (i := 17) rfl))
theorem iL_law_314 : rx_ins mL_law 314 = some (7, 315, 0, 0, 0, []) := rx_atm tbL_law ndL_law (lmL_law_2 (List.mem_of_getElem? (i := 18) rfl))
theorem iL_law_315 : rx_ins mL_law 315 = some (20, 316, 0, 0, 0, []) := rx_atm tbL_law ndL_law (lmL_law_2 (List.mem_of_getElem? (i := 19) rfl))
theorem iL_law_316 : rx_ins mL_law 316 = some (3, 317, 0, 0, 0, []) := rx_atm tbL_law ndL_law (lmL_law_2 (List.mem_of_getElem? (i := 20) rfl))
theorem iL_law_317 : rx_ins mL_law 317 = some (2, 318, 0, 3, 0, []) := rx_atm tbL_law ndL_law (lmL_law_2 (List.mem_of_getElem? (i := 21) rfl))
theorem iL_law_318 : rx_ins mL_law 318 = some (1, 319, 3, 0, 0, []) := rx_atm tbL_law ndL_law (lmL_law_2 (List.mem_of_getElem? (i := 22) rfl))
theorem iL_law_319 : rx_ins mL_law 319 = some (7, 320, 0, 0, 0, []) := rx_atm tbL_law ndL_law (lmL_law_2 (List.mem_of_getElem? (i := 23) rfl))
theorem iL_law_320 : rx_ins mL_law 320 = some (20, 321, 0, 0, 0, []) := rx_atm tbL_law ndL_law (lmL_law_2 (List.mem_of_getElem? (i := 24) rfl))
theorem iL_law_321 : rx_ins mL_law 321 = some (28, 324, 13, 151, 4, [(26, 5)]) := rx_atm tbL_law ndL_law (lmL_law_2 (List.mem_of_getElem? (i := 25) rfl))
theorem iL_law_324 : rx_ins mL_law 324 = some (14, 327, 1165, 0, 1489, []) := rx_atm tbL_law ndL_law (lmL_law_2 (List.mem_of_getElem? (i := 26) rfl))
theorem iL_law_327 : rx_ins mL_law 327 = some (1, 328, 0, 0, 0, []) := rx_atm tbL_law ndL_law (lmL_law_2 (List.mem_of_getElem? (i := 27) rfl))
theorem iL_law_328 : rx_ins mL_law 328 = some (29, 329, 1, 0, 0, []) := rx_atm tbL_law ndL_law (lmL_law_2 (List.mem_of_getElem? (i := 28) rfl))
theorem iL_law_329 : rx_ins mL_law 329 = some (3, 330, 0, 1, 0, []) := rx_atm tbL_law ndL_law (lmL_law_2 (List.mem_of_getElem? (i := 29) rfl))
theorem iL_law_330 : rx_ins mL_law 330 = some (3, 331, 0, 0, 0, []) := rx_atm tbL_law ndL_law (lmL_law_2 (List.mem_of_getElem? (i := 30) rfl))
theorem iL_law_331 : rx_ins mL_law 331 = some (2, 332, 0, 3, 0, []) := rx_atm tbL_law ndL_law (lmL_law_2 (List.mem_of_getElem? (i := 31) rfl))
theorem iL_law_332 : rx_ins mL_law 332 = some (1, 333, 1, 0, 0, []) := rx_atm tbL_law ndL_law (lmL_law_2 (List.mem_of_getElem? (i := 32) rfl))
theorem iL_law_333 : rx_ins mL_law 333 = some (7, 334, 0, 0, 0, []) := rx_atm tbL_law ndL_law (lmL_law_2 (List.mem_of_getElem? (i := 33) rfl))
theorem iL_law_334 : rx_ins mL_law 334 = some (20, 335, 0, 0, 0, []) := rx_atm tbL_law ndL_law (lmL_law_2 (List.mem_of_getElem? (i := 34) rfl))
theorem iL_law_335 : rx_ins mL_law 335 = some (3, 336, 0, 0, 0, []) := rx_atm tbL_law ndL_law (lmL_law_2 (List.mem_of_getElem? (i := 35) rfl))
theorem iL_law_336 : rx_ins mL_law 336 = some (2, 337, 0, 3, 0, []) := rx_atm tbL_law ndL_law (lmL_law_2 (List.mem_of_getElem? (i := 36) rfl))
theorem iL_law_337 : rx_ins mL_law 337 = some (1, 338, 2, 0, 0, []) := rx_atm tbL_law ndL_law (lmL_law_2 (List.mem_of_getElem? (i := 37) rfl))
theorem iL_law_338 : rx_ins mL_law 338 = some (7, 339, 0, 0, 0, []) := rx_atm tbL_law ndL_law (lmL_law_2 (List.mem_of_getElem? (i := 38) rfl))
theorem iL_law_339 : rx_ins mL_law 339 = some (20, 340, 0, 0, 0, []) := rx_atm tbL_law ndL_law (lmL_law_2 (List.mem_of_getElem? (i := 39) rfl))
theorem iL_law_340 : rx_ins mL_law 340 = some (28, 343, 12, 79, 3, [(27, 6)]) := rx_atm tbL_law ndL_law (lmL_law_3 (List.mem_of_getElem? (i := 0) rfl))
theorem iL_law_343 : rx_ins mL_law 343 = some (3, 344, 0, 2, 0, []) := rx_atm tbL_law ndL_law (lmL_law_3 (List.mem_of_getElem? (i := 1) rfl))
theorem iL_law_344 : rx_ins mL_law 344 = some (3, 345, 0, 0, 0, []) := rx_atm tbL_law ndL_law (lmL_law_3 (List.mem_of_getElem? (i := 2) rfl))
theorem iL_law_345 : rx_ins mL_law 345 = some (2, 346, 0, 3, 0, []) := rx_atm tbL_law ndL_law (lmL_law_3 (List.mem_of_getElem? (i := 3) rfl))
theorem iL_law_346 : rx_ins mL_law 346 = some (1, 347, 1, 0, 0, []) := rx_atm tbL_law ndL_law (lmL_law_3 (List.mem_of_getElem? (i := 4) rfl))
theorem iL_law_347 : rx_ins mL_law 347 = some (7, 348, 0, 0, 0, []) := rx_atm tbL_law ndL_law (lmL_law_3 (List.mem_of_getElem? (i := 5) rfl))
theorem iL_law_348 : rx_ins mL_law 348 = some (20, 349, 0, 0, 0, []) := rx_atm tbL_law ndL_law (lmL_law_3 (List.mem_of_getElem? (i := 6) rfl))
theorem iL_law_349 : rx_ins mL_law 349 = some (3, 350, 0, 0, 0, []) := rx_atm tbL_law ndL_law (lmL_law_3 (List.mem_of_getElem? (i := 7) rfl))
theorem iL_law_350 : rx_ins mL_law 350 = some (2, 351, 0, 3, 0, []) := rx_atm tbL_law ndL_law (lmL_law_3 (List.mem_of_getElem? (i := 8) rfl))
theorem iL_law_351 : rx_ins mL_law 351 = some (1, 352, 2, 0, 0, []) := rx_atm tbL_law ndL_law (lmL_law_3 (List.mem_of_getElem? (i := 9) rfl))
theorem iL_law_352 : rx_ins mL_law 352 = some (7, 353, 0, 0, 0, []) := rx_atm tbL_law ndL_law (lmL_law_3 (List.mem_of_getElem? (i := 10) rfl))
theorem iL_law_353 : rx_ins mL_law 353 = some (20, 354, 0, 0, 0, []) := rx_atm tbL_law ndL_law (lmL_law_3 (List.mem_of_getElem? (i := 11) rfl))
theorem iL_law_354 : rx_ins mL_law 354 = some (28, 357, 13, 152, 3, [(30, 7)]) := rx_atm tbL_law ndL_law (lmL_law_3 (List.mem_of_getElem? (i := 12) rfl))
theorem iL_law_357 : rx_ins mL_law 357 = some (14, 360, 1132, 0, 1489, []) := rx_atm tbL_law ndL_law (lmL_law_3 (List.mem_of_getElem? (i := 13) rfl))
theorem iL_law_360 : rx_ins mL_law 360 = some (1, 361, 0, 0, 0, []) := rx_atm tbL_law ndL_law (lmL_law_3 (List.mem_of_getElem? (i := 14) rfl))
theorem iL_law_361 : rx_ins mL_law 361 = some (29, 362, 1, 0, 0, []) := rx_atm tbL_law ndL_law (lmL_law_3 (List.mem_of_getElem? (i := 15) rfl))
theorem iL_law_362 : rx_ins mL_law 362 = some (3, 363, 0, 1, 0, []) := rx_atm tbL_law ndL_law (lmL_law_3 (List.mem_of_getElem? (i := 16) rfl))
theorem iL_law_363 : rx_ins mL_law 363 = some (3, 364, 0, 0, 0, []) := rx_atm tbL_law ndL_law (lmL_law_3 (List.mem_of_getElem? (i := 17) rfl))
theorem iL_law_364 : rx_ins mL_law 364 = some (2, 365, 0, 3, 0, []) := rx_atm tbL_law ndL_law (lmL_law_3 (List.mem_of_getElem? (i := 18) rfl))
theorem iL_law_365 : rx_ins mL_law 365 = some (1, 366, 1, 0, 0, []) := rx_atm tbL_law ndL_law (lmL_law_3 (List.mem_of_getElem? (i := 19) rfl))
theorem iL_law_366 : rx_ins mL_law 366 = some (7, 367, 0, 0, 0, []) := rx_atm tbL_law ndL_law (lmL_law_3 (List.mem_of_getElem? (i := 20) rfl))
theorem iL_law_367 : rx_ins mL_law 367 = some (20, 368, 0, 0, 0, []) := rx_atm tbL_law ndL_law (lmL_law_3 (List.mem_of_getElem? (i := 21) rfl))
theorem iL_law_368 : rx_ins mL_law 368 = some (3, 369, 0, 0, 0, []) := rx_atm tbL_law ndL_law (lmL_law_3 (List.mem_of_getElem? (i := 22) rfl))
theorem iL_law_369 : rx_ins mL_law 369 = some (2, 370, 0, 3, 0, []) := rx_atm tbL_law ndL_law (lmL_law_3 (List.mem_of_getElem? (i := 23) rfl))
theorem iL_law_370 : rx_ins mL_law 370 = some (1, 371, 2, 0, 0, []) := rx_atm tbL_law ndL_law (lmL_law_3 (List.mem_of_getElem? (i := 24) rfl))
theorem iL_law_371 : rx_ins mL_law 371 = some (7, 372, 0, 0, 0, []) := rx_atm tbL_law ndL_law (lmL_law_3 (List.mem_of_getElem? (i := 25) rfl))
theorem iL_law_372 : rx_ins mL_law 372 = some (20, 373, 0, 0, 0, []) := rx_atm tbL_law ndL_law (lmL_law_3 (List.mem_of_getElem? (i := 26) rfl))
theorem iL_law_373 : rx_ins mL_law 373 = some (3, 374, 0, 0, 0, []) := rx_atm tbL_law ndL_law (lmL_law_3 (List.mem_of_getElem? (i := 27) rfl))
theorem iL_law_374 : rx_ins mL_law 374 = some (2, 375, 0, 3, 0, []) := rx_atm tbL_law ndL_law (lmL_law_3 (List.mem_of_getElem? (i := 28) rfl))
theorem iL_law_375 : rx_ins mL_law 375 = some (1, 376, 3, 0, 0, []) := rx_atm tbL_law ndL_law (lmL_law_3 (List.mem_of_getElem? (i := 29) rfl))
theorem iL_law_376 : rx_ins mL_law 376 = some (7, 377, 0, 0, 0, []) := rx_atm tbL_law ndL_law (lmL_law_3 (List.mem_of_getElem? (i := 30) rfl))
theorem iL_law_377 : rx_ins mL_law 377 = some (20, 378, 0, 0, 0, []) := rx_atm tbL_law ndL_law (lmL_law_3 (List.mem_of_getElem? (i := 31) rfl))
theorem iL_law_378 : rx_ins mL_law 378 = some (28, 381, 12, 80, 4, [(31, 8)]) := rx_atm tbL_law ndL_law (lmL_law_3 (List.mem_of_getElem? (i := 32) rfl))
theorem iL_law_381 : rx_ins mL_law 381 = some (3, 382, 0, 2, 0, []) := rx_atm tbL_law ndL_law (lmL_law_3 (List.mem_of_getElem? (i := 33) rfl))
theorem iL_law_382 : rx_ins mL_law 382 = some (3, 383, 0, 0, 0, []) := rx_atm tbL_law ndL_law (lmL_law_3 (List.mem_of_getElem? (i := 34) rfl))
theorem iL_law_383 : rx_ins mL_law 383 = some (2, 384, 0, 3, 0, []) := rx_atm tbL_law ndL_law (lmL_law_3 (List.mem_of_getElem? (i := 35) rfl))
theorem iL_law_384 : rx_ins mL_law 384 = some (1, 385, 1, 0, 0, []) := rx_atm tbL_law ndL_law (lmL_law_3 (List.mem_of_getElem? (i := 36) rfl))
theorem iL_law_385 : rx_ins mL_law 385 = some (7, 386, 0, 0, 0, []) := rx_atm tbL_law ndL_law (lmL_law_3 (List.mem_of_getElem? (i := 37) rfl))
theorem iL_law_386 : rx_ins mL_law 386 = some (20, 387, 0, 0, 0, []) := rx_atm tbL_law ndL_law (lmL_law_3 (List.mem_of_getElem? (i := 38) rfl))
theorem iL_law_387 : rx_ins mL_law 387 = some (3, 388, 0, 0, 0, []) := rx_atm tbL_law ndL_law (lmL_law_3 (List.mem_of_getElem? (i := 39) rfl))
theorem iL_law_388 : rx_ins mL_law 388 = some (2, 389, 0, 3, 0, []) := rx_atm tbL_law ndL_law (lmL_law_4 (List.mem_of_getElem? (i := 0) rfl))
theorem iL_law_389 : rx_ins mL_law 389 = some (1, 390, 2, 0, 0, []) := rx_atm tbL_law ndL_law (lmL_law_4 (List.mem_of_getElem? (i := 1) rfl))
theorem iL_law_390 : rx_ins mL_law 390 = some (7, 391, 0, 0, 0, []) := rx_atm tbL_law ndL_law (lmL_law_4 (List.mem_of_getElem? (i := 2) rfl))
theorem iL_law_391 : rx_ins mL_law 391 = some (20, 392, 0, 0, 0, []) := rx_atm tbL_law ndL_law (lmL_law_4 (List.mem_of_getElem? (i := 3) rfl))
theorem iL_law_392 : rx_ins mL_law 392 = some (3, 393, 0, 0, 0, []) := rx_atm tbL_law ndL_law (lmL_law_4 (List.mem_of_getElem? (i := 4) rfl))
theorem iL_law_393 : rx_ins mL_law 393 = some (2, 394, 0, 3, 0, []) := rx_atm tbL_law ndL_law (lmL_law_4 (List.mem_of_getElem? (i := 5) rfl))
theorem iL_law_394 : rx_ins mL_law 394 = some (1, 395, 3, 0, 0, []) := rx_atm tbL_law ndL_law (lmL_law_4 (List.mem_of_getElem? (i := 6) rfl))
theorem iL_law_395 : rx_ins mL_law 395 = some (7, 396, 0, 0, 0, []) := rx_atm tbL_law ndL_law (lmL_law_4 (List.mem_of_getElem? (i := 7) rfl))
theorem iL_law_396 : rx_ins mL_law 396 = some (20, 397, 0, 0, 0, []) := rx_atm tbL_law ndL_law (lmL_law_4 (List.mem_of_getElem? (i := 8) rfl))
theorem iL_law_397 : rx_ins mL_law 397 = some (28, 400, 13, 155, 4, [(34, 9)]) := rx_atm tbL_law ndL_law (lmL_law_4 (List.mem_of_getElem? (i := 9) rfl))
theorem iL_law_400 : rx_ins mL_law 400 = some (14, 403, 1089, 0, 1489, []) := rx_atm tbL_law ndL_law (lmL_law_4 (List.mem_of_getElem? (i := 10) rfl))
theorem iL_law_403 : rx_ins mL_law 403 = some (1, 404, 0, 0, 0, []) := rx_atm tbL_law ndL_law (lmL_law_4 (List.mem_of_getElem? (i := 11) rfl))
theorem iL_law_404 : rx_ins mL_law 404 = some (29, 405, 1, 0, 0, []) := rx_atm tbL_law ndL_law (lmL_law_4 (List.mem_of_getElem? (i := 12) rfl))
theorem iL_law_405 : rx_ins mL_law 405 = some (3, 406, 0, 1, 0, []) := rx_atm tbL_law ndL_law (lmL_law_4 (List.mem_of_getElem? (i := 13) rfl))
theorem iL_law_406 : rx_ins mL_law 406 = some (3, 407, 0, 0, 0, []) := rx_atm tbL_law ndL_law (lmL_law_4 (List.mem_of_getElem? (i := 14) rfl))
theorem iL_law_407 : rx_ins mL_law 407 = some (2, 408, 0, 3, 0, []) := rx_atm tbL_law ndL_law (lmL_law_4 (List.mem_of_getElem? (i := 15) rfl))
theorem iL_law_408 : rx_ins mL_law 408 = some (1, 409, 1, 0, 0, []) := rx_atm tbL_law ndL_law (lmL_law_4 (List.mem_of_getElem? (i := 16) rfl))
theorem iL_law_409 : rx_ins mL_law 409 = some (7, 410, 0, 0, 0, []) := rx_atm tbL_law ndL_law (lmL_law_4 (List.mem_of_getElem? (i := 17) rfl))
theorem iL_law_410 : rx_ins mL_law 410 = some (20, 411, 0, 0, 0, []) := rx_atm tbL_law ndL_law (lmL_law_4 (List.mem_of_getElem? (i := 18) rfl))
theorem iL_law_411 : rx_ins mL_law 411 = some (3, 412, 0, 0, 0, []) := rx_atm tbL_law ndL_law (lmL_law_4 (List.mem_of_getElem? (i := 19) rfl))
theorem iL_law_412 : rx_ins mL_law 412 = some (2, 413, 0, 3, 0, []) := rx_atm tbL_law ndL_law (lmL_law_4 (List.mem_of_getElem? (i := 20) rfl))
theorem iL_law_413 : rx_ins mL_law 413 = some (1, 414, 2, 0, 0, []) := rx_atm tbL_law ndL_law (lmL_law_4 (List.mem_of_getElem? (i := 21) rfl))
theorem iL_law_414 : rx_ins mL_law 414 = some (7, 415, 0, 0, 0, []) := rx_atm tbL_law ndL_law (lmL_law_4 (List.mem_of_getElem? (i := 22) rfl))
theorem iL_law_415 : rx_ins mL_law 415 = some (20, 416, 0, 0, 0, []) := rx_atm tbL_law ndL_law (lmL_law_4 (List.mem_of_getElem? (i := 23) rfl))
theorem iL_law_416 : rx_ins mL_law 416 = some (28, 419, 12, 81, 3, [(35, 10)]) := rx_atm tbL_law ndL_law (lmL_law_4 (List.mem_of_getElem? (i := 24) rfl))
theorem iL_law_419 : rx_ins mL_law 419 = some (3, 420, 0, 2, 0, []) := rx_atm tbL_law ndL_law (lmL_law_4 (List.mem_of_getElem? (i := 25) rfl))
theorem iL_law_420 : rx_ins mL_law 420 = some (3, 421, 0, 0, 0, []) := rx_atm tbL_law ndL_law (lmL_law_4 (List.mem_of_getElem? (i := 26) rfl))
theorem iL_law_421 : rx_ins mL_law 421 = some (2, 422, 0, 3, 0, []) := rx_atm tbL_law ndL_law (lmL_law_4 (List.mem_of_getElem? (i := 27) rfl))
theorem iL_law_422 : rx_ins mL_law 422 = some (1, 423, 1, 0, 0, []) := rx_atm tbL_law ndL_law (lmL_law_4 (List.mem_of_getElem? (i := 28) rfl))
theorem iL_law_423 : rx_ins mL_law 423 = some (7, 424, 0, 0, 0, []) := rx_atm tbL_law ndL_law (lmL_law_4 (List.mem_of_getElem? (i := 29) rfl))
theorem iL_law_424 : rx_ins mL_law 424 = some (20, 425, 0, 0, 0, []) := rx_atm tbL_law ndL_law (lmL_law_4 (List.mem_of_getElem? (i := 30) rfl))
theorem iL_law_425 : rx_ins mL_law 425 = some (3, 426, 0, 0, 0, []) := rx_atm tbL_law ndL_law (lmL_law_4 (List.mem_of_getElem? (i := 31) rfl))
theorem iL_law_426 : rx_ins mL_law 426 = some (2, 427, 0, 3, 0, []) := rx_atm tbL_law ndL_law (lmL_law_4 (List.mem_of_getElem? (i := 32) rfl))
theorem iL_law_427 : rx_ins mL_law 427 = some (1, 428, 2, 0, 0, []) := rx_atm tbL_law ndL_law (lmL_law_4 (List.mem_of_getElem? (i := 33) rfl))
theorem iL_law_428 : rx_ins mL_law 428 = some (7, 429, 0, 0, 0, []) := rx_atm tbL_law ndL_law (lmL_law_4 (List.mem_of_getElem? (i := 34) rfl))
theorem iL_law_429 : rx_ins mL_law 429 = some (20, 430, 0, 0, 0, []) := rx_atm tbL_law ndL_law (lmL_law_4 (List.mem_of_getElem? (i := 35) rfl))
theorem iL_law_430 : rx_ins mL_law 430 = some (28, 433, 13, 158, 3, [(38, 11)]) := rx_atm tbL_law ndL_law (lmL_law_4 (List.mem_of_getElem? (i := 36) rfl))
theorem iL_law_433 : rx_ins mL_law 433 = some (14, 436, 1056, 0, 1489, []) := rx_atm tbL_law ndL_law (lmL_law_4 (List.mem_of_getElem? (i := 37) rfl))
theorem iL_law_436 : rx_ins mL_law 436 = some (1, 437, 0, 0, 0, []) := rx_atm tbL_law ndL_law (lmL_law_4 (List.mem_of_getElem? (i := 38) rfl))
theorem iL_law_437 : rx_ins mL_law 437 = some (29, 438, 1, 0, 0, []) := rx_atm tbL_law ndL_law (lmL_law_4 (List.mem_of_getElem? (i := 39) rfl))
theorem iL_law_438 : rx_ins mL_law 438 = some (3, 439, 0, 1, 0, []) := rx_atm tbL_law ndL_law (lmL_law_5 (List.mem_of_getElem? (i := 0) rfl))
theorem iL_law_439 : rx_ins mL_law 439 = some (3, 440, 0, 0, 0, []) := rx_atm tbL_law ndL_law (lmL_law_5 (List.mem_of_getElem? (i := 1) rfl))
theorem iL_law_440 : rx_ins mL_law 440 = some (2, 441, 0, 3, 0, []) := rx_atm tbL_law ndL_law (lmL_law_5 (List.mem_of_getElem? (i := 2) rfl))
theorem iL_law_441 : rx_ins mL_law 441 = some (1, 442, 1, 0, 0, []) := rx_atm tbL_law ndL_law (lmL_law_5 (List.mem_of_getElem? (i := 3) rfl))
theorem iL_law_442 : rx_ins mL_law 442 = some (7, 443, 0, 0, 0, []) := rx_atm tbL_law ndL_law (lmL_law_5 (List.mem_of_getElem? (i := 4) rfl))
theorem iL_law_443 : rx_ins mL_law 443 = some (20, 444, 0, 0, 0, []) := rx_atm tbL_law ndL_law (lmL_law_5 (List.mem_of_getElem? (i := 5) rfl))
theorem iL_law_444 : rx_ins mL_law 444 = some (3, 445, 0, 0, 0, []) := rx_atm tbL_law ndL_law (lmL_law_5 (List.mem_of_getElem? (i := 6) rfl))
theorem iL_law_445 : rx_ins mL_law 445 = some (2, 446, 0, 3, 0, []) := rx_atm tbL_law ndL_law (lmL_law_5 (List.mem_of_getElem? (i := 7) rfl))
theorem iL_law_446 : rx_ins mL_law 446 = some (1, 447, 2, 0, 0, []) := rx_atm tbL_law ndL_law (lmL_law_5 (List.mem_of_getElem? (i := 8) rfl))
theorem iL_law_447 : rx_ins mL_law 447 = some (7, 448, 0, 0, 0, []) := rx_atm tbL_law ndL_law (lmL_law_5 (List.mem_of_getElem? (i := 9) rfl))
theorem iL_law_448 : rx_ins mL_law 448 = some (20, 449, 0, 0, 0, []) := rx_atm tbL_law ndL_law (lmL_law_5 (List.mem_of_getElem? (i := 10) rfl))
theorem iL_law_449 : rx_ins mL_law 449 = some (28, 452, 12, 82, 3, [(39, 12)]) := rx_atm tbL_law ndL_law (lmL_law_5 (List.mem_of_getElem? (i := 11) rfl))
theorem iL_law_452 : rx_ins mL_law 452 = some (3, 453, 0, 2, 0, []) := rx_atm tbL_law ndL_law (lmL_law_5 (List.mem_of_getElem? (i := 12) rfl))
theorem iL_law_453 : rx_ins mL_law 453 = some (3, 454, 0, 0, 0, []) := rx_atm tbL_law ndL_law (lmL_law_5 (List.mem_of_getElem? (i := 13) rfl))
theorem iL_law_454 : rx_ins mL_law 454 = some (2, 455, 0, 3, 0, []) := rx_atm tbL_law ndL_law (lmL_law_5 (List.mem_of_getElem? (i := 14) rfl))
theorem iL_law_455 : rx_ins mL_law 455 = some (1, 456, 1, 0, 0, []) := rx_atm tbL_law ndL_law (lmL_law_5 (List.mem_of_getElem? (i := 15) rfl))
theorem iL_law_456 : rx_ins mL_law 456 = some (7, 457, 0, 0, 0, []) := rx_atm tbL_law ndL_law (lmL_law_5 (List.mem_of_getElem? (i := 16) rfl))
theorem iL_law_457 : rx_ins mL_law 457 = some (20, 458, 0, 0, 0, []) := rx_atm tbL_law ndL_law (lmL_law_5 (List.mem_of_getElem? (i := 17) rfl))
theorem iL_law_458 : rx_ins mL_law 458 = some (3, 459, 0, 0, 0, []) := rx_atm tbL_law ndL_law (lmL_law_5 (List.mem_of_getElem? (i := 18) rfl))
theorem iL_law_459 : rx_ins mL_law 459 = some (2, 460, 0, 3, 0, []) := rx_atm tbL_law ndL_law (lmL_law_5 (List.mem_of_getElem? (i := 19) rfl))
theorem iL_law_460 : rx_ins mL_law 460 = some (1, 461, 2, 0, 0, []) := rx_atm tbL_law ndL_law (lmL_law_5 (List.mem_of_getElem? (i := 20) rfl))
theorem iL_law_461 : rx_ins mL_law 461 = some (7, 462, 0, 0, 0, []) := rx_atm tbL_law ndL_law (lmL_law_5 (List.mem_of_getElem? (i := 21) rfl))
theorem iL_law_462 : rx_ins mL_law 462 = some (20, 463, 0, 0, 0, []) := rx_atm tbL_law ndL_law (lmL_law_5 (List.mem_of_getElem? (i := 22) rfl))
theorem iL_law_463 : rx_ins mL_law 463 = some (28, 466, 13, 160, 3, [(42, 13)]) := rx_atm tbL_law ndL_law (lmL_law_5 (List.mem_of_getElem? (i := 23) rfl))
theorem iL_law_466 : rx_ins mL_law 466 = some (14, 469, 1023, 0, 1489, []) := rx_atm tbL_law ndL_law (lmL_law_5 (List.mem_of_getElem? (i := 24) rfl))
theorem iL_law_469 : rx_ins mL_law 469 = some (1, 470, 0, 0, 0, []) := rx_atm tbL_law ndL_law (lmL_law_5 (List.mem_of_getElem? (i := 25) rfl))
theorem iL_law_470 : rx_ins mL_law 470 = some (29, 471, 1, 0, 0, []) := rx_atm tbL_law ndL_law (lmL_law_5 (List.mem_of_getElem? (i := 26) rfl))
theorem iL_law_471 : rx_ins mL_law 471 = some (3, 472, 0, 1, 0, []) := rx_atm tbL_law ndL_law (lmL_law_5 (List.mem_of_getElem? (i := 27) rfl))
theorem iL_law_472 : rx_ins mL_law 472 = some (3, 473, 0, 0, 0, []) := rx_atm tbL_law ndL_law (lmL_law_5 (List.mem_of_getElem? (i := 28) rfl))
theorem iL_law_473 : rx_ins mL_law 473 = some (2, 474, 0, 3, 0, []) := rx_atm tbL_law ndL_law (lmL_law_5 (List.mem_of_getElem? (i := 29) rfl))
theorem iL_law_474 : rx_ins mL_law 474 = some (1, 475, 1, 0, 0, []) := rx_atm tbL_law ndL_law (lmL_law_5 (List.mem_of_getElem? (i := 30) rfl))
theorem iL_law_475 : rx_ins mL_law 475 = some (7, 476, 0, 0, 0, []) := rx_atm tbL_law ndL_law (lmL_law_5 (List.mem_of_getElem? (i := 31) rfl))
theorem iL_law_476 : rx_ins mL_law 476 = some (20, 477, 0, 0, 0, []) := rx_atm tbL_law ndL_law (lmL_law_5 (List.mem_of_getElem? (i := 32) rfl))
theorem iL_law_477 : rx_ins mL_law 477 = some (3, 478, 0, 0, 0, []) := rx_atm tbL_law ndL_law (lmL_law_5 (List.mem_of_getElem? (i := 33) rfl))
theorem iL_law_478 : rx_ins mL_law 478 = some (2, 479, 0, 3, 0, []) := rx_atm tbL_law ndL_law (lmL_law_5 (List.mem_of_getElem? (i := 34) rfl))
theorem iL_law_479 : rx_ins mL_law 479 = some (1, 480, 2, 0, 0, []) := rx_atm tbL_law ndL_law (lmL_law_5 (List.mem_of_getElem? (i := 35) rfl))
theorem iL_law_480 : rx_ins mL_law 480 = some (7, 481, 0, 0, 0, []) := rx_atm tbL_law ndL_law (lmL_law_5 (List.mem_of_getElem? (i := 36) rfl))
theorem iL_law_481 : rx_ins mL_law 481 = some (20, 482, 0, 0, 0, []) := rx_atm tbL_law ndL_law (lmL_law_5 (List.mem_of_getElem? (i := 37) rfl))
theorem iL_law_482 : rx_ins mL_law 482 = some (28, 485, 12, 83, 3, [(43, 14)]) := rx_atm tbL_law ndL_law (lmL_law_5 (List.mem_of_getElem? (i := 38) rfl))
theorem iL_law_485 : rx_ins mL_law 485 = some (3, 486, 0, 2, 0, []) := rx_atm tbL_law ndL_law (lmL_law_5 (List.mem_of_getElem? (i := 39) rfl))
theorem iL_law_486 : rx_ins mL_law 486 = some (3, 487, 0, 0, 0, []) := rx_atm tbL_law ndL_law (lmL_law_6 (List.mem_of_getElem? (i := 0) rfl))
theorem iL_law_487 : rx_ins mL_law 487 = some (2, 488, 0, 3, 0, []) := rx_atm tbL_law ndL_law (lmL_law_6 (List.mem_of_getElem? (i := 1) rfl))
theorem iL_law_488 : rx_ins mL_law 488 = some (1, 489, 1, 0, 0, []) := rx_atm tbL_law ndL_law (lmL_law_6 (List.mem_of_getElem? (i := 2) rfl))
theorem iL_law_489 : rx_ins mL_law 489 = some (7, 490, 0, 0, 0, []) := rx_atm tbL_law ndL_law (lmL_law_6 (List.mem_of_getElem? (i := 3) rfl))
theorem iL_law_490 : rx_ins mL_law 490 = some (20, 491, 0, 0, 0, []) := rx_atm tbL_law ndL_law (lmL_law_6 (List.mem_of_getElem? (i := 4) rfl))
theorem iL_law_491 : rx_ins mL_law 491 = some (3, 492, 0, 0, 0, []) := rx_atm tbL_law ndL_law (lmL_law_6 (List.mem_of_getElem? (i := 5) rfl))
theorem iL_law_492 : rx_ins mL_law 492 = some (2, 493, 0, 3, 0, []) := rx_atm tbL_law ndL_law (lmL_law_6 (List.mem_of_getElem? (i := 6) rfl))
theorem iL_law_493 : rx_ins mL_law 493 = some (1, 494, 2, 0, 0, []) := rx_atm tbL_law ndL_law (lmL_law_6 (List.mem_of_getElem? (i := 7) rfl))
theorem iL_law_494 : rx_ins mL_law 494 = some (7, 495, 0, 0, 0, []) := rx_atm tbL_law ndL_law (lmL_law_6 (List.mem_of_getElem? (i := 8) rfl))
theorem iL_law_495 : rx_ins mL_law 495 = some (20, 496, 0, 0, 0, []) := rx_atm tbL_law ndL_law (lmL_law_6 (List.mem_of_getElem? (i := 9) rfl))
theorem iL_law_496 : rx_ins mL_law 496 = some (28, 499, 13, 162, 3, [(46, 15)]) := rx_atm tbL_law ndL_law (lmL_law_6 (List.mem_of_getElem? (i := 10) rfl))
theorem iL_law_499 : rx_ins mL_law 499 = some (14, 502, 990, 0, 1489, []) := rx_atm tbL_law ndL_law (lmL_law_6 (List.mem_of_getElem? (i := 11) rfl))
theorem iL_law_502 : rx_ins mL_law 502 = some (1, 503, 0, 0, 0, []) := rx_atm tbL_law ndL_law (lmL_law_6 (List.mem_of_getElem? (i := 12) rfl))
theorem iL_law_503 : rx_ins mL_law 503 = some (29, 504, 1, 0, 0, []) := rx_atm tbL_law ndL_law (lmL_law_6 (List.mem_of_getElem? (i := 13) rfl))
theorem iL_law_504 : rx_ins mL_law 504 = some (3, 505, 0, 1, 0, []) := rx_atm tbL_law ndL_law (lmL_law_6 (List.mem_of_getElem? (i := 14) rfl))
theorem iL_law_505 : rx_ins mL_law 505 = some (3, 506, 0, 0, 0, []) := rx_atm tbL_law ndL_law (lmL_law_6 (List.mem_of_getElem? (i := 15) rfl))
theorem iL_law_506 : rx_ins mL_law 506 = some (2, 507, 0, 3, 0, []) := rx_atm tbL_law ndL_law (lmL_law_6 (List.mem_of_getElem? (i := 16) rfl))
theorem iL_law_507 : rx_ins mL_law 507 = some (1, 508, 1, 0, 0, []) := rx_atm tbL_law ndL_law (lmL_law_6 (List.mem_of_getElem? (i := 17) rfl))
theorem iL_law_508 : rx_ins mL_law 508 = some (7, 509, 0, 0, 0, []) := rx_atm tbL_law ndL_law (lmL_law_6 (List.mem_of_getElem? (i := 18) rfl))
theorem iL_law_509 : rx_ins mL_law 509 = some (20, 510, 0, 0, 0, []) := rx_atm tbL_law ndL_law (lmL_law_6 (List.mem_of_getElem? (i := 19) rfl))
theorem iL_law_510 : rx_ins mL_law 510 = some (3, 511, 0, 0, 0, []) := rx_atm tbL_law ndL_law (lmL_law_6 (List.mem_of_getElem? (i := 20) rfl))
theorem iL_law_511 : rx_ins mL_law 511 = some (2, 512, 0, 3, 0, []) := rx_atm tbL_law ndL_law (lmL_law_6 (List.mem_of_getElem? (i := 21) rfl))
theorem iL_law_512 : rx_ins mL_law 512 = some (1, 513, 2, 0, 0, []) := rx_atm tbL_law ndL_law (lmL_law_6 (List.mem_of_getElem? (i := 22) rfl))
theorem iL_law_513 : rx_ins mL_law 513 = some (7, 514, 0, 0, 0, []) := rx_atm tbL_law ndL_law (lmL_law_6 (List.mem_of_getElem? (i := 23) rfl))
theorem iL_law_514 : rx_ins mL_law 514 = some (20, 515, 0, 0, 0, []) := rx_atm tbL_law ndL_law (lmL_law_6 (List.mem_of_getElem? (i := 24) rfl))
theorem iL_law_515 : rx_ins mL_law 515 = some (3, 516, 0, 0, 0, []) := rx_atm tbL_law ndL_law (lmL_law_6 (List.mem_of_getElem? (i := 25) rfl))
theorem iL_law_516 : rx_ins mL_law 516 = some (2, 517, 0, 3, 0, []) := rx_atm tbL_law ndL_law (lmL_law_6 (List.mem_of_getElem? (i := 26) rfl))
theorem iL_law_517 : rx_ins mL_law 517 = some (1, 518, 3, 0, 0, []) := rx_atm tbL_law ndL_law (lmL_law_6 (List.mem_of_getElem? (i := 27) rfl))
theorem iL_law_518 : rx_ins mL_law 518 = some (7, 519, 0, 0, 0, []) := rx_atm tbL_law ndL_law (lmL_law_6 (List.mem_of_getElem? (i := 28) rfl))
theorem iL_law_519 : rx_ins mL_law 519 = some (20, 520, 0, 0, 0, []) := rx_atm tbL_law ndL_law (lmL_law_6 (List.mem_of_getElem? (i := 29) rfl))
theorem iL_law_520 : rx_ins mL_law 520 = some (28, 523, 12, 84, 4, [(47, 16)]) := rx_atm tbL_law ndL_law (lmL_law_6 (List.mem_of_getElem? (i := 30) rfl))
theorem iL_law_523 : rx_ins mL_law 523 = some (3, 524, 0, 2, 0, []) := rx_atm tbL_law ndL_law (lmL_law_6 (List.mem_of_getElem? (i := 31) rfl))
theorem iL_law_524 : rx_ins mL_law 524 = some (3, 525, 0, 0, 0, []) := rx_atm tbL_law ndL_law (lmL_law_6 (List.mem_of_getElem? (i := 32) rfl))
theorem iL_law_525 : rx_ins mL_law 525 = some (2, 526, 0, 3, 0, []) := rx_atm tbL_law ndL_law (lmL_law_6 (List.mem_of_getElem? (i := 33) rfl))
theorem iL_law_526 : rx_ins mL_law 526 = some (1, 527, 1, 0, 0, []) := rx_atm tbL_law ndL_law (lmL_law_6 (List.mem_of_getElem? (i := 34) rfl))
theorem iL_law_527 : rx_ins mL_law 527 = some (7, 528, 0, 0, 0, []) := rx_atm tbL_law ndL_law (lmL_law_6 (List.mem_of_getElem? (i := 35) rfl))
theorem iL_law_528 : rx_ins mL_law 528 = some (20, 529, 0, 0, 0, []) := rx_atm tbL_law ndL_law (lmL_law_6 (List.mem_of_getElem? (i := 36) rfl))
theorem iL_law_529 : rx_ins mL_law 529 = some (3, 530, 0, 0, 0, []) := rx_atm tbL_law ndL_law (lmL_law_6 (List.mem_of_getElem? (i := 37) rfl))
theorem iL_law_530 : rx_ins mL_law 530 = some (2, 531, 0, 3, 0, []) := rx_atm tbL_law ndL_law (lmL_law_6 (List.mem_of_getElem? (i := 38) rfl))
theorem iL_law_531 : rx_ins mL_law 531 = some (1, 532, 2, 0, 0, []) := rx_atm tbL_law ndL_law (lmL_law_6 (List.mem_of_getElem? (i := 39) rfl))
theorem iL_law_532 : rx_ins mL_law 532 = some (7, 533, 0, 0, 0, []) := rx_atm tbL_law ndL_law (lmL_law_7 (List.mem_of_getElem? (i := 0) rfl))
theorem iL_law_533 : rx_ins mL_law 533 = some (20, 534, 0, 0, 0, []) := rx_atm tbL_law ndL_law (lmL_law_7 (List.mem_of_getElem? (i := 1) rfl))
theorem iL_law_534 : rx_ins mL_law 534 = some (3, 535, 0, 0, 0, []) := rx_atm tbL_law ndL_law (lmL_law_7 (List.mem_of_getElem? (i := 2) rfl))
theorem iL_law_535 : rx_ins mL_law 535 = some (2, 536, 0, 3, 0, []) := rx_atm tbL_law ndL_law (lmL_law_7 (List.mem_of_getElem? (i := 3) rfl))
theorem iL_law_536 : rx_ins mL_law 536 = some (1, 537, 3, 0, 0, []) := rx_atm tbL_law ndL_law (lmL_law_7 (List.mem_of_getElem? (i := 4) rfl))
theorem iL_law_537 : rx_ins mL_law 537 = some (7, 538, 0, 0, 0, []) := rx_atm tbL_law ndL_law (lmL_law_7 (List.mem_of_getElem? (i := 5) rfl))
theorem iL_law_538 : rx_ins mL_law 538 = some (20, 539, 0, 0, 0, []) := rx_atm tbL_law ndL_law (lmL_law_7 (List.mem_of_getElem? (i := 6) rfl))
theorem iL_law_539 : rx_ins mL_law 539 = some (28, 542, 13, 163, 4, [(50, 17)]) := rx_atm tbL_law ndL_law (lmL_law_7 (List.mem_of_getElem? (i := 7) rfl))
theorem iL_law_542 : rx_ins mL_law 542 = some (14, 545, 947, 0, 1489, []) := rx_atm tbL_law ndL_law (lmL_law_7 (List.mem_of_getElem? (i := 8) rfl))
theorem iL_law_545 : rx_ins mL_law 545 = some (1, 546, 0, 0, 0, []) := rx_atm tbL_law ndL_law (lmL_law_7 (List.mem_of_getElem? (i := 9) rfl))
theorem iL_law_546 : rx_ins mL_law 546 = some (29, 547, 1, 0, 0, []) := rx_atm tbL_law ndL_law (lmL_law_7 (List.mem_of_getElem? (i := 10) rfl))
theorem iL_law_547 : rx_ins mL_law 547 = some (3, 548, 0, 1, 0, []) := rx_atm tbL_law ndL_law (lmL_law_7 (List.mem_of_getElem? (i := 11) rfl))
theorem iL_law_548 : rx_ins mL_law 548 = some (3, 549, 0, 0, 0, []) := rx_atm tbL_law ndL_law (lmL_law_7 (List.mem_of_getElem? (i := 12) rfl))
theorem iL_law_549 : rx_ins mL_law 549 = some (2, 550, 0, 3, 0, []) := rx_atm tbL_law ndL_law (lmL_law_7 (List.mem_of_getElem? (i := 13) rfl))
theorem iL_law_550 : rx_ins mL_law 550 = some (1, 551, 1, 0, 0, []) := rx_atm tbL_law ndL_law (lmL_law_7 (List.mem_of_getElem? (i := 14) rfl))
theorem iL_law_551 : rx_ins mL_law 551 = some (7, 552, 0, 0, 0, []) := rx_atm tbL_law ndL_law (lmL_law_7 (List.mem_of_getElem? (i := 15) rfl))
theorem iL_law_552 : rx_ins mL_law 552 = some (20, 553, 0, 0, 0, []) := rx_atm tbL_law ndL_law (lmL_law_7 (List.mem_of_getElem? (i := 16) rfl))
theorem iL_law_553 : rx_ins mL_law 553 = some (28, 556, 12, 85, 2, [(51, 18)]) := rx_atm tbL_law ndL_law (lmL_law_7 (List.mem_of_getElem? (i := 17) rfl))
theorem iL_law_556 : rx_ins mL_law 556 = some (3, 557, 0, 2, 0, []) := rx_atm tbL_law ndL_law (lmL_law_7 (List.mem_of_getElem? (i := 18) rfl))
theorem iL_law_557 : rx_ins mL_law 557 = some (3, 558, 0, 0, 0, []) := rx_atm tbL_law ndL_law (lmL_law_7 (List.mem_of_getElem? (i := 19) rfl))
theorem iL_law_558 : rx_ins mL_law 558 = some (2, 559, 0, 3, 0, []) := rx_atm tbL_law ndL_law (lmL_law_7 (List.mem_of_getElem? (i := 20) rfl))
theorem iL_law_559 : rx_ins mL_law 559 = some (1, 560, 1, 0, 0, []) := rx_atm tbL_law ndL_law (lmL_law_7 (List.mem_of_getElem? (i := 21) rfl))
theorem iL_law_560 : rx_ins mL_law 560 = some (7, 561, 0, 0, 0, []) := rx_atm tbL_law ndL_law (lmL_law_7 (List.mem_of_getElem? (i := 22) rfl))
theorem iL_law_561 : rx_ins mL_law 561 = some (20, 562, 0, 0, 0, []) := rx_atm tbL_law ndL_law (lmL_law_7 (List.mem_of_getElem? (i := 23) rfl))
theorem iL_law_562 : rx_ins mL_law 562 = some (28, 565, 13, 164, 2, [(55, 19)]) := rx_atm tbL_law ndL_law (lmL_law_7 (List.mem_of_getElem? (i := 24) rfl))
theorem iL_law_565 : rx_ins mL_law 565 = some (14, 568, 924, 0, 1489, []) := rx_atm tbL_law ndL_law (lmL_law_7 (List.mem_of_getElem? (i := 25) rfl))
theorem iL_law_568 : rx_ins mL_law 568 = some (1, 569, 0, 0, 0, []) := rx_atm tbL_law ndL_law (lmL_law_7 (List.mem_of_getElem? (i := 26) rfl))
theorem iL_law_569 : rx_ins mL_law 569 = some (29, 570, 1, 0, 0, []) := rx_atm tbL_law ndL_law (lmL_law_7 (List.mem_of_getElem? (i := 27) rfl))
theorem iL_law_570 : rx_ins mL_law 570 = some (3, 571, 0, 1, 0, []) := rx_atm tbL_law ndL_law (lmL_law_7 (List.mem_of_getElem? (i := 28) rfl))
theorem iL_law_571 : rx_ins mL_law 571 = some (3, 572, 0, 0, 0, []) := rx_atm tbL_law ndL_law (lmL_law_7 (List.mem_of_getElem? (i := 29) rfl))
theorem iL_law_572 : rx_ins mL_law 572 = some (2, 573, 0, 3, 0, []) := rx_atm tbL_law ndL_law (lmL_law_7 (List.mem_of_getElem? (i := 30) rfl))
theorem iL_law_573 : rx_ins mL_law 573 = some (1, 574, 1, 0, 0, []) := rx_atm tbL_law ndL_law (lmL_law_7 (List.mem_of_getElem? (i := 31) rfl))
theorem iL_law_574 : rx_ins mL_law 574 = some (7, 575, 0, 0, 0, []) := rx_atm tbL_law ndL_law (lmL_law_7 (List.mem_of_getElem? (i := 32) rfl))
theorem iL_law_575 : rx_ins mL_law 575 = some (20, 576, 0, 0, 0, []) := rx_atm tbL_law ndL_law (lmL_law_7 (List.mem_of_getElem? (i := 33) rfl))
theorem iL_law_576 : rx_ins mL_law 576 = some (3, 577, 0, 0, 0, []) := rx_atm tbL_law ndL_law (lmL_law_7 (List.mem_of_getElem? (i := 34) rfl))
theorem iL_law_577 : rx_ins mL_law 577 = some (2, 578, 0, 3, 0, []) := rx_atm tbL_law ndL_law (lmL_law_7 (List.mem_of_getElem? (i := 35) rfl))
theorem iL_law_578 : rx_ins mL_law 578 = some (1, 579, 2, 0, 0, []) := rx_atm tbL_law ndL_law (lmL_law_7 (List.mem_of_getElem? (i := 36) rfl))
theorem iL_law_579 : rx_ins mL_law 579 = some (7, 580, 0, 0, 0, []) := rx_atm tbL_law ndL_law (lmL_law_7 (List.mem_of_getElem? (i := 37) rfl))
theorem iL_law_580 : rx_ins mL_law 580 = some (20, 581, 0, 0, 0, []) := rx_atm tbL_law ndL_law (lmL_law_7 (List.mem_of_getElem? (i := 38) rfl))
theorem iL_law_581 : rx_ins mL_law 581 = some (28, 584, 12, 86, 3, [(56, 20)]) := rx_atm tbL_law ndL_law (lmL_law_7 (List.mem_of_getElem? (i := 39) rfl))
theorem iL_law_584 : rx_ins mL_law 584 = some (3, 585, 0, 2, 0, []) := rx_atm tbL_law ndL_law (lmL_law_8 (List.mem_of_getElem? (i := 0) rfl))
theorem iL_law_585 : rx_ins mL_law 585 = some (3, 586, 0, 0, 0, []) := rx_atm tbL_law ndL_law (lmL_law_8 (List.mem_of_getElem? (i := 1) rfl))
theorem iL_law_586 : rx_ins mL_law 586 = some (2, 587, 0, 3, 0, []) := rx_atm tbL_law ndL_law (lmL_law_8 (List.mem_of_getElem? (i := 2) rfl))
theorem iL_law_587 : rx_ins mL_law 587 = some (1, 588, 1, 0, 0, []) := rx_atm tbL_law ndL_law (lmL_law_8 (List.mem_of_getElem? (i := 3) rfl))
theorem iL_law_588 : rx_ins mL_law 588 = some (7, 589, 0, 0, 0, []) := rx_atm tbL_law ndL_law (lmL_law_8 (List.mem_of_getElem? (i := 4) rfl))
theorem iL_law_589 : rx_ins mL_law 589 = some (20, 590, 0, 0, 0, []) := rx_atm tbL_law ndL_law (lmL_law_8 (List.mem_of_getElem? (i := 5) rfl))
theorem iL_law_590 : rx_ins mL_law 590 = some (3, 591, 0, 0, 0, []) := rx_atm tbL_law ndL_law (lmL_law_8 (List.mem_of_getElem? (i := 6) rfl))
theorem iL_law_591 : rx_ins mL_law 591 = some (2, 592, 0, 3, 0, []) := rx_atm tbL_law ndL_law (lmL_law_8 (List.mem_of_getElem? (i := 7) rfl))
theorem iL_law_592 : rx_ins mL_law 592 = some (1, 593, 2, 0, 0, []) := rx_atm tbL_law ndL_law (lmL_law_8 (List.mem_of_getElem? (i := 8) rfl))
theorem iL_law_593 : rx_ins mL_law 593 = some (7, 594, 0, 0, 0, []) := rx_atm tbL_law ndL_law (lmL_law_8 (List.mem_of_getElem? (i := 9) rfl))
theorem iL_law_594 : rx_ins mL_law 594 = some (20, 595, 0, 0, 0, []) := rx_atm tbL_law ndL_law (lmL_law_8 (List.mem_of_getElem? (i := 10) rfl))
theorem iL_law_595 : rx_ins mL_law 595 = some (28, 598, 13, 171, 3, [(59, 21)]) := rx_atm tbL_law ndL_law (lmL_law_8 (List.mem_of_getElem? (i := 11) rfl))
theorem iL_law_598 : rx_ins mL_law 598 = some (14, 601, 891, 0, 1489, []) := rx_atm tbL_law ndL_law (lmL_law_8 (List.mem_of_getElem? (i := 12) rfl))
theorem iL_law_601 : rx_ins mL_law 601 = some (1, 602, 0, 0, 0, []) := rx_atm tbL_law ndL_law (lmL_law_8 (List.mem_of_getElem? (i := 13) rfl))
theorem iL_law_602 : rx_ins mL_law 602 = some (29, 603, 1, 0, 0, []) := rx_atm tbL_law ndL_law (lmL_law_8 (List.mem_of_getElem? (i := 14) rfl))
theorem iL_law_603 : rx_ins mL_law 603 = some (3, 604, 0, 1, 0, []) := rx_atm tbL_law ndL_law (lmL_law_8 (List.mem_of_getElem? (i := 15) rfl))
theorem iL_law_604 : rx_ins mL_law 604 = some (3, 605, 0, 0, 0, []) := rx_atm tbL_law ndL_law (lmL_law_8 (List.mem_of_getElem? (i := 16) rfl))
theorem iL_law_605 : rx_ins mL_law 605 = some (2, 606, 0, 3, 0, []) := rx_atm tbL_law ndL_law (lmL_law_8 (List.mem_of_getElem? (i := 17) rfl))
theorem iL_law_606 : rx_ins mL_law 606 = some (1, 607, 1, 0, 0, []) := rx_atm tbL_law ndL_law (lmL_law_8 (List.mem_of_getElem? (i := 18) rfl))
theorem iL_law_607 : rx_ins mL_law 607 = some (7, 608, 0, 0, 0, []) := rx_atm tbL_law ndL_law (lmL_law_8 (List.mem_of_getElem? (i := 19) rfl))
theorem iL_law_608 : rx_ins mL_law 608 = some (20, 609, 0, 0, 0, []) := rx_atm tbL_law ndL_law (lmL_law_8 (List.mem_of_getElem? (i := 20) rfl))
theorem iL_law_609 : rx_ins mL_law 609 = some (28, 612, 12, 87, 2, [(60, 22)]) := rx_atm tbL_law ndL_law (lmL_law_8 (List.mem_of_getElem? (i := 21) rfl))
theorem iL_law_612 : rx_ins mL_law 612 = some (3, 613, 0, 2, 0, []) := rx_atm tbL_law ndL_law (lmL_law_8 (List.mem_of_getElem? (i := 22) rfl))
theorem iL_law_613 : rx_ins mL_law 613 = some (3, 614, 0, 0, 0, []) := rx_atm tbL_law ndL_law (lmL_law_8 (List.mem_of_getElem? (i := 23) rfl))
theorem iL_law_614 : rx_ins mL_law 614 = some (2, 615, 0, 3, 0, []) := rx_atm tbL_law ndL_law (lmL_law_8 (List.mem_of_getElem? (i := 24) rfl))
theorem iL_law_615 : rx_ins mL_law 615 = some (1, 616, 1, 0, 0, []) := rx_atm tbL_law ndL_law (lmL_law_8 (List.mem_of_getElem? (i := 25) rfl))
theorem iL_law_616 : rx_ins mL_law 616 = some (7, 617, 0, 0, 0, []) := rx_atm tbL_law ndL_law (lmL_law_8 (List.mem_of_getElem? (i := 26) rfl))
theorem iL_law_617 : rx_ins mL_law 617 = some (20, 618, 0, 0, 0, []) := rx_atm tbL_law ndL_law (lmL_law_8 (List.mem_of_getElem? (i := 27) rfl))
theorem iL_law_618 : rx_ins mL_law 618 = some (28, 621, 13, 173, 2, [(63, 23)]) := rx_atm tbL_law ndL_law (lmL_law_8 (List.mem_of_getElem? (i := 28) rfl))
theorem iL_law_621 : rx_ins mL_law 621 = some (14, 624, 868, 0, 1489, []) := rx_atm tbL_law ndL_law (lmL_law_8 (List.mem_of_getElem? (i := 29) rfl))
theorem iL_law_624 : rx_ins mL_law 624 = some (1, 625, 0, 0, 0, []) := rx_atm tbL_law ndL_law (lmL_law_8 (List.mem_of_getElem? (i := 30) rfl))
theorem iL_law_625 : rx_ins mL_law 625 = some (29, 626, 1, 0, 0, []) := rx_atm tbL_law ndL_law (lmL_law_8 (List.mem_of_getElem? (i := 31) rfl))
theorem iL_law_626 : rx_ins mL_law 626 = some (3, 627, 0, 1, 0, []) := rx_atm tbL_law ndL_law (lmL_law_8 (List.mem_of_getElem? (i := 32) rfl))
theorem iL_law_627 : rx_ins mL_law 627 = some (28, 630, 12, 88, 1, [(64, 24)]) := rx_atm tbL_law ndL_law (lmL_law_8 (List.mem_of_getElem? (i := 33) rfl))
theorem iL_law_630 : rx_ins mL_law 630 = some (3, 631, 0, 2, 0, []) := rx_atm tbL_law ndL_law (lmL_law_8 (List.mem_of_getElem? (i := 34) rfl))
theorem iL_law_631 : rx_ins mL_law 631 = some (28, 634, 13, 175, 1, [(68, 25)]) := rx_atm tbL_law ndL_law (lmL_law_8 (List.mem_of_getElem? (i := 35) rfl))
theorem iL_law_634 : rx_ins mL_law 634 = some (14, 637, 855, 0, 1489, []) := rx_atm tbL_law ndL_law (lmL_law_8 (List.mem_of_getElem? (i := 36) rfl))
theorem iL_law_637 : rx_ins mL_law 637 = some (1, 638, 0, 0, 0, []) := rx_atm tbL_law ndL_law (lmL_law_8 (List.mem_of_getElem? (i := 37) rfl))
theorem iL_law_638 : rx_ins mL_law 638 = some (29, 639, 1, 0, 0, []) := rx_atm tbL_law ndL_law (lmL_law_8 (List.mem_of_getElem? (i := 38) rfl))
theorem iL_law_639 : rx_ins mL_law 639 = some (3, 640, 0, 1, 0, []) := rx_atm tbL_law ndL_law (lmL_law_8 (List.mem_of_getElem? (i := 39) rfl))
theorem iL_law_640 : rx_ins mL_law 640 = some (3, 641, 0, 0, 0, []) := rx_atm tbL_law ndL_law (lmL_law_9 (List.mem_of_getElem? (i := 0) rfl))
theorem iL_law_641 : rx_ins mL_law 641 = some (2, 642, 0, 3, 0, []) := rx_atm tbL_law ndL_law (lmL_law_9 (List.mem_of_getElem? (i := 1) rfl))
theorem iL_law_642 : rx_ins mL_law 642 = some (1, 643, 1, 0, 0, []) := rx_atm tbL_law ndL_law (lmL_law_9 (List.mem_of_getElem? (i := 2) rfl))
theorem iL_law_643 : rx_ins mL_law 643 = some (7, 644, 0, 0, 0, []) := rx_atm tbL_law ndL_law (lmL_law_9 (List.mem_of_getElem? (i := 3) rfl))
theorem iL_law_644 : rx_ins mL_law 644 = some (20, 645, 0, 0, 0, []) := rx_atm tbL_law ndL_law (lmL_law_9 (List.mem_of_getElem? (i := 4) rfl))
theorem iL_law_645 : rx_ins mL_law 645 = some (3, 646, 0, 0, 0, []) := rx_atm tbL_law ndL_law (lmL_law_9 (List.mem_of_getElem? (i := 5) rfl))
theorem iL_law_646 : rx_ins mL_law 646 = some (2, 647, 0, 3, 0, []) := rx_atm tbL_law ndL_law (lmL_law_9 (List.mem_of_getElem? (i := 6) rfl))
theorem iL_law_647 : rx_ins mL_law 647 = some (1, 648, 2, 0, 0, []) := rx_atm tbL_law ndL_law (lmL_law_9 (List.mem_of_getElem? (i := 7) rfl))
theorem iL_law_648 : rx_ins mL_law 648 = some (7, 649, 0, 0, 0, []) := rx_atm tbL_law ndL_law (lmL_law_9 (List.mem_of_getElem? (i := 8) rfl))
theorem iL_law_649 : rx_ins mL_law 649 = some (20, 650, 0, 0, 0, []) := rx_atm tbL_law ndL_law (lmL_law_9 (List.mem_of_getElem? (i := 9) rfl))
theorem iL_law_650 : rx_ins mL_law 650 = some (28, 653, 12, 89, 3, [(69, 26)]) := rx_atm tbL_law ndL_law (lmL_law_9 (List.mem_of_getElem? (i := 10) rfl))
theorem iL_law_653 : rx_ins mL_law 653 = some (3, 654, 0, 2, 0, []) := rx_atm tbL_law ndL_law (lmL_law_9 (List.mem_of_getElem? (i := 11) rfl))
theorem iL_law_654 : rx_ins mL_law 654 = some (3, 655, 0, 0, 0, []) := rx_atm tbL_law ndL_law (lmL_law_9 (List.mem_of_getElem? (i := 12) rfl))
theorem iL_law_655 : rx_ins mL_law 655 = some (2, 656, 0, 3, 0, []) := rx_atm tbL_law ndL_law (lmL_law_9 (List.mem_of_getElem? (i := 13) rfl))
theorem iL_law_656 : rx_ins mL_law 656 = some (1, 657, 1, 0, 0, []) := rx_atm tbL_law ndL_law (lmL_law_9 (List.mem_of_getElem? (i := 14) rfl))
theorem iL_law_657 : rx_ins mL_law 657 = some (7, 658, 0, 0, 0, []) := rx_atm tbL_law ndL_law (lmL_law_9 (List.mem_of_getElem? (i := 15) rfl))
theorem iL_law_658 : rx_ins mL_law 658 = some (20, 659, 0, 0, 0, []) := rx_atm tbL_law ndL_law (lmL_law_9 (List.mem_of_getElem? (i := 16) rfl))
theorem iL_law_659 : rx_ins mL_law 659 = some (3, 660, 0, 0, 0, []) := rx_atm tbL_law ndL_law (lmL_law_9 (List.mem_of_getElem? (i := 17) rfl))
theorem iL_law_660 : rx_ins mL_law 660 = some (2, 661, 0, 3, 0, []) := rx_atm tbL_law ndL_law (lmL_law_9 (List.mem_of_getElem? (i := 18) rfl))
theorem iL_law_661 : rx_ins mL_law 661 = some (1, 662, 2, 0, 0, []) := rx_atm tbL_law ndL_law (lmL_law_9 (List.mem_of_getElem? (i := 19) rfl))
theorem iL_law_662 : rx_ins mL_law 662 = some (7, 663, 0, 0, 0, []) := rx_atm tbL_law ndL_law (lmL_law_9 (List.mem_of_getElem? (i := 20) rfl))
theorem iL_law_663 : rx_ins mL_law 663 = some (20, 664, 0, 0, 0, []) := rx_atm tbL_law ndL_law (lmL_law_9 (List.mem_of_getElem? (i := 21) rfl))
theorem iL_law_664 : rx_ins mL_law 664 = some (28, 667, 13, 178, 3, [(72, 27)]) := rx_atm tbL_law ndL_law (lmL_law_9 (List.mem_of_getElem? (i := 22) rfl))
theorem iL_law_667 : rx_ins mL_law 667 = some (14, 670, 822, 0, 1489, []) := rx_atm tbL_law ndL_law (lmL_law_9 (List.mem_of_getElem? (i := 23) rfl))
theorem iL_law_670 : rx_ins mL_law 670 = some (1, 671, 0, 0, 0, []) := rx_atm tbL_law ndL_law (lmL_law_9 (List.mem_of_getElem? (i := 24) rfl))
theorem iL_law_671 : rx_ins mL_law 671 = some (29, 672, 1, 0, 0, []) := rx_atm tbL_law ndL_law (lmL_law_9 (List.mem_of_getElem? (i := 25) rfl))
theorem iL_law_672 : rx_ins mL_law 672 = some (3, 673, 0, 1, 0, []) := rx_atm tbL_law ndL_law (lmL_law_9 (List.mem_of_getElem? (i := 26) rfl))
theorem iL_law_673 : rx_ins mL_law 673 = some (3, 674, 0, 0, 0, []) := rx_atm tbL_law ndL_law (lmL_law_9 (List.mem_of_getElem? (i := 27) rfl))
theorem iL_law_674 : rx_ins mL_law 674 = some (2, 675, 0, 3, 0, []) := rx_atm tbL_law ndL_law (lmL_law_9 (List.mem_of_getElem? (i := 28) rfl))
theorem iL_law_675 : rx_ins mL_law 675 = some (1, 676, 1, 0, 0, []) := rx_atm tbL_law ndL_law (lmL_law_9 (List.mem_of_getElem? (i := 29) rfl))
theorem iL_law_676 : rx_ins mL_law 676 = some (7, 677, 0, 0, 0, []) := rx_atm tbL_law ndL_law (lmL_law_9 (List.mem_of_getElem? (i := 30) rfl))
theorem iL_law_677 : rx_ins mL_law 677 = some (20, 678, 0, 0, 0, []) := rx_atm tbL_law ndL_law (lmL_law_9 (List.mem_of_getElem? (i := 31) rfl))
theorem iL_law_678 : rx_ins mL_law 678 = some (28, 681, 12, 90, 2, [(73, 28)]) := rx_atm tbL_law ndL_law (lmL_law_9 (List.mem_of_getElem? (i := 32) rfl))
theorem iL_law_681 : rx_ins mL_law 681 = some (3, 682, 0, 2, 0, []) := rx_atm tbL_law ndL_law (lmL_law_9 (List.mem_of_getElem? (i := 33) rfl))
theorem iL_law_682 : rx_ins mL_law 682 = some (3, 683, 0, 0, 0, []) := rx_atm tbL_law ndL_law (lmL_law_9 (List.mem_of_getElem? (i := 34) rfl))
theorem iL_law_683 : rx_ins mL_law 683 = some (2, 684, 0, 3, 0, []) := rx_atm tbL_law ndL_law (lmL_law_9 (List.mem_of_getElem? (i := 35) rfl))
theorem iL_law_684 : rx_ins mL_law 684 = some (1, 685, 1, 0, 0, []) := rx_atm tbL_law ndL_law (lmL_law_9 (List.mem_of_getElem? (i := 36) rfl))
theorem iL_law_685 : rx_ins mL_law 685 = some (7, 686, 0, 0, 0, []) := rx_atm tbL_law ndL_law (lmL_law_9 (List.mem_of_getElem? (i := 37) rfl))
theorem iL_law_686 : rx_ins mL_law 686 = some (20, 687, 0, 0, 0, []) := rx_atm tbL_law ndL_law (lmL_law_9 (List.mem_of_getElem? (i := 38) rfl))
theorem iL_law_687 : rx_ins mL_law 687 = some (28, 690, 13, 181, 2, [(76, 29)]) := rx_atm tbL_law ndL_law (lmL_law_9 (List.mem_of_getElem? (i := 39) rfl))
theorem iL_law_690 : rx_ins mL_law 690 = some (14, 693, 799, 0, 1489, []) := rx_atm tbL_law ndL_law (lmL_law_10 (List.mem_of_getElem? (i := 0) rfl))
theorem iL_law_693 : rx_ins mL_law 693 = some (1, 694, 0, 0, 0, []) := rx_atm tbL_law ndL_law (lmL_law_10 (List.mem_of_getElem? (i := 1) rfl))
theorem iL_law_694 : rx_ins mL_law 694 = some (29, 695, 1, 0, 0, []) := rx_atm tbL_law ndL_law (lmL_law_10 (List.mem_of_getElem? (i := 2) rfl))
theorem iL_law_695 : rx_ins mL_law 695 = some (3, 696, 0, 1, 0, []) := rx_atm tbL_law ndL_law (lmL_law_10 (List.mem_of_getElem? (i := 3) rfl))
theorem iL_law_696 : rx_ins mL_law 696 = some (3, 697, 0, 0, 0, []) := rx_atm tbL_law ndL_law (lmL_law_10 (List.mem_of_getElem? (i := 4) rfl))
theorem iL_law_697 : rx_ins mL_law 697 = some (2, 698, 0, 3, 0, []) := rx_atm tbL_law ndL_law (lmL_law_10 (List.mem_of_getElem? (i := 5) rfl))
theorem iL_law_698 : rx_ins mL_law 698 = some (1, 699, 1, 0, 0, []) := rx_atm tbL_law ndL_law (lmL_law_10 (List.mem_of_getElem? (i := 6) rfl))
theorem iL_law_699 : rx_ins mL_law 699 = some (7, 700, 0, 0, 0, []) := rx_atm tbL_law ndL_law (lmL_law_10 (List.mem_of_getElem? (i := 7) rfl))
theorem iL_law_700 : rx_ins mL_law 700 = some (20, 701, 0, 0, 0, []) := rx_atm tbL_law ndL_law (lmL_law_10 (List.mem_of_getElem? (i := 8) rfl))
theorem iL_law_701 : rx_ins mL_law 701 = some (28, 704, 12, 91, 2, [(77, 30)]) := rx_atm tbL_law ndL_law (lmL_law_10 (List.mem_of_getElem? (i := 9) rfl))
theorem iL_law_704 : rx_ins mL_law 704 = some (3, 705, 0, 2, 0, []) := rx_atm tbL_law ndL_law (lmL_law_10 (List.mem_of_getElem? (i := 10) rfl))
theorem iL_law_705 : rx_ins mL_law 705 = some (3, 706, 0, 0, 0, []) := rx_atm tbL_law ndL_law (lmL_law_10 (List.mem_of_getElem? (i := 11) rfl))
theorem iL_law_706 : rx_ins mL_law 706 = some (2, 707, 0, 3, 0, []) := rx_atm tbL_law ndL_law (lmL_law_10 (List.mem_of_getElem? (i := 12) rfl))
theorem iL_law_707 : rx_ins mL_law 707 = some (1, 708, 1, 0, 0, []) := rx_atm tbL_law ndL_law (lmL_law_10 (List.mem_of_getElem? (i := 13) rfl))
theorem iL_law_708 : rx_ins mL_law 708 = some (7, 709, 0, 0, 0, []) := rx_atm tbL_law ndL_law (lmL_law_10 (List.mem_of_getElem? (i := 14) rfl))
theorem iL_law_709 : rx_ins mL_law 709 = some (20, 710, 0, 0, 0, []) := rx_atm tbL_law ndL_law (lmL_law_10 (List.mem_of_getElem? (i := 15) rfl))
theorem iL_law_710 : rx_ins mL_law 710 = some (28, 713, 13, 182, 2, [(80, 31)]) := rx_atm tbL_law ndL_law (lmL_law_10 (List.mem_of_getElem? (i := 16) rfl))
theorem iL_law_713 : rx_ins mL_law 713 = some (14, 716, 776, 0, 1489, []) := rx_atm tbL_law ndL_law (lmL_law_10 (List.mem_of_getElem? (i := 17) rfl))
theorem iL_law_716 : rx_ins mL_law 716 = some (1, 717, 0, 0, 0, []) := rx_atm tbL_law ndL_law (lmL_law_10 (List.mem_of_getElem? (i := 18) rfl))
theorem iL_law_717 : rx_ins mL_law 717 = some (29, 718, 1, 0, 0, []) := rx_atm tbL_law ndL_law (lmL_law_10 (List.mem_of_getElem? (i := 19) rfl))
theorem iL_law_718 : rx_ins mL_law 718 = some (3, 719, 0, 1, 0, []) := rx_atm tbL_law ndL_law (lmL_law_10 (List.mem_of_getElem? (i := 20) rfl))
theorem iL_law_719 : rx_ins mL_law 719 = some (3, 720, 0, 0, 0, []) := rx_atm tbL_law ndL_law (lmL_law_10 (List.mem_of_getElem? (i := 21) rfl))
theorem iL_law_720 : rx_ins mL_law 720 = some (2, 721, 0, 3, 0, []) := rx_atm tbL_law ndL_law (lmL_law_10 (List.mem_of_getElem? (i := 22) rfl))
theorem iL_law_721 : rx_ins mL_law 721 = some (1, 722, 1, 0, 0, []) := rx_atm tbL_law ndL_law (lmL_law_10 (List.mem_of_getElem? (i := 23) rfl))
theorem iL_law_722 : rx_ins mL_law 722 = some (7, 723, 0, 0, 0, []) := rx_atm tbL_law ndL_law (lmL_law_10 (List.mem_of_getElem? (i := 24) rfl))
theorem iL_law_723 : rx_ins mL_law 723 = some (20, 724, 0, 0, 0, []) := rx_atm tbL_law ndL_law (lmL_law_10 (List.mem_of_getElem? (i := 25) rfl))
theorem iL_law_724 : rx_ins mL_law 724 = some (28, 727, 12, 92, 2, [(81, 32)]) := rx_atm tbL_law ndL_law (lmL_law_10 (List.mem_of_getElem? (i := 26) rfl))
theorem iL_law_727 : rx_ins mL_law 727 = some (3, 728, 0, 2, 0, []) := rx_atm tbL_law ndL_law (lmL_law_10 (List.mem_of_getElem? (i := 27) rfl))
theorem iL_law_728 : rx_ins mL_law 728 = some (3, 729, 0, 0, 0, []) := rx_atm tbL_law ndL_law (lmL_law_10 (List.mem_of_getElem? (i := 28) rfl))
theorem iL_law_729 : rx_ins mL_law 729 = some (2, 730, 0, 3, 0, []) := rx_atm tbL_law ndL_law (lmL_law_10 (List.mem_of_getElem? (i := 29) rfl))
theorem iL_law_730 : rx_ins mL_law 730 = some (1, 731, 1, 0, 0, []) := rx_atm tbL_law ndL_law (lmL_law_10 (List.mem_of_getElem? (i := 30) rfl))
theorem iL_law_731 : rx_ins mL_law 731 = some (7, 732, 0, 0, 0, []) := rx_atm tbL_law ndL_law (lmL_law_10 (List.mem_of_getElem? (i := 31) rfl))
theorem iL_law_732 : rx_ins mL_law 732 = some (20, 733, 0, 0, 0, []) := rx_atm tbL_law ndL_law (lmL_law_10 (List.mem_of_getElem? (i := 32) rfl))
theorem iL_law_733 : rx_ins mL_law 733 = some (28, 736, 13, 183, 2, [(84, 33)]) := rx_atm tbL_law ndL_law (lmL_law_10 (List.mem_of_getElem? (i := 33) rfl))
theorem iL_law_736 : rx_ins mL_law 736 = some (14, 739, 753, 0, 1489, []) := rx_atm tbL_law ndL_law (lmL_law_10 (List.mem_of_getElem? (i := 34) rfl))
theorem iL_law_739 : rx_ins mL_law 739 = some (1, 740, 0, 0, 0, []) := rx_atm tbL_law ndL_law (lmL_law_10 (List.mem_of_getElem? (i := 35) rfl))
theorem iL_law_740 : rx_ins mL_law 740 = some (29, 741, 1, 0, 0, []) := rx_atm tbL_law ndL_law (lmL_law_10 (List.mem_of_getElem? (i := 36) rfl))
theorem iL_law_741 : rx_ins mL_law 741 = some (3, 742, 0, 1, 0, []) := rx_atm tbL_law ndL_law (lmL_law_10 (List.mem_of_getElem? (i := 37) rfl))
theorem iL_law_742 : rx_ins mL_law 742 = some (3, 743, 0, 0, 0, []) := rx_atm tbL_law ndL_law (lmL_law_10 (List.mem_of_getElem? (i := 38) rfl))
theorem iL_law_743 : rx_ins mL_law 743 = some (2, 744, 0, 3, 0, []) := rx_atm tbL_law ndL_law (lmL_law_10 (List.mem_of_getElem? (i := 39) rfl))
theorem iL_law_744 : rx_ins mL_law 744 = some (1, 745, 1, 0, 0, []) := rx_atm tbL_law ndL_law (lmL_law_11 (List.mem_of_getElem? (i := 0) rfl))
theorem iL_law_745 : rx_ins mL_law 745 = some (7, 746, 0, 0, 0, []) := rx_atm tbL_law ndL_law (lmL_law_11 (List.mem_of_getElem? (i := 1) rfl))
theorem iL_law_746 : rx_ins mL_law 746 = some (20, 747, 0, 0, 0, []) := rx_atm tbL_law ndL_law (lmL_law_11 (List.mem_of_getElem? (i := 2) rfl))
theorem iL_law_747 : rx_ins mL_law 747 = some (28, 750, 12, 93, 2, [(85, 34)]) := rx_atm tbL_law ndL_law (lmL_law_11 (List.mem_of_getElem? (i := 3) rfl))
theorem iL_law_750 : rx_ins mL_law 750 = some (3, 751, 0, 2, 0, []) := rx_atm tbL_law ndL_law (lmL_law_11 (List.mem_of_getElem? (i := 4) rfl))
theorem iL_law_751 : rx_ins mL_law 751 = some (3, 752, 0, 0, 0, []) := rx_atm tbL_law ndL_law (lmL_law_11 (List.mem_of_getElem? (i := 5) rfl))
theorem iL_law_752 : rx_ins mL_law 752 = some (2, 753, 0, 3, 0, []) := rx_atm tbL_law ndL_law (lmL_law_11 (List.mem_of_getElem? (i := 6) rfl))
theorem iL_law_753 : rx_ins mL_law 753 = some (1, 754, 1, 0, 0, []) := rx_atm tbL_law ndL_law (lmL_law_11 (List.mem_of_getElem? (i := 7) rfl))
theorem iL_law_754 : rx_ins mL_law 754 = some (7, 755, 0, 0, 0, []) := rx_atm tbL_law ndL_law (lmL_law_11 (List.mem_of_getElem? (i := 8) rfl))
theorem iL_law_755 : rx_ins mL_law 755 = some (20, 756, 0, 0, 0, []) := rx_atm tbL_law ndL_law (lmL_law_11 (List.mem_of_getElem? (i := 9) rfl))
theorem iL_law_756 : rx_ins mL_law 756 = some (28, 759, 13, 184, 2, [(88, 35)]) := rx_atm tbL_law ndL_law (lmL_law_11 (List.mem_of_getElem? (i := 10) rfl))
theorem iL_law_759 : rx_ins mL_law 759 = some (14, 762, 730, 0, 1489, []) := rx_atm tbL_law ndL_law (lmL_law_11 (List.mem_of_getElem? (i := 11) rfl))
theorem iL_law_762 : rx_ins mL_law 762 = some (1, 763, 0, 0, 0, []) := rx_atm tbL_law ndL_law (lmL_law_11 (List.mem_of_getElem? (i := 12) rfl))
theorem iL_law_763 : rx_ins mL_law 763 = some (29, 764, 1, 0, 0, []) := rx_atm tbL_law ndL_law (lmL_law_11 (List.mem_of_getElem? (i := 13) rfl))
theorem iL_law_764 : rx_ins mL_law 764 = some (3, 765, 0, 1, 0, []) := rx_atm tbL_law ndL_law (lmL_law_11 (List.mem_of_getElem? (i := 14) rfl))
theorem iL_law_765 : rx_ins mL_law 765 = some (3, 766, 0, 0, 0, []) := rx_atm tbL_law ndL_law (lmL_law_11 (List.mem_of_getElem? (i := 15) rfl))
theorem iL_law_766 : rx_ins mL_law 766 = some (2, 767, 0, 3, 0, []) := rx_atm tbL_law ndL_law (lmL_law_11 (List.mem_of_getElem? (i := 16) rfl))
theorem iL_law_767 : rx_ins mL_law 767 = some (1, 768, 1, 0, 0, []) := rx_atm tbL_law ndL_law (lmL_law_11 (List.mem_of_getElem? (i := 17) rfl))
theorem iL_law_768 : rx_ins mL_law 768 = some (7, 769, 0, 0, 0, []) := rx_atm tbL_law ndL_law (lmL_law_11 (List.mem_of_getElem? (i := 18) rfl))
theorem iL_law_769 : rx_ins mL_law 769 = some (20, 770, 0, 0, 0, []) := rx_atm tbL_law ndL_law (lmL_law_11 (List.mem_of_getElem? (i := 19) rfl))
theorem iL_law_770 : rx_ins mL_law 770 = some (28, 773, 12, 94, 2, [(89, 36)]) := rx_atm tbL_law ndL_law (lmL_law_11 (List.mem_of_getElem? (i := 20) rfl))
theorem iL_law_773 : rx_ins mL_law 773 = some (3, 774, 0, 2, 0, []) := rx_atm tbL_law ndL_law (lmL_law_11 (List.mem_of_getElem? (i := 21) rfl))
theorem iL_law_774 : rx_ins mL_law 774 = some (3, 775, 0, 0, 0, []) := rx_atm tbL_law ndL_law (lmL_law_11 (List.mem_of_getElem? (i := 22) rfl))
theorem iL_law_775 : rx_ins mL_law 775 = some (2, 776, 0, 3, 0, []) := rx_atm tbL_law ndL_law (lmL_law_11 (List.mem_of_getElem? (i := 23) rfl))
theorem iL_law_776 : rx_ins mL_law 776 = some (1, 777, 1, 0, 0, []) := rx_atm tbL_law ndL_law (lmL_law_11 (List.mem_of_getElem? (i := 24) rfl))
theorem iL_law_777 : rx_ins mL_law 777 = some (7, 778, 0, 0, 0, []) := rx_atm tbL_law ndL_law (lmL_law_11 (List.mem_of_getElem? (i := 25) rfl))
theorem iL_law_778 : rx_ins mL_law 778 = some (20, 779, 0, 0, 0, []) := rx_atm tbL_law ndL_law (lmL_law_11 (List.mem_of_getElem? (i := 26) rfl))
theorem iL_law_779 : rx_ins mL_law 779 = some (28, 782, 13, 188, 2, [(92, 37)]) := rx_atm tbL_law ndL_law (lmL_law_11 (List.mem_of_getElem? (i := 27) rfl))
theorem iL_law_782 : rx_ins mL_law 782 = some (14, 785, 707, 0, 1489, []) := rx_atm tbL_law ndL_law (lmL_law_11 (List.mem_of_getElem? (i := 28) rfl))
theorem iL_law_785 : rx_ins mL_law 785 = some (1, 786, 0, 0, 0, []) := rx_atm tbL_law ndL_law (lmL_law_11 (List.mem_of_getElem? (i := 29) rfl))
theorem iL_law_786 : rx_ins mL_law 786 = some (29, 787, 1, 0, 0, []) := rx_atm tbL_law ndL_law (lmL_law_11 (List.mem_of_getElem? (i := 30) rfl))
theorem iL_law_787 : rx_ins mL_law 787 = some (3, 788, 0, 1, 0, []) := rx_atm tbL_law ndL_law (lmL_law_11 (List.mem_of_getElem? (i := 31) rfl))
theorem iL_law_788 : rx_ins mL_law 788 = some (3, 789, 0, 0, 0, []) := rx_atm tbL_law ndL_law (lmL_law_11 (List.mem_of_getElem? (i := 32) rfl))
theorem iL_law_789 : rx_ins mL_law 789 = some (2, 790, 0, 3, 0, []) := rx_atm tbL_law ndL_law (lmL_law_11 (List.mem_of_getElem? (i := 33) rfl))
theorem iL_law_790 : rx_ins mL_law 790 = some (1, 791, 1, 0, 0, []) := rx_atm tbL_law ndL_law (lmL_law_11 (List.mem_of_getElem? (i := 34) rfl))
theorem iL_law_791 : rx_ins mL_law 791 = some (7, 792, 0, 0, 0, []) := rx_atm tbL_law ndL_law (lmL_law_11 (List.mem_of_getElem? (i := 35) rfl))
theorem iL_law_792 : rx_ins mL_law 792 = some (20, 793, 0, 0, 0, []) := rx_atm tbL_law ndL_law (lmL_law_11 (List.mem_of_getElem? (i := 36) rfl))
theorem iL_law_793 : rx_ins mL_law 793 = some (28, 796, 12, 95, 2, [(93, 38)]) := rx_atm tbL_law ndL_law (lmL_law_11 (List.mem_of_getElem? (i := 37) rfl))
theorem iL_law_796 : rx_ins mL_law 796 = some (3, 797, 0, 2, 0, []) := rx_atm tbL_law ndL_law (lmL_law_11 (List.mem_of_getElem? (i := 38) rfl))
theorem iL_law_797 : rx_ins mL_law 797 = some (3, 798, 0, 0, 0, []) := rx_atm tbL_law ndL_law (lmL_law_11 (List.mem_of_getElem? (i := 39) rfl))
theorem iL_law_798 : rx_ins mL_law 798 = some (2, 799, 0, 3, 0, []) := rx_atm tbL_law ndL_law (lmL_law_12 (List.mem_of_getElem? (i := 0) rfl))
theorem iL_law_799 : rx_ins mL_law 799 = some (1, 800, 1, 0, 0, []) := rx_atm tbL_law ndL_law (lmL_law_12 (List.mem_of_getElem? (i := 1) rfl))
theorem iL_law_800 : rx_ins mL_law 800 = some (7, 801, 0, 0, 0, []) := rx_atm tbL_law ndL_law (lmL_law_12 (List.mem_of_getElem? (i := 2) rfl))
theorem iL_law_801 : rx_ins mL_law 801 = some (20, 802, 0, 0, 0, []) := rx_atm tbL_law ndL_law (lmL_law_12 (List.mem_of_getElem? (i := 3) rfl))
theorem iL_law_802 : rx_ins mL_law 802 = some (28, 805, 13, 195, 2, [(96, 39)]) := rx_atm tbL_law ndL_law (lmL_law_12 (List.mem_of_getElem? (i := 4) rfl))
theorem iL_law_805 : rx_ins mL_law 805 = some (14, 808, 684, 0, 1489, []) := rx_atm tbL_law ndL_law (lmL_law_12 (List.mem_of_getElem? (i := 5) rfl))
theorem iL_law_808 : rx_ins mL_law 808 = some (1, 809, 0, 0, 0, []) := rx_atm tbL_law ndL_law (lmL_law_12 (List.mem_of_getElem? (i := 6) rfl))
theorem iL_law_809 : rx_ins mL_law 809 = some (29, 810, 1, 0, 0, []) := rx_atm tbL_law ndL_law (lmL_law_12 (List.mem_of_getElem? (i := 7) rfl))
theorem iL_law_810 : rx_ins mL_law 810 = some (3, 811, 0, 1, 0, []) := rx_atm tbL_law ndL_law (lmL_law_12 (List.mem_of_getElem? (i := 8) rfl))
theorem iL_law_811 : rx_ins mL_law 811 = some (3, 812, 0, 0, 0, []) := rx_atm tbL_law ndL_law (lmL_law_12 (List.mem_of_getElem? (i := 9) rfl))
theorem iL_law_812 : rx_ins mL_law 812 = some (2, 813, 0, 3, 0, []) := rx_atm tbL_law ndL_law (lmL_law_12 (List.mem_of_getElem? (i := 10) rfl))
theorem iL_law_813 : rx_ins mL_law 813 = some (1, 814, 1, 0, 0, []) := rx_atm tbL_law ndL_law (lmL_law_12 (List.mem_of_getElem? (i := 11) rfl))
theorem iL_law_814 : rx_ins mL_law 814 = some (7, 815, 0, 0, 0, []) := rx_atm tbL_law ndL_law (lmL_law_12 (List.mem_of_getElem? (i := 12) rfl))
theorem iL_law_815 : rx_ins mL_law 815 = some (20, 816, 0, 0, 0, []) := rx_atm tbL_law ndL_law (lmL_law_12 (List.mem_of_getElem? (i := 13) rfl))
theorem iL_law_816 : rx_ins mL_law 816 = some (28, 819, 12, 96, 2, [(97, 40)]) := rx_atm tbL_law ndL_law (lmL_law_12 (List.mem_of_getElem? (i := 14) rfl))
theorem iL_law_819 : rx_ins mL_law 819 = some (3, 820, 0, 2, 0, []) := rx_atm tbL_law ndL_law (lmL_law_12 (List.mem_of_getElem? (i := 15) rfl))
theorem iL_law_820 : rx_ins mL_law 820 = some (3, 821, 0, 0, 0, []) := rx_atm tbL_law ndL_law (lmL_law_12 (List.mem_of_getElem? (i := 16) rfl))
theorem iL_law_821 : rx_ins mL_law 821 = some (2, 822, 0, 3, 0, []) := rx_atm tbL_law ndL_law (lmL_law_12 (List.mem_of_getElem? (i := 17) rfl))
theorem iL_law_822 : rx_ins mL_law 822 = some (1, 823, 1, 0, 0, []) := rx_atm tbL_law ndL_law (lmL_law_12 (List.mem_of_getElem? (i := 18) rfl))
theorem iL_law_823 : rx_ins mL_law 823 = some (7, 824, 0, 0, 0, []) := rx_atm tbL_law ndL_law (lmL_law_12 (List.mem_of_getElem? (i := 19) rfl))
theorem iL_law_824 : rx_ins mL_law 824 = some (20, 825, 0, 0, 0, []) := rx_atm tbL_law ndL_law (lmL_law_12 (List.mem_of_getElem? (i := 20) rfl))
theorem iL_law_825 : rx_ins mL_law 825 = some (28, 828, 13, 198, 2, [(100, 41)]) := rx_atm tbL_law ndL_law (lmL_law_12 (List.mem_of_getElem? (i := 21) rfl))
theorem iL_law_828 : rx_ins mL_law 828 = some (14, 831, 661, 0, 1489, []) := rx_atm tbL_law ndL_law (lmL_law_12 (List.mem_of_getElem? (i := 22) rfl))
theorem iL_law_831 : rx_ins mL_law 831 = some (1, 832, 0, 0, 0, []) := rx_atm tbL_law ndL_law (lmL_law_12 (List.mem_of_getElem? (i := 23) rfl))
theorem iL_law_832 : rx_ins mL_law 832 = some (29, 833, 1, 0, 0, []) := rx_atm tbL_law ndL_law (lmL_law_12 (List.mem_of_getElem? (i := 24) rfl))
theorem iL_law_833 : rx_ins mL_law 833 = some (3, 834, 0, 1, 0, []) := rx_atm tbL_law ndL_law (lmL_law_12 (List.mem_of_getElem? (i := 25) rfl))
theorem iL_law_834 : rx_ins mL_law 834 = some (3, 835, 0, 0, 0, []) := rx_atm tbL_law ndL_law (lmL_law_12 (List.mem_of_getElem? (i := 26) rfl))
theorem iL_law_835 : rx_ins mL_law 835 = some (2, 836, 0, 3, 0, []) := rx_atm tbL_law ndL_law (lmL_law_12 (List.mem_of_getElem? (i := 27) rfl))
theorem iL_law_836 : rx_ins mL_law 836 = some (1, 837, 1, 0, 0, []) := rx_atm tbL_law ndL_law (lmL_law_12 (List.mem_of_getElem? (i := 28) rfl))
theorem iL_law_837 : rx_ins mL_law 837 = some (7, 838, 0, 0, 0, []) := rx_atm tbL_law ndL_law (lmL_law_12 (List.mem_of_getElem? (i := 29) rfl))
theorem iL_law_838 : rx_ins mL_law 838 = some (20, 839, 0, 0, 0, []) := rx_atm tbL_law ndL_law (lmL_law_12 (List.mem_of_getElem? (i := 30) rfl))
theorem iL_law_839 : rx_ins mL_law 839 = some (28, 842, 12, 97, 2, [(101, 42)]) := rx_atm tbL_law ndL_law (lmL_law_12 (List.mem_of_getElem? (i := 31) rfl))
theorem iL_law_842 : rx_ins mL_law 842 = some (3, 843, 0, 2, 0, []) := rx_atm tbL_law ndL_law (lmL_law_12 (List.mem_of_getElem? (i := 32) rfl))
theorem iL_law_843 : rx_ins mL_law 843 = some (3, 844, 0, 0, 0, []) := rx_atm tbL_law ndL_law (lmL_law_12 (List.mem_of_getElem? (i := 33) rfl))
theorem iL_law_844 : rx_ins mL_law 844 = some (2, 845, 0, 3, 0, []) := rx_atm tbL_law ndL_law (lmL_law_12 (List.mem_of_getElem? (i := 34) rfl))
theorem iL_law_845 : rx_ins mL_law 845 = some (1, 846, 1, 0, 0, []) := rx_atm tbL_law ndL_law (lmL_law_12 (List.mem_of_getElem? (i := 35) rfl))
theorem iL_law_846 : rx_ins mL_law 846 = some (7, 847, 0, 0, 0, []) := rx_atm tbL_law ndL_law (lmL_law_12 (List.mem_of_getElem? (i := 36) rfl))
theorem iL_law_847 : rx_ins mL_law 847 = some (20, 848, 0, 0, 0, []) := rx_atm tbL_law ndL_law (lmL_law_12 (List.mem_of_getElem? (i := 37) rfl))
theorem iL_law_848 : rx_ins mL_law 848 = some (28, 851, 13, 202, 2, [(104, 43)]) := rx_atm tbL_law ndL_law (lmL_law_12 (List.mem_of_getElem? (i := 38) rfl))
theorem iL_law_851 : rx_ins mL_law 851 = some (14, 854, 638, 0, 1489, []) := rx_atm tbL_law ndL_law (lmL_law_12 (List.mem_of_getElem? (i := 39) rfl))
theorem iL_law_854 : rx_ins mL_law 854 = some (1, 855, 0, 0, 0, []) := rx_atm tbL_law ndL_law (lmL_law_13 (List.mem_of_getElem? (i := 0) rfl))
theorem iL_law_855 : rx_ins mL_law 855 = some (29, 856, 1, 0, 0, []) := rx_atm tbL_law ndL_law (lmL_law_13 (List.mem_of_getElem? (i := 1) rfl))
theorem iL_law_856 : rx_ins mL_law 856 = some (3, 857, 0, 1, 0, []) := rx_atm tbL_law ndL_law (lmL_law_13 (List.mem_of_getElem? (i := 2) rfl))
theorem iL_law_857 : rx_ins mL_law 857 = some (3, 858, 0, 0, 0, []) := rx_atm tbL_law ndL_law (lmL_law_13 (List.mem_of_getElem? (i := 3) rfl))
theorem iL_law_858 : rx_ins mL_law 858 = some (2, 859, 0, 3, 0, []) := rx_atm tbL_law ndL_law (lmL_law_13 (List.mem_of_getElem? (i := 4) rfl))
theorem iL_law_859 : rx_ins mL_law 859 = some (1, 860, 1, 0, 0, []) := rx_atm tbL_law ndL_law (lmL_law_13 (List.mem_of_getElem? (i := 5) rfl))
theorem iL_law_860 : rx_ins mL_law 860 = some (7, 861, 0, 0, 0, []) := rx_atm tbL_law ndL_law (lmL_law_13 (List.mem_of_getElem? (i := 6) rfl))
theorem iL_law_861 : rx_ins mL_law 861 = some (20, 862, 0, 0, 0, []) := rx_atm tbL_law ndL_law (lmL_law_13 (List.mem_of_getElem? (i := 7) rfl))
theorem iL_law_862 : rx_ins mL_law 862 = some (3, 863, 0, 0, 0, []) := rx_atm tbL_law ndL_law (lmL_law_13 (List.mem_of_getElem? (i := 8) rfl))
theorem iL_law_863 : rx_ins mL_law 863 = some (2, 864, 0, 3, 0, []) := rx_atm tbL_law ndL_law (lmL_law_13 (List.mem_of_getElem? (i := 9) rfl))
theorem iL_law_864 : rx_ins mL_law 864 = some (1, 865, 2, 0, 0, []) := rx_atm tbL_law ndL_law (lmL_law_13 (List.mem_of_getElem? (i := 10) rfl))
theorem iL_law_865 : rx_ins mL_law 865 = some (7, 866, 0, 0, 0, []) := rx_atm tbL_law ndL_law (lmL_law_13 (List.mem_of_getElem? (i := 11) rfl))
theorem iL_law_866 : rx_ins mL_law 866 = some (20, 867, 0, 0, 0, []) := rx_atm tbL_law ndL_law (lmL_law_13 (List.mem_of_getElem? (i := 12) rfl))
theorem iL_law_867 : rx_ins mL_law 867 = some (28, 870, 12, 98, 3, [(105, 44)]) := rx_atm tbL_law ndL_law (lmL_law_13 (List.mem_of_getElem? (i := 13) rfl))
theorem iL_law_870 : rx_ins mL_law 870 = some (3, 871, 0, 2, 0, []) := rx_atm tbL_law ndL_law (lmL_law_13 (List.mem_of_getElem? (i := 14) rfl))
theorem iL_law_871 : rx_ins mL_law 871 = some (3, 872, 0, 0, 0, []) := rx_atm tbL_law ndL_law (lmL_law_13 (List.mem_of_getElem? (i := 15) rfl))
theorem iL_law_872 : rx_ins mL_law 872 = some (2, 873, 0, 3, 0, []) := rx_atm tbL_law ndL_law (lmL_law_13 (List.mem_of_getElem? (i := 16) rfl))
theorem iL_law_873 : rx_ins mL_law 873 = some (1, 874, 1, 0, 0, []) := rx_atm tbL_law ndL_law (lmL_law_13 (List.mem_of_getElem? (i := 17) rfl))
theorem iL_law_874 : rx_ins mL_law 874 = some (7, 875, 0, 0, 0, []) := rx_atm tbL_law ndL_law (lmL_law_13 (List.mem_of_getElem? (i := 18) rfl))
theorem iL_law_875 : rx_ins mL_law 875 = some (20, 876, 0, 0, 0, []) := rx_atm tbL_law ndL_law (lmL_law_13 (List.mem_of_getElem? (i := 19) rfl))
theorem iL_law_876 : rx_ins mL_law 876 = some (3, 877, 0, 0, 0, []) := rx_atm tbL_law ndL_law (lmL_law_13 (List.mem_of_getElem? (i := 20) rfl))
theorem iL_law_877 : rx_ins mL_law 877 = some (2, 878, 0, 3, 0, []) := rx_atm tbL_law ndL_law (lmL_law_13 (List.mem_of_getElem? (i := 21) rfl))
theorem iL_law_878 : rx_ins mL_law 878 = some (1, 879, 2, 0, 0, []) := rx_atm tbL_law ndL_law (lmL_law_13 (List.mem_of_getElem? (i := 22) rfl))
theorem iL_law_879 : rx_ins mL_law 879 = some (7, 880, 0, 0, 0, []) := rx_atm tbL_law ndL_law (lmL_law_13 (List.mem_of_getElem? (i := 23) rfl))
theorem iL_law_880 : rx_ins mL_law 880 = some (20, 881, 0, 0, 0, []) := rx_atm tbL_law ndL_law (lmL_law_13 (List.mem_of_getElem? (i := 24) rfl))
theorem iL_law_881 : rx_ins mL_law 881 = some (28, 884, 13, 205, 3, [(108, 45)]) := rx_atm tbL_law ndL_law (lmL_law_13 (List.mem_of_getElem? (i := 25) rfl))
theorem iL_law_884 : rx_ins mL_law 884 = some (14, 887, 605, 0, 1489, []) := rx_atm tbL_law ndL_law (lmL_law_13 (List.mem_of_getElem? (i := 26) rfl))
theorem iL_law_887 : rx_ins mL_law 887 = some (1, 888, 0, 0, 0, []) := rx_atm tbL_law ndL_law (lmL_law_13 (List.mem_of_getElem? (i := 27) rfl))
theorem iL_law_888 : rx_ins mL_law 888 = some (29, 889, 1, 0, 0, []) := rx_atm tbL_law ndL_law (lmL_law_13 (List.mem_of_getElem? (i := 28) rfl))
theorem iL_law_889 : rx_ins mL_law 889 = some (3, 890, 0, 1, 0, []) := rx_atm tbL_law ndL_law (lmL_law_13 (List.mem_of_getElem? (i := 29) rfl))
theorem iL_law_890 : rx_ins mL_law 890 = some (3, 891, 0, 0, 0, []) := rx_atm tbL_law ndL_law (lmL_law_13 (List.mem_of_getElem? (i := 30) rfl))
theorem iL_law_891 : rx_ins mL_law 891 = some (2, 892, 0, 3, 0, []) := rx_atm tbL_law ndL_law (lmL_law_13 (List.mem_of_getElem? (i := 31) rfl))
theorem iL_law_892 : rx_ins mL_law 892 = some (1, 893, 1, 0, 0, []) := rx_atm tbL_law ndL_law (lmL_law_13 (List.mem_of_getElem? (i := 32) rfl))
theorem iL_law_893 : rx_ins mL_law 893 = some (7, 894, 0, 0, 0, []) := rx_atm tbL_law ndL_law (lmL_law_13 (List.mem_of_getElem? (i := 33) rfl))
theorem iL_law_894 : rx_ins mL_law 894 = some (20, 895, 0, 0, 0, []) := rx_atm tbL_law ndL_law (lmL_law_13 (List.mem_of_getElem? (i := 34) rfl))
theorem iL_law_895 : rx_ins mL_law 895 = some (3, 896, 0, 0, 0, []) := rx_atm tbL_law ndL_law (lmL_law_13 (List.mem_of_getElem? (i := 35) rfl))
theorem iL_law_896 : rx_ins mL_law 896 = some (2, 897, 0, 3, 0, []) := rx_atm tbL_law ndL_law (lmL_law_13 (List.mem_of_getElem? (i := 36) rfl))
theorem iL_law_897 : rx_ins mL_law 897 = some (1, 898, 2, 0, 0, []) := rx_atm tbL_law ndL_law (lmL_law_13 (List.mem_of_getElem? (i := 37) rfl))
theorem iL_law_898 : rx_ins mL_law 898 = some (7, 899, 0, 0, 0, []) := rx_atm tbL_law ndL_law (lmL_law_13 (List.mem_of_getElem? (i := 38) rfl))
theorem iL_law_899 : rx_ins mL_law 899 = some (20, 900, 0, 0, 0, []) := rx_atm tbL_law ndL_law (lmL_law_13 (List.mem_of_getElem? (i := 39) rfl))
theorem iL_law_900 : rx_ins mL_law 900 = some (28, 903, 12, 99, 3, [(109, 46)]) := rx_atm tbL_law ndL_law (lmL_law_14 (List.mem_of_getElem? (i := 0) rfl))
theorem iL_law_903 : rx_ins mL_law 903 = some (3, 904, 0, 2, 0, []) := rx_atm tbL_law ndL_law (lmL_law_14 (List.mem_of_getElem? (i := 1) rfl))
theorem iL_law_904 : rx_ins mL_law 904 = some (3, 905, 0, 0, 0, []) := rx_atm tbL_law ndL_law (lmL_law_14 (List.mem_of_getElem? (i := 2) rfl))
theorem iL_law_905 : rx_ins mL_law 905 = some (2, 906, 0, 3, 0, []) := rx_atm tbL_law ndL_law (lmL_law_14 (List.mem_of_getElem? (i := 3) rfl))
theorem iL_law_906 : rx_ins mL_law 906 = some (1, 907, 1, 0, 0, []) := rx_atm tbL_law ndL_law (lmL_law_14 (List.mem_of_getElem? (i := 4) rfl))
theorem iL_law_907 : rx_ins mL_law 907 = some (7, 908, 0, 0, 0, []) := rx_atm tbL_law ndL_law (lmL_law_14 (List.mem_of_getElem? (i := 5) rfl))
theorem iL_law_908 : rx_ins mL_law 908 = some (20, 909, 0, 0, 0, []) := rx_atm tbL_law ndL_law (lmL_law_14 (List.mem_of_getElem? (i := 6) rfl))
theorem iL_law_909 : rx_ins mL_law 909 = some (3, 910, 0, 0, 0, []) := rx_atm tbL_law ndL_law (lmL_law_14 (List.mem_of_getElem? (i := 7) rfl))
theorem iL_law_910 : rx_ins mL_law 910 = some (2, 911, 0, 3, 0, []) := rx_atm tbL_law ndL_law (lmL_law_14 (List.mem_of_getElem? (i := 8) rfl))
theorem iL_law_911 : rx_ins mL_law 911 = some (1, 912, 2, 0, 0, []) := rx_atm tbL_law ndL_law (lmL_law_14 (List.mem_of_getElem? (i := 9) rfl))
theorem iL_law_912 : rx_ins mL_law 912 = some (7, 913, 0, 0, 0, []) := rx_atm tbL_law ndL_law (lmL_law_14 (List.mem_of_getElem? (i := 10) rfl))
theorem iL_law_913 : rx_ins mL_law 913 = some (20, 914, 0, 0, 0, []) := rx_atm tbL_law ndL_law (lmL_law_14 (List.mem_of_getElem? (i := 11) rfl))
theorem iL_law_914 : rx_ins mL_law 914 = some (28, 917, 13, 209, 3, [(112, 47)]) := rx_atm tbL_law ndL_law (lmL_law_14 (List.mem_of_getElem? (i := 12) rfl))
theorem iL_law_917 : rx_ins mL_law 917 = some (14, 920, 572, 0, 1489, []) := rx_atm tbL_law ndL_law (lmL_law_14 (List.mem_of_getElem? (i := 13) rfl))
theorem iL_law_920 : rx_ins mL_law 920 = some (1, 921, 0, 0, 0, []) := rx_atm tbL_law ndL_law (lmL_law_14 (List.mem_of_getElem? (i := 14) rfl))
theorem iL_law_921 : rx_ins mL_law 921 = some (29, 922, 1, 0, 0, []) := rx_atm tbL_law ndL_law (lmL_law_14 (List.mem_of_getElem? (i := 15) rfl))
theorem iL_law_922 : rx_ins mL_law 922 = some (3, 923, 0, 1, 0, []) := rx_atm tbL_law ndL_law (lmL_law_14 (List.mem_of_getElem? (i := 16) rfl))
theorem iL_law_923 : rx_ins mL_law 923 = some (3, 924, 0, 0, 0, []) := rx_atm tbL_law ndL_law (lmL_law_14 (List.mem_of_getElem? (i := 17) rfl))
theorem iL_law_924 : rx_ins mL_law 924 = some (2, 925, 0, 3, 0, []) := rx_atm tbL_law ndL_law (lmL_law_14 (List.mem_of_getElem? (i := 18) rfl))
theorem iL_law_925 : rx_ins mL_law 925 = some (1, 926, 1, 0, 0, []) := rx_atm tbL_law ndL_law (lmL_law_14 (List.mem_of_getElem? (i := 19) rfl))
theorem iL_law_926 : rx_ins mL_law 926 = some (7, 927, 0, 0, 0, []) := rx_atm tbL_law ndL_law (lmL_law_14 (List.mem_of_getElem? (i := 20) rfl))
theorem iL_law_927 : rx_ins mL_law 927 = some (20, 928, 0, 0, 0, []) := rx_atm tbL_law ndL_law (lmL_law_14 (List.mem_of_getElem? (i := 21) rfl))
theorem iL_law_928 : rx_ins mL_law 928 = some (28, 931, 12, 100, 2, [(113, 48)]) := rx_atm tbL_law ndL_law (lmL_law_14 (List.mem_of_getElem? (i := 22) rfl))
theorem iL_law_931 : rx_ins mL_law 931 = some (3, 932, 0, 2, 0, []) := rx_atm tbL_law ndL_law (lmL_law_14 (List.mem_of_getElem? (i := 23) rfl))
theorem iL_law_932 : rx_ins mL_law 932 = some (3, 933, 0, 0, 0, []) := rx_atm tbL_law ndL_law (lmL_law_14 (List.mem_of_getElem? (i := 24) rfl))
theorem iL_law_933 : rx_ins mL_law 933 = some (2, 934, 0, 3, 0, []) := rx_atm tbL_law ndL_law (lmL_law_14 (List.mem_of_getElem? (i := 25) rfl))
theorem iL_law_934 : rx_ins mL_law 934 = some (1, 935, 1, 0, 0, []) := rx_atm tbL_law ndL_law (lmL_law_14 (List.mem_of_getElem? (i := 26) rfl))
theorem iL_law_935 : rx_ins mL_law 935 = some (7, 936, 0, 0, 0, []) := rx_atm tbL_law ndL_law (lmL_law_14 (List.mem_of_getElem? (i := 27) rfl))
theorem iL_law_936 : rx_ins mL_law 936 = some (20, 937, 0, 0, 0, []) := rx_atm tbL_law ndL_law (lmL_law_14 (List.mem_of_getElem? (i := 28) rfl))
theorem iL_law_937 : rx_ins mL_law 937 = some (28, 940, 13, 210, 2, [(116, 49)]) := rx_atm tbL_law ndL_law (lmL_law_14 (List.mem_of_getElem? (i := 29) rfl))
theorem iL_law_940 : rx_ins mL_law 940 = some (14, 943, 549, 0, 1489, []) := rx_atm tbL_law ndL_law (lmL_law_14 (List.mem_of_getElem? (i := 30) rfl))
theorem iL_law_943 : rx_ins mL_law 943 = some (1, 944, 0, 0, 0, []) := rx_atm tbL_law ndL_law (lmL_law_14 (List.mem_of_getElem? (i := 31) rfl))
theorem iL_law_944 : rx_ins mL_law 944 = some (29, 945, 1, 0, 0, []) := rx_atm tbL_law ndL_law (lmL_law_14 (List.mem_of_getElem? (i := 32) rfl))
theorem iL_law_945 : rx_ins mL_law 945 = some (3, 946, 0, 1, 0, []) := rx_atm tbL_law ndL_law (lmL_law_14 (List.mem_of_getElem? (i := 33) rfl))
theorem iL_law_946 : rx_ins mL_law 946 = some (3, 947, 0, 0, 0, []) := rx_atm tbL_law ndL_law (lmL_law_14 (List.mem_of_getElem? (i := 34) rfl))
theorem iL_law_947 : rx_ins mL_law 947 = some (2, 948, 0, 3, 0, []) := rx_atm tbL_law ndL_law (lmL_law_14 (List.mem_of_getElem? (i := 35) rfl))
theorem iL_law_948 : rx_ins mL_law 948 = some (1, 949, 1, 0, 0, []) := rx_atm tbL_law ndL_law (lmL_law_14 (List.mem_of_getElem? (i := 36) rfl))
theorem iL_law_949 : rx_ins mL_law 949 = some (7, 950, 0, 0, 0, []) := rx_atm tbL_law ndL_law (lmL_law_14 (List.mem_of_getElem? (i := 37) rfl))
theorem iL_law_950 : rx_ins mL_law 950 = some (20, 951, 0, 0, 0, []) := rx_atm tbL_law ndL_law (lmL_law_14 (List.mem_of_getElem? (i := 38) rfl))
theorem iL_law_951 : rx_ins mL_law 951 = some (3, 952, 0, 0, 0, []) := rx_atm tbL_law ndL_law (lmL_law_14 (List.mem_of_getElem? (i := 39) rfl))
theorem iL_law_952 : rx_ins mL_law 952 = some (2, 953, 0, 3, 0, []) := rx_atm tbL_law ndL_law (lmL_law_15 (List.mem_of_getElem? (i := 0) rfl))
theorem iL_law_953 : rx_ins mL_law 953 = some (1, 954, 2, 0, 0, []) := rx_atm tbL_law ndL_law (lmL_law_15 (List.mem_of_getElem? (i := 1) rfl))
theorem iL_law_954 : rx_ins mL_law 954 = some (7, 955, 0, 0, 0, []) := rx_atm tbL_law ndL_law (lmL_law_15 (List.mem_of_getElem? (i := 2) rfl))
theorem iL_law_955 : rx_ins mL_law 955 = some (20, 956, 0, 0, 0, []) := rx_atm tbL_law ndL_law (lmL_law_15 (List.mem_of_getElem? (i := 3) rfl))
theorem iL_law_956 : rx_ins mL_law 956 = some (3, 957, 0, 0, 0, []) := rx_atm tbL_law ndL_law (lmL_law_15 (List.mem_of_getElem? (i := 4) rfl))
theorem iL_law_957 : rx_ins mL_law 957 = some (2, 958, 0, 3, 0, []) := rx_atm tbL_law ndL_law (lmL_law_15 (List.mem_of_getElem? (i := 5) rfl))
theorem iL_law_958 : rx_ins mL_law 958 = some (1, 959, 3, 0, 0, []) := rx_atm tbL_law ndL_law (lmL_law_15 (List.mem_of_getElem? (i := 6) rfl))
theorem iL_law_959 : rx_ins mL_law 959 = some (7, 960, 0, 0, 0, []) := rx_atm tbL_law ndL_law (lmL_law_15 (List.mem_of_getElem? (i := 7) rfl))
theorem iL_law_960 : rx_ins mL_law 960 = some (20, 961, 0, 0, 0, []) := rx_atm tbL_law ndL_law (lmL_law_15 (List.mem_of_getElem? (i := 8) rfl))
theorem iL_law_961 : rx_ins mL_law 961 = some (28, 964, 12, 101, 4, [(117, 50)]) := rx_atm tbL_law ndL_law (lmL_law_15 (List.mem_of_getElem? (i := 9) rfl))
theorem iL_law_964 : rx_ins mL_law 964 = some (3, 965, 0, 2, 0, []) := rx_atm tbL_law ndL_law (lmL_law_15 (List.mem_of_getElem? (i := 10) rfl))
theorem iL_law_965 : rx_ins mL_law 965 = some (3, 966, 0, 0, 0, []) := rx_atm tbL_law ndL_law (lmL_law_15 (List.mem_of_getElem? (i := 11) rfl))
theorem iL_law_966 : rx_ins mL_law 966 = some (2, 967, 0, 3, 0, []) := rx_atm tbL_law ndL_law (lmL_law_15 (List.mem_of_getElem? (i := 12) rfl))
theorem iL_law_967 : rx_ins mL_law 967 = some (1, 968, 1, 0, 0, []) := rx_atm tbL_law ndL_law (lmL_law_15 (List.mem_of_getElem? (i := 13) rfl))
theorem iL_law_968 : rx_ins mL_law 968 = some (7, 969, 0, 0, 0, []) := rx_atm tbL_law ndL_law (lmL_law_15 (List.mem_of_getElem? (i := 14) rfl))
theorem iL_law_969 : rx_ins mL_law 969 = some (20, 970, 0, 0, 0, []) := rx_atm tbL_law ndL_law (lmL_law_15 (List.mem_of_getElem? (i := 15) rfl))
theorem iL_law_970 : rx_ins mL_law 970 = some (3, 971, 0, 0, 0, []) := rx_atm tbL_law ndL_law (lmL_law_15 (List.mem_of_getElem? (i := 16) rfl))
theorem iL_law_971 : rx_ins mL_law 971 = some (2, 972, 0, 3, 0, []) := rx_atm tbL_law ndL_law (lmL_law_15 (List.mem_of_getElem? (i := 17) rfl))
theorem iL_law_972 : rx_ins mL_law 972 = some (1, 973, 2, 0, 0, []) := rx_atm tbL_law ndL_law (lmL_law_15 (List.mem_of_getElem? (i := 18) rfl))
theorem iL_law_973 : rx_ins mL_law 973 = some (7, 974, 0, 0, 0, []) := rx_atm tbL_law ndL_law (lmL_law_15 (List.mem_of_getElem? (i := 19) rfl))
theorem iL_law_974 : rx_ins mL_law 974 = some (20, 975, 0, 0, 0, []) := rx_atm tbL_law ndL_law (lmL_law_15 (List.mem_of_getElem? (i := 20) rfl))
theorem iL_law_975 : rx_ins mL_law 975 = some (3, 976, 0, 0, 0, []) := rx_atm tbL_law ndL_law (lmL_law_15 (List.mem_of_getElem? (i := 21) rfl))
theorem iL_law_976 : rx_ins mL_law 976 = some (2, 977, 0, 3, 0, []) := rx_atm tbL_law ndL_law (lmL_law_15 (List.mem_of_getElem? (i := 22) rfl))
theorem iL_law_977 : rx_ins mL_law 977 = some (1, 978, 3, 0, 0, []) := rx_atm tbL_law ndL_law (lmL_law_15 (List.mem_of_getElem? (i := 23) rfl))
theorem iL_law_978 : rx_ins mL_law 978 = some (7, 979, 0, 0, 0, []) := rx_atm tbL_law ndL_law (lmL_law_15 (List.mem_of_getElem? (i := 24) rfl))
theorem iL_law_979 : rx_ins mL_law 979 = some (20, 980, 0, 0, 0, []) := rx_atm tbL_law ndL_law (lmL_law_15 (List.mem_of_getElem? (i := 25) rfl))
theorem iL_law_980 : rx_ins mL_law 980 = some (28, 983, 13, 211, 4, [(120, 51)]) := rx_atm tbL_law ndL_law (lmL_law_15 (List.mem_of_getElem? (i := 26) rfl))
theorem iL_law_983 : rx_ins mL_law 983 = some (14, 986, 506, 0, 1489, []) := rx_atm tbL_law ndL_law (lmL_law_15 (List.mem_of_getElem? (i := 27) rfl))
theorem iL_law_986 : rx_ins mL_law 986 = some (1, 987, 0, 0, 0, []) := rx_atm tbL_law ndL_law (lmL_law_15 (List.mem_of_getElem? (i := 28) rfl))
theorem iL_law_987 : rx_ins mL_law 987 = some (29, 988, 1, 0, 0, []) := rx_atm tbL_law ndL_law (lmL_law_15 (List.mem_of_getElem? (i := 29) rfl))
theorem iL_law_988 : rx_ins mL_law 988 = some (3, 989, 0, 1, 0, []) := rx_atm tbL_law ndL_law (lmL_law_15 (List.mem_of_getElem? (i := 30) rfl))
theorem iL_law_989 : rx_ins mL_law 989 = some (3, 990, 0, 0, 0, []) := rx_atm tbL_law ndL_law (lmL_law_15 (List.mem_of_getElem? (i := 31) rfl))
theorem iL_law_990 : rx_ins mL_law 990 = some (2, 991, 0, 3, 0, []) := rx_atm tbL_law ndL_law (lmL_law_15 (List.mem_of_getElem? (i := 32) rfl))
theorem iL_law_991 : rx_ins mL_law 991 = some (1, 992, 1, 0, 0, []) := rx_atm tbL_law ndL_law (lmL_law_15 (List.mem_of_getElem? (i := 33) rfl))
theorem iL_law_992 : rx_ins mL_law 992 = some (7, 993, 0, 0, 0, []) := rx_atm tbL_law ndL_law (lmL_law_15 (List.mem_of_getElem? (i := 34) rfl))
theorem iL_law_993 : rx_ins mL_law 993 = some (20, 994, 0, 0, 0, []) := rx_atm tbL_law ndL_law (lmL_law_15 (List.mem_of_getElem? (i := 35) rfl))
theorem iL_law_994 : rx_ins mL_law 994 = some (28, 997, 12, 102, 2, [(121, 52)]) := rx_atm tbL_law ndL_law (lmL_law_15 (List.mem_of_getElem? (i := 36) rfl))
theorem iL_law_997 : rx_ins mL_law 997 = some (3, 998, 0, 2, 0, []) := rx_atm tbL_law ndL_law (lmL_law_15 (List.mem_of_getElem? (i := 37) rfl))
theorem iL_law_998 : rx_ins mL_law 998 = some (3, 999, 0, 0, 0, []) := rx_atm tbL_law ndL_law (lmL_law_15 (List.mem_of_getElem? (i := 38) rfl))
theorem iL_law_999 : rx_ins mL_law 999 = some (2, 1000, 0, 3, 0, []) := rx_atm tbL_law ndL_law (lmL_law_15 (List.mem_of_getElem? (i := 39) rfl))
theorem iL_law_1000 : rx_ins mL_law 1000 = some (1, 1001, 1, 0, 0, []) := rx_atm tbL_law ndL_law (lmL_law_16 (List.mem_of_getElem? (i := 0) rfl))
theorem iL_law_1001 : rx_ins mL_law 1001 = some (7, 1002, 0, 0, 0, []) := rx_atm tbL_law ndL_law (lmL_law_16 (List.mem_of_getElem? (i := 1) rfl))
theorem iL_law_1002 : rx_ins mL_law 1002 = some (20, 1003, 0, 0, 0, []) := rx_atm tbL_law ndL_law (lmL_law_16 (List.mem_of_getElem? (i := 2) rfl))
theorem iL_law_1003 : rx_ins mL_law 1003 = some (28, 1006, 13, 212, 2, [(124, 53)]) := rx_atm tbL_law ndL_law (lmL_law_16 (List.mem_of_getElem? (i := 3) rfl))
theorem iL_law_1006 : rx_ins mL_law 1006 = some (14, 1009, 483, 0, 1489, []) := rx_atm tbL_law ndL_law (lmL_law_16 (List.mem_of_getElem? (i := 4) rfl))
theorem iL_law_1009 : rx_ins mL_law 1009 = some (1, 1010, 0, 0, 0, []) := rx_atm tbL_law ndL_law (lmL_law_16 (List.mem_of_getElem? (i := 5) rfl))
theorem iL_law_1010 : rx_ins mL_law 1010 = some (29, 1011, 1, 0, 0, []) := rx_atm tbL_law ndL_law (lmL_law_16 (List.mem_of_getElem? (i := 6) rfl))
theorem iL_law_1011 : rx_ins mL_law 1011 = some (3, 1012, 0, 1, 0, []) := rx_atm tbL_law ndL_law (lmL_law_16 (List.mem_of_getElem? (i := 7) rfl))
theorem iL_law_1012 : rx_ins mL_law 1012 = some (28, 1015, 12, 103, 1, [(125, 54)]) := rx_atm tbL_law ndL_law (lmL_law_16 (List.mem_of_getElem? (i := 8) rfl))
theorem iL_law_1015 : rx_ins mL_law 1015 = some (3, 1016, 0, 2, 0, []) := rx_atm tbL_law ndL_law (lmL_law_16 (List.mem_of_getElem? (i := 9) rfl))
theorem iL_law_1016 : rx_ins mL_law 1016 = some (28, 1019, 13, 224, 1, [(128, 55)]) := rx_atm tbL_law ndL_law (lmL_law_16 (List.mem_of_getElem? (i := 10) rfl))
theorem iL_law_1019 : rx_ins mL_law 1019 = some (14, 1022, 470, 0, 1489, []) := rx_atm tbL_law ndL_law (lmL_law_16 (List.mem_of_getElem? (i := 11) rfl))
theorem iL_law_1022 : rx_ins mL_law 1022 = some (1, 1023, 0, 0, 0, []) := rx_atm tbL_law ndL_law (lmL_law_16 (List.mem_of_getElem? (i := 12) rfl))
theorem iL_law_1023 : rx_ins mL_law 1023 = some (29, 1024, 1, 0, 0, []) := rx_atm tbL_law ndL_law (lmL_law_16 (List.mem_of_getElem? (i := 13) rfl))
theorem iL_law_1024 : rx_ins mL_law 1024 = some (3, 1025, 0, 1, 0, []) := rx_atm tbL_law ndL_law (lmL_law_16 (List.mem_of_getElem? (i := 14) rfl))
theorem iL_law_1025 : rx_ins mL_law 1025 = some (3, 1026, 0, 0, 0, []) := rx_atm tbL_law ndL_law (lmL_law_16 (List.mem_of_getElem? (i := 15) rfl))
theorem iL_law_1026 : rx_ins mL_law 1026 = some (2, 1027, 0, 3, 0, []) := rx_atm tbL_law ndL_law (lmL_law_16 (List.mem_of_getElem? (i := 16) rfl))
theorem iL_law_1027 : rx_ins mL_law 1027 = some (1, 1028, 1, 0, 0, []) := rx_atm tbL_law ndL_law (lmL_law_16 (List.mem_of_getElem? (i := 17) rfl))
theorem iL_law_1028 : rx_ins mL_law 1028 = some (7, 1029, 0, 0, 0, []) := rx_atm tbL_law ndL_law (lmL_law_16 (List.mem_of_getElem? (i := 18) rfl))
theorem iL_law_1029 : rx_ins mL_law 1029 = some (20, 1030, 0, 0, 0, []) := rx_atm tbL_law ndL_law (lmL_law_16 (List.mem_of_getElem? (i := 19) rfl))
theorem iL_law_1030 : rx_ins mL_law 1030 = some (3, 1031, 0, 0, 0, []) := rx_atm tbL_law ndL_law (lmL_law_16 (List.mem_of_getElem? (i := 20) rfl))
theorem iL_law_1031 : rx_ins mL_law 1031 = some (2, 1032, 0, 3, 0, []) := rx_atm tbL_law ndL_law (lmL_law_16 (List.mem_of_getElem? (i := 21) rfl))
theorem iL_law_1032 : rx_ins mL_law 1032 = some (1, 1033, 2, 0, 0, []) := rx_atm tbL_law ndL_law (lmL_law_16 (List.mem_of_getElem? (i := 22) rfl))
theorem iL_law_1033 : rx_ins mL_law 1033 = some (7, 1034, 0, 0, 0, []) := rx_atm tbL_law ndL_law (lmL_law_16 (List.mem_of_getElem? (i := 23) rfl))
theorem iL_law_1034 : rx_ins mL_law 1034 = some (20, 1035, 0, 0, 0, []) := rx_atm tbL_law ndL_law (lmL_law_16 (List.mem_of_getElem? (i := 24) rfl))
theorem iL_law_1035 : rx_ins mL_law 1035 = some (28, 1038, 12, 104, 3, [(129, 56)]) := rx_atm tbL_law ndL_law (lmL_law_16 (List.mem_of_getElem? (i := 25) rfl))
theorem iL_law_1038 : rx_ins mL_law 1038 = some (3, 1039, 0, 2, 0, []) := rx_atm tbL_law ndL_law (lmL_law_16 (List.mem_of_getElem? (i := 26) rfl))
theorem iL_law_1039 : rx_ins mL_law 1039 = some (3, 1040, 0, 0, 0, []) := rx_atm tbL_law ndL_law (lmL_law_16 (List.mem_of_getElem? (i := 27) rfl))
theorem iL_law_1040 : rx_ins mL_law 1040 = some (2, 1041, 0, 3, 0, []) := rx_atm tbL_law ndL_law (lmL_law_16 (List.mem_of_getElem? (i := 28) rfl))
theorem iL_law_1041 : rx_ins mL_law 1041 = some (1, 1042, 1, 0, 0, []) := rx_atm tbL_law ndL_law (lmL_law_16 (List.mem_of_getElem? (i := 29) rfl))
theorem iL_law_1042 : rx_ins mL_law 1042 = some (7, 1043, 0, 0, 0, []) := rx_atm tbL_law ndL_law (lmL_law_16 (List.mem_of_getElem? (i := 30) rfl))
theorem iL_law_1043 : rx_ins mL_law 1043 = some (20, 1044, 0, 0, 0, []) := rx_atm tbL_law ndL_law (lmL_law_16 (List.mem_of_getElem? (i := 31) rfl))
theorem iL_law_1044 : rx_ins mL_law 1044 = some (3, 1045, 0, 0, 0, []) := rx_atm tbL_law ndL_law (lmL_law_16 (List.mem_of_getElem? (i := 32) rfl))
theorem iL_law_1045 : rx_ins mL_law 1045 = some (2, 1046, 0, 3, 0, []) := rx_atm tbL_law ndL_law (lmL_law_16 (List.mem_of_getElem? (i := 33) rfl))
theorem iL_law_1046 : rx_ins mL_law 1046 = some (1, 1047, 2, 0, 0, []) := rx_atm tbL_law ndL_law (lmL_law_16 (List.mem_of_getElem? (i := 34) rfl))
theorem iL_law_1047 : rx_ins mL_law 1047 = some (7, 1048, 0, 0, 0, []) := rx_atm tbL_law ndL_law (lmL_law_16 (List.mem_of_getElem? (i := 35) rfl))
theorem iL_law_1048 : rx_ins mL_law 1048 = some (20, 1049, 0, 0, 0, []) := rx_atm tbL_law ndL_law (lmL_law_16 (List.mem_of_getElem? (i := 36) rfl))
theorem iL_law_1049 : rx_ins mL_law 1049 = some (28, 1052, 13, 225, 3, [(132, 57)]) := rx_atm tbL_law ndL_law (lmL_law_16 (List.mem_of_getElem? (i := 37) rfl))
theorem iL_law_1052 : rx_ins mL_law 1052 = some (14, 1055, 437, 0, 1489, []) := rx_atm tbL_law ndL_law (lmL_law_16 (List.mem_of_getElem? (i := 38) rfl))
theorem iL_law_1055 : rx_ins mL_law 1055 = some (1, 1056, 0, 0, 0, []) := rx_atm tbL_law ndL_law (lmL_law_16 (List.mem_of_getElem? (i := 39) rfl))
theorem iL_law_1056 : rx_ins mL_law 1056 = some (29, 1057, 1, 0, 0, []) := rx_atm tbL_law ndL_law (lmL_law_17 (List.mem_of_getElem? (i := 0) rfl))
theorem iL_law_1057 : rx_ins mL_law 1057 = some (3, 1058, 0, 1, 0, []) := rx_atm tbL_law ndL_law (lmL_law_17 (List.mem_of_getElem? (i := 1) rfl))
theorem iL_law_1058 : rx_ins mL_law 1058 = some (3, 1059, 0, 0, 0, []) := rx_atm tbL_law ndL_law (lmL_law_17 (List.mem_of_getElem? (i := 2) rfl))
theorem iL_law_1059 : rx_ins mL_law 1059 = some (2, 1060, 0, 3, 0, []) := rx_atm tbL_law ndL_law (lmL_law_17 (List.mem_of_getElem? (i := 3) rfl))
theorem iL_law_1060 : rx_ins mL_law 1060 = some (1, 1061, 1, 0, 0, []) := rx_atm tbL_law ndL_law (lmL_law_17 (List.mem_of_getElem? (i := 4) rfl))
theorem iL_law_1061 : rx_ins mL_law 1061 = some (7, 1062, 0, 0, 0, []) := rx_atm tbL_law ndL_law (lmL_law_17 (List.mem_of_getElem? (i := 5) rfl))
theorem iL_law_1062 : rx_ins mL_law 1062 = some (20, 1063, 0, 0, 0, []) := rx_atm tbL_law ndL_law (lmL_law_17 (List.mem_of_getElem? (i := 6) rfl))
theorem iL_law_1063 : rx_ins mL_law 1063 = some (28, 1066, 12, 105, 2, [(133, 58)]) := rx_atm tbL_law ndL_law (lmL_law_17 (List.mem_of_getElem? (i := 7) rfl))
theorem iL_law_1066 : rx_ins mL_law 1066 = some (3, 1067, 0, 2, 0, []) := rx_atm tbL_law ndL_law (lmL_law_17 (List.mem_of_getElem? (i := 8) rfl))
theorem iL_law_1067 : rx_ins mL_law 1067 = some (3, 1068, 0, 0, 0, []) := rx_atm tbL_law ndL_law (lmL_law_17 (List.mem_of_getElem? (i := 9) rfl))
theorem iL_law_1068 : rx_ins mL_law 1068 = some (2, 1069, 0, 3, 0, []) := rx_atm tbL_law ndL_law (lmL_law_17 (List.mem_of_getElem? (i := 10) rfl))
theorem iL_law_1069 : rx_ins mL_law 1069 = some (1, 1070, 1, 0, 0, []) := rx_atm tbL_law ndL_law (lmL_law_17 (List.mem_of_getElem? (i := 11) rfl))
theorem iL_law_1070 : rx_ins mL_law 1070 = some (7, 1071, 0, 0, 0, []) := rx_atm tbL_law ndL_law (lmL_law_17 (List.mem_of_getElem? (i := 12) rfl))
theorem iL_law_1071 : rx_ins mL_law 1071 = some (20, 1072, 0, 0, 0, []) := rx_atm tbL_law ndL_law (lmL_law_17 (List.mem_of_getElem? (i := 13) rfl))
theorem iL_law_1072 : rx_ins mL_law 1072 = some (28, 1075, 13, 227, 2, [(136, 59)]) := rx_atm tbL_law ndL_law (lmL_law_17 (List.mem_of_getElem? (i := 14) rfl))
theorem iL_law_1075 : rx_ins mL_law 1075 = some (14, 1078, 414, 0, 1489, []) := rx_atm tbL_law ndL_law (lmL_law_17 (List.mem_of_getElem? (i := 15) rfl))
theorem iL_law_1078 : rx_ins mL_law 1078 = some (1, 1079, 0, 0, 0, []) := rx_atm tbL_law ndL_law (lmL_law_17 (List.mem_of_getElem? (i := 16) rfl))
theorem iL_law_1079 : rx_ins mL_law 1079 = some (29, 1080, 1, 0, 0, []) := rx_atm tbL_law ndL_law (lmL_law_17 (List.mem_of_getElem? (i := 17) rfl))
theorem iL_law_1080 : rx_ins mL_law 1080 = some (3, 1081, 0, 1, 0, []) := rx_atm tbL_law ndL_law (lmL_law_17 (List.mem_of_getElem? (i := 18) rfl))
theorem iL_law_1081 : rx_ins mL_law 1081 = some (3, 1082, 0, 0, 0, []) := rx_atm tbL_law ndL_law (lmL_law_17 (List.mem_of_getElem? (i := 19) rfl))
theorem iL_law_1082 : rx_ins mL_law 1082 = some (2, 1083, 0, 3, 0, []) := rx_atm tbL_law ndL_law (lmL_law_17 (List.mem_of_getElem? (i := 20) rfl))
theorem iL_law_1083 : rx_ins mL_law 1083 = some (1, 1084, 1, 0, 0, []) := rx_atm tbL_law ndL_law (lmL_law_17 (List.mem_of_getElem? (i := 21) rfl))
theorem iL_law_1084 : rx_ins mL_law 1084 = some (7, 1085, 0, 0, 0, []) := rx_atm tbL_law ndL_law (lmL_law_17 (List.mem_of_getElem? (i := 22) rfl))
theorem iL_law_1085 : rx_ins mL_law 1085 = some (20, 1086, 0, 0, 0, []) := rx_atm tbL_law ndL_law (lmL_law_17 (List.mem_of_getElem? (i := 23) rfl))
theorem iL_law_1086 : rx_ins mL_law 1086 = some (3, 1087, 0, 0, 0, []) := rx_atm tbL_law ndL_law (lmL_law_17 (List.mem_of_getElem? (i := 24) rfl))
theorem iL_law_1087 : rx_ins mL_law 1087 = some (2, 1088, 0, 3, 0, []) := rx_atm tbL_law ndL_law (lmL_law_17 (List.mem_of_getElem? (i := 25) rfl))
theorem iL_law_1088 : rx_ins mL_law 1088 = some (1, 1089, 2, 0, 0, []) := rx_atm tbL_law ndL_law (lmL_law_17 (List.mem_of_getElem? (i := 26) rfl))
theorem iL_law_1089 : rx_ins mL_law 1089 = some (7, 1090, 0, 0, 0, []) := rx_atm tbL_law ndL_law (lmL_law_17 (List.mem_of_getElem? (i := 27) rfl))
theorem iL_law_1090 : rx_ins mL_law 1090 = some (20, 1091, 0, 0, 0, []) := rx_atm tbL_law ndL_law (lmL_law_17 (List.mem_of_getElem? (i := 28) rfl))
theorem iL_law_1091 : rx_ins mL_law 1091 = some (3, 1092, 0, 0, 0, []) := rx_atm tbL_law ndL_law (lmL_law_17 (List.mem_of_getElem? (i := 29) rfl))
theorem iL_law_1092 : rx_ins mL_law 1092 = some (2, 1093, 0, 3, 0, []) := rx_atm tbL_law ndL_law (lmL_law_17 (List.mem_of_getElem? (i := 30) rfl))
theorem iL_law_1093 : rx_ins mL_law 1093 = some (1, 1094, 3, 0, 0, []) := rx_atm tbL_law ndL_law (lmL_law_17 (List.mem_of_getElem? (i := 31) rfl))
theorem iL_law_1094 : rx_ins mL_law 1094 = some (7, 1095, 0, 0, 0, []) := rx_atm tbL_law ndL_law (lmL_law_17 (List.mem_of_getElem? (i := 32) rfl))
theorem iL_law_1095 : rx_ins mL_law 1095 = some (20, 1096, 0, 0, 0, []) := rx_atm tbL_law ndL_law (lmL_law_17 (List.mem_of_getElem? (i := 33) rfl))
theorem iL_law_1096 : rx_ins mL_law 1096 = some (28, 1099, 12, 106, 4, [(137, 60)]) := rx_atm tbL_law ndL_law (lmL_law_17 (List.mem_of_getElem? (i := 34) rfl))
theorem iL_law_1099 : rx_ins mL_law 1099 = some (3, 1100, 0, 2, 0, []) := rx_atm tbL_law ndL_law (lmL_law_17 (List.mem_of_getElem? (i := 35) rfl))
theorem iL_law_1100 : rx_ins mL_law 1100 = some (3, 1101, 0, 0, 0, []) := rx_atm tbL_law ndL_law (lmL_law_17 (List.mem_of_getElem? (i := 36) rfl))
theorem iL_law_1101 : rx_ins mL_law 1101 = some (2, 1102, 0, 3, 0, []) := rx_atm tbL_law ndL_law (lmL_law_17 (List.mem_of_getElem? (i := 37) rfl))
theorem iL_law_1102 : rx_ins mL_law 1102 = some (1, 1103, 1, 0, 0, []) := rx_atm tbL_law ndL_law (lmL_law_17 (List.mem_of_getElem? (i := 38) rfl))
theorem iL_law_1103 : rx_ins mL_law 1103 = some (7, 1104, 0, 0, 0, []) := rx_atm tbL_law ndL_law (lmL_law_17 (List.mem_of_getElem? (i := 39) rfl))
theorem iL_law_1104 : rx_ins mL_law 1104 = some (20, 1105, 0, 0, 0, []) := rx_atm tbL_law ndL_law (lmL_law_18 (List.mem_of_getElem? (i := 0) rfl))
theorem iL_law_1105 : rx_ins mL_law 1105 = some (3, 1106, 0, 0, 0, []) := rx_atm tbL_law ndL_law (lmL_law_18 (List.mem_of_getElem? (i := 1) rfl))
theorem iL_law_1106 : rx_ins mL_law 1106 = some (2, 1107, 0, 3, 0, []) := rx_atm tbL_law ndL_law (lmL_law_18 (List.mem_of_getElem? (i := 2) rfl))
theorem iL_law_1107 : rx_ins mL_law 1107 = some (1, 1108, 2, 0, 0, []) := rx_atm tbL_law ndL_law (lmL_law_18 (List.mem_of_getElem? (i := 3) rfl))
theorem iL_law_1108 : rx_ins mL_law 1108 = some (7, 1109, 0, 0, 0, []) := rx_atm tbL_law ndL_law (lmL_law_18 (List.mem_of_getElem? (i := 4) rfl))
theorem iL_law_1109 : rx_ins mL_law 1109 = some (20, 1110, 0, 0, 0, []) := rx_atm tbL_law ndL_law (lmL_law_18 (List.mem_of_getElem? (i := 5) rfl))
theorem iL_law_1110 : rx_ins mL_law 1110 = some (3, 1111, 0, 0, 0, []) := rx_atm tbL_law ndL_law (lmL_law_18 (List.mem_of_getElem? (i := 6) rfl))
theorem iL_law_1111 : rx_ins mL_law 1111 = some (2, 1112, 0, 3, 0, []) := rx_atm tbL_law ndL_law (lmL_law_18 (List.mem_of_getElem? (i := 7) rfl))
theorem iL_law_1112 : rx_ins mL_law 1112 = some (1, 1113, 3, 0, 0, []) := rx_atm tbL_law ndL_law (lmL_law_18 (List.mem_of_getElem? (i := 8) rfl))
theorem iL_law_1113 : rx_ins mL_law 1113 = some (7, 1114, 0, 0, 0, []) := rx_atm tbL_law ndL_law (lmL_law_18 (List.mem_of_getElem? (i := 9) rfl))
theorem iL_law_1114 : rx_ins mL_law 1114 = some (20, 1115, 0, 0, 0, []) := rx_atm tbL_law ndL_law (lmL_law_18 (List.mem_of_getElem? (i := 10) rfl))
theorem iL_law_1115 : rx_ins mL_law 1115 = some (28, 1118, 13, 232, 4, [(140, 61)]) := rx_atm tbL_law ndL_law (lmL_law_18 (List.mem_of_getElem? (i := 11) rfl))
theorem iL_law_1118 : rx_ins mL_law 1118 = some (14, 1121, 371, 0, 1489, []) := rx_atm tbL_law ndL_law (lmL_law_18 (List.mem_of_getElem? (i := 12) rfl))
theorem iL_law_1121 : rx_ins mL_law 1121 = some (1, 1122, 0, 0, 0, []) := rx_atm tbL_law ndL_law (lmL_law_18 (List.mem_of_getElem? (i := 13) rfl))
theorem iL_law_1122 : rx_ins mL_law 1122 = some (29, 1123, 1, 0, 0, []) := rx_atm tbL_law ndL_law (lmL_law_18 (List.mem_of_getElem? (i := 14) rfl))
theorem iL_law_1123 : rx_ins mL_law 1123 = some (3, 1124, 0, 1, 0, []) := rx_atm tbL_law ndL_law (lmL_law_18 (List.mem_of_getElem? (i := 15) rfl))
theorem iL_law_1124 : rx_ins mL_law 1124 = some (3, 1125, 0, 0, 0, []) := rx_atm tbL_law ndL_law (lmL_law_18 (List.mem_of_getElem? (i := 16) rfl))
theorem iL_law_1125 : rx_ins mL_law 1125 = some (2, 1126, 0, 3, 0, []) := rx_atm tbL_law ndL_law (lmL_law_18 (List.mem_of_getElem? (i := 17) rfl))
theorem iL_law_1126 : rx_ins mL_law 1126 = some (1, 1127, 1, 0, 0, []) := rx_atm tbL_law ndL_law (lmL_law_18 (List.mem_of_getElem? (i := 18) rfl))
theorem iL_law_1127 : rx_ins mL_law 1127 = some (7, 1128, 0, 0, 0, []) := rx_atm tbL_law ndL_law (lmL_law_18 (List.mem_of_getElem? (i := 19) rfl))
theorem iL_law_1128 : rx_ins mL_law 1128 = some (20, 1129, 0, 0, 0, []) := rx_atm tbL_law ndL_law (lmL_law_18 (List.mem_of_getElem? (i := 20) rfl))
theorem iL_law_1129 : rx_ins mL_law 1129 = some (3, 1130, 0, 0, 0, []) := rx_atm tbL_law ndL_law (lmL_law_18 (List.mem_of_getElem? (i := 21) rfl))
theorem iL_law_1130 : rx_ins mL_law 1130 = some (2, 1131, 0, 3, 0, []) := rx_atm tbL_law ndL_law (lmL_law_18 (List.mem_of_getElem? (i := 22) rfl))
theorem iL_law_1131 : rx_ins mL_law 1131 = some (1, 1132, 2, 0, 0, []) := rx_atm tbL_law ndL_law (lmL_law_18 (List.mem_of_getElem? (i := 23) rfl))
theorem iL_law_1132 : rx_ins mL_law 1132 = some (7, 1133, 0, 0, 0, []) := rx_atm tbL_law ndL_law (lmL_law_18 (List.mem_of_getElem? (i := 24) rfl))
theorem iL_law_1133 : rx_ins mL_law 1133 = some (20, 1134, 0, 0, 0, []) := rx_atm tbL_law ndL_law (lmL_law_18 (List.mem_of_getElem? (i := 25) rfl))
theorem iL_law_1134 : rx_ins mL_law 1134 = some (3, 1135, 0, 0, 0, []) := rx_atm tbL_law ndL_law (lmL_law_18 (List.mem_of_getElem? (i := 26) rfl))
theorem iL_law_1135 : rx_ins mL_law 1135 = some (2, 1136, 0, 3, 0, []) := rx_atm tbL_law ndL_law (lmL_law_18 (List.mem_of_getElem? (i := 27) rfl))
theorem iL_law_1136 : rx_ins mL_law 1136 = some (1, 1137, 3, 0, 0, []) := rx_atm tbL_law ndL_law (lmL_law_18 (List.mem_of_getElem? (i := 28) rfl))
theorem iL_law_1137 : rx_ins mL_law 1137 = some (7, 1138, 0, 0, 0, []) := rx_atm tbL_law ndL_law (lmL_law_18 (List.mem_of_getElem? (i := 29) rfl))
theorem iL_law_1138 : rx_ins mL_law 1138 = some (20, 1139, 0, 0, 0, []) := rx_atm tbL_law ndL_law (lmL_law_18 (List.mem_of_getElem? (i := 30) rfl))
theorem iL_law_1139 : rx_ins mL_law 1139 = some (28, 1142, 12, 107, 4, [(141, 62)]) := rx_atm tbL_law ndL_law (lmL_law_18 (List.mem_of_getElem? (i := 31) rfl))
theorem iL_law_1142 : rx_ins mL_law 1142 = some (3, 1143, 0, 2, 0, []) := rx_atm tbL_law ndL_law (lmL_law_18 (List.mem_of_getElem? (i := 32) rfl))
theorem iL_law_1143 : rx_ins mL_law 1143 = some (3, 1144, 0, 0, 0, []) := rx_atm tbL_law ndL_law (lmL_law_18 (List.mem_of_getElem? (i := 33) rfl))
theorem iL_law_1144 : rx_ins mL_law 1144 = some (2, 1145, 0, 3, 0, []) := rx_atm tbL_law ndL_law (lmL_law_18 (List.mem_of_getElem? (i := 34) rfl))
theorem iL_law_1145 : rx_ins mL_law 1145 = some (1, 1146, 1, 0, 0, []) := rx_atm tbL_law ndL_law (lmL_law_18 (List.mem_of_getElem? (i := 35) rfl))
theorem iL_law_1146 : rx_ins mL_law 1146 = some (7, 1147, 0, 0, 0, []) := rx_atm tbL_law ndL_law (lmL_law_18 (List.mem_of_getElem? (i := 36) rfl))
theorem iL_law_1147 : rx_ins mL_law 1147 = some (20, 1148, 0, 0, 0, []) := rx_atm tbL_law ndL_law (lmL_law_18 (List.mem_of_getElem? (i := 37) rfl))
theorem iL_law_1148 : rx_ins mL_law 1148 = some (3, 1149, 0, 0, 0, []) := rx_atm tbL_law ndL_law (lmL_law_18 (List.mem_of_getElem? (i := 38) rfl))
theorem iL_law_1149 : rx_ins mL_law 1149 = some (2, 1150, 0, 3, 0, []) := rx_atm tbL_law ndL_law (lmL_law_18 (List.mem_of_getElem? (i := 39) rfl))
theorem iL_law_1150 : rx_ins mL_law 1150 = some (1, 1151, 2, 0, 0, []) := rx_atm tbL_law ndL_law (lmL_law_19 (List.mem_of_getElem? (i := 0) rfl))
theorem iL_law_1151 : rx_ins mL_law 1151 = some (7, 1152, 0, 0, 0, []) := rx_atm tbL_law ndL_law (lmL_law_19 (List.mem_of_getElem? (i := 1) rfl))
theorem iL_law_1152 : rx_ins mL_law 1152 = some (20, 1153, 0, 0, 0, []) := rx_atm tbL_law ndL_law (lmL_law_19 (List.mem_of_getElem? (i := 2) rfl))
theorem iL_law_1153 : rx_ins mL_law 1153 = some (3, 1154, 0, 0, 0, []) := rx_atm tbL_law ndL_law (lmL_law_19 (List.mem_of_getElem? (i := 3) rfl))
theorem iL_law_1154 : rx_ins mL_law 1154 = some (2, 1155, 0, 3, 0, []) := rx_atm tbL_law ndL_law (lmL_law_19 (List.mem_of_getElem? (i := 4) rfl))
theorem iL_law_1155 : rx_ins mL_law 1155 = some (1, 1156, 3, 0, 0, []) := rx_atm tbL_law ndL_law (lmL_law_19 (List.mem_of_getElem? (i := 5) rfl))
theorem iL_law_1156 : rx_ins mL_law 1156 = some (7, 1157, 0, 0, 0, []) := rx_atm tbL_law ndL_law (lmL_law_19 (List.mem_of_getElem? (i := 6) rfl))
theorem iL_law_1157 : rx_ins mL_law 1157 = some (20, 1158, 0, 0, 0, []) := rx_atm tbL_law ndL_law (lmL_law_19 (List.mem_of_getElem? (i := 7) rfl))
theorem iL_law_1158 : rx_ins mL_law 1158 = some (28, 1161, 13, 233, 4, [(144, 63)]) := rx_atm tbL_law ndL_law (lmL_law_19 (List.mem_of_getElem? (i := 8) rfl))
theorem iL_law_1161 : rx_ins mL_law 1161 = some (14, 1164, 328, 0, 1489, []) := rx_atm tbL_law ndL_law (lmL_law_19 (List.mem_of_getElem? (i := 9) rfl))
theorem iL_law_1164 : rx_ins mL_law 1164 = some (1, 1165, 0, 0, 0, []) := rx_atm tbL_law ndL_law (lmL_law_19 (List.mem_of_getElem? (i := 10) rfl))
theorem iL_law_1165 : rx_ins mL_law 1165 = some (29, 1166, 1, 0, 0, []) := rx_atm tbL_law ndL_law (lmL_law_19 (List.mem_of_getElem? (i := 11) rfl))
theorem iL_law_1166 : rx_ins mL_law 1166 = some (3, 1167, 0, 1, 0, []) := rx_atm tbL_law ndL_law (lmL_law_19 (List.mem_of_getElem? (i := 12) rfl))
theorem iL_law_1167 : rx_ins mL_law 1167 = some (3, 1168, 0, 0, 0, []) := rx_atm tbL_law ndL_law (lmL_law_19 (List.mem_of_getElem? (i := 13) rfl))
theorem iL_law_1168 : rx_ins mL_law 1168 = some (2, 1169, 0, 3, 0, []) := rx_atm tbL_law ndL_law (lmL_law_19 (List.mem_of_getElem? (i := 14) rfl))
theorem iL_law_1169 : rx_ins mL_law 1169 = some (1, 1170, 1, 0, 0, []) := rx_atm tbL_law ndL_law (lmL_law_19 (List.mem_of_getElem? (i := 15) rfl))
theorem iL_law_1170 : rx_ins mL_law 1170 = some (7, 1171, 0, 0, 0, []) := rx_atm tbL_law ndL_law (lmL_law_19 (List.mem_of_getElem? (i := 16) rfl))
theorem iL_law_1171 : rx_ins mL_law 1171 = some (20, 1172, 0, 0, 0, []) := rx_atm tbL_law ndL_law (lmL_law_19 (List.mem_of_getElem? (i := 17) rfl))
theorem iL_law_1172 : rx_ins mL_law 1172 = some (28, 1175, 12, 108, 2, [(145, 64)]) := rx_atm tbL_law ndL_law (lmL_law_19 (List.mem_of_getElem? (i := 18) rfl))
theorem iL_law_1175 : rx_ins mL_law 1175 = some (3, 1176, 0, 2, 0, []) := rx_atm tbL_law ndL_law (lmL_law_19 (List.mem_of_getElem? (i := 19) rfl))
theorem iL_law_1176 : rx_ins mL_law 1176 = some (3, 1177, 0, 0, 0, []) := rx_atm tbL_law ndL_law (lmL_law_19 (List.mem_of_getElem? (i := 20) rfl))
theorem iL_law_1177 : rx_ins mL_law 1177 = some (2, 1178, 0, 3, 0, []) := rx_atm tbL_law ndL_law (lmL_law_19 (List.mem_of_getElem? (i := 21) rfl))
theorem iL_law_1178 : rx_ins mL_law 1178 = some (1, 1179, 1, 0, 0, []) := rx_atm tbL_law ndL_law (lmL_law_19 (List.mem_of_getElem? (i := 22) rfl))
theorem iL_law_1179 : rx_ins mL_law 1179 = some (7, 1180, 0, 0, 0, []) := rx_atm tbL_law ndL_law (lmL_law_19 (List.mem_of_getElem? (i := 23) rfl))
theorem iL_law_1180 : rx_ins mL_law 1180 = some (20, 1181, 0, 0, 0, []) := rx_atm tbL_law ndL_law (lmL_law_19 (List.mem_of_getElem? (i := 24) rfl))
theorem iL_law_1181 : rx_ins mL_law 1181 = some (28, 1184, 13, 234, 2, [(148, 65)]) := rx_atm tbL_law ndL_law (lmL_law_19 (List.mem_of_getElem? (i := 25) rfl))
theorem iL_law_1184 : rx_ins mL_law 1184 = some (14, 1187, 305, 0, 1489, []) := rx_atm tbL_law ndL_law (lmL_law_19 (List.mem_of_getElem? (i := 26) rfl))
theorem iL_law_1187 : rx_ins mL_law 1187 = some (1, 1188, 0, 0, 0, []) := rx_atm tbL_law ndL_law (lmL_law_19 (List.mem_of_getElem? (i := 27) rfl))
theorem iL_law_1188 : rx_ins mL_law 1188 = some (29, 1189, 1, 0, 0, []) := rx_atm tbL_law ndL_law (lmL_law_19 (List.mem_of_getElem? (i := 28) rfl))
theorem iL_law_1189 : rx_ins mL_law 1189 = some (3, 1190, 0, 1, 0, []) := rx_atm tbL_law ndL_law (lmL_law_19 (List.mem_of_getElem? (i := 29) rfl))
theorem iL_law_1190 : rx_ins mL_law 1190 = some (3, 1191, 0, 0, 0, []) := rx_atm tbL_law ndL_law (lmL_law_19 (List.mem_of_getElem? (i := 30) rfl))
theorem iL_law_1191 : rx_ins mL_law 1191 = some (2, 1192, 0, 3, 0, []) := rx_atm tbL_law ndL_law (lmL_law_19 (List.mem_of_getElem? (i := 31) rfl))
theorem iL_law_1192 : rx_ins mL_law 1192 = some (1, 1193, 1, 0, 0, []) := rx_atm tbL_law ndL_law (lmL_law_19 (List.mem_of_getElem? (i := 32) rfl))
theorem iL_law_1193 : rx_ins mL_law 1193 = some (7, 1194, 0, 0, 0, []) := rx_atm tbL_law ndL_law (lmL_law_19 (List.mem_of_getElem? (i := 33) rfl))
theorem iL_law_1194 : rx_ins mL_law 1194 = some (20, 1195, 0, 0, 0, []) := rx_atm tbL_law ndL_law (lmL_law_19 (List.mem_of_getElem? (i := 34) rfl))
theorem iL_law_1195 : rx_ins mL_law 1195 = some (3, 1196, 0, 0, 0, []) := rx_atm tbL_law ndL_law (lmL_law_19 (List.mem_of_getElem? (i := 35) rfl))
theorem iL_law_1196 : rx_ins mL_law 1196 = some (2, 1197, 0, 3, 0, []) := rx_atm tbL_law ndL_law (lmL_law_19 (List.mem_of_getElem? (i := 36) rfl))
theorem iL_law_1197 : rx_ins mL_law 1197 = some (1, 1198, 2, 0, 0, []) := rx_atm tbL_law ndL_law (lmL_law_19 (List.mem_of_getElem? (i := 37) rfl))
theorem iL_law_1198 : rx_ins mL_law 1198 = some (7, 1199, 0, 0, 0, []) := rx_atm tbL_law ndL_law (lmL_law_19 (List.mem_of_getElem? (i := 38) rfl))
theorem iL_law_1199 : rx_ins mL_law 1199 = some (20, 1200, 0, 0, 0, []) := rx_atm tbL_law ndL_law (lmL_law_19 (List.mem_of_getElem? (i := 39) rfl))
theorem iL_law_1200 : rx_ins mL_law 1200 = some (3, 1201, 0, 0, 0, []) := rx_atm tbL_law ndL_law (lmL_law_20 (List.mem_of_getElem? (i := 0) rfl))
theorem iL_law_1201 : rx_ins mL_law 1201 = some (2, 1202, 0, 3, 0, []) := rx_atm tbL_law ndL_law (lmL_law_20 (List.mem_of_getElem? (i := 1) rfl))
theorem iL_law_1202 : rx_ins mL_law 1202 = some (1, 1203, 3, 0, 0, []) := rx_atm tbL_law ndL_law (lmL_law_20 (List.mem_of_getElem? (i := 2) rfl))
theorem iL_law_1203 : rx_ins mL_law 1203 = some (7, 1204, 0, 0, 0, []) := rx_atm tbL_law ndL_law (lmL_law_20 (List.mem_of_getElem? (i := 3) rfl))
theorem iL_law_1204 : rx_ins mL_law 1204 = some (20, 1205, 0, 0, 0, []) := rx_atm tbL_law ndL_law (lmL_law_20 (List.mem_of_getElem? (i := 4) rfl))
theorem iL_law_1205 : rx_ins mL_law 1205 = some (3, 1206, 0, 0, 0, []) := rx_atm tbL_law ndL_law (lmL_law_20 (List.mem_of_getElem? (i := 5) rfl))
theorem iL_law_1206 : rx_ins mL_law 1206 = some (2, 1207, 0, 3, 0, []) := rx_atm tbL_law ndL_law (lmL_law_20 (List.mem_of_getElem? (i := 6) rfl))
theorem iL_law_1207 : rx_ins mL_law 1207 = some (1, 1208, 4, 0, 0, []) := rx_atm tbL_law ndL_law (lmL_law_20 (List.mem_of_getElem? (i := 7) rfl))
theorem iL_law_1208 : rx_ins mL_law 1208 = some (7, 1209, 0, 0, 0, []) := rx_atm tbL_law ndL_law (lmL_law_20 (List.mem_of_getElem? (i := 8) rfl))
theorem iL_law_1209 : rx_ins mL_law 1209 = some (20, 1210, 0, 0, 0, []) := rx_atm tbL_law ndL_law (lmL_law_20 (List.mem_of_getElem? (i := 9) rfl))
theorem iL_law_1210 : rx_ins mL_law 1210 = some (3, 1211, 0, 0, 0, []) := rx_atm tbL_law ndL_law (lmL_law_20 (List.mem_of_getElem? (i := 10) rfl))
theorem iL_law_1211 : rx_ins mL_law 1211 = some (2, 1212, 0, 3, 0, []) := rx_atm tbL_law ndL_law (lmL_law_20 (List.mem_of_getElem? (i := 11) rfl))
theorem iL_law_1212 : rx_ins mL_law 1212 = some (1, 1213, 5, 0, 0, []) := rx_atm tbL_law ndL_law (lmL_law_20 (List.mem_of_getElem? (i := 12) rfl))
theorem iL_law_1213 : rx_ins mL_law 1213 = some (7, 1214, 0, 0, 0, []) := rx_atm tbL_law ndL_law (lmL_law_20 (List.mem_of_getElem? (i := 13) rfl))
theorem iL_law_1214 : rx_ins mL_law 1214 = some (20, 1215, 0, 0, 0, []) := rx_atm tbL_law ndL_law (lmL_law_20 (List.mem_of_getElem? (i := 14) rfl))
theorem iL_law_1215 : rx_ins mL_law 1215 = some (28, 1218, 12, 109, 6, [(149, 66)]) := rx_atm tbL_law ndL_law (lmL_law_20 (List.mem_of_getElem? (i := 15) rfl))
theorem iL_law_1218 : rx_ins mL_law 1218 = some (3, 1219, 0, 2, 0, []) := rx_atm tbL_law ndL_law (lmL_law_20 (List.mem_of_getElem? (i := 16) rfl))
theorem iL_law_1219 : rx_ins mL_law 1219 = some (3, 1220, 0, 0, 0, []) := rx_atm tbL_law ndL_law (lmL_law_20 (List.mem_of_getElem? (i := 17) rfl))
theorem iL_law_1220 : rx_ins mL_law 1220 = some (2, 1221, 0, 3, 0, []) := rx_atm tbL_law ndL_law (lmL_law_20 (List.mem_of_getElem? (i := 18) rfl))
theorem iL_law_1221 : rx_ins mL_law 1221 = some (1, 1222, 1, 0, 0, []) := rx_atm tbL_law ndL_law (lmL_law_20 (List.mem_of_getElem? (i := 19) rfl))
theorem iL_law_1222 : rx_ins mL_law 1222 = some (7, 1223, 0, 0, 0, []) := rx_atm tbL_law ndL_law (lmL_law_20 (List.mem_of_getElem? (i := 20) rfl))
theorem iL_law_1223 : rx_ins mL_law 1223 = some (20, 1224, 0, 0, 0, []) := rx_atm tbL_law ndL_law (lmL_law_20 (List.mem_of_getElem? (i := 21) rfl))
theorem iL_law_1224 : rx_ins mL_law 1224 = some (3, 1225, 0, 0, 0, []) := rx_atm tbL_law ndL_law (lmL_law_20 (List.mem_of_getElem? (i := 22) rfl))
theorem iL_law_1225 : rx_ins mL_law 1225 = some (2, 1226, 0, 3, 0, []) := rx_atm tbL_law ndL_law (lmL_law_20 (List.mem_of_getElem? (i := 23) rfl))
theorem iL_law_1226 : rx_ins mL_law 1226 = some (1, 1227, 2, 0, 0, []) := rx_atm tbL_law ndL_law (lmL_law_20 (List.mem_of_getElem? (i := 24) rfl))
theorem iL_law_1227 : rx_ins mL_law 1227 = some (7, 1228, 0, 0, 0, []) := rx_atm tbL_law ndL_law (lmL_law_20 (List.mem_of_getElem? (i := 25) rfl))
theorem iL_law_1228 : rx_ins mL_law 1228 = some (20, 1229, 0, 0, 0, []) := rx_atm tbL_law ndL_law (lmL_law_20 (List.mem_of_getElem? (i := 26) rfl))
theorem iL_law_1229 : rx_ins mL_law 1229 = some (3, 1230, 0, 0, 0, []) := rx_atm tbL_law ndL_law (lmL_law_20 (List.mem_of_getElem? (i := 27) rfl))
theorem iL_law_1230 : rx_ins mL_law 1230 = some (2, 1231, 0, 3, 0, []) := rx_atm tbL_law ndL_law (lmL_law_20 (List.mem_of_getElem? (i := 28) rfl))
theorem iL_law_1231 : rx_ins mL_law 1231 = some (1, 1232, 3, 0, 0, []) := rx_atm tbL_law ndL_law (lmL_law_20 (List.mem_of_getElem? (i := 29) rfl))
theorem iL_law_1232 : rx_ins mL_law 1232 = some (7, 1233, 0, 0, 0, []) := rx_atm tbL_law ndL_law (lmL_law_20 (List.mem_of_getElem? (i := 30) rfl))
theorem iL_law_1233 : rx_ins mL_law 1233 = some (20, 1234, 0, 0, 0, []) := rx_atm tbL_law ndL_law (lmL_law_20 (List.mem_of_getElem? (i := 31) rfl))
theorem iL_law_1234 : rx_ins mL_law 1234 = some (3, 1235, 0, 0, 0, []) := rx_atm tbL_law ndL_law (lmL_law_20 (List.mem_of_getElem? (i := 32) rfl))
theorem iL_law_1235 : rx_ins mL_law 1235 = some (2, 1236, 0, 3, 0, []) := rx_atm tbL_law ndL_law (lmL_law_20 (List.mem_of_getElem? (i := 33) rfl))
theorem iL_law_1236 : rx_ins mL_law 1236 = some (1, 1237, 4, 0, 0, []) := rx_atm tbL_law ndL_law (lmL_law_20 (List.mem_of_getElem? (i := 34) rfl))
theorem iL_law_1237 : rx_ins mL_law 1237 = some (7, 1238, 0, 0, 0, []) := rx_atm tbL_law ndL_law (lmL_law_20 (List.mem_of_getElem? (i := 35) rfl))
theorem iL_law_1238 : rx_ins mL_law 1238 = some (20, 1239, 0, 0, 0, []) := rx_atm tbL_law ndL_law (lmL_law_20 (List.mem_of_getElem? (i := 36) rfl))
theorem iL_law_1239 : rx_ins mL_law 1239 = some (3, 1240, 0, 0, 0, []) := rx_atm tbL_law ndL_law (lmL_law_20 (List.mem_of_getElem? (i := 37) rfl))
theorem iL_law_1240 : rx_ins mL_law 1240 = some (2, 1241, 0, 3, 0, []) := rx_atm tbL_law ndL_law (lmL_law_20 (List.mem_of_getElem? (i := 38) rfl))
theorem iL_law_1241 : rx_ins mL_law 1241 = some (1, 1242, 5, 0, 0, []) := rx_atm tbL_law ndL_law (lmL_law_20 (List.mem_of_getElem? (i := 39) rfl))
theorem iL_law_1242 : rx_ins mL_law 1242 = some (7, 1243, 0, 0, 0, []) := rx_atm tbL_law ndL_law (lmL_law_21 (List.mem_of_getElem? (i := 0) rfl))
theorem iL_law_1243 : rx_ins mL_law 1243 = some (20, 1244, 0, 0, 0, []) := rx_atm tbL_law ndL_law (lmL_law_21 (List.mem_of_getElem? (i := 1) rfl))
theorem iL_law_1244 : rx_ins mL_law 1244 = some (28, 1247, 13, 235, 6, [(153, 67)]) := rx_atm tbL_law ndL_law (lmL_law_21 (List.mem_of_getElem? (i := 2) rfl))
theorem iL_law_1247 : rx_ins mL_law 1247 = some (14, 1250, 242, 0, 1489, []) := rx_atm tbL_law ndL_law (lmL_law_21 (List.mem_of_getElem? (i := 3) rfl))
theorem iL_law_1250 : rx_ins mL_law 1250 = some (1, 1251, 0, 0, 0, []) := rx_atm tbL_law ndL_law (lmL_law_21 (List.mem_of_getElem? (i := 4) rfl))
theorem iL_law_1251 : rx_ins mL_law 1251 = some (29, 1252, 1, 0, 0, []) := rx_atm tbL_law ndL_law (lmL_law_21 (List.mem_of_getElem? (i := 5) rfl))
theorem iL_law_1252 : rx_ins mL_law 1252 = some (3, 1253, 0, 1, 0, []) := rx_atm tbL_law ndL_law (lmL_law_21 (List.mem_of_getElem? (i := 6) rfl))
theorem iL_law_1253 : rx_ins mL_law 1253 = some (3, 1254, 0, 0, 0, []) := rx_atm tbL_law ndL_law (lmL_law_21 (List.mem_of_getElem? (i := 7) rfl))
theorem iL_law_1254 : rx_ins mL_law 1254 = some (2, 1255, 0, 3, 0, []) := rx_atm tbL_law ndL_law (lmL_law_21 (List.mem_of_getElem? (i := 8) rfl))
theorem iL_law_1255 : rx_ins mL_law 1255 = some (1, 1256, 1, 0, 0, []) := rx_atm tbL_law ndL_law (lmL_law_21 (List.mem_of_getElem? (i := 9) rfl))
theorem iL_law_1256 : rx_ins mL_law 1256 = some (7, 1257, 0, 0, 0, []) := rx_atm tbL_law ndL_law (lmL_law_21 (List.mem_of_getElem? (i := 10) rfl))
theorem iL_law_1257 : rx_ins mL_law 1257 = some (20, 1258, 0, 0, 0, []) := rx_atm tbL_law ndL_law (lmL_law_21 (List.mem_of_getElem? (i := 11) rfl))
theorem iL_law_1258 : rx_ins mL_law 1258 = some (3, 1259, 0, 0, 0, []) := rx_atm tbL_law ndL_law (lmL_law_21 (List.mem_of_getElem? (i := 12) rfl))
theorem iL_law_1259 : rx_ins mL_law 1259 = some (2, 1260, 0, 3, 0, []) := rx_atm tbL_law ndL_law (lmL_law_21 (List.mem_of_getElem? (i := 13) rfl))
theorem iL_law_1260 : rx_ins mL_law 1260 = some (1, 1261, 2, 0, 0, []) := rx_atm tbL_law ndL_law (lmL_law_21 (List.mem_of_getElem? (i := 14) rfl))
theorem iL_law_1261 : rx_ins mL_law 1261 = some (7, 1262, 0, 0, 0, []) := rx_atm tbL_law ndL_law (lmL_law_21 (List.mem_of_getElem? (i := 15) rfl))
theorem iL_law_1262 : rx_ins mL_law 1262 = some (20, 1263, 0, 0, 0, []) := rx_atm tbL_law ndL_law (lmL_law_21 (List.mem_of_getElem? (i := 16) rfl))
theorem iL_law_1263 : rx_ins mL_law 1263 = some (3, 1264, 0, 0, 0, []) := rx_atm tbL_law ndL_law (lmL_law_21 (List.mem_of_getElem? (i := 17) rfl))
theorem iL_law_1264 : rx_ins mL_law 1264 = some (2, 1265, 0, 3, 0, []) := rx_atm tbL_law ndL_law (lmL_law_21 (List.mem_of_getElem? (i := 18) rfl))
theorem iL_law_1265 : rx_ins mL_law 1265 = some (1, 1266, 3, 0, 0, []) := rx_atm tbL_law ndL_law (lmL_law_21 (List.mem_of_getElem? (i := 19) rfl))
theorem iL_law_1266 : rx_ins mL_law 1266 = some (7, 1267, 0, 0, 0, []) := rx_atm tbL_law ndL_law (lmL_law_21 (List.mem_of_getElem? (i := 20) rfl))
theorem iL_law_1267 : rx_ins mL_law 1267 = some (20, 1268, 0, 0, 0, []) := rx_atm tbL_law ndL_law (lmL_law_21 (List.mem_of_getElem? (i := 21) rfl))
theorem iL_law_1268 : rx_ins mL_law 1268 = some (28, 1271, 12, 110, 4, [(154, 68)]) := rx_atm tbL_law ndL_law (lmL_law_21 (List.mem_of_getElem? (i := 22) rfl))
theorem iL_law_1271 : rx_ins mL_law 1271 = some (3, 1272, 0, 2, 0, []) := rx_atm tbL_law ndL_law (lmL_law_21 (List.mem_of_getElem? (i := 23) rfl))
theorem iL_law_1272 : rx_ins mL_law 1272 = some (3, 1273, 0, 0, 0, []) := rx_atm tbL_law ndL_law (lmL_law_21 (List.mem_of_getElem? (i := 24) rfl))
theorem iL_law_1273 : rx_ins mL_law 1273 = some (2, 1274, 0, 3, 0, []) := rx_atm tbL_law ndL_law (lmL_law_21 (List.mem_of_getElem? (i := 25) rfl))
theorem iL_law_1274 : rx_ins mL_law 1274 = some (1, 1275, 1, 0, 0, []) := rx_atm tbL_law ndL_law (lmL_law_21 (List.mem_of_getElem? (i := 26) rfl))
theorem iL_law_1275 : rx_ins mL_law 1275 = some (7, 1276, 0, 0, 0, []) := rx_atm tbL_law ndL_law (lmL_law_21 (List.mem_of_getElem? (i := 27) rfl))
theorem iL_law_1276 : rx_ins mL_law 1276 = some (20, 1277, 0, 0, 0, []) := rx_atm tbL_law ndL_law (lmL_law_21 (List.mem_of_getElem? (i := 28) rfl))
theorem iL_law_1277 : rx_ins mL_law 1277 = some (3, 1278, 0, 0, 0, []) := rx_atm tbL_law ndL_law (lmL_law_21 (List.mem_of_getElem? (i := 29) rfl))
theorem iL_law_1278 : rx_ins mL_law 1278 = some (2, 1279, 0, 3, 0, []) := rx_atm tbL_law ndL_law (lmL_law_21 (List.mem_of_getElem? (i := 30) rfl))
theorem iL_law_1279 : rx_ins mL_law 1279 = some (1, 1280, 2, 0, 0, []) := rx_atm tbL_law ndL_law (lmL_law_21 (List.mem_of_getElem? (i := 31) rfl))
theorem iL_law_1280 : rx_ins mL_law 1280 = some (7, 1281, 0, 0, 0, []) := rx_atm tbL_law ndL_law (lmL_law_21 (List.mem_of_getElem? (i := 32) rfl))
theorem iL_law_1281 : rx_ins mL_law 1281 = some (20, 1282, 0, 0, 0, []) := rx_atm tbL_law ndL_law (lmL_law_21 (List.mem_of_getElem? (i := 33) rfl))
theorem iL_law_1282 : rx_ins mL_law 1282 = some (3, 1283, 0, 0, 0, []) := rx_atm tbL_law ndL_law (lmL_law_21 (List.mem_of_getElem? (i := 34) rfl))
theorem iL_law_1283 : rx_ins mL_law 1283 = some (2, 1284, 0, 3, 0, []) := rx_atm tbL_law ndL_law (lmL_law_21 (List.mem_of_getElem? (i := 35) rfl))
theorem iL_law_1284 : rx_ins mL_law 1284 = some (1, 1285, 3, 0, 0, []) := rx_atm tbL_law ndL_law (lmL_law_21 (List.mem_of_getElem? (i := 36) rfl))
theorem iL_law_1285 : rx_ins mL_law 1285 = some (7, 1286, 0, 0, 0, []) := rx_atm tbL_law ndL_law (lmL_law_21 (List.mem_of_getElem? (i := 37) rfl))
theorem iL_law_1286 : rx_ins mL_law 1286 = some (20, 1287, 0, 0, 0, []) := rx_atm tbL_law ndL_law (lmL_law_21 (List.mem_of_getElem? (i := 38) rfl))
theorem iL_law_1287 : rx_ins mL_law 1287 = some (28, 1290, 13, 236, 4, [(157, 69)]) := rx_atm tbL_law ndL_law (lmL_law_21 (List.mem_of_getElem? (i := 39) rfl))
theorem iL_law_1290 : rx_ins mL_law 1290 = some (14, 1293, 199, 0, 1489, []) := rx_atm tbL_law ndL_law (lmL_law_22 (List.mem_of_getElem? (i := 0) rfl))
theorem iL_law_1293 : rx_ins mL_law 1293 = some (1, 1294, 0, 0, 0, []) := rx_atm tbL_law ndL_law (lmL_law_22 (List.mem_of_getElem? (i := 1) rfl))
theorem iL_law_1294 : rx_ins mL_law 1294 = some (29, 1295, 1, 0, 0, []) := rx_atm tbL_law ndL_law (lmL_law_22 (List.mem_of_getElem? (i := 2) rfl))
theorem iL_law_1295 : rx_ins mL_law 1295 = some (3, 1296, 0, 1, 0, []) := rx_atm tbL_law ndL_law (lmL_law_22 (List.mem_of_getElem? (i := 3) rfl))
theorem iL_law_1296 : rx_ins mL_law 1296 = some (3, 1297, 0, 0, 0, []) := rx_atm tbL_law ndL_law (lmL_law_22 (List.mem_of_getElem? (i := 4) rfl))
theorem iL_law_1297 : rx_ins mL_law 1297 = some (2, 1298, 0, 3, 0, []) := rx_atm tbL_law ndL_law (lmL_law_22 (List.mem_of_getElem? (i := 5) rfl))
theorem iL_law_1298 : rx_ins mL_law 1298 = some (1, 1299, 1, 0, 0, []) := rx_atm tbL_law ndL_law (lmL_law_22 (List.mem_of_getElem? (i := 6) rfl))
theorem iL_law_1299 : rx_ins mL_law 1299 = some (7, 1300, 0, 0, 0, []) := rx_atm tbL_law ndL_law (lmL_law_22 (List.mem_of_getElem? (i := 7) rfl))
theorem iL_law_1300 : rx_ins mL_law 1300 = some (20, 1301, 0, 0, 0, []) := rx_atm tbL_law ndL_law (lmL_law_22 (List.mem_of_getElem? (i := 8) rfl))
theorem iL_law_1301 : rx_ins mL_law 1301 = some (3, 1302, 0, 0, 0, []) := rx_atm tbL_law ndL_law (lmL_law_22 (List.mem_of_getElem? (i := 9) rfl))
theorem iL_law_1302 : rx_ins mL_law 1302 = some (2, 1303, 0, 3, 0, []) := rx_atm tbL_law ndL_law (lmL_law_22 (List.mem_of_getElem? (i := 10) rfl))
theorem iL_law_1303 : rx_ins mL_law 1303 = some (1, 1304, 2, 0, 0, []) := rx_atm tbL_law ndL_law (lmL_law_22 (List.mem_of_getElem? (i := 11) rfl))
theorem iL_law_1304 : rx_ins mL_law 1304 = some (7, 1305, 0, 0, 0, []) := rx_atm tbL_law ndL_law (lmL_law_22 (List.mem_of_getElem? (i := 12) rfl))
theorem iL_law_1305 : rx_ins mL_law 1305 = some (20, 1306, 0, 0, 0, []) := rx_atm tbL_law ndL_law (lmL_law_22 (List.mem_of_getElem? (i := 13) rfl))
theorem iL_law_1306 : rx_ins mL_law 1306 = some (28, 1309, 12, 111, 3, [(158, 70)]) := rx_atm tbL_law ndL_law (lmL_law_22 (List.mem_of_getElem? (i := 14) rfl))
theorem iL_law_1309 : rx_ins mL_law 1309 = some (3, 1310, 0, 2, 0, []) := rx_atm tbL_law ndL_law (lmL_law_22 (List.mem_of_getElem? (i := 15) rfl))
theorem iL_law_1310 : rx_ins mL_law 1310 = some (3, 1311, 0, 0, 0, []) := rx_atm tbL_law ndL_law (lmL_law_22 (List.mem_of_getElem? (i := 16) rfl))
theorem iL_law_1311 : rx_ins mL_law 1311 = some (2, 1312, 0, 3, 0, []) := rx_atm tbL_law ndL_law (lmL_law_22 (List.mem_of_getElem? (i := 17) rfl))
theorem iL_law_1312 : rx_ins mL_law 1312 = some (1, 1313, 1, 0, 0, []) := rx_atm tbL_law ndL_law (lmL_law_22 (List.mem_of_getElem? (i := 18) rfl))
theorem iL_law_1313 : rx_ins mL_law 1313 = some (7, 1314, 0, 0, 0, []) := rx_atm tbL_law ndL_law (lmL_law_22 (List.mem_of_getElem? (i := 19) rfl))
theorem iL_law_1314 : rx_ins mL_law 1314 = some (20, 1315, 0, 0, 0, []) := rx_atm tbL_law ndL_law (lmL_law_22 (List.mem_of_getElem? (i := 20) rfl))
theorem iL_law_1315 : rx_ins mL_law 1315 = some (3, 1316, 0, 0, 0, []) := rx_atm tbL_law ndL_law (lmL_law_22 (List.mem_of_getElem? (i := 21) rfl))
theorem iL_law_1316 : rx_ins mL_law 1316 = some (2, 1317, 0, 3, 0, []) := rx_atm tbL_law ndL_law (lmL_law_22 (List.mem_of_getElem? (i := 22) rfl))
theorem iL_law_1317 : rx_ins mL_law 1317 = some (1, 1318, 2, 0, 0, []) := rx_atm tbL_law ndL_law (lmL_law_22 (List.mem_of_getElem? (i := 23) rfl))
theorem iL_law_1318 : rx_ins mL_law 1318 = some (7, 1319, 0, 0, 0, []) := rx_atm tbL_law ndL_law (lmL_law_22 (List.mem_of_getElem? (i := 24) rfl))
theorem iL_law_1319 : rx_ins mL_law 1319 = some (20, 1320, 0, 0, 0, []) := rx_atm tbL_law ndL_law (lmL_law_22 (List.mem_of_getElem? (i := 25) rfl))
theorem iL_law_1320 : rx_ins mL_law 1320 = some (28, 1323, 13, 237, 3, [(161, 71)]) := rx_atm tbL_law ndL_law (lmL_law_22 (List.mem_of_getElem? (i := 26) rfl))
theorem iL_law_1323 : rx_ins mL_law 1323 = some (14, 1326, 166, 0, 1489, []) := rx_atm tbL_law ndL_law (lmL_law_22 (List.mem_of_getElem? (i := 27) rfl))
theorem iL_law_1326 : rx_ins mL_law 1326 = some (1, 1327, 0, 0, 0, []) := rx_atm tbL_law ndL_law (lmL_law_22 (List.mem_of_getElem? (i := 28) rfl))
theorem iL_law_1327 : rx_ins mL_law 1327 = some (29, 1328, 1, 0, 0, []) := rx_atm tbL_law ndL_law (lmL_law_22 (List.mem_of_getElem? (i := 29) rfl))
theorem iL_law_1328 : rx_ins mL_law 1328 = some (3, 1329, 0, 1, 0, []) := rx_atm tbL_law ndL_law (lmL_law_22 (List.mem_of_getElem? (i := 30) rfl))
theorem iL_law_1329 : rx_ins mL_law 1329 = some (3, 1330, 0, 0, 0, []) := rx_atm tbL_law ndL_law (lmL_law_22 (List.mem_of_getElem? (i := 31) rfl))
theorem iL_law_1330 : rx_ins mL_law 1330 = some (2, 1331, 0, 3, 0, []) := rx_atm tbL_law ndL_law (lmL_law_22 (List.mem_of_getElem? (i := 32) rfl))
theorem iL_law_1331 : rx_ins mL_law 1331 = some (1, 1332, 1, 0, 0, []) := rx_atm tbL_law ndL_law (lmL_law_22 (List.mem_of_getElem? (i := 33) rfl))
theorem iL_law_1332 : rx_ins mL_law 1332 = some (7, 1333, 0, 0, 0, []) := rx_atm tbL_law ndL_law (lmL_law_22 (List.mem_of_getElem? (i := 34) rfl))
theorem iL_law_1333 : rx_ins mL_law 1333 = some (20, 1334, 0, 0, 0, []) := rx_atm tbL_law ndL_law (lmL_law_22 (List.mem_of_getElem? (i := 35) rfl))
theorem iL_law_1334 : rx_ins mL_law 1334 = some (3, 1335, 0, 0, 0, []) := rx_atm tbL_law ndL_law (lmL_law_22 (List.mem_of_getElem? (i := 36) rfl))
theorem iL_law_1335 : rx_ins mL_law 1335 = some (2, 1336, 0, 3, 0, []) := rx_atm tbL_law ndL_law (lmL_law_22 (List.mem_of_getElem? (i := 37) rfl))
theorem iL_law_1336 : rx_ins mL_law 1336 = some (1, 1337, 2, 0, 0, []) := rx_atm tbL_law ndL_law (lmL_law_22 (List.mem_of_getElem? (i := 38) rfl))
theorem iL_law_1337 : rx_ins mL_law 1337 = some (7, 1338, 0, 0, 0, []) := rx_atm tbL_law ndL_law (lmL_law_22 (List.mem_of_getElem? (i := 39) rfl))
theorem iL_law_1338 : rx_ins mL_law 1338 = some (20, 1339, 0, 0, 0, []) := rx_atm tbL_law ndL_law (lmL_law_23 (List.mem_of_getElem? (i := 0) rfl))
theorem iL_law_1339 : rx_ins mL_law 1339 = some (28, 1342, 12, 112, 3, [(162, 72)]) := rx_atm tbL_law ndL_law (lmL_law_23 (List.mem_of_getElem? (i := 1) rfl))
theorem iL_law_1342 : rx_ins mL_law 1342 = some (3, 1343, 0, 2, 0, []) := rx_atm tbL_law ndL_law (lmL_law_23 (List.mem_of_getElem? (i := 2) rfl))
theorem iL_law_1343 : rx_ins mL_law 1343 = some (3, 1344, 0, 0, 0, []) := rx_atm tbL_law ndL_law (lmL_law_23 (List.mem_of_getElem? (i := 3) rfl))
theorem iL_law_1344 : rx_ins mL_law 1344 = some (2, 1345, 0, 3, 0, []) := rx_atm tbL_law ndL_law (lmL_law_23 (List.mem_of_getElem? (i := 4) rfl))
theorem iL_law_1345 : rx_ins mL_law 1345 = some (1, 1346, 1, 0, 0, []) := rx_atm tbL_law ndL_law (lmL_law_23 (List.mem_of_getElem? (i := 5) rfl))
theorem iL_law_1346 : rx_ins mL_law 1346 = some (7, 1347, 0, 0, 0, []) := rx_atm tbL_law ndL_law (lmL_law_23 (List.mem_of_getElem? (i := 6) rfl))
theorem iL_law_1347 : rx_ins mL_law 1347 = some (20, 1348, 0, 0, 0, []) := rx_atm tbL_law ndL_law (lmL_law_23 (List.mem_of_getElem? (i := 7) rfl))
theorem iL_law_1348 : rx_ins mL_law 1348 = some (3, 1349, 0, 0, 0, []) := rx_atm tbL_law ndL_law (lmL_law_23 (List.mem_of_getElem? (i := 8) rfl))
theorem iL_law_1349 : rx_ins mL_law 1349 = some (2, 1350, 0, 3, 0, []) := rx_atm tbL_law ndL_law (lmL_law_23 (List.mem_of_getElem? (i := 9) rfl))
theorem iL_law_1350 : rx_ins mL_law 1350 = some (1, 1351, 2, 0, 0, []) := rx_atm tbL_law ndL_law (lmL_law_23 (List.mem_of_getElem? (i := 10) rfl))
theorem iL_law_1351 : rx_ins mL_law 1351 = some (7, 1352, 0, 0, 0, []) := rx_atm tbL_law ndL_law (lmL_law_23 (List.mem_of_getElem? (i := 11) rfl))
theorem iL_law_1352 : rx_ins mL_law 1352 = some (20, 1353, 0, 0, 0, []) := rx_atm tbL_law ndL_law (lmL_law_23 (List.mem_of_getElem? (i := 12) rfl))
theorem iL_law_1353 : rx_ins mL_law 1353 = some (28, 1356, 13, 238, 3, [(165, 73)]) := rx_atm tbL_law ndL_law (lmL_law_23 (List.mem_of_getElem? (i := 13) rfl))
theorem iL_law_1356 : rx_ins mL_law 1356 = some (14, 1359, 133, 0, 1489, []) := rx_atm tbL_law ndL_law (lmL_law_23 (List.mem_of_getElem? (i := 14) rfl))
theorem iL_law_1359 : rx_ins mL_law 1359 = some (1, 1360, 0, 0, 0, []) := rx_atm tbL_law ndL_law (lmL_law_23 (List.mem_of_getElem? (i := 15) rfl))
theorem iL_law_1360 : rx_ins mL_law 1360 = some (29, 1361, 1, 0, 0, []) := rx_atm tbL_law ndL_law (lmL_law_23 (List.mem_of_getElem? (i := 16) rfl))
theorem iL_law_1361 : rx_ins mL_law 1361 = some (3, 1362, 0, 1, 0, []) := rx_atm tbL_law ndL_law (lmL_law_23 (List.mem_of_getElem? (i := 17) rfl))
theorem iL_law_1362 : rx_ins mL_law 1362 = some (3, 1363, 0, 0, 0, []) := rx_atm tbL_law ndL_law (lmL_law_23 (List.mem_of_getElem? (i := 18) rfl))
theorem iL_law_1363 : rx_ins mL_law 1363 = some (2, 1364, 0, 3, 0, []) := rx_atm tbL_law ndL_law (lmL_law_23 (List.mem_of_getElem? (i := 19) rfl))
theorem iL_law_1364 : rx_ins mL_law 1364 = some (1, 1365, 1, 0, 0, []) := rx_atm tbL_law ndL_law (lmL_law_23 (List.mem_of_getElem? (i := 20) rfl))
theorem iL_law_1365 : rx_ins mL_law 1365 = some (7, 1366, 0, 0, 0, []) := rx_atm tbL_law ndL_law (lmL_law_23 (List.mem_of_getElem? (i := 21) rfl))
theorem iL_law_1366 : rx_ins mL_law 1366 = some (20, 1367, 0, 0, 0, []) := rx_atm tbL_law ndL_law (lmL_law_23 (List.mem_of_getElem? (i := 22) rfl))
theorem iL_law_1367 : rx_ins mL_law 1367 = some (3, 1368, 0, 0, 0, []) := rx_atm tbL_law ndL_law (lmL_law_23 (List.mem_of_getElem? (i := 23) rfl))
theorem iL_law_1368 : rx_ins mL_law 1368 = some (2, 1369, 0, 3, 0, []) := rx_atm tbL_law ndL_law (lmL_law_23 (List.mem_of_getElem? (i := 24) rfl))
theorem iL_law_1369 : rx_ins mL_law 1369 = some (1, 1370, 2, 0, 0, []) := rx_atm tbL_law ndL_law (lmL_law_23 (List.mem_of_getElem? (i := 25) rfl))
theorem iL_law_1370 : rx_ins mL_law 1370 = some (7, 1371, 0, 0, 0, []) := rx_atm tbL_law ndL_law (lmL_law_23 (List.mem_of_getElem? (i := 26) rfl))
theorem iL_law_1371 : rx_ins mL_law 1371 = some (20, 1372, 0, 0, 0, []) := rx_atm tbL_law ndL_law (lmL_law_23 (List.mem_of_getElem? (i := 27) rfl))
theorem iL_law_1372 : rx_ins mL_law 1372 = some (28, 1375, 12, 113, 3, [(166, 74)]) := rx_atm tbL_law ndL_law (lmL_law_23 (List.mem_of_getElem? (i := 28) rfl))
theorem iL_law_1375 : rx_ins mL_law 1375 = some (3, 1376, 0, 2, 0, []) := rx_atm tbL_law ndL_law (lmL_law_23 (List.mem_of_getElem? (i := 29) rfl))
theorem iL_law_1376 : rx_ins mL_law 1376 = some (3, 1377, 0, 0, 0, []) := rx_atm tbL_law ndL_law (lmL_law_23 (List.mem_of_getElem? (i := 30) rfl))
theorem iL_law_1377 : rx_ins mL_law 1377 = some (2, 1378, 0, 3, 0, []) := rx_atm tbL_law ndL_law (lmL_law_23 (List.mem_of_getElem? (i := 31) rfl))
theorem iL_law_1378 : rx_ins mL_law 1378 = some (1, 1379, 1, 0, 0, []) := rx_atm tbL_law ndL_law (lmL_law_23 (List.mem_of_getElem? (i := 32) rfl))
theorem iL_law_1379 : rx_ins mL_law 1379 = some (7, 1380, 0, 0, 0, []) := rx_atm tbL_law ndL_law (lmL_law_23 (List.mem_of_getElem? (i := 33) rfl))
theorem iL_law_1380 : rx_ins mL_law 1380 = some (20, 1381, 0, 0, 0, []) := rx_atm tbL_law ndL_law (lmL_law_23 (List.mem_of_getElem? (i := 34) rfl))
theorem iL_law_1381 : rx_ins mL_law 1381 = some (3, 1382, 0, 0, 0, []) := rx_atm tbL_law ndL_law (lmL_law_23 (List.mem_of_getElem? (i := 35) rfl))
theorem iL_law_1382 : rx_ins mL_law 1382 = some (2, 1383, 0, 3, 0, []) := rx_atm tbL_law ndL_law (lmL_law_23 (List.mem_of_getElem? (i := 36) rfl))
theorem iL_law_1383 : rx_ins mL_law 1383 = some (1, 1384, 2, 0, 0, []) := rx_atm tbL_law ndL_law (lmL_law_23 (List.mem_of_getElem? (i := 37) rfl))
theorem iL_law_1384 : rx_ins mL_law 1384 = some (7, 1385, 0, 0, 0, []) := rx_atm tbL_law ndL_law (lmL_law_23 (List.mem_of_getElem? (i := 38) rfl))
theorem iL_law_1385 : rx_ins mL_law 1385 = some (20, 1386, 0, 0, 0, []) := rx_atm tbL_law ndL_law (lmL_law_23 (List.mem_of_getElem? (i := 39) rfl))
theorem iL_law_1386 : rx_ins mL_law 1386 = some (28, 1389, 13, 239, 3, [(169, 75)]) := rx_atm tbL_law ndL_law (lmL_law_24 (List.mem_of_getElem? (i := 0) rfl))
theorem iL_law_1389 : rx_ins mL_law 1389 = some (14, 1392, 100, 0, 1489, []) := rx_atm tbL_law ndL_law (lmL_law_24 (List.mem_of_getElem? (i := 1) rfl))
theorem iL_law_1392 : rx_ins mL_law 1392 = some (1, 1393, 0, 0, 0, []) := rx_atm tbL_law ndL_law (lmL_law_24 (List.mem_of_getElem? (i := 2) rfl))
theorem iL_law_1393 : rx_ins mL_law 1393 = some (29, 1394, 1, 0, 0, []) := rx_atm tbL_law ndL_law (lmL_law_24 (List.mem_of_getElem? (i := 3) rfl))
theorem iL_law_1394 : rx_ins mL_law 1394 = some (3, 1395, 0, 1, 0, []) := rx_atm tbL_law ndL_law (lmL_law_24 (List.mem_of_getElem? (i := 4) rfl))
theorem iL_law_1395 : rx_ins mL_law 1395 = some (3, 1396, 0, 0, 0, []) := rx_atm tbL_law ndL_law (lmL_law_24 (List.mem_of_getElem? (i := 5) rfl))
theorem iL_law_1396 : rx_ins mL_law 1396 = some (2, 1397, 0, 3, 0, []) := rx_atm tbL_law ndL_law (lmL_law_24 (List.mem_of_getElem? (i := 6) rfl))
theorem iL_law_1397 : rx_ins mL_law 1397 = some (1, 1398, 1, 0, 0, []) := rx_atm tbL_law ndL_law (lmL_law_24 (List.mem_of_getElem? (i := 7) rfl))
theorem iL_law_1398 : rx_ins mL_law 1398 = some (7, 1399, 0, 0, 0, []) := rx_atm tbL_law ndL_law (lmL_law_24 (List.mem_of_getElem? (i := 8) rfl))
theorem iL_law_1399 : rx_ins mL_law 1399 = some (20, 1400, 0, 0, 0, []) := rx_atm tbL_law ndL_law (lmL_law_24 (List.mem_of_getElem? (i := 9) rfl))
theorem iL_law_1400 : rx_ins mL_law 1400 = some (28, 1403, 12, 114, 2, [(170, 76)]) := rx_atm tbL_law ndL_law (lmL_law_24 (List.mem_of_getElem? (i := 10) rfl))
theorem iL_law_1403 : rx_ins mL_law 1403 = some (3, 1404, 0, 2, 0, []) := rx_atm tbL_law ndL_law (lmL_law_24 (List.mem_of_getElem? (i := 11) rfl))
theorem iL_law_1404 : rx_ins mL_law 1404 = some (3, 1405, 0, 0, 0, []) := rx_atm tbL_law ndL_law (lmL_law_24 (List.mem_of_getElem? (i := 12) rfl))
theorem iL_law_1405 : rx_ins mL_law 1405 = some (2, 1406, 0, 3, 0, []) := rx_atm tbL_law ndL_law (lmL_law_24 (List.mem_of_getElem? (i := 13) rfl))
theorem iL_law_1406 : rx_ins mL_law 1406 = some (1, 1407, 1, 0, 0, []) := rx_atm tbL_law ndL_law (lmL_law_24 (List.mem_of_getElem? (i := 14) rfl))
theorem iL_law_1407 : rx_ins mL_law 1407 = some (7, 1408, 0, 0, 0, []) := rx_atm tbL_law ndL_law (lmL_law_24 (List.mem_of_getElem? (i := 15) rfl))
theorem iL_law_1408 : rx_ins mL_law 1408 = some (20, 1409, 0, 0, 0, []) := rx_atm tbL_law ndL_law (lmL_law_24 (List.mem_of_getElem? (i := 16) rfl))
theorem iL_law_1409 : rx_ins mL_law 1409 = some (28, 1412, 13, 240, 2, [(173, 77)]) := rx_atm tbL_law ndL_law (lmL_law_24 (List.mem_of_getElem? (i := 17) rfl))
theorem iL_law_1412 : rx_ins mL_law 1412 = some (14, 1415, 77, 0, 1489, []) := rx_atm tbL_law ndL_law (lmL_law_24 (List.mem_of_getElem? (i := 18) rfl))
theorem iL_law_1415 : rx_ins mL_law 1415 = some (1, 1416, 0, 0, 0, []) := rx_atm tbL_law ndL_law (lmL_law_24 (List.mem_of_getElem? (i := 19) rfl))
theorem iL_law_1416 : rx_ins mL_law 1416 = some (29, 1417, 1, 0, 0, []) := rx_atm tbL_law ndL_law (lmL_law_24 (List.mem_of_getElem? (i := 20) rfl))
theorem iL_law_1417 : rx_ins mL_law 1417 = some (3, 1418, 0, 1, 0, []) := rx_atm tbL_law ndL_law (lmL_law_24 (List.mem_of_getElem? (i := 21) rfl))
theorem iL_law_1418 : rx_ins mL_law 1418 = some (3, 1419, 0, 0, 0, []) := rx_atm tbL_law ndL_law (lmL_law_24 (List.mem_of_getElem? (i := 22) rfl))
theorem iL_law_1419 : rx_ins mL_law 1419 = some (2, 1420, 0, 3, 0, []) := rx_atm tbL_law ndL_law (lmL_law_24 (List.mem_of_getElem? (i := 23) rfl))
theorem iL_law_1420 : rx_ins mL_law 1420 = some (1, 1421, 1, 0, 0, []) := rx_atm tbL_law ndL_law (lmL_law_24 (List.mem_of_getElem? (i := 24) rfl))
theorem iL_law_1421 : rx_ins mL_law 1421 = some (7, 1422, 0, 0, 0, []) := rx_atm tbL_law ndL_law (lmL_law_24 (List.mem_of_getElem? (i := 25) rfl))
theorem iL_law_1422 : rx_ins mL_law 1422 = some (20, 1423, 0, 0, 0, []) := rx_atm tbL_law ndL_law (lmL_law_24 (List.mem_of_getElem? (i := 26) rfl))
theorem iL_law_1423 : rx_ins mL_law 1423 = some (28, 1426, 12, 115, 2, [(174, 78)]) := rx_atm tbL_law ndL_law (lmL_law_24 (List.mem_of_getElem? (i := 27) rfl))
theorem iL_law_1426 : rx_ins mL_law 1426 = some (3, 1427, 0, 2, 0, []) := rx_atm tbL_law ndL_law (lmL_law_24 (List.mem_of_getElem? (i := 28) rfl))
theorem iL_law_1427 : rx_ins mL_law 1427 = some (3, 1428, 0, 0, 0, []) := rx_atm tbL_law ndL_law (lmL_law_24 (List.mem_of_getElem? (i := 29) rfl))
theorem iL_law_1428 : rx_ins mL_law 1428 = some (2, 1429, 0, 3, 0, []) := rx_atm tbL_law ndL_law (lmL_law_24 (List.mem_of_getElem? (i := 30) rfl))
theorem iL_law_1429 : rx_ins mL_law 1429 = some (1, 1430, 1, 0, 0, []) := rx_atm tbL_law ndL_law (lmL_law_24 (List.mem_of_getElem? (i := 31) rfl))
theorem iL_law_1430 : rx_ins mL_law 1430 = some (7, 1431, 0, 0, 0, []) := rx_atm tbL_law ndL_law (lmL_law_24 (List.mem_of_getElem? (i := 32) rfl))
theorem iL_law_1431 : rx_ins mL_law 1431 = some (20, 1432, 0, 0, 0, []) := rx_atm tbL_law ndL_law (lmL_law_24 (List.mem_of_getElem? (i := 33) rfl))
theorem iL_law_1432 : rx_ins mL_law 1432 = some (28, 1435, 13, 242, 2, [(177, 79)]) := rx_atm tbL_law ndL_law (lmL_law_24 (List.mem_of_getElem? (i := 34) rfl))
theorem iL_law_1435 : rx_ins mL_law 1435 = some (14, 1438, 54, 0, 1489, []) := rx_atm tbL_law ndL_law (lmL_law_24 (List.mem_of_getElem? (i := 35) rfl))
theorem iL_law_1438 : rx_ins mL_law 1438 = some (1, 1439, 0, 0, 0, []) := rx_atm tbL_law ndL_law (lmL_law_24 (List.mem_of_getElem? (i := 36) rfl))
theorem iL_law_1439 : rx_ins mL_law 1439 = some (29, 1440, 1, 0, 0, []) := rx_atm tbL_law ndL_law (lmL_law_24 (List.mem_of_getElem? (i := 37) rfl))
theorem iL_law_1440 : rx_ins mL_law 1440 = some (3, 1441, 0, 1, 0, []) := rx_atm tbL_law ndL_law (lmL_law_24 (List.mem_of_getElem? (i := 38) rfl))
theorem iL_law_1441 : rx_ins mL_law 1441 = some (28, 1444, 12, 116, 1, [(178, 80)]) := rx_atm tbL_law ndL_law (lmL_law_24 (List.mem_of_getElem? (i := 39) rfl))
theorem iL_law_1444 : rx_ins mL_law 1444 = some (3, 1445, 0, 2, 0, []) := rx_atm tbL_law ndL_law (lmL_law_25 (List.mem_of_getElem? (i := 0) rfl))
theorem iL_law_1445 : rx_ins mL_law 1445 = some (28, 1448, 13, 243, 1, [(181, 81)]) := rx_atm tbL_law ndL_law (lmL_law_25 (List.mem_of_getElem? (i := 1) rfl))
theorem iL_law_1448 : rx_ins mL_law 1448 = some (14, 1451, 41, 0, 1489, []) := rx_atm tbL_law ndL_law (lmL_law_25 (List.mem_of_getElem? (i := 2) rfl))
theorem iL_law_1451 : rx_ins mL_law 1451 = some (1, 1452, 0, 0, 0, []) := rx_atm tbL_law ndL_law (lmL_law_25 (List.mem_of_getElem? (i := 3) rfl))
theorem iL_law_1452 : rx_ins mL_law 1452 = some (29, 1453, 1, 0, 0, []) := rx_atm tbL_law ndL_law (lmL_law_25 (List.mem_of_getElem? (i := 4) rfl))
theorem iL_law_1453 : rx_ins mL_law 1453 = some (3, 1454, 0, 1, 0, []) := rx_atm tbL_law ndL_law (lmL_law_25 (List.mem_of_getElem? (i := 5) rfl))
theorem iL_law_1454 : rx_ins mL_law 1454 = some (28, 1457, 12, 117, 1, [(182, 82)]) := rx_atm tbL_law ndL_law (lmL_law_25 (List.mem_of_getElem? (i := 6) rfl))
theorem iL_law_1457 : rx_ins mL_law 1457 = some (3, 1458, 0, 2, 0, []) := rx_atm tbL_law ndL_law (lmL_law_25 (List.mem_of_getElem? (i := 7) rfl))
theorem iL_law_1458 : rx_ins mL_law 1458 = some (28, 1461, 13, 244, 1, [(185, 83)]) := rx_atm tbL_law ndL_law (lmL_law_25 (List.mem_of_getElem? (i := 8) rfl))
theorem iL_law_1461 : rx_ins mL_law 1461 = some (14, 1464, 28, 0, 1489, []) := rx_atm tbL_law ndL_law (lmL_law_25 (List.mem_of_getElem? (i := 9) rfl))
theorem iL_law_1464 : rx_ins mL_law 1464 = some (1, 1465, 0, 0, 0, []) := rx_atm tbL_law ndL_law (lmL_law_25 (List.mem_of_getElem? (i := 10) rfl))
theorem iL_law_1465 : rx_ins mL_law 1465 = some (29, 1466, 1, 0, 0, []) := rx_atm tbL_law ndL_law (lmL_law_25 (List.mem_of_getElem? (i := 11) rfl))
theorem iL_law_1466 : rx_ins mL_law 1466 = some (3, 1467, 0, 1, 0, []) := rx_atm tbL_law ndL_law (lmL_law_25 (List.mem_of_getElem? (i := 12) rfl))
theorem iL_law_1467 : rx_ins mL_law 1467 = some (3, 1468, 0, 0, 0, []) := rx_atm tbL_law ndL_law (lmL_law_25 (List.mem_of_getElem? (i := 13) rfl))
theorem iL_law_1468 : rx_ins mL_law 1468 = some (2, 1469, 0, 3, 0, []) := rx_atm tbL_law ndL_law (lmL_law_25 (List.mem_of_getElem? (i := 14) rfl))
theorem iL_law_1469 : rx_ins mL_law 1469 = some (1, 1470, 1, 0, 0, []) := rx_atm tbL_law ndL_law (lmL_law_25 (List.mem_of_getElem? (i := 15) rfl))
theorem iL_law_1470 : rx_ins mL_law 1470 = some (7, 1471, 0, 0, 0, []) := rx_atm tbL_law ndL_law (lmL_law_25 (List.mem_of_getElem? (i := 16) rfl))
theorem iL_law_1471 : rx_ins mL_law 1471 = some (20, 1472, 0, 0, 0, []) := rx_atm tbL_law ndL_law (lmL_law_25 (List.mem_of_getElem? (i := 17) rfl))
theorem iL_law_1472 : rx_ins mL_law 1472 = some (28, 1475, 12, 118, 2, [(186, 84)]) := rx_atm tbL_law ndL_law (lmL_law_25 (List.mem_of_getElem? (i := 18) rfl))
theorem iL_law_1475 : rx_ins mL_law 1475 = some (3, 1476, 0, 2, 0, []) := rx_atm tbL_law ndL_law (lmL_law_25 (List.mem_of_getElem? (i := 19) rfl))
theorem iL_law_1476 : rx_ins mL_law 1476 = some (3, 1477, 0, 0, 0, []) := rx_atm tbL_law ndL_law (lmL_law_25 (List.mem_of_getElem? (i := 20) rfl))
theorem iL_law_1477 : rx_ins mL_law 1477 = some (2, 1478, 0, 3, 0, []) := rx_atm tbL_law ndL_law (lmL_law_25 (List.mem_of_getElem? (i := 21) rfl))
theorem iL_law_1478 : rx_ins mL_law 1478 = some (1, 1479, 1, 0, 0, []) := rx_atm tbL_law ndL_law (lmL_law_25 (List.mem_of_getElem? (i := 22) rfl))
theorem iL_law_1479 : rx_ins mL_law 1479 = some (7, 1480, 0, 0, 0, []) := rx_atm tbL_law ndL_law (lmL_law_25 (List.mem_of_getElem? (i := 23) rfl))
theorem iL_law_1480 : rx_ins mL_law 1480 = some (20, 1481, 0, 0, 0, []) := rx_atm tbL_law ndL_law (lmL_law_25 (List.mem_of_getElem? (i := 24) rfl))
theorem iL_law_1481 : rx_ins mL_law 1481 = some (28, 1484, 13, 245, 2, [(189, 85)]) := rx_atm tbL_law ndL_law (lmL_law_25 (List.mem_of_getElem? (i := 25) rfl))
theorem iL_law_1484 : rx_ins mL_law 1484 = some (14, 1487, 5, 0, 1489, []) := rx_atm tbL_law ndL_law (lmL_law_25 (List.mem_of_getElem? (i := 26) rfl))
theorem iL_law_1487 : rx_ins mL_law 1487 = some (1, 1488, 0, 0, 0, []) := rx_atm tbL_law ndL_law (lmL_law_25 (List.mem_of_getElem? (i := 27) rfl))
theorem iL_law_1488 : rx_ins mL_law 1488 = some (29, 1489, 1, 0, 0, []) := rx_atm tbL_law ndL_law (lmL_law_25 (List.mem_of_getElem? (i := 28) rfl))
set_option maxRecDepth 20000 in
set_option maxHeartbeats 4000000 in
theorem bL_law_18 (L d : Nat) (x3 : Int) (σ : rx_St) (K : Int → rx_St → Prop)
    (H : if (rx_w ((L : Int) - 6)) < x3 then (K 1 σ) else ((0 ≤ x3 ∧ x3 < (L : Int)) ∧ (if (rx_alu 3 (σ 159 x3) 63) = 0 then ((0 ≤ (rx_w (x3 + 1)) ∧ (rx_w (x3 + 1)) < (L : Int)) ∧ ((0 ≤ (rx_w (x3 + 2)) ∧ (rx_w (x3 + 2)) < (L : Int)) ∧ (rx_CI L d mX10_post [.inr 0, .inl (σ 159 (rx_w (x3 + 1))), .inl (σ 159 (rx_w (x3 + 2)))] σ (fun v7 σ6 => rx_CI L d mX11_post [.inr 125, .inl (σ6 159 (rx_w (x3 + 1))), .inl (σ6 159 (rx_w (x3 + 2)))] σ6 (fun v9 σ8 => if v7 = v9 then (rx_Go L (d + 1) mL_law 18 [some (.inr 159), some (.inr 0), some (.inr 125), some (.inl (rx_w (x3 + 6)))] [] σ8 (rx_PI K)) else (K 0 σ8)))))) else (if (rx_alu 3 (σ 159 x3) 63) = 1 then ((0 ≤ (rx_w (x3 + 1)) ∧ (rx_w (x3 + 1)) < (L : Int)) ∧ ((0 ≤ (rx_w (x3 + 2)) ∧ (rx_w (x3 + 2)) < (L : Int)) ∧ (rx_CI L d mX10_postTold [.inr 0, .inl (σ 159 (rx_w (x3 + 1))), .inl (σ 159 (rx_w (x3 + 2)))] σ (fun v15 σ14 => rx_CI L d mX11_postTold [.inr 125, .inl (σ14 159 (rx_w (x3 + 1))), .inl (σ14 159 (rx_w (x3 + 2)))] σ14 (fun v17 σ16 => if v15 = v17 then (rx_Go L (d + 1) mL_law 18 [some (.inr 159), some (.inr 0), some (.inr 125), some (.inl (rx_w (x3 + 6)))] [] σ16 (rx_PI K)) else (K 0 σ16)))))) else (if (rx_alu 3 (σ 159 x3) 63) = 2 then ((0 ≤ (rx_w (x3 + 1)) ∧ (rx_w (x3 + 1)) < (L : Int)) ∧ ((0 ≤ (rx_w (x3 + 2)) ∧ (rx_w (x3 + 2)) < (L : Int)) ∧ ((0 ≤ (rx_w (x3 + 3)) ∧ (rx_w (x3 + 3)) < (L : Int)) ∧ (rx_CI L d mX10_move [.inr 0, .inl (σ 159 (rx_w (x3 + 1))), .inl (σ 159 (rx_w (x3 + 2))), .inl (σ 159 (rx_w (x3 + 3)))] σ (fun v24 σ23 => rx_CI L d mX11_move [.inr 125, .inl (σ23 159 (rx_w (x3 + 1))), .inl (σ23 159 (rx_w (x3 + 2))), .inl (σ23 159 (rx_w (x3 + 3)))] σ23 (fun v26 σ25 => if v24 = v26 then (rx_Go L (d + 1) mL_law 18 [some (.inr 159), some (.inr 0), some (.inr 125), some (.inl (rx_w (x3 + 6)))] [] σ25 (rx_PI K)) else (K 0 σ25))))))) else (if (rx_alu 3 (σ 159 x3) 63) = 3 then ((0 ≤ (rx_w (x3 + 1)) ∧ (rx_w (x3 + 1)) < (L : Int)) ∧ ((0 ≤ (rx_w (x3 + 2)) ∧ (rx_w (x3 + 2)) < (L : Int)) ∧ (rx_CI L d mX10_layer [.inr 0, .inl (σ 159 (rx_w (x3 + 1))), .inl (σ 159 (rx_w (x3 + 2)))] σ (fun v32 σ31 => rx_CI L d mX11_layer [.inr 125, .inl (σ31 159 (rx_w (x3 + 1))), .inl (σ31 159 (rx_w (x3 + 2)))] σ31 (fun v34 σ33 => if v32 = v34 then (rx_Go L (d + 1) mL_law 18 [some (.inr 159), some (.inr 0), some (.inr 125), some (.inl (rx_w (x3 + 6)))] [] σ33 (rx_PI K)) else (K 0 σ33)))))) else (if (rx_alu 3 (σ 159 x3) 63) = 4 then ((0 ≤ (rx_w (x3 + 1)) ∧ (rx_w (x3 + 1)) < (L : Int)) ∧ ((0 ≤ (rx_w (x3 + 2)) ∧ (rx_w (x3 + 2)) < (L : Int)) ∧ ((0 ≤ (rx_w (x3 + 3)) ∧ (rx_w (x3 + 3)) < (L : Int)) ∧ (rx_CI L d mX10_road [.inr 0, .inl (σ 159 (rx_w (x3 + 1))), .inl (σ 159 (rx_w (x3 + 2))), .inl (σ 159 (rx_w (x3 + 3)))] σ (fun v41 σ40 => rx_CI L d mX11_road [.inr 125, .inl (σ40 159 (rx_w (x3 + 1))), .inl (σ40 159 (rx_w (x3 + 2))), .inl (σ40 159 (rx_w (x3 + 3)))] σ40 (fun v43 σ42 => if v41 = v43 then (rx_Go L (d + 1) mL_law 18 [some (.inr 159), some (.inr 0), some (.inr 125), some (.inl (rx_w (x3 + 6)))] [] σ42 (rx_PI K)) else (K 0 σ42))))))) else (if (rx_alu 3 (σ 159 x3) 63) = 5 then ((0 ≤ (rx_w (x3 + 1)) ∧ (rx_w (x3 + 1)) < (L : Int)) ∧ ((0 ≤ (rx_w (x3 + 2)) ∧ (rx_w (x3 + 2)) < (L : Int)) ∧ (rx_CI L d mX10_told [.inr 0, .inl (σ 159 (rx_w (x3 + 1))), .inl (σ 159 (rx_w (x3 + 2)))] σ (fun v49 σ48 => rx_CI L d mX11_told [.inr 125, .inl (σ48 159 (rx_w (x3 + 1))), .inl (σ48 159 (rx_w (x3 + 2)))] σ48 (fun v51 σ50 => if v49 = v51 then (rx_Go L (d + 1) mL_law 18 [some (.inr 159), some (.inr 0), some (.inr 125), some (.inl (rx_w (x3 + 6)))] [] σ50 (rx_PI K)) else (K 0 σ50)))))) else (if (rx_alu 3 (σ 159 x3) 63) = 6 then ((0 ≤ (rx_w (x3 + 1)) ∧ (rx_w (x3 + 1)) < (L : Int)) ∧ ((0 ≤ (rx_w (x3 + 2)) ∧ (rx_w (x3 + 2)) < (L : Int)) ∧ (rx_CI L d mX10_as [.inr 0, .inl (σ 159 (rx_w (x3 + 1))), .inl (σ 159 (rx_w (x3 + 2)))] σ (fun v57 σ56 => rx_CI L d mX11_as [.inr 125, .inl (σ56 159 (rx_w (x3 + 1))), .inl (σ56 159 (rx_w (x3 + 2)))] σ56 (fun v59 σ58 => if v57 = v59 then (rx_Go L (d + 1) mL_law 18 [some (.inr 159), some (.inr 0), some (.inr 125), some (.inl (rx_w (x3 + 6)))] [] σ58 (rx_PI K)) else (K 0 σ58)))))) else (if (rx_alu 3 (σ 159 x3) 63) = 7 then ((0 ≤ (rx_w (x3 + 1)) ∧ (rx_w (x3 + 1)) < (L : Int)) ∧ ((0 ≤ (rx_w (x3 + 2)) ∧ (rx_w (x3 + 2)) < (L : Int)) ∧ (rx_CI L d mX10_turns [.inr 0, .inl (σ 159 (rx_w (x3 + 1))), .inl (σ 159 (rx_w (x3 + 2)))] σ (fun v65 σ64 => rx_CI L d mX11_turns [.inr 125, .inl (σ64 159 (rx_w (x3 + 1))), .inl (σ64 159 (rx_w (x3 + 2)))] σ64 (fun v67 σ66 => if v65 = v67 then (rx_Go L (d + 1) mL_law 18 [some (.inr 159), some (.inr 0), some (.inr 125), some (.inl (rx_w (x3 + 6)))] [] σ66 (rx_PI K)) else (K 0 σ66)))))) else (if (rx_alu 3 (σ 159 x3) 63) = 8 then ((0 ≤ (rx_w (x3 + 1)) ∧ (rx_w (x3 + 1)) < (L : Int)) ∧ ((0 ≤ (rx_w (x3 + 2)) ∧ (rx_w (x3 + 2)) < (L : Int)) ∧ ((0 ≤ (rx_w (x3 + 3)) ∧ (rx_w (x3 + 3)) < (L : Int)) ∧ (rx_CI L d mX10_set [.inr 0, .inl (σ 159 (rx_w (x3 + 1))), .inl (σ 159 (rx_w (x3 + 2))), .inl (σ 159 (rx_w (x3 + 3)))] σ (fun v74 σ73 => rx_CI L d mX11_set [.inr 125, .inl (σ73 159 (rx_w (x3 + 1))), .inl (σ73 159 (rx_w (x3 + 2))), .inl (σ73 159 (rx_w (x3 + 3)))] σ73 (fun v76 σ75 => if v74 = v76 then (rx_Go L (d + 1) mL_law 18 [some (.inr 159), some (.inr 0), some (.inr 125), some (.inl (rx_w (x3 + 6)))] [] σ75 (rx_PI K)) else (K 0 σ75))))))) else (if (rx_alu 3 (σ 159 x3) 63) = 9 then ((0 ≤ (rx_w (x3 + 1)) ∧ (rx_w (x3 + 1)) < (L : Int)) ∧ (rx_CI L d mX10_drop [.inr 0, .inl (σ 159 (rx_w (x3 + 1)))] σ (fun v81 σ80 => rx_CI L d mX11_drop [.inr 125, .inl (σ80 159 (rx_w (x3 + 1)))] σ80 (fun v83 σ82 => if v81 = v83 then (rx_Go L (d + 1) mL_law 18 [some (.inr 159), some (.inr 0), some (.inr 125), some (.inl (rx_w (x3 + 6)))] [] σ82 (rx_PI K)) else (K 0 σ82))))) else (if (rx_alu 3 (σ 159 x3) 63) = 10 then ((0 ≤ (rx_w (x3 + 1)) ∧ (rx_w (x3 + 1)) < (L : Int)) ∧ ((0 ≤ (rx_w (x3 + 2)) ∧ (rx_w (x3 + 2)) < (L : Int)) ∧ (rx_CI L d mX10_cross [.inr 0, .inl (σ 159 (rx_w (x3 + 1))), .inl (σ 159 (rx_w (x3 + 2)))] σ (fun v89 σ88 => rx_CI L d mX11_cross [.inr 125, .inl (σ88 159 (rx_w (x3 + 1))), .inl (σ88 159 (rx_w (x3 + 2)))] σ88 (fun v91 σ90 => if v89 = v91 then (rx_Go L (d + 1) mL_law 18 [some (.inr 159), some (.inr 0), some (.inr 125), some (.inl (rx_w (x3 + 6)))] [] σ90 (rx_PI K)) else (K 0 σ90)))))) else (if (rx_alu 3 (σ 159 x3) 63) = 11 then ((0 ≤ (rx_w (x3 + 1)) ∧ (rx_w (x3 + 1)) < (L : Int)) ∧ (rx_CI L d mX10_straight [.inr 0, .inl (σ 159 (rx_w (x3 + 1)))] σ (fun v96 σ95 => rx_CI L d mX11_straight [.inr 125, .inl (σ95 159 (rx_w (x3 + 1)))] σ95 (fun v98 σ97 => if v96 = v98 then (rx_Go L (d + 1) mL_law 18 [some (.inr 159), some (.inr 0), some (.inr 125), some (.inl (rx_w (x3 + 6)))] [] σ97 (rx_PI K)) else (K 0 σ97))))) else (if (rx_alu 3 (σ 159 x3) 63) = 12 then (rx_CI L d mX10_bound [.inr 0] σ (fun v102 σ101 => rx_CI L d mX11_bound [.inr 125] σ101 (fun v104 σ103 => if v102 = v104 then (rx_Go L (d + 1) mL_law 18 [some (.inr 159), some (.inr 0), some (.inr 125), some (.inl (rx_w (x3 + 6)))] [] σ103 (rx_PI K)) else (K 0 σ103)))) else (if (rx_alu 3 (σ 159 x3) 63) = 13 then ((0 ≤ (rx_w (x3 + 1)) ∧ (rx_w (x3 + 1)) < (L : Int)) ∧ ((0 ≤ (rx_w (x3 + 2)) ∧ (rx_w (x3 + 2)) < (L : Int)) ∧ (rx_CI L d mX10_would [.inr 0, .inl (σ 159 (rx_w (x3 + 1))), .inl (σ 159 (rx_w (x3 + 2)))] σ (fun v110 σ109 => rx_CI L d mX11_would [.inr 125, .inl (σ109 159 (rx_w (x3 + 1))), .inl (σ109 159 (rx_w (x3 + 2)))] σ109 (fun v112 σ111 => if v110 = v112 then (rx_Go L (d + 1) mL_law 18 [some (.inr 159), some (.inr 0), some (.inr 125), some (.inl (rx_w (x3 + 6)))] [] σ111 (rx_PI K)) else (K 0 σ111)))))) else (if (rx_alu 3 (σ 159 x3) 63) = 14 then ((0 ≤ (rx_w (x3 + 1)) ∧ (rx_w (x3 + 1)) < (L : Int)) ∧ (rx_CI L d mX10_best [.inr 0, .inl (σ 159 (rx_w (x3 + 1)))] σ (fun v117 σ116 => rx_CI L d mX11_best [.inr 125, .inl (σ116 159 (rx_w (x3 + 1)))] σ116 (fun v119 σ118 => if v117 = v119 then (rx_Go L (d + 1) mL_law 18 [some (.inr 159), some (.inr 0), some (.inr 125), some (.inl (rx_w (x3 + 6)))] [] σ118 (rx_PI K)) else (K 0 σ118))))) else (if (rx_alu 3 (σ 159 x3) 63) = 15 then ((0 ≤ (rx_w (x3 + 1)) ∧ (rx_w (x3 + 1)) < (L : Int)) ∧ (rx_CI L d mX10_swaps [.inr 0, .inl (σ 159 (rx_w (x3 + 1)))] σ (fun v124 σ123 => rx_CI L d mX11_swaps [.inr 125, .inl (σ123 159 (rx_w (x3 + 1)))] σ123 (fun v126 σ125 => if v124 = v126 then (rx_Go L (d + 1) mL_law 18 [some (.inr 159), some (.inr 0), some (.inr 125), some (.inl (rx_w (x3 + 6)))] [] σ125 (rx_PI K)) else (K 0 σ125))))) else (if (rx_alu 3 (σ 159 x3) 63) = 16 then ((0 ≤ (rx_w (x3 + 1)) ∧ (rx_w (x3 + 1)) < (L : Int)) ∧ (rx_CI L d mX10_line [.inr 0, .inl (σ 159 (rx_w (x3 + 1)))] σ (fun v131 σ130 => rx_CI L d mX11_line [.inr 125, .inl (σ130 159 (rx_w (x3 + 1)))] σ130 (fun v133 σ132 => if v131 = v133 then (rx_Go L (d + 1) mL_law 18 [some (.inr 159), some (.inr 0), some (.inr 125), some (.inl (rx_w (x3 + 6)))] [] σ132 (rx_PI K)) else (K 0 σ132))))) else (if (rx_alu 3 (σ 159 x3) 63) = 17 then ((0 ≤ (rx_w (x3 + 1)) ∧ (rx_w (x3 + 1)) < (L : Int)) ∧ (rx_CI L d mX10_at [.inr 0, .inl (σ 159 (rx_w (x3 + 1)))] σ (fun v138 σ137 => rx_CI L d mX11_at [.inr 125, .inl (σ137 159 (rx_w (x3 + 1)))] σ137 (fun v140 σ139 => if v138 = v140 then (rx_Go L (d + 1) mL_law 18 [some (.inr 159), some (.inr 0), some (.inr 125), some (.inl (rx_w (x3 + 6)))] [] σ139 (rx_PI K)) else (K 0 σ139))))) else (if (rx_alu 3 (σ 159 x3) 63) = 18 then ((0 ≤ (rx_w (x3 + 1)) ∧ (rx_w (x3 + 1)) < (L : Int)) ∧ (rx_CI L d mX10_book [.inr 0, .inl (σ 159 (rx_w (x3 + 1)))] σ (fun v145 σ144 => rx_CI L d mX11_book [.inr 125, .inl (σ144 159 (rx_w (x3 + 1)))] σ144 (fun v147 σ146 => if v145 = v147 then (rx_Go L (d + 1) mL_law 18 [some (.inr 159), some (.inr 0), some (.inr 125), some (.inl (rx_w (x3 + 6)))] [] σ146 (rx_PI K)) else (K 0 σ146))))) else (if (rx_alu 3 (σ 159 x3) 63) = 19 then ((0 ≤ (rx_w (x3 + 1)) ∧ (rx_w (x3 + 1)) < (L : Int)) ∧ (rx_CI L d mX10_pages [.inr 0, .inl (σ 159 (rx_w (x3 + 1)))] σ (fun v152 σ151 => rx_CI L d mX11_pages [.inr 125, .inl (σ151 159 (rx_w (x3 + 1)))] σ151 (fun v154 σ153 => if v152 = v154 then (rx_Go L (d + 1) mL_law 18 [some (.inr 159), some (.inr 0), some (.inr 125), some (.inl (rx_w (x3 + 6)))] [] σ153 (rx_PI K)) else (K 0 σ153))))) else (if (rx_alu 3 (σ 159 x3) 63) = 20 then ((0 ≤ (rx_w (x3 + 1)) ∧ (rx_w (x3 + 1)) < (L : Int)) ∧ (rx_CI L d mX10_bestLine [.inr 0, .inl (σ 159 (rx_w (x3 + 1)))] σ (fun v159 σ158 => rx_CI L d mX11_bestLine [.inr 125, .inl (σ158 159 (rx_w (x3 + 1)))] σ158 (fun v161 σ160 => if v159 = v161 then (rx_Go L (d + 1) mL_law 18 [some (.inr 159), some (.inr 0), some (.inr 125), some (.inl (rx_w (x3 + 6)))] [] σ160 (rx_PI K)) else (K 0 σ160))))) else (if (rx_alu 3 (σ 159 x3) 63) = 21 then ((0 ≤ (rx_w (x3 + 1)) ∧ (rx_w (x3 + 1)) < (L : Int)) ∧ (rx_CI L d mX10_layers [.inr 0, .inl (σ 159 (rx_w (x3 + 1)))] σ (fun v166 σ165 => rx_CI L d mX11_layers [.inr 125, .inl (σ165 159 (rx_w (x3 + 1)))] σ165 (fun v168 σ167 => if v166 = v168 then (rx_Go L (d + 1) mL_law 18 [some (.inr 159), some (.inr 0), some (.inr 125), some (.inl (rx_w (x3 + 6)))] [] σ167 (rx_PI K)) else (K 0 σ167))))) else (if (rx_alu 3 (σ 159 x3) 63) = 22 then ((0 ≤ (rx_w (x3 + 1)) ∧ (rx_w (x3 + 1)) < (L : Int)) ∧ ((0 ≤ (rx_w (x3 + 2)) ∧ (rx_w (x3 + 2)) < (L : Int)) ∧ (rx_CI L d mX10_bestRow [.inr 0, .inl (σ 159 (rx_w (x3 + 1))), .inl (σ 159 (rx_w (x3 + 2)))] σ (fun v174 σ173 => rx_CI L d mX11_bestRow [.inr 125, .inl (σ173 159 (rx_w (x3 + 1))), .inl (σ173 159 (rx_w (x3 + 2)))] σ173 (fun v176 σ175 => if v174 = v176 then (rx_Go L (d + 1) mL_law 18 [some (.inr 159), some (.inr 0), some (.inr 125), some (.inl (rx_w (x3 + 6)))] [] σ175 (rx_PI K)) else (K 0 σ175)))))) else (if (rx_alu 3 (σ 159 x3) 63) = 23 then ((0 ≤ (rx_w (x3 + 1)) ∧ (rx_w (x3 + 1)) < (L : Int)) ∧ ((0 ≤ (rx_w (x3 + 2)) ∧ (rx_w (x3 + 2)) < (L : Int)) ∧ (rx_CI L d mX10_deal [.inr 0, .inl (σ 159 (rx_w (x3 + 1))), .inl (σ 159 (rx_w (x3 + 2)))] σ (fun v182 σ181 => rx_CI L d mX11_deal [.inr 125, .inl (σ181 159 (rx_w (x3 + 1))), .inl (σ181 159 (rx_w (x3 + 2)))] σ181 (fun v184 σ183 => if v182 = v184 then (rx_Go L (d + 1) mL_law 18 [some (.inr 159), some (.inr 0), some (.inr 125), some (.inl (rx_w (x3 + 6)))] [] σ183 (rx_PI K)) else (K 0 σ183)))))) else (if (rx_alu 3 (σ 159 x3) 63) = 24 then ((0 ≤ (rx_w (x3 + 1)) ∧ (rx_w (x3 + 1)) < (L : Int)) ∧ (rx_CI L d mX10_seed [.inr 0, .inl (σ 159 (rx_w (x3 + 1)))] σ (fun v189 σ188 => rx_CI L d mX11_seed [.inr 125, .inl (σ188 159 (rx_w (x3 + 1)))] σ188 (fun v191 σ190 => if v189 = v191 then (rx_Go L (d + 1) mL_law 18 [some (.inr 159), some (.inr 0), some (.inr 125), some (.inl (rx_w (x3 + 6)))] [] σ190 (rx_PI K)) else (K 0 σ190))))) else (if (rx_alu 3 (σ 159 x3) 63) = 25 then ((0 ≤ (rx_w (x3 + 1)) ∧ (rx_w (x3 + 1)) < (L : Int)) ∧ ((0 ≤ (rx_w (x3 + 2)) ∧ (rx_w (x3 + 2)) < (L : Int)) ∧ ((0 ≤ (rx_w (x3 + 3)) ∧ (rx_w (x3 + 3)) < (L : Int)) ∧ (rx_CI L d mX10_feed [.inr 0, .inl (σ 159 (rx_w (x3 + 1))), .inl (σ 159 (rx_w (x3 + 2))), .inl (σ 159 (rx_w (x3 + 3)))] σ (fun v198 σ197 => rx_CI L d mX11_feed [.inr 125, .inl (σ197 159 (rx_w (x3 + 1))), .inl (σ197 159 (rx_w (x3 + 2))), .inl (σ197 159 (rx_w (x3 + 3)))] σ197 (fun v200 σ199 => if v198 = v200 then (rx_Go L (d + 1) mL_law 18 [some (.inr 159), some (.inr 0), some (.inr 125), some (.inl (rx_w (x3 + 6)))] [] σ199 (rx_PI K)) else (K 0 σ199))))))) else (if (rx_alu 3 (σ 159 x3) 63) = 26 then ((0 ≤ (rx_w (x3 + 1)) ∧ (rx_w (x3 + 1)) < (L : Int)) ∧ (rx_CI L d mX10_trim [.inr 0, .inl (σ 159 (rx_w (x3 + 1)))] σ (fun v205 σ204 => rx_CI L d mX11_trim [.inr 125, .inl (σ204 159 (rx_w (x3 + 1)))] σ204 (fun v207 σ206 => if v205 = v207 then (rx_Go L (d + 1) mL_law 18 [some (.inr 159), some (.inr 0), some (.inr 125), some (.inl (rx_w (x3 + 6)))] [] σ206 (rx_PI K)) else (K 0 σ206))))) else (if (rx_alu 3 (σ 159 x3) 63) = 27 then (rx_CI L d mX10_text [.inr 0] σ (fun v211 σ210 => rx_CI L d mX11_text [.inr 125] σ210 (fun v213 σ212 => if v211 = v213 then (rx_Go L (d + 1) mL_law 18 [some (.inr 159), some (.inr 0), some (.inr 125), some (.inl (rx_w (x3 + 6)))] [] σ212 (rx_PI K)) else (K 0 σ212)))) else (if (rx_alu 3 (σ 159 x3) 63) = 28 then ((0 ≤ (rx_w (x3 + 1)) ∧ (rx_w (x3 + 1)) < (L : Int)) ∧ ((0 ≤ (rx_w (x3 + 2)) ∧ (rx_w (x3 + 2)) < (L : Int)) ∧ (rx_CI L d mX10_textTold [.inr 0, .inl (σ 159 (rx_w (x3 + 1))), .inl (σ 159 (rx_w (x3 + 2)))] σ (fun v219 σ218 => rx_CI L d mX11_textTold [.inr 125, .inl (σ218 159 (rx_w (x3 + 1))), .inl (σ218 159 (rx_w (x3 + 2)))] σ218 (fun v221 σ220 => if v219 = v221 then (rx_Go L (d + 1) mL_law 18 [some (.inr 159), some (.inr 0), some (.inr 125), some (.inl (rx_w (x3 + 6)))] [] σ220 (rx_PI K)) else (K 0 σ220)))))) else (if (rx_alu 3 (σ 159 x3) 63) = 29 then ((0 ≤ (rx_w (x3 + 1)) ∧ (rx_w (x3 + 1)) < (L : Int)) ∧ (rx_CI L d mX10_why [.inr 0, .inl (σ 159 (rx_w (x3 + 1)))] σ (fun v226 σ225 => rx_CI L d mX11_why [.inr 125, .inl (σ225 159 (rx_w (x3 + 1)))] σ225 (fun v228 σ227 => if v226 = v228 then (rx_Go L (d + 1) mL_law 18 [some (.inr 159), some (.inr 0), some (.inr 125), some (.inl (rx_w (x3 + 6)))] [] σ227 (rx_PI K)) else (K 0 σ227))))) else (if (rx_alu 3 (σ 159 x3) 63) = 30 then ((0 ≤ (rx_w (x3 + 1)) ∧ (rx_w (x3 + 1)) < (L : Int)) ∧ ((0 ≤ (rx_w (x3 + 2)) ∧ (rx_w (x3 + 2)) < (L : Int)) ∧ ((0 ≤ (rx_w (x3 + 3)) ∧ (rx_w (x3 + 3)) < (L : Int)) ∧ (rx_CI L d mX10_sheet [.inr 0, .inl (σ 159 (rx_w (x3 + 1))), .inl (σ 159 (rx_w (x3 + 2))), .inl (σ 159 (rx_w (x3 + 3)))] σ (fun v235 σ234 => rx_CI L d mX11_sheet [.inr 125, .inl (σ234 159 (rx_w (x3 + 1))), .inl (σ234 159 (rx_w (x3 + 2))), .inl (σ234 159 (rx_w (x3 + 3)))] σ234 (fun v237 σ236 => if v235 = v237 then (rx_Go L (d + 1) mL_law 18 [some (.inr 159), some (.inr 0), some (.inr 125), some (.inl (rx_w (x3 + 6)))] [] σ236 (rx_PI K)) else (K 0 σ236))))))) else (if (rx_alu 3 (σ 159 x3) 63) = 31 then ((0 ≤ (rx_w (x3 + 1)) ∧ (rx_w (x3 + 1)) < (L : Int)) ∧ ((0 ≤ (rx_w (x3 + 2)) ∧ (rx_w (x3 + 2)) < (L : Int)) ∧ ((0 ≤ (rx_w (x3 + 3)) ∧ (rx_w (x3 + 3)) < (L : Int)) ∧ (rx_CI L d mX10_mark [.inr 0, .inl (σ 159 (rx_w (x3 + 1))), .inl (σ 159 (rx_w (x3 + 2))), .inl (σ 159 (rx_w (x3 + 3)))] σ (fun v244 σ243 => rx_CI L d mX11_mark [.inr 125, .inl (σ243 159 (rx_w (x3 + 1))), .inl (σ243 159 (rx_w (x3 + 2))), .inl (σ243 159 (rx_w (x3 + 3)))] σ243 (fun v246 σ245 => if v244 = v246 then (rx_Go L (d + 1) mL_law 18 [some (.inr 159), some (.inr 0), some (.inr 125), some (.inl (rx_w (x3 + 6)))] [] σ245 (rx_PI K)) else (K 0 σ245))))))) else (if (rx_alu 3 (σ 159 x3) 63) = 32 then ((0 ≤ (rx_w (x3 + 1)) ∧ (rx_w (x3 + 1)) < (L : Int)) ∧ (rx_CI L d mX10_pour [.inr 0, .inl (σ 159 (rx_w (x3 + 1)))] σ (fun v251 σ250 => rx_CI L d mX11_pour [.inr 125, .inl (σ250 159 (rx_w (x3 + 1)))] σ250 (fun v253 σ252 => if v251 = v253 then (rx_Go L (d + 1) mL_law 18 [some (.inr 159), some (.inr 0), some (.inr 125), some (.inl (rx_w (x3 + 6)))] [] σ252 (rx_PI K)) else (K 0 σ252))))) else (if (rx_alu 3 (σ 159 x3) 63) = 33 then ((0 ≤ (rx_w (x3 + 1)) ∧ (rx_w (x3 + 1)) < (L : Int)) ∧ ((0 ≤ (rx_w (x3 + 2)) ∧ (rx_w (x3 + 2)) < (L : Int)) ∧ ((0 ≤ (rx_w (x3 + 3)) ∧ (rx_w (x3 + 3)) < (L : Int)) ∧ ((0 ≤ (rx_w (x3 + 4)) ∧ (rx_w (x3 + 4)) < (L : Int)) ∧ ((0 ≤ (rx_w (x3 + 5)) ∧ (rx_w (x3 + 5)) < (L : Int)) ∧ (rx_CI L d mX10_copy [.inr 0, .inl (σ 159 (rx_w (x3 + 1))), .inl (σ 159 (rx_w (x3 + 2))), .inl (σ 159 (rx_w (x3 + 3))), .inl (σ 159 (rx_w (x3 + 4))), .inl (σ 159 (rx_w (x3 + 5)))] σ (fun v262 σ261 => rx_CI L d mX11_copy [.inr 125, .inl (σ261 159 (rx_w (x3 + 1))), .inl (σ261 159 (rx_w (x3 + 2))), .inl (σ261 159 (rx_w (x3 + 3))), .inl (σ261 159 (rx_w (x3 + 4))), .inl (σ261 159 (rx_w (x3 + 5)))] σ261 (fun v264 σ263 => if v262 = v264 then (rx_Go L (d + 1) mL_law 18 [some (.inr 159), some (.inr 0), some (.inr 125), some (.inl (rx_w (x3 + 6)))] [] σ263 (rx_PI K)) else (K 0 σ263))))))))) else (if (rx_alu 3 (σ 159 x3) 63) = 34 then ((0 ≤ (rx_w (x3 + 1)) ∧ (rx_w (x3 + 1)) < (L : Int)) ∧ ((0 ≤ (rx_w (x3 + 2)) ∧ (rx_w (x3 + 2)) < (L : Int)) ∧ ((0 ≤ (rx_w (x3 + 3)) ∧ (rx_w (x3 + 3)) < (L : Int)) ∧ (rx_CI L d mX10_lay [.inr 0, .inl (σ 159 (rx_w (x3 + 1))), .inl (σ 159 (rx_w (x3 + 2))), .inl (σ 159 (rx_w (x3 + 3)))] σ (fun v271 σ270 => rx_CI L d mX11_lay [.inr 125, .inl (σ270 159 (rx_w (x3 + 1))), .inl (σ270 159 (rx_w (x3 + 2))), .inl (σ270 159 (rx_w (x3 + 3)))] σ270 (fun v273 σ272 => if v271 = v273 then (rx_Go L (d + 1) mL_law 18 [some (.inr 159), some (.inr 0), some (.inr 125), some (.inl (rx_w (x3 + 6)))] [] σ272 (rx_PI K)) else (K 0 σ272))))))) else (if (rx_alu 3 (σ 159 x3) 63) = 35 then ((0 ≤ (rx_w (x3 + 1)) ∧ (rx_w (x3 + 1)) < (L : Int)) ∧ ((0 ≤ (rx_w (x3 + 2)) ∧ (rx_w (x3 + 2)) < (L : Int)) ∧ (rx_CI L d mX10_ask [.inr 0, .inl (σ 159 (rx_w (x3 + 1))), .inl (σ 159 (rx_w (x3 + 2)))] σ (fun v279 σ278 => rx_CI L d mX11_ask [.inr 125, .inl (σ278 159 (rx_w (x3 + 1))), .inl (σ278 159 (rx_w (x3 + 2)))] σ278 (fun v281 σ280 => if v279 = v281 then (rx_Go L (d + 1) mL_law 18 [some (.inr 159), some (.inr 0), some (.inr 125), some (.inl (rx_w (x3 + 6)))] [] σ280 (rx_PI K)) else (K 0 σ280)))))) else (if (rx_alu 3 (σ 159 x3) 63) = 36 then ((0 ≤ (rx_w (x3 + 1)) ∧ (rx_w (x3 + 1)) < (L : Int)) ∧ ((0 ≤ (rx_w (x3 + 2)) ∧ (rx_w (x3 + 2)) < (L : Int)) ∧ (rx_CI L d mX10_item [.inr 0, .inl (σ 159 (rx_w (x3 + 1))), .inl (σ 159 (rx_w (x3 + 2)))] σ (fun v287 σ286 => rx_CI L d mX11_item [.inr 125, .inl (σ286 159 (rx_w (x3 + 1))), .inl (σ286 159 (rx_w (x3 + 2)))] σ286 (fun v289 σ288 => if v287 = v289 then (rx_Go L (d + 1) mL_law 18 [some (.inr 159), some (.inr 0), some (.inr 125), some (.inl (rx_w (x3 + 6)))] [] σ288 (rx_PI K)) else (K 0 σ288)))))) else (if (rx_alu 3 (σ 159 x3) 63) = 37 then ((0 ≤ (rx_w (x3 + 1)) ∧ (rx_w (x3 + 1)) < (L : Int)) ∧ ((0 ≤ (rx_w (x3 + 2)) ∧ (rx_w (x3 + 2)) < (L : Int)) ∧ (rx_CI L d mX10_rest [.inr 0, .inl (σ 159 (rx_w (x3 + 1))), .inl (σ 159 (rx_w (x3 + 2)))] σ (fun v295 σ294 => rx_CI L d mX11_rest [.inr 125, .inl (σ294 159 (rx_w (x3 + 1))), .inl (σ294 159 (rx_w (x3 + 2)))] σ294 (fun v297 σ296 => if v295 = v297 then (rx_Go L (d + 1) mL_law 18 [some (.inr 159), some (.inr 0), some (.inr 125), some (.inl (rx_w (x3 + 6)))] [] σ296 (rx_PI K)) else (K 0 σ296)))))) else (if (rx_alu 3 (σ 159 x3) 63) = 38 then ((0 ≤ (rx_w (x3 + 1)) ∧ (rx_w (x3 + 1)) < (L : Int)) ∧ (rx_CI L d mX10_tell [.inr 0, .inl (σ 159 (rx_w (x3 + 1)))] σ (fun v302 σ301 => rx_CI L d mX11_tell [.inr 125, .inl (σ301 159 (rx_w (x3 + 1)))] σ301 (fun v304 σ303 => if v302 = v304 then (rx_Go L (d + 1) mL_law 18 [some (.inr 159), some (.inr 0), some (.inr 125), some (.inl (rx_w (x3 + 6)))] [] σ303 (rx_PI K)) else (K 0 σ303))))) else (if (rx_alu 3 (σ 159 x3) 63) = 39 then ((0 ≤ (rx_w (x3 + 1)) ∧ (rx_w (x3 + 1)) < (L : Int)) ∧ (rx_CI L d mX10_check [.inr 0, .inl (σ 159 (rx_w (x3 + 1)))] σ (fun v309 σ308 => rx_CI L d mX11_check [.inr 125, .inl (σ308 159 (rx_w (x3 + 1)))] σ308 (fun v311 σ310 => if v309 = v311 then (rx_Go L (d + 1) mL_law 18 [some (.inr 159), some (.inr 0), some (.inr 125), some (.inl (rx_w (x3 + 6)))] [] σ310 (rx_PI K)) else (K 0 σ310))))) else (if (rx_alu 3 (σ 159 x3) 63) = 40 then (rx_CI L d mX10_keep [.inr 0] σ (fun v315 σ314 => rx_CI L d mX11_keep [.inr 125] σ314 (fun v317 σ316 => if v315 = v317 then (rx_Go L (d + 1) mL_law 18 [some (.inr 159), some (.inr 0), some (.inr 125), some (.inl (rx_w (x3 + 6)))] [] σ316 (rx_PI K)) else (K 0 σ316)))) else (if (rx_alu 3 (σ 159 x3) 63) = 41 then (rx_CI L d mX10_back [.inr 0] σ (fun v321 σ320 => rx_CI L d mX11_back [.inr 125] σ320 (fun v323 σ322 => if v321 = v323 then (rx_Go L (d + 1) mL_law 18 [some (.inr 159), some (.inr 0), some (.inr 125), some (.inl (rx_w (x3 + 6)))] [] σ322 (rx_PI K)) else (K 0 σ322)))) else (if (rx_alu 3 (σ 159 x3) 63) = 42 then ((0 ≤ (rx_w (x3 + 1)) ∧ (rx_w (x3 + 1)) < (L : Int)) ∧ (rx_CI L d mX10_count [.inr 0, .inl (σ 159 (rx_w (x3 + 1)))] σ (fun v328 σ327 => rx_CI L d mX11_count [.inr 125, .inl (σ327 159 (rx_w (x3 + 1)))] σ327 (fun v330 σ329 => if v328 = v330 then (rx_Go L (d + 1) mL_law 18 [some (.inr 159), some (.inr 0), some (.inr 125), some (.inl (rx_w (x3 + 6)))] [] σ329 (rx_PI K)) else (K 0 σ329))))) else (rx_Go L (d + 1) mL_law 18 [some (.inr 159), some (.inr 0), some (.inr 125), some (.inl (rx_w (x3 + 6)))] [] σ (rx_PI K))))))))))))))))))))))))))))))))))))))))))))))) :
    rx_Go L (d + 1) mL_law 18 [some (.inr 159), some (.inr 0), some (.inr 125), some (.inl x3)] [] σ (rx_PI K) := by
  refine g_il iL_law_18 rfl ?_
  refine g_al iL_law_19 rfl ?_
  refine g_len (n := (L : Int)) iL_law_20 rfl ?_
  refine g_c iL_law_21 ?_
  refine g_sub iL_law_23 ?_
  by_cases c1 : (rx_w ((L : Int) - 6)) < x3
  · rw [if_pos c1] at H
    refine g_ic4t iL_law_24 c1 ?_
    refine g_c iL_law_1495 ?_
    exact g_ri iL_law_1496 (by decide) H
  · rw [if_neg c1] at H
    refine g_ic4f iL_law_24 c1 ?_
    refine g_al iL_law_27 rfl ?_
    refine g_il iL_law_28 rfl ?_
    obtain ⟨o2, H⟩ := H
    refine g_ld iL_law_29 rfl o2 ?_
    refine g_c iL_law_30 ?_
    refine g_bit iL_law_32 ?_
    by_cases c3 : (rx_alu 3 (σ 159 x3) 63) = 0
    · rw [if_pos c3] at H
      refine g_sw iL_law_33 (by simp only [rx_sw]; rw [if_pos c3]) ?_
      refine g_al iL_law_220 rfl ?_
      refine g_al iL_law_221 rfl ?_
      refine g_il iL_law_222 rfl ?_
      refine g_c iL_law_223 ?_
      refine g_add iL_law_224 ?_
      obtain ⟨o4, H⟩ := H
      refine g_ld iL_law_225 rfl o4 ?_
      refine g_al iL_law_226 rfl ?_
      refine g_il iL_law_227 rfl ?_
      refine g_c iL_law_228 ?_
      refine g_add iL_law_229 ?_
      obtain ⟨o5, H⟩ := H
      refine g_ld iL_law_230 rfl o5 ?_
      refine g_ci (as := [.inr 0, .inl (σ 159 (rx_w (x3 + 1))), .inl (σ 159 (rx_w (x3 + 2)))]) (rest := []) iL_law_231 rfl rfl (Nat.le_of_ble_eq_true rfl) (Or.inr ⟨_, _, rfl, oo_10_0⟩) (rx_CI.imp H (fun v7 σ6 H => ?_))
      refine g_al iL_law_234 rfl ?_
      refine g_al iL_law_235 rfl ?_
      refine g_il iL_law_236 rfl ?_
      refine g_c iL_law_237 ?_
      refine g_add iL_law_238 ?_
      refine g_ld iL_law_239 rfl o4 ?_
      refine g_al iL_law_240 rfl ?_
      refine g_il iL_law_241 rfl ?_
      refine g_c iL_law_242 ?_
      refine g_add iL_law_243 ?_
      refine g_ld iL_law_244 rfl o5 ?_
      refine g_ci (as := [.inr 125, .inl (σ6 159 (rx_w (x3 + 1))), .inl (σ6 159 (rx_w (x3 + 2)))]) (rest := [.inl v7]) iL_law_245 rfl rfl (Nat.le_of_ble_eq_true rfl) (Or.inr ⟨_, _, rfl, oo_11_125⟩) (rx_CI.imp H (fun v9 σ8 H => ?_))
      by_cases c10 : v7 = v9
      · rw [if_pos c10] at H
        refine g_ic0t iL_law_248 c10 ?_
        refine g_ii iL_law_1489 rfl ?_
        refine rx_Go.ls (la := [some (.inr 159), some (.inr 0), some (.inr 125), some (.inl (rx_w (x3 + 6)))]) rfl ?_
        refine g_goto iL_law_1492 ?_
        exact H
      · rw [if_neg c10] at H
        refine g_ic0f iL_law_248 c10 ?_
        refine g_c iL_law_251 ?_
        exact g_ri iL_law_252 (by decide) H
    · rw [if_neg c3] at H
      by_cases c11 : (rx_alu 3 (σ 159 x3) 63) = 1
      · rw [if_pos c11] at H
        refine g_sw iL_law_33 (by simp only [rx_sw]; rw [if_neg c3, if_pos c11]) ?_
        refine g_al iL_law_253 rfl ?_
        refine g_al iL_law_254 rfl ?_
        refine g_il iL_law_255 rfl ?_
        refine g_c iL_law_256 ?_
        refine g_add iL_law_257 ?_
        obtain ⟨o12, H⟩ := H
        refine g_ld iL_law_258 rfl o12 ?_
        refine g_al iL_law_259 rfl ?_
        refine g_il iL_law_260 rfl ?_
        refine g_c iL_law_261 ?_
        refine g_add iL_law_262 ?_
        obtain ⟨o13, H⟩ := H
        refine g_ld iL_law_263 rfl o13 ?_
        refine g_ci (as := [.inr 0, .inl (σ 159 (rx_w (x3 + 1))), .inl (σ 159 (rx_w (x3 + 2)))]) (rest := []) iL_law_264 rfl rfl (Nat.le_of_ble_eq_true rfl) (Or.inr ⟨_, _, rfl, oo_10_0⟩) (rx_CI.imp H (fun v15 σ14 H => ?_))
        refine g_al iL_law_267 rfl ?_
        refine g_al iL_law_268 rfl ?_
        refine g_il iL_law_269 rfl ?_
        refine g_c iL_law_270 ?_
        refine g_add iL_law_271 ?_
        refine g_ld iL_law_272 rfl o12 ?_
        refine g_al iL_law_273 rfl ?_
        refine g_il iL_law_274 rfl ?_
        refine g_c iL_law_275 ?_
        refine g_add iL_law_276 ?_
        refine g_ld iL_law_277 rfl o13 ?_
        refine g_ci (as := [.inr 125, .inl (σ14 159 (rx_w (x3 + 1))), .inl (σ14 159 (rx_w (x3 + 2)))]) (rest := [.inl v15]) iL_law_278 rfl rfl (Nat.le_of_ble_eq_true rfl) (Or.inr ⟨_, _, rfl, oo_11_125⟩) (rx_CI.imp H (fun v17 σ16 H => ?_))
        by_cases c18 : v15 = v17
        · rw [if_pos c18] at H
          refine g_ic0t iL_law_281 c18 ?_
          refine g_ii iL_law_1489 rfl ?_
          refine rx_Go.ls (la := [some (.inr 159), some (.inr 0), some (.inr 125), some (.inl (rx_w (x3 + 6)))]) rfl ?_
          refine g_goto iL_law_1492 ?_
          exact H
        · rw [if_neg c18] at H
          refine g_ic0f iL_law_281 c18 ?_
          refine g_c iL_law_284 ?_
          exact g_ri iL_law_285 (by decide) H
      · rw [if_neg c11] at H
        by_cases c19 : (rx_alu 3 (σ 159 x3) 63) = 2
        · rw [if_pos c19] at H
          refine g_sw iL_law_33 (by simp only [rx_sw]; rw [if_neg c3, if_neg c11, if_pos c19]) ?_
          refine g_al iL_law_286 rfl ?_
          refine g_al iL_law_287 rfl ?_
          refine g_il iL_law_288 rfl ?_
          refine g_c iL_law_289 ?_
          refine g_add iL_law_290 ?_
          obtain ⟨o20, H⟩ := H
          refine g_ld iL_law_291 rfl o20 ?_
          refine g_al iL_law_292 rfl ?_
          refine g_il iL_law_293 rfl ?_
          refine g_c iL_law_294 ?_
          refine g_add iL_law_295 ?_
          obtain ⟨o21, H⟩ := H
          refine g_ld iL_law_296 rfl o21 ?_
          refine g_al iL_law_297 rfl ?_
          refine g_il iL_law_298 rfl ?_
          refine g_c iL_law_299 ?_
          refine g_add iL_law_300 ?_
          obtain ⟨o22, H⟩ := H
          refine g_ld iL_law_301 rfl o22 ?_
          refine g_ci (as := [.inr 0, .inl (σ 159 (rx_w (x3 + 1))), .inl (σ 159 (rx_w (x3 + 2))), .inl (σ 159 (rx_w (x3 + 3)))]) (rest := []) iL_law_302 rfl rfl (Nat.le_of_ble_eq_true rfl) (Or.inr ⟨_, _, rfl, oo_10_0⟩) (rx_CI.imp H (fun v24 σ23 H => ?_))
          refine g_al iL_law_305 rfl ?_
          refine g_al iL_law_306 rfl ?_
          refine g_il iL_law_307 rfl ?_
          refine g_c iL_law_308 ?_
          refine g_add iL_law_309 ?_
          refine g_ld iL_law_310 rfl o20 ?_
          refine g_al iL_law_311 rfl ?_
          refine g_il iL_law_312 rfl ?_
          refine g_c iL_law_313 ?_
          refine g_add iL_law_314 ?_
          refine g_ld iL_law_315 rfl o21 ?_
          refine g_al iL_law_316 rfl ?_
          refine g_il iL_law_317 rfl ?_
          refine g_c iL_law_318 ?_
          refine g_add iL_law_319 ?_
          refine g_ld iL_law_320 rfl o22 ?_
          refine g_ci (as := [.inr 125, .inl (σ23 159 (rx_w (x3 + 1))), .inl (σ23 159 (rx_w (x3 + 2))), .inl (σ23 159 (rx_w (x3 + 3)))]) (rest := [.inl v24]) iL_law_321 rfl rfl (Nat.le_of_ble_eq_true rfl) (Or.inr ⟨_, _, rfl, oo_11_125⟩) (rx_CI.imp H (fun v26 σ25 H => ?_))
          by_cases c27 : v24 = v26
          · rw [if_pos c27] at H
            refine g_ic0t iL_law_324 c27 ?_
            refine g_ii iL_law_1489 rfl ?_
            refine rx_Go.ls (la := [some (.inr 159), some (.inr 0), some (.inr 125), some (.inl (rx_w (x3 + 6)))]) rfl ?_
            refine g_goto iL_law_1492 ?_
            exact H
          · rw [if_neg c27] at H
            refine g_ic0f iL_law_324 c27 ?_
            refine g_c iL_law_327 ?_
            exact g_ri iL_law_328 (by decide) H
        · rw [if_neg c19] at H
          by_cases c28 : (rx_alu 3 (σ 159 x3) 63) = 3
          · rw [if_pos c28] at H
            refine g_sw iL_law_33 (by simp only [rx_sw]; rw [if_neg c3, if_neg c11, if_neg c19, if_pos c28]) ?_
            refine g_al iL_law_329 rfl ?_
            refine g_al iL_law_330 rfl ?_
            refine g_il iL_law_331 rfl ?_
            refine g_c iL_law_332 ?_
            refine g_add iL_law_333 ?_
            obtain ⟨o29, H⟩ := H
            refine g_ld iL_law_334 rfl o29 ?_
            refine g_al iL_law_335 rfl ?_
            refine g_il iL_law_336 rfl ?_
            refine g_c iL_law_337 ?_
            refine g_add iL_law_338 ?_
            obtain ⟨o30, H⟩ := H
            refine g_ld iL_law_339 rfl o30 ?_
            refine g_ci (as := [.inr 0, .inl (σ 159 (rx_w (x3 + 1))), .inl (σ 159 (rx_w (x3 + 2)))]) (rest := []) iL_law_340 rfl rfl (Nat.le_of_ble_eq_true rfl) (Or.inr ⟨_, _, rfl, oo_10_0⟩) (rx_CI.imp H (fun v32 σ31 H => ?_))
            refine g_al iL_law_343 rfl ?_
            refine g_al iL_law_344 rfl ?_
            refine g_il iL_law_345 rfl ?_
            refine g_c iL_law_346 ?_
            refine g_add iL_law_347 ?_
            refine g_ld iL_law_348 rfl o29 ?_
            refine g_al iL_law_349 rfl ?_
            refine g_il iL_law_350 rfl ?_
            refine g_c iL_law_351 ?_
            refine g_add iL_law_352 ?_
            refine g_ld iL_law_353 rfl o30 ?_
            refine g_ci (as := [.inr 125, .inl (σ31 159 (rx_w (x3 + 1))), .inl (σ31 159 (rx_w (x3 + 2)))]) (rest := [.inl v32]) iL_law_354 rfl rfl (Nat.le_of_ble_eq_true rfl) (Or.inr ⟨_, _, rfl, oo_11_125⟩) (rx_CI.imp H (fun v34 σ33 H => ?_))
            by_cases c35 : v32 = v34
            · rw [if_pos c35] at H
              refine g_ic0t iL_law_357 c35 ?_
              refine g_ii iL_law_1489 rfl ?_
              refine rx_Go.ls (la := [some (.inr 159), some (.inr 0), some (.inr 125), some (.inl (rx_w (x3 + 6)))]) rfl ?_
              refine g_goto iL_law_1492 ?_
              exact H
            · rw [if_neg c35] at H
              refine g_ic0f iL_law_357 c35 ?_
              refine g_c iL_law_360 ?_
              exact g_ri iL_law_361 (by decide) H
          · rw [if_neg c28] at H
            by_cases c36 : (rx_alu 3 (σ 159 x3) 63) = 4
            · rw [if_pos c36] at H
              refine g_sw iL_law_33 (by simp only [rx_sw]; rw [if_neg c3, if_neg c11, if_neg c19, if_neg c28, if_pos c36]) ?_
              refine g_al iL_law_362 rfl ?_
              refine g_al iL_law_363 rfl ?_
              refine g_il iL_law_364 rfl ?_
              refine g_c iL_law_365 ?_
              refine g_add iL_law_366 ?_
              obtain ⟨o37, H⟩ := H
              refine g_ld iL_law_367 rfl o37 ?_
              refine g_al iL_law_368 rfl ?_
              refine g_il iL_law_369 rfl ?_
              refine g_c iL_law_370 ?_
              refine g_add iL_law_371 ?_
              obtain ⟨o38, H⟩ := H
              refine g_ld iL_law_372 rfl o38 ?_
              refine g_al iL_law_373 rfl ?_
              refine g_il iL_law_374 rfl ?_
              refine g_c iL_law_375 ?_
              refine g_add iL_law_376 ?_
              obtain ⟨o39, H⟩ := H
              refine g_ld iL_law_377 rfl o39 ?_
              refine g_ci (as := [.inr 0, .inl (σ 159 (rx_w (x3 + 1))), .inl (σ 159 (rx_w (x3 + 2))), .inl (σ 159 (rx_w (x3 + 3)))]) (rest := []) iL_law_378 rfl rfl (Nat.le_of_ble_eq_true rfl) (Or.inr ⟨_, _, rfl, oo_10_0⟩) (rx_CI.imp H (fun v41 σ40 H => ?_))
              refine g_al iL_law_381 rfl ?_
              refine g_al iL_law_382 rfl ?_
              refine g_il iL_law_383 rfl ?_
              refine g_c iL_law_384 ?_
              refine g_add iL_law_385 ?_
              refine g_ld iL_law_386 rfl o37 ?_
              refine g_al iL_law_387 rfl ?_
              refine g_il iL_law_388 rfl ?_
              refine g_c iL_law_389 ?_
              refine g_add iL_law_390 ?_
              refine g_ld iL_law_391 rfl o38 ?_
              refine g_al iL_law_392 rfl ?_
              refine g_il iL_law_393 rfl ?_
              refine g_c iL_law_394 ?_
              refine g_add iL_law_395 ?_
              refine g_ld iL_law_396 rfl o39 ?_
              refine g_ci (as := [.inr 125, .inl (σ40 159 (rx_w (x3 + 1))), .inl (σ40 159 (rx_w (x3 + 2))), .inl (σ40 159 (rx_w (x3 + 3)))]) (rest := [.inl v41]) iL_law_397 rfl rfl (Nat.le_of_ble_eq_true rfl) (Or.inr ⟨_, _, rfl, oo_11_125⟩) (rx_CI.imp H (fun v43 σ42 H => ?_))
              by_cases c44 : v41 = v43
              · rw [if_pos c44] at H
                refine g_ic0t iL_law_400 c44 ?_
                refine g_ii iL_law_1489 rfl ?_
                refine rx_Go.ls (la := [some (.inr 159), some (.inr 0), some (.inr 125), some (.inl (rx_w (x3 + 6)))]) rfl ?_
                refine g_goto iL_law_1492 ?_
                exact H
              · rw [if_neg c44] at H
                refine g_ic0f iL_law_400 c44 ?_
                refine g_c iL_law_403 ?_
                exact g_ri iL_law_404 (by decide) H
            · rw [if_neg c36] at H
              by_cases c45 : (rx_alu 3 (σ 159 x3) 63) = 5
              · rw [if_pos c45] at H
                refine g_sw iL_law_33 (by simp only [rx_sw]; rw [if_neg c3, if_neg c11, if_neg c19, if_neg c28, if_neg c36, if_pos c45]) ?_
                refine g_al iL_law_405 rfl ?_
                refine g_al iL_law_406 rfl ?_
                refine g_il iL_law_407 rfl ?_
                refine g_c iL_law_408 ?_
                refine g_add iL_law_409 ?_
                obtain ⟨o46, H⟩ := H
                refine g_ld iL_law_410 rfl o46 ?_
                refine g_al iL_law_411 rfl ?_
                refine g_il iL_law_412 rfl ?_
                refine g_c iL_law_413 ?_
                refine g_add iL_law_414 ?_
                obtain ⟨o47, H⟩ := H
                refine g_ld iL_law_415 rfl o47 ?_
                refine g_ci (as := [.inr 0, .inl (σ 159 (rx_w (x3 + 1))), .inl (σ 159 (rx_w (x3 + 2)))]) (rest := []) iL_law_416 rfl rfl (Nat.le_of_ble_eq_true rfl) (Or.inr ⟨_, _, rfl, oo_10_0⟩) (rx_CI.imp H (fun v49 σ48 H => ?_))
                refine g_al iL_law_419 rfl ?_
                refine g_al iL_law_420 rfl ?_
                refine g_il iL_law_421 rfl ?_
                refine g_c iL_law_422 ?_
                refine g_add iL_law_423 ?_
                refine g_ld iL_law_424 rfl o46 ?_
                refine g_al iL_law_425 rfl ?_
                refine g_il iL_law_426 rfl ?_
                refine g_c iL_law_427 ?_
                refine g_add iL_law_428 ?_
                refine g_ld iL_law_429 rfl o47 ?_
                refine g_ci (as := [.inr 125, .inl (σ48 159 (rx_w (x3 + 1))), .inl (σ48 159 (rx_w (x3 + 2)))]) (rest := [.inl v49]) iL_law_430 rfl rfl (Nat.le_of_ble_eq_true rfl) (Or.inr ⟨_, _, rfl, oo_11_125⟩) (rx_CI.imp H (fun v51 σ50 H => ?_))
                by_cases c52 : v49 = v51
                · rw [if_pos c52] at H
                  refine g_ic0t iL_law_433 c52 ?_
                  refine g_ii iL_law_1489 rfl ?_
                  refine rx_Go.ls (la := [some (.inr 159), some (.inr 0), some (.inr 125), some (.inl (rx_w (x3 + 6)))]) rfl ?_
                  refine g_goto iL_law_1492 ?_
                  exact H
                · rw [if_neg c52] at H
                  refine g_ic0f iL_law_433 c52 ?_
                  refine g_c iL_law_436 ?_
                  exact g_ri iL_law_437 (by decide) H
              · rw [if_neg c45] at H
                by_cases c53 : (rx_alu 3 (σ 159 x3) 63) = 6
                · rw [if_pos c53] at H
                  refine g_sw iL_law_33 (by simp only [rx_sw]; rw [if_neg c3, if_neg c11, if_neg c19, if_neg c28, if_neg c36, if_neg c45, if_pos c53]) ?_
                  refine g_al iL_law_438 rfl ?_
                  refine g_al iL_law_439 rfl ?_
                  refine g_il iL_law_440 rfl ?_
                  refine g_c iL_law_441 ?_
                  refine g_add iL_law_442 ?_
                  obtain ⟨o54, H⟩ := H
                  refine g_ld iL_law_443 rfl o54 ?_
                  refine g_al iL_law_444 rfl ?_
                  refine g_il iL_law_445 rfl ?_
                  refine g_c iL_law_446 ?_
                  refine g_add iL_law_447 ?_
                  obtain ⟨o55, H⟩ := H
                  refine g_ld iL_law_448 rfl o55 ?_
                  refine g_ci (as := [.inr 0, .inl (σ 159 (rx_w (x3 + 1))), .inl (σ 159 (rx_w (x3 + 2)))]) (rest := []) iL_law_449 rfl rfl (Nat.le_of_ble_eq_true rfl) (Or.inr ⟨_, _, rfl, oo_10_0⟩) (rx_CI.imp H (fun v57 σ56 H => ?_))
                  refine g_al iL_law_452 rfl ?_
                  refine g_al iL_law_453 rfl ?_
                  refine g_il iL_law_454 rfl ?_
                  refine g_c iL_law_455 ?_
                  refine g_add iL_law_456 ?_
                  refine g_ld iL_law_457 rfl o54 ?_
                  refine g_al iL_law_458 rfl ?_
                  refine g_il iL_law_459 rfl ?_
                  refine g_c iL_law_460 ?_
                  refine g_add iL_law_461 ?_
                  refine g_ld iL_law_462 rfl o55 ?_
                  refine g_ci (as := [.inr 125, .inl (σ56 159 (rx_w (x3 + 1))), .inl (σ56 159 (rx_w (x3 + 2)))]) (rest := [.inl v57]) iL_law_463 rfl rfl (Nat.le_of_ble_eq_true rfl) (Or.inr ⟨_, _, rfl, oo_11_125⟩) (rx_CI.imp H (fun v59 σ58 H => ?_))
                  by_cases c60 : v57 = v59
                  · rw [if_pos c60] at H
                    refine g_ic0t iL_law_466 c60 ?_
                    refine g_ii iL_law_1489 rfl ?_
                    refine rx_Go.ls (la := [some (.inr 159), some (.inr 0), some (.inr 125), some (.inl (rx_w (x3 + 6)))]) rfl ?_
                    refine g_goto iL_law_1492 ?_
                    exact H
                  · rw [if_neg c60] at H
                    refine g_ic0f iL_law_466 c60 ?_
                    refine g_c iL_law_469 ?_
                    exact g_ri iL_law_470 (by decide) H
                · rw [if_neg c53] at H
                  by_cases c61 : (rx_alu 3 (σ 159 x3) 63) = 7
                  · rw [if_pos c61] at H
                    refine g_sw iL_law_33 (by simp only [rx_sw]; rw [if_neg c3, if_neg c11, if_neg c19, if_neg c28, if_neg c36, if_neg c45, if_neg c53, if_pos c61]) ?_
                    refine g_al iL_law_471 rfl ?_
                    refine g_al iL_law_472 rfl ?_
                    refine g_il iL_law_473 rfl ?_
                    refine g_c iL_law_474 ?_
                    refine g_add iL_law_475 ?_
                    obtain ⟨o62, H⟩ := H
                    refine g_ld iL_law_476 rfl o62 ?_
                    refine g_al iL_law_477 rfl ?_
                    refine g_il iL_law_478 rfl ?_
                    refine g_c iL_law_479 ?_
                    refine g_add iL_law_480 ?_
                    obtain ⟨o63, H⟩ := H
                    refine g_ld iL_law_481 rfl o63 ?_
                    refine g_ci (as := [.inr 0, .inl (σ 159 (rx_w (x3 + 1))), .inl (σ 159 (rx_w (x3 + 2)))]) (rest := []) iL_law_482 rfl rfl (Nat.le_of_ble_eq_true rfl) (Or.inr ⟨_, _, rfl, oo_10_0⟩) (rx_CI.imp H (fun v65 σ64 H => ?_))
                    refine g_al iL_law_485 rfl ?_
                    refine g_al iL_law_486 rfl ?_
                    refine g_il iL_law_487 rfl ?_
                    refine g_c iL_law_488 ?_
                    refine g_add iL_law_489 ?_
                    refine g_ld iL_law_490 rfl o62 ?_
                    refine g_al iL_law_491 rfl ?_
                    refine g_il iL_law_492 rfl ?_
                    refine g_c iL_law_493 ?_
                    refine g_add iL_law_494 ?_
                    refine g_ld iL_law_495 rfl o63 ?_
                    refine g_ci (as := [.inr 125, .inl (σ64 159 (rx_w (x3 + 1))), .inl (σ64 159 (rx_w (x3 + 2)))]) (rest := [.inl v65]) iL_law_496 rfl rfl (Nat.le_of_ble_eq_true rfl) (Or.inr ⟨_, _, rfl, oo_11_125⟩) (rx_CI.imp H (fun v67 σ66 H => ?_))
                    by_cases c68 : v65 = v67
                    · rw [if_pos c68] at H
                      refine g_ic0t iL_law_499 c68 ?_
                      refine g_ii iL_law_1489 rfl ?_
                      refine rx_Go.ls (la := [some (.inr 159), some (.inr 0), some (.inr 125), some (.inl (rx_w (x3 + 6)))]) rfl ?_
                      refine g_goto iL_law_1492 ?_
                      exact H
                    · rw [if_neg c68] at H
                      refine g_ic0f iL_law_499 c68 ?_
                      refine g_c iL_law_502 ?_
                      exact g_ri iL_law_503 (by decide) H
                  · rw [if_neg c61] at H
                    by_cases c69 : (rx_alu 3 (σ 159 x3) 63) = 8
                    · rw [if_pos c69] at H
                      refine g_sw iL_law_33 (by simp only [rx_sw]; rw [if_neg c3, if_neg c11, if_neg c19, if_neg c28, if_neg c36, if_neg c45, if_neg c53, if_neg c61, if_pos c69]) ?_
                      refine g_al iL_law_504 rfl ?_
                      refine g_al iL_law_505 rfl ?_
                      refine g_il iL_law_506 rfl ?_
                      refine g_c iL_law_507 ?_
                      refine g_add iL_law_508 ?_
                      obtain ⟨o70, H⟩ := H
                      refine g_ld iL_law_509 rfl o70 ?_
                      refine g_al iL_law_510 rfl ?_
                      refine g_il iL_law_511 rfl ?_
                      refine g_c iL_law_512 ?_
                      refine g_add iL_law_513 ?_
                      obtain ⟨o71, H⟩ := H
                      refine g_ld iL_law_514 rfl o71 ?_
                      refine g_al iL_law_515 rfl ?_
                      refine g_il iL_law_516 rfl ?_
                      refine g_c iL_law_517 ?_
                      refine g_add iL_law_518 ?_
                      obtain ⟨o72, H⟩ := H
                      refine g_ld iL_law_519 rfl o72 ?_
                      refine g_ci (as := [.inr 0, .inl (σ 159 (rx_w (x3 + 1))), .inl (σ 159 (rx_w (x3 + 2))), .inl (σ 159 (rx_w (x3 + 3)))]) (rest := []) iL_law_520 rfl rfl (Nat.le_of_ble_eq_true rfl) (Or.inr ⟨_, _, rfl, oo_10_0⟩) (rx_CI.imp H (fun v74 σ73 H => ?_))
                      refine g_al iL_law_523 rfl ?_
                      refine g_al iL_law_524 rfl ?_
                      refine g_il iL_law_525 rfl ?_
                      refine g_c iL_law_526 ?_
                      refine g_add iL_law_527 ?_
                      refine g_ld iL_law_528 rfl o70 ?_
                      refine g_al iL_law_529 rfl ?_
                      refine g_il iL_law_530 rfl ?_
                      refine g_c iL_law_531 ?_
                      refine g_add iL_law_532 ?_
                      refine g_ld iL_law_533 rfl o71 ?_
                      refine g_al iL_law_534 rfl ?_
                      refine g_il iL_law_535 rfl ?_
                      refine g_c iL_law_536 ?_
                      refine g_add iL_law_537 ?_
                      refine g_ld iL_law_538 rfl o72 ?_
                      refine g_ci (as := [.inr 125, .inl (σ73 159 (rx_w (x3 + 1))), .inl (σ73 159 (rx_w (x3 + 2))), .inl (σ73 159 (rx_w (x3 + 3)))]) (rest := [.inl v74]) iL_law_539 rfl rfl (Nat.le_of_ble_eq_true rfl) (Or.inr ⟨_, _, rfl, oo_11_125⟩) (rx_CI.imp H (fun v76 σ75 H => ?_))
                      by_cases c77 : v74 = v76
                      · rw [if_pos c77] at H
                        refine g_ic0t iL_law_542 c77 ?_
                        refine g_ii iL_law_1489 rfl ?_
                        refine rx_Go.ls (la := [some (.inr 159), some (.inr 0), some (.inr 125), some (.inl (rx_w (x3 + 6)))]) rfl ?_
                        refine g_goto iL_law_1492 ?_
                        exact H
                      · rw [if_neg c77] at H
                        refine g_ic0f iL_law_542 c77 ?_
                        refine g_c iL_law_545 ?_
                        exact g_ri iL_law_546 (by decide) H
                    · rw [if_neg c69] at H
                      by_cases c78 : (rx_alu 3 (σ 159 x3) 63) = 9
                      · rw [if_pos c78] at H
                        refine g_sw iL_law_33 (by simp only [rx_sw]; rw [if_neg c3, if_neg c11, if_neg c19, if_neg c28, if_neg c36, if_neg c45, if_neg c53, if_neg c61, if_neg c69, if_pos c78]) ?_
                        refine g_al iL_law_547 rfl ?_
                        refine g_al iL_law_548 rfl ?_
                        refine g_il iL_law_549 rfl ?_
                        refine g_c iL_law_550 ?_
                        refine g_add iL_law_551 ?_
                        obtain ⟨o79, H⟩ := H
                        refine g_ld iL_law_552 rfl o79 ?_
                        refine g_ci (as := [.inr 0, .inl (σ 159 (rx_w (x3 + 1)))]) (rest := []) iL_law_553 rfl rfl (Nat.le_of_ble_eq_true rfl) (Or.inr ⟨_, _, rfl, oo_10_0⟩) (rx_CI.imp H (fun v81 σ80 H => ?_))
                        refine g_al iL_law_556 rfl ?_
                        refine g_al iL_law_557 rfl ?_
                        refine g_il iL_law_558 rfl ?_
                        refine g_c iL_law_559 ?_
                        refine g_add iL_law_560 ?_
                        refine g_ld iL_law_561 rfl o79 ?_
                        refine g_ci (as := [.inr 125, .inl (σ80 159 (rx_w (x3 + 1)))]) (rest := [.inl v81]) iL_law_562 rfl rfl (Nat.le_of_ble_eq_true rfl) (Or.inr ⟨_, _, rfl, oo_11_125⟩) (rx_CI.imp H (fun v83 σ82 H => ?_))
                        by_cases c84 : v81 = v83
                        · rw [if_pos c84] at H
                          refine g_ic0t iL_law_565 c84 ?_
                          refine g_ii iL_law_1489 rfl ?_
                          refine rx_Go.ls (la := [some (.inr 159), some (.inr 0), some (.inr 125), some (.inl (rx_w (x3 + 6)))]) rfl ?_
                          refine g_goto iL_law_1492 ?_
                          exact H
                        · rw [if_neg c84] at H
                          refine g_ic0f iL_law_565 c84 ?_
                          refine g_c iL_law_568 ?_
                          exact g_ri iL_law_569 (by decide) H
                      · rw [if_neg c78] at H
                        by_cases c85 : (rx_alu 3 (σ 159 x3) 63) = 10
                        · rw [if_pos c85] at H
                          refine g_sw iL_law_33 (by simp only [rx_sw]; rw [if_neg c3, if_neg c11, if_neg c19, if_neg c28, if_neg c36, if_neg c45, if_neg c53, if_neg c61, if_neg c69, if_neg c78, if_pos c85]) ?_
                          refine g_al iL_law_570 rfl ?_
                          refine g_al iL_law_571 rfl ?_
                          refine g_il iL_law_572 rfl ?_
                          refine g_c iL_law_573 ?_
                          refine g_add iL_law_574 ?_
                          obtain ⟨o86, H⟩ := H
                          refine g_ld iL_law_575 rfl o86 ?_
                          refine g_al iL_law_576 rfl ?_
                          refine g_il iL_law_577 rfl ?_
                          refine g_c iL_law_578 ?_
                          refine g_add iL_law_579 ?_
                          obtain ⟨o87, H⟩ := H
                          refine g_ld iL_law_580 rfl o87 ?_
                          refine g_ci (as := [.inr 0, .inl (σ 159 (rx_w (x3 + 1))), .inl (σ 159 (rx_w (x3 + 2)))]) (rest := []) iL_law_581 rfl rfl (Nat.le_of_ble_eq_true rfl) (Or.inr ⟨_, _, rfl, oo_10_0⟩) (rx_CI.imp H (fun v89 σ88 H => ?_))
                          refine g_al iL_law_584 rfl ?_
                          refine g_al iL_law_585 rfl ?_
                          refine g_il iL_law_586 rfl ?_
                          refine g_c iL_law_587 ?_
                          refine g_add iL_law_588 ?_
                          refine g_ld iL_law_589 rfl o86 ?_
                          refine g_al iL_law_590 rfl ?_
                          refine g_il iL_law_591 rfl ?_
                          refine g_c iL_law_592 ?_
                          refine g_add iL_law_593 ?_
                          refine g_ld iL_law_594 rfl o87 ?_
                          refine g_ci (as := [.inr 125, .inl (σ88 159 (rx_w (x3 + 1))), .inl (σ88 159 (rx_w (x3 + 2)))]) (rest := [.inl v89]) iL_law_595 rfl rfl (Nat.le_of_ble_eq_true rfl) (Or.inr ⟨_, _, rfl, oo_11_125⟩) (rx_CI.imp H (fun v91 σ90 H => ?_))
                          by_cases c92 : v89 = v91
                          · rw [if_pos c92] at H
                            refine g_ic0t iL_law_598 c92 ?_
                            refine g_ii iL_law_1489 rfl ?_
                            refine rx_Go.ls (la := [some (.inr 159), some (.inr 0), some (.inr 125), some (.inl (rx_w (x3 + 6)))]) rfl ?_
                            refine g_goto iL_law_1492 ?_
                            exact H
                          · rw [if_neg c92] at H
                            refine g_ic0f iL_law_598 c92 ?_
                            refine g_c iL_law_601 ?_
                            exact g_ri iL_law_602 (by decide) H
                        · rw [if_neg c85] at H
                          by_cases c93 : (rx_alu 3 (σ 159 x3) 63) = 11
                          · rw [if_pos c93] at H
                            refine g_sw iL_law_33 (by simp only [rx_sw]; rw [if_neg c3, if_neg c11, if_neg c19, if_neg c28, if_neg c36, if_neg c45, if_neg c53, if_neg c61, if_neg c69, if_neg c78, if_neg c85, if_pos c93]) ?_
                            refine g_al iL_law_603 rfl ?_
                            refine g_al iL_law_604 rfl ?_
                            refine g_il iL_law_605 rfl ?_
                            refine g_c iL_law_606 ?_
                            refine g_add iL_law_607 ?_
                            obtain ⟨o94, H⟩ := H
                            refine g_ld iL_law_608 rfl o94 ?_
                            refine g_ci (as := [.inr 0, .inl (σ 159 (rx_w (x3 + 1)))]) (rest := []) iL_law_609 rfl rfl (Nat.le_of_ble_eq_true rfl) (Or.inr ⟨_, _, rfl, oo_10_0⟩) (rx_CI.imp H (fun v96 σ95 H => ?_))
                            refine g_al iL_law_612 rfl ?_
                            refine g_al iL_law_613 rfl ?_
                            refine g_il iL_law_614 rfl ?_
                            refine g_c iL_law_615 ?_
                            refine g_add iL_law_616 ?_
                            refine g_ld iL_law_617 rfl o94 ?_
                            refine g_ci (as := [.inr 125, .inl (σ95 159 (rx_w (x3 + 1)))]) (rest := [.inl v96]) iL_law_618 rfl rfl (Nat.le_of_ble_eq_true rfl) (Or.inr ⟨_, _, rfl, oo_11_125⟩) (rx_CI.imp H (fun v98 σ97 H => ?_))
                            by_cases c99 : v96 = v98
                            · rw [if_pos c99] at H
                              refine g_ic0t iL_law_621 c99 ?_
                              refine g_ii iL_law_1489 rfl ?_
                              refine rx_Go.ls (la := [some (.inr 159), some (.inr 0), some (.inr 125), some (.inl (rx_w (x3 + 6)))]) rfl ?_
                              refine g_goto iL_law_1492 ?_
                              exact H
                            · rw [if_neg c99] at H
                              refine g_ic0f iL_law_621 c99 ?_
                              refine g_c iL_law_624 ?_
                              exact g_ri iL_law_625 (by decide) H
                          · rw [if_neg c93] at H
                            by_cases c100 : (rx_alu 3 (σ 159 x3) 63) = 12
                            · rw [if_pos c100] at H
                              refine g_sw iL_law_33 (by simp only [rx_sw]; rw [if_neg c3, if_neg c11, if_neg c19, if_neg c28, if_neg c36, if_neg c45, if_neg c53, if_neg c61, if_neg c69, if_neg c78, if_neg c85, if_neg c93, if_pos c100]) ?_
                              refine g_al iL_law_626 rfl ?_
                              refine g_ci (as := [.inr 0]) (rest := []) iL_law_627 rfl rfl (Nat.le_of_ble_eq_true rfl) (Or.inr ⟨_, _, rfl, oo_10_0⟩) (rx_CI.imp H (fun v102 σ101 H => ?_))
                              refine g_al iL_law_630 rfl ?_
                              refine g_ci (as := [.inr 125]) (rest := [.inl v102]) iL_law_631 rfl rfl (Nat.le_of_ble_eq_true rfl) (Or.inr ⟨_, _, rfl, oo_11_125⟩) (rx_CI.imp H (fun v104 σ103 H => ?_))
                              by_cases c105 : v102 = v104
                              · rw [if_pos c105] at H
                                refine g_ic0t iL_law_634 c105 ?_
                                refine g_ii iL_law_1489 rfl ?_
                                refine rx_Go.ls (la := [some (.inr 159), some (.inr 0), some (.inr 125), some (.inl (rx_w (x3 + 6)))]) rfl ?_
                                refine g_goto iL_law_1492 ?_
                                exact H
                              · rw [if_neg c105] at H
                                refine g_ic0f iL_law_634 c105 ?_
                                refine g_c iL_law_637 ?_
                                exact g_ri iL_law_638 (by decide) H
                            · rw [if_neg c100] at H
                              by_cases c106 : (rx_alu 3 (σ 159 x3) 63) = 13
                              · rw [if_pos c106] at H
                                refine g_sw iL_law_33 (by simp only [rx_sw]; rw [if_neg c3, if_neg c11, if_neg c19, if_neg c28, if_neg c36, if_neg c45, if_neg c53, if_neg c61, if_neg c69, if_neg c78, if_neg c85, if_neg c93, if_neg c100, if_pos c106]) ?_
                                refine g_al iL_law_639 rfl ?_
                                refine g_al iL_law_640 rfl ?_
                                refine g_il iL_law_641 rfl ?_
                                refine g_c iL_law_642 ?_
                                refine g_add iL_law_643 ?_
                                obtain ⟨o107, H⟩ := H
                                refine g_ld iL_law_644 rfl o107 ?_
                                refine g_al iL_law_645 rfl ?_
                                refine g_il iL_law_646 rfl ?_
                                refine g_c iL_law_647 ?_
                                refine g_add iL_law_648 ?_
                                obtain ⟨o108, H⟩ := H
                                refine g_ld iL_law_649 rfl o108 ?_
                                refine g_ci (as := [.inr 0, .inl (σ 159 (rx_w (x3 + 1))), .inl (σ 159 (rx_w (x3 + 2)))]) (rest := []) iL_law_650 rfl rfl (Nat.le_of_ble_eq_true rfl) (Or.inr ⟨_, _, rfl, oo_10_0⟩) (rx_CI.imp H (fun v110 σ109 H => ?_))
                                refine g_al iL_law_653 rfl ?_
                                refine g_al iL_law_654 rfl ?_
                                refine g_il iL_law_655 rfl ?_
                                refine g_c iL_law_656 ?_
                                refine g_add iL_law_657 ?_
                                refine g_ld iL_law_658 rfl o107 ?_
                                refine g_al iL_law_659 rfl ?_
                                refine g_il iL_law_660 rfl ?_
                                refine g_c iL_law_661 ?_
                                refine g_add iL_law_662 ?_
                                refine g_ld iL_law_663 rfl o108 ?_
                                refine g_ci (as := [.inr 125, .inl (σ109 159 (rx_w (x3 + 1))), .inl (σ109 159 (rx_w (x3 + 2)))]) (rest := [.inl v110]) iL_law_664 rfl rfl (Nat.le_of_ble_eq_true rfl) (Or.inr ⟨_, _, rfl, oo_11_125⟩) (rx_CI.imp H (fun v112 σ111 H => ?_))
                                by_cases c113 : v110 = v112
                                · rw [if_pos c113] at H
                                  refine g_ic0t iL_law_667 c113 ?_
                                  refine g_ii iL_law_1489 rfl ?_
                                  refine rx_Go.ls (la := [some (.inr 159), some (.inr 0), some (.inr 125), some (.inl (rx_w (x3 + 6)))]) rfl ?_
                                  refine g_goto iL_law_1492 ?_
                                  exact H
                                · rw [if_neg c113] at H
                                  refine g_ic0f iL_law_667 c113 ?_
                                  refine g_c iL_law_670 ?_
                                  exact g_ri iL_law_671 (by decide) H
                              · rw [if_neg c106] at H
                                by_cases c114 : (rx_alu 3 (σ 159 x3) 63) = 14
                                · rw [if_pos c114] at H
                                  refine g_sw iL_law_33 (by simp only [rx_sw]; rw [if_neg c3, if_neg c11, if_neg c19, if_neg c28, if_neg c36, if_neg c45, if_neg c53, if_neg c61, if_neg c69, if_neg c78, if_neg c85, if_neg c93, if_neg c100, if_neg c106, if_pos c114]) ?_
                                  refine g_al iL_law_672 rfl ?_
                                  refine g_al iL_law_673 rfl ?_
                                  refine g_il iL_law_674 rfl ?_
                                  refine g_c iL_law_675 ?_
                                  refine g_add iL_law_676 ?_
                                  obtain ⟨o115, H⟩ := H
                                  refine g_ld iL_law_677 rfl o115 ?_
                                  refine g_ci (as := [.inr 0, .inl (σ 159 (rx_w (x3 + 1)))]) (rest := []) iL_law_678 rfl rfl (Nat.le_of_ble_eq_true rfl) (Or.inr ⟨_, _, rfl, oo_10_0⟩) (rx_CI.imp H (fun v117 σ116 H => ?_))
                                  refine g_al iL_law_681 rfl ?_
                                  refine g_al iL_law_682 rfl ?_
                                  refine g_il iL_law_683 rfl ?_
                                  refine g_c iL_law_684 ?_
                                  refine g_add iL_law_685 ?_
                                  refine g_ld iL_law_686 rfl o115 ?_
                                  refine g_ci (as := [.inr 125, .inl (σ116 159 (rx_w (x3 + 1)))]) (rest := [.inl v117]) iL_law_687 rfl rfl (Nat.le_of_ble_eq_true rfl) (Or.inr ⟨_, _, rfl, oo_11_125⟩) (rx_CI.imp H (fun v119 σ118 H => ?_))
                                  by_cases c120 : v117 = v119
                                  · rw [if_pos c120] at H
                                    refine g_ic0t iL_law_690 c120 ?_
                                    refine g_ii iL_law_1489 rfl ?_
                                    refine rx_Go.ls (la := [some (.inr 159), some (.inr 0), some (.inr 125), some (.inl (rx_w (x3 + 6)))]) rfl ?_
                                    refine g_goto iL_law_1492 ?_
                                    exact H
                                  · rw [if_neg c120] at H
                                    refine g_ic0f iL_law_690 c120 ?_
                                    refine g_c iL_law_693 ?_
                                    exact g_ri iL_law_694 (by decide) H
                                · rw [if_neg c114] at H
                                  by_cases c121 : (rx_alu 3 (σ 159 x3) 63) = 15
                                  · rw [if_pos c121] at H
                                    refine g_sw iL_law_33 (by simp only [rx_sw]; rw [if_neg c3, if_neg c11, if_neg c19, if_neg c28, if_neg c36, if_neg c45, if_neg c53, if_neg c61, if_neg c69, if_neg c78, if_neg c85, if_neg c93, if_neg c100, if_neg c106, if_neg c114, if_pos c121]) ?_
                                    refine g_al iL_law_695 rfl ?_
                                    refine g_al iL_law_696 rfl ?_
                                    refine g_il iL_law_697 rfl ?_
                                    refine g_c iL_law_698 ?_
                                    refine g_add iL_law_699 ?_
                                    obtain ⟨o122, H⟩ := H
                                    refine g_ld iL_law_700 rfl o122 ?_
                                    refine g_ci (as := [.inr 0, .inl (σ 159 (rx_w (x3 + 1)))]) (rest := []) iL_law_701 rfl rfl (Nat.le_of_ble_eq_true rfl) (Or.inr ⟨_, _, rfl, oo_10_0⟩) (rx_CI.imp H (fun v124 σ123 H => ?_))
                                    refine g_al iL_law_704 rfl ?_
                                    refine g_al iL_law_705 rfl ?_
                                    refine g_il iL_law_706 rfl ?_
                                    refine g_c iL_law_707 ?_
                                    refine g_add iL_law_708 ?_
                                    refine g_ld iL_law_709 rfl o122 ?_
                                    refine g_ci (as := [.inr 125, .inl (σ123 159 (rx_w (x3 + 1)))]) (rest := [.inl v124]) iL_law_710 rfl rfl (Nat.le_of_ble_eq_true rfl) (Or.inr ⟨_, _, rfl, oo_11_125⟩) (rx_CI.imp H (fun v126 σ125 H => ?_))
                                    by_cases c127 : v124 = v126
                                    · rw [if_pos c127] at H
                                      refine g_ic0t iL_law_713 c127 ?_
                                      refine g_ii iL_law_1489 rfl ?_
                                      refine rx_Go.ls (la := [some (.inr 159), some (.inr 0), some (.inr 125), some (.inl (rx_w (x3 + 6)))]) rfl ?_
                                      refine g_goto iL_law_1492 ?_
                                      exact H
                                    · rw [if_neg c127] at H
                                      refine g_ic0f iL_law_713 c127 ?_
                                      refine g_c iL_law_716 ?_
                                      exact g_ri iL_law_717 (by decide) H
                                  · rw [if_neg c121] at H
                                    by_cases c128 : (rx_alu 3 (σ 159 x3) 63) = 16
                                    · rw [if_pos c128] at H
                                      refine g_sw iL_law_33 (by simp only [rx_sw]; rw [if_neg c3, if_neg c11, if_neg c19, if_neg c28, if_neg c36, if_neg c45, if_neg c53, if_neg c61, if_neg c69, if_neg c78, if_neg c85, if_neg c93, if_neg c100, if_neg c106, if_neg c114, if_neg c121, if_pos c128]) ?_
                                      refine g_al iL_law_718 rfl ?_
                                      refine g_al iL_law_719 rfl ?_
                                      refine g_il iL_law_720 rfl ?_
                                      refine g_c iL_law_721 ?_
                                      refine g_add iL_law_722 ?_
                                      obtain ⟨o129, H⟩ := H
                                      refine g_ld iL_law_723 rfl o129 ?_
                                      refine g_ci (as := [.inr 0, .inl (σ 159 (rx_w (x3 + 1)))]) (rest := []) iL_law_724 rfl rfl (Nat.le_of_ble_eq_true rfl) (Or.inr ⟨_, _, rfl, oo_10_0⟩) (rx_CI.imp H (fun v131 σ130 H => ?_))
                                      refine g_al iL_law_727 rfl ?_
                                      refine g_al iL_law_728 rfl ?_
                                      refine g_il iL_law_729 rfl ?_
                                      refine g_c iL_law_730 ?_
                                      refine g_add iL_law_731 ?_
                                      refine g_ld iL_law_732 rfl o129 ?_
                                      refine g_ci (as := [.inr 125, .inl (σ130 159 (rx_w (x3 + 1)))]) (rest := [.inl v131]) iL_law_733 rfl rfl (Nat.le_of_ble_eq_true rfl) (Or.inr ⟨_, _, rfl, oo_11_125⟩) (rx_CI.imp H (fun v133 σ132 H => ?_))
                                      by_cases c134 : v131 = v133
                                      · rw [if_pos c134] at H
                                        refine g_ic0t iL_law_736 c134 ?_
                                        refine g_ii iL_law_1489 rfl ?_
                                        refine rx_Go.ls (la := [some (.inr 159), some (.inr 0), some (.inr 125), some (.inl (rx_w (x3 + 6)))]) rfl ?_
                                        refine g_goto iL_law_1492 ?_
                                        exact H
                                      · rw [if_neg c134] at H
                                        refine g_ic0f iL_law_736 c134 ?_
                                        refine g_c iL_law_739 ?_
                                        exact g_ri iL_law_740 (by decide) H
                                    · rw [if_neg c128] at H
                                      by_cases c135 : (rx_alu 3 (σ 159 x3) 63) = 17
                                      · rw [if_pos c135] at H
                                        refine g_sw iL_law_33 (by simp only [rx_sw]; rw [if_neg c3, if_neg c11, if_neg c19, if_neg c28, if_neg c36, if_neg c45, if_neg c53, if_neg c61, if_neg c69, if_neg c78, if_neg c85, if_neg c93, if_neg c100, if_neg c106, if_neg c114, if_neg c121, if_neg c128, if_pos c135]) ?_
                                        refine g_al iL_law_741 rfl ?_
                                        refine g_al iL_law_742 rfl ?_
                                        refine g_il iL_law_743 rfl ?_
                                        refine g_c iL_law_744 ?_
                                        refine g_add iL_law_745 ?_
                                        obtain ⟨o136, H⟩ := H
                                        refine g_ld iL_law_746 rfl o136 ?_
                                        refine g_ci (as := [.inr 0, .inl (σ 159 (rx_w (x3 + 1)))]) (rest := []) iL_law_747 rfl rfl (Nat.le_of_ble_eq_true rfl) (Or.inr ⟨_, _, rfl, oo_10_0⟩) (rx_CI.imp H (fun v138 σ137 H => ?_))
                                        refine g_al iL_law_750 rfl ?_
                                        refine g_al iL_law_751 rfl ?_
                                        refine g_il iL_law_752 rfl ?_
                                        refine g_c iL_law_753 ?_
                                        refine g_add iL_law_754 ?_
                                        refine g_ld iL_law_755 rfl o136 ?_
                                        refine g_ci (as := [.inr 125, .inl (σ137 159 (rx_w (x3 + 1)))]) (rest := [.inl v138]) iL_law_756 rfl rfl (Nat.le_of_ble_eq_true rfl) (Or.inr ⟨_, _, rfl, oo_11_125⟩) (rx_CI.imp H (fun v140 σ139 H => ?_))
                                        by_cases c141 : v138 = v140
                                        · rw [if_pos c141] at H
                                          refine g_ic0t iL_law_759 c141 ?_
                                          refine g_ii iL_law_1489 rfl ?_
                                          refine rx_Go.ls (la := [some (.inr 159), some (.inr 0), some (.inr 125), some (.inl (rx_w (x3 + 6)))]) rfl ?_
                                          refine g_goto iL_law_1492 ?_
                                          exact H
                                        · rw [if_neg c141] at H
                                          refine g_ic0f iL_law_759 c141 ?_
                                          refine g_c iL_law_762 ?_
                                          exact g_ri iL_law_763 (by decide) H
                                      · rw [if_neg c135] at H
                                        by_cases c142 : (rx_alu 3 (σ 159 x3) 63) = 18
                                        · rw [if_pos c142] at H
                                          refine g_sw iL_law_33 (by simp only [rx_sw]; rw [if_neg c3, if_neg c11, if_neg c19, if_neg c28, if_neg c36, if_neg c45, if_neg c53, if_neg c61, if_neg c69, if_neg c78, if_neg c85, if_neg c93, if_neg c100, if_neg c106, if_neg c114, if_neg c121, if_neg c128, if_neg c135, if_pos c142]) ?_
                                          refine g_al iL_law_764 rfl ?_
                                          refine g_al iL_law_765 rfl ?_
                                          refine g_il iL_law_766 rfl ?_
                                          refine g_c iL_law_767 ?_
                                          refine g_add iL_law_768 ?_
                                          obtain ⟨o143, H⟩ := H
                                          refine g_ld iL_law_769 rfl o143 ?_
                                          refine g_ci (as := [.inr 0, .inl (σ 159 (rx_w (x3 + 1)))]) (rest := []) iL_law_770 rfl rfl (Nat.le_of_ble_eq_true rfl) (Or.inr ⟨_, _, rfl, oo_10_0⟩) (rx_CI.imp H (fun v145 σ144 H => ?_))
                                          refine g_al iL_law_773 rfl ?_
                                          refine g_al iL_law_774 rfl ?_
                                          refine g_il iL_law_775 rfl ?_
                                          refine g_c iL_law_776 ?_
                                          refine g_add iL_law_777 ?_
                                          refine g_ld iL_law_778 rfl o143 ?_
                                          refine g_ci (as := [.inr 125, .inl (σ144 159 (rx_w (x3 + 1)))]) (rest := [.inl v145]) iL_law_779 rfl rfl (Nat.le_of_ble_eq_true rfl) (Or.inr ⟨_, _, rfl, oo_11_125⟩) (rx_CI.imp H (fun v147 σ146 H => ?_))
                                          by_cases c148 : v145 = v147
                                          · rw [if_pos c148] at H
                                            refine g_ic0t iL_law_782 c148 ?_
                                            refine g_ii iL_law_1489 rfl ?_
                                            refine rx_Go.ls (la := [some (.inr 159), some (.inr 0), some (.inr 125), some (.inl (rx_w (x3 + 6)))]) rfl ?_
                                            refine g_goto iL_law_1492 ?_
                                            exact H
                                          · rw [if_neg c148] at H
                                            refine g_ic0f iL_law_782 c148 ?_
                                            refine g_c iL_law_785 ?_
                                            exact g_ri iL_law_786 (by decide) H
                                        · rw [if_neg c142] at H
                                          by_cases c149 : (rx_alu 3 (σ 159 x3) 63) = 19
                                          · rw [if_pos c149] at H
                                            refine g_sw iL_law_33 (by simp only [rx_sw]; rw [if_neg c3, if_neg c11, if_neg c19, if_neg c28, if_neg c36, if_neg c45, if_neg c53, if_neg c61, if_neg c69, if_neg c78, if_neg c85, if_neg c93, if_neg c100, if_neg c106, if_neg c114, if_neg c121, if_neg c128, if_neg c135, if_neg c142, if_pos c149]) ?_
                                            refine g_al iL_law_787 rfl ?_
                                            refine g_al iL_law_788 rfl ?_
                                            refine g_il iL_law_789 rfl ?_
                                            refine g_c iL_law_790 ?_
                                            refine g_add iL_law_791 ?_
                                            obtain ⟨o150, H⟩ := H
                                            refine g_ld iL_law_792 rfl o150 ?_
                                            refine g_ci (as := [.inr 0, .inl (σ 159 (rx_w (x3 + 1)))]) (rest := []) iL_law_793 rfl rfl (Nat.le_of_ble_eq_true rfl) (Or.inr ⟨_, _, rfl, oo_10_0⟩) (rx_CI.imp H (fun v152 σ151 H => ?_))
                                            refine g_al iL_law_796 rfl ?_
                                            refine g_al iL_law_797 rfl ?_
                                            refine g_il iL_law_798 rfl ?_
                                            refine g_c iL_law_799 ?_
                                            refine g_add iL_law_800 ?_
                                            refine g_ld iL_law_801 rfl o150 ?_
                                            refine g_ci (as := [.inr 125, .inl (σ151 159 (rx_w (x3 + 1)))]) (rest := [.inl v152]) iL_law_802 rfl rfl (Nat.le_of_ble_eq_true rfl) (Or.inr ⟨_, _, rfl, oo_11_125⟩) (rx_CI.imp H (fun v154 σ153 H => ?_))
                                            by_cases c155 : v152 = v154
                                            · rw [if_pos c155] at H
                                              refine g_ic0t iL_law_805 c155 ?_
                                              refine g_ii iL_law_1489 rfl ?_
                                              refine rx_Go.ls (la := [some (.inr 159), some (.inr 0), some (.inr 125), some (.inl (rx_w (x3 + 6)))]) rfl ?_
                                              refine g_goto iL_law_1492 ?_
                                              exact H
                                            · rw [if_neg c155] at H
                                              refine g_ic0f iL_law_805 c155 ?_
                                              refine g_c iL_law_808 ?_
                                              exact g_ri iL_law_809 (by decide) H
                                          · rw [if_neg c149] at H
                                            by_cases c156 : (rx_alu 3 (σ 159 x3) 63) = 20
                                            · rw [if_pos c156] at H
                                              refine g_sw iL_law_33 (by simp only [rx_sw]; rw [if_neg c3, if_neg c11, if_neg c19, if_neg c28, if_neg c36, if_neg c45, if_neg c53, if_neg c61, if_neg c69, if_neg c78, if_neg c85, if_neg c93, if_neg c100, if_neg c106, if_neg c114, if_neg c121, if_neg c128, if_neg c135, if_neg c142, if_neg c149, if_pos c156]) ?_
                                              refine g_al iL_law_810 rfl ?_
                                              refine g_al iL_law_811 rfl ?_
                                              refine g_il iL_law_812 rfl ?_
                                              refine g_c iL_law_813 ?_
                                              refine g_add iL_law_814 ?_
                                              obtain ⟨o157, H⟩ := H
                                              refine g_ld iL_law_815 rfl o157 ?_
                                              refine g_ci (as := [.inr 0, .inl (σ 159 (rx_w (x3 + 1)))]) (rest := []) iL_law_816 rfl rfl (Nat.le_of_ble_eq_true rfl) (Or.inr ⟨_, _, rfl, oo_10_0⟩) (rx_CI.imp H (fun v159 σ158 H => ?_))
                                              refine g_al iL_law_819 rfl ?_
                                              refine g_al iL_law_820 rfl ?_
                                              refine g_il iL_law_821 rfl ?_
                                              refine g_c iL_law_822 ?_
                                              refine g_add iL_law_823 ?_
                                              refine g_ld iL_law_824 rfl o157 ?_
                                              refine g_ci (as := [.inr 125, .inl (σ158 159 (rx_w (x3 + 1)))]) (rest := [.inl v159]) iL_law_825 rfl rfl (Nat.le_of_ble_eq_true rfl) (Or.inr ⟨_, _, rfl, oo_11_125⟩) (rx_CI.imp H (fun v161 σ160 H => ?_))
                                              by_cases c162 : v159 = v161
                                              · rw [if_pos c162] at H
                                                refine g_ic0t iL_law_828 c162 ?_
                                                refine g_ii iL_law_1489 rfl ?_
                                                refine rx_Go.ls (la := [some (.inr 159), some (.inr 0), some (.inr 125), some (.inl (rx_w (x3 + 6)))]) rfl ?_
                                                refine g_goto iL_law_1492 ?_
                                                exact H
                                              · rw [if_neg c162] at H
                                                refine g_ic0f iL_law_828 c162 ?_
                                                refine g_c iL_law_831 ?_
                                                exact g_ri iL_law_832 (by decide) H
                                            · rw [if_neg c156] at H
                                              by_cases c163 : (rx_alu 3 (σ 159 x3) 63) = 21
                                              · rw [if_pos c163] at H
                                                refine g_sw iL_law_33 (by simp only [rx_sw]; rw [if_neg c3, if_neg c11, if_neg c19, if_neg c28, if_neg c36, if_neg c45, if_neg c53, if_neg c61, if_neg c69, if_neg c78, if_neg c85, if_neg c93, if_neg c100, if_neg c106, if_neg c114, if_neg c121, if_neg c128, if_neg c135, if_neg c142, if_neg c149, if_neg c156, if_pos c163]) ?_
                                                refine g_al iL_law_833 rfl ?_
                                                refine g_al iL_law_834 rfl ?_
                                                refine g_il iL_law_835 rfl ?_
                                                refine g_c iL_law_836 ?_
                                                refine g_add iL_law_837 ?_
                                                obtain ⟨o164, H⟩ := H
                                                refine g_ld iL_law_838 rfl o164 ?_
                                                refine g_ci (as := [.inr 0, .inl (σ 159 (rx_w (x3 + 1)))]) (rest := []) iL_law_839 rfl rfl (Nat.le_of_ble_eq_true rfl) (Or.inr ⟨_, _, rfl, oo_10_0⟩) (rx_CI.imp H (fun v166 σ165 H => ?_))
                                                refine g_al iL_law_842 rfl ?_
                                                refine g_al iL_law_843 rfl ?_
                                                refine g_il iL_law_844 rfl ?_
                                                refine g_c iL_law_845 ?_
                                                refine g_add iL_law_846 ?_
                                                refine g_ld iL_law_847 rfl o164 ?_
                                                refine g_ci (as := [.inr 125, .inl (σ165 159 (rx_w (x3 + 1)))]) (rest := [.inl v166]) iL_law_848 rfl rfl (Nat.le_of_ble_eq_true rfl) (Or.inr ⟨_, _, rfl, oo_11_125⟩) (rx_CI.imp H (fun v168 σ167 H => ?_))
                                                by_cases c169 : v166 = v168
                                                · rw [if_pos c169] at H
                                                  refine g_ic0t iL_law_851 c169 ?_
                                                  refine g_ii iL_law_1489 rfl ?_
                                                  refine rx_Go.ls (la := [some (.inr 159), some (.inr 0), some (.inr 125), some (.inl (rx_w (x3 + 6)))]) rfl ?_
                                                  refine g_goto iL_law_1492 ?_
                                                  exact H
                                                · rw [if_neg c169] at H
                                                  refine g_ic0f iL_law_851 c169 ?_
                                                  refine g_c iL_law_854 ?_
                                                  exact g_ri iL_law_855 (by decide) H
                                              · rw [if_neg c163] at H
                                                by_cases c170 : (rx_alu 3 (σ 159 x3) 63) = 22
                                                · rw [if_pos c170] at H
                                                  refine g_sw iL_law_33 (by simp only [rx_sw]; rw [if_neg c3, if_neg c11, if_neg c19, if_neg c28, if_neg c36, if_neg c45, if_neg c53, if_neg c61, if_neg c69, if_neg c78, if_neg c85, if_neg c93, if_neg c100, if_neg c106, if_neg c114, if_neg c121, if_neg c128, if_neg c135, if_neg c142, if_neg c149, if_neg c156, if_neg c163, if_pos c170]) ?_
                                                  refine g_al iL_law_856 rfl ?_
                                                  refine g_al iL_law_857 rfl ?_
                                                  refine g_il iL_law_858 rfl ?_
                                                  refine g_c iL_law_859 ?_
                                                  refine g_add iL_law_860 ?_
                                                  obtain ⟨o171, H⟩ := H
                                                  refine g_ld iL_law_861 rfl o171 ?_
                                                  refine g_al iL_law_862 rfl ?_
                                                  refine g_il iL_law_863 rfl ?_
                                                  refine g_c iL_law_864 ?_
                                                  refine g_add iL_law_865 ?_
                                                  obtain ⟨o172, H⟩ := H
                                                  refine g_ld iL_law_866 rfl o172 ?_
                                                  refine g_ci (as := [.inr 0, .inl (σ 159 (rx_w (x3 + 1))), .inl (σ 159 (rx_w (x3 + 2)))]) (rest := []) iL_law_867 rfl rfl (Nat.le_of_ble_eq_true rfl) (Or.inr ⟨_, _, rfl, oo_10_0⟩) (rx_CI.imp H (fun v174 σ173 H => ?_))
                                                  refine g_al iL_law_870 rfl ?_
                                                  refine g_al iL_law_871 rfl ?_
                                                  refine g_il iL_law_872 rfl ?_
                                                  refine g_c iL_law_873 ?_
                                                  refine g_add iL_law_874 ?_
                                                  refine g_ld iL_law_875 rfl o171 ?_
                                                  refine g_al iL_law_876 rfl ?_
                                                  refine g_il iL_law_877 rfl ?_
                                                  refine g_c iL_law_878 ?_
                                                  refine g_add iL_law_879 ?_
                                                  refine g_ld iL_law_880 rfl o172 ?_
                                                  refine g_ci (as := [.inr 125, .inl (σ173 159 (rx_w (x3 + 1))), .inl (σ173 159 (rx_w (x3 + 2)))]) (rest := [.inl v174]) iL_law_881 rfl rfl (Nat.le_of_ble_eq_true rfl) (Or.inr ⟨_, _, rfl, oo_11_125⟩) (rx_CI.imp H (fun v176 σ175 H => ?_))
                                                  by_cases c177 : v174 = v176
                                                  · rw [if_pos c177] at H
                                                    refine g_ic0t iL_law_884 c177 ?_
                                                    refine g_ii iL_law_1489 rfl ?_
                                                    refine rx_Go.ls (la := [some (.inr 159), some (.inr 0), some (.inr 125), some (.inl (rx_w (x3 + 6)))]) rfl ?_
                                                    refine g_goto iL_law_1492 ?_
                                                    exact H
                                                  · rw [if_neg c177] at H
                                                    refine g_ic0f iL_law_884 c177 ?_
                                                    refine g_c iL_law_887 ?_
                                                    exact g_ri iL_law_888 (by decide) H
                                                · rw [if_neg c170] at H
                                                  by_cases c178 : (rx_alu 3 (σ 159 x3) 63) = 23
                                                  · rw [if_pos c178] at H
                                                    refine g_sw iL_law_33 (by simp only [rx_sw]; rw [if_neg c3, if_neg c11, if_neg c19, if_neg c28, if_neg c36, if_neg c45, if_neg c53, if_neg c61, if_neg c69, if_neg c78, if_neg c85, if_neg c93, if_neg c100, if_neg c106, if_neg c114, if_neg c121, if_neg c128, if_neg c135, if_neg c142, if_neg c149, if_neg c156, if_neg c163, if_neg c170, if_pos c178]) ?_
                                                    refine g_al iL_law_889 rfl ?_
                                                    refine g_al iL_law_890 rfl ?_
                                                    refine g_il iL_law_891 rfl ?_
                                                    refine g_c iL_law_892 ?_
                                                    refine g_add iL_law_893 ?_
                                                    obtain ⟨o179, H⟩ := H
                                                    refine g_ld iL_law_894 rfl o179 ?_
                                                    refine g_al iL_law_895 rfl ?_
                                                    refine g_il iL_law_896 rfl ?_
                                                    refine g_c iL_law_897 ?_
                                                    refine g_add iL_law_898 ?_
                                                    obtain ⟨o180, H⟩ := H
                                                    refine g_ld iL_law_899 rfl o180 ?_
                                                    refine g_ci (as := [.inr 0, .inl (σ 159 (rx_w (x3 + 1))), .inl (σ 159 (rx_w (x3 + 2)))]) (rest := []) iL_law_900 rfl rfl (Nat.le_of_ble_eq_true rfl) (Or.inr ⟨_, _, rfl, oo_10_0⟩) (rx_CI.imp H (fun v182 σ181 H => ?_))
                                                    refine g_al iL_law_903 rfl ?_
                                                    refine g_al iL_law_904 rfl ?_
                                                    refine g_il iL_law_905 rfl ?_
                                                    refine g_c iL_law_906 ?_
                                                    refine g_add iL_law_907 ?_
                                                    refine g_ld iL_law_908 rfl o179 ?_
                                                    refine g_al iL_law_909 rfl ?_
                                                    refine g_il iL_law_910 rfl ?_
                                                    refine g_c iL_law_911 ?_
                                                    refine g_add iL_law_912 ?_
                                                    refine g_ld iL_law_913 rfl o180 ?_
                                                    refine g_ci (as := [.inr 125, .inl (σ181 159 (rx_w (x3 + 1))), .inl (σ181 159 (rx_w (x3 + 2)))]) (rest := [.inl v182]) iL_law_914 rfl rfl (Nat.le_of_ble_eq_true rfl) (Or.inr ⟨_, _, rfl, oo_11_125⟩) (rx_CI.imp H (fun v184 σ183 H => ?_))
                                                    by_cases c185 : v182 = v184
                                                    · rw [if_pos c185] at H
                                                      refine g_ic0t iL_law_917 c185 ?_
                                                      refine g_ii iL_law_1489 rfl ?_
                                                      refine rx_Go.ls (la := [some (.inr 159), some (.inr 0), some (.inr 125), some (.inl (rx_w (x3 + 6)))]) rfl ?_
                                                      refine g_goto iL_law_1492 ?_
                                                      exact H
                                                    · rw [if_neg c185] at H
                                                      refine g_ic0f iL_law_917 c185 ?_
                                                      refine g_c iL_law_920 ?_
                                                      exact g_ri iL_law_921 (by decide) H
                                                  · rw [if_neg c178] at H
                                                    by_cases c186 : (rx_alu 3 (σ 159 x3) 63) = 24
                                                    · rw [if_pos c186] at H
                                                      refine g_sw iL_law_33 (by simp only [rx_sw]; rw [if_neg c3, if_neg c11, if_neg c19, if_neg c28, if_neg c36, if_neg c45, if_neg c53, if_neg c61, if_neg c69, if_neg c78, if_neg c85, if_neg c93, if_neg c100, if_neg c106, if_neg c114, if_neg c121, if_neg c128, if_neg c135, if_neg c142, if_neg c149, if_neg c156, if_neg c163, if_neg c170, if_neg c178, if_pos c186]) ?_
                                                      refine g_al iL_law_922 rfl ?_
                                                      refine g_al iL_law_923 rfl ?_
                                                      refine g_il iL_law_924 rfl ?_
                                                      refine g_c iL_law_925 ?_
                                                      refine g_add iL_law_926 ?_
                                                      obtain ⟨o187, H⟩ := H
                                                      refine g_ld iL_law_927 rfl o187 ?_
                                                      refine g_ci (as := [.inr 0, .inl (σ 159 (rx_w (x3 + 1)))]) (rest := []) iL_law_928 rfl rfl (Nat.le_of_ble_eq_true rfl) (Or.inr ⟨_, _, rfl, oo_10_0⟩) (rx_CI.imp H (fun v189 σ188 H => ?_))
                                                      refine g_al iL_law_931 rfl ?_
                                                      refine g_al iL_law_932 rfl ?_
                                                      refine g_il iL_law_933 rfl ?_
                                                      refine g_c iL_law_934 ?_
                                                      refine g_add iL_law_935 ?_
                                                      refine g_ld iL_law_936 rfl o187 ?_
                                                      refine g_ci (as := [.inr 125, .inl (σ188 159 (rx_w (x3 + 1)))]) (rest := [.inl v189]) iL_law_937 rfl rfl (Nat.le_of_ble_eq_true rfl) (Or.inr ⟨_, _, rfl, oo_11_125⟩) (rx_CI.imp H (fun v191 σ190 H => ?_))
                                                      by_cases c192 : v189 = v191
                                                      · rw [if_pos c192] at H
                                                        refine g_ic0t iL_law_940 c192 ?_
                                                        refine g_ii iL_law_1489 rfl ?_
                                                        refine rx_Go.ls (la := [some (.inr 159), some (.inr 0), some (.inr 125), some (.inl (rx_w (x3 + 6)))]) rfl ?_
                                                        refine g_goto iL_law_1492 ?_
                                                        exact H
                                                      · rw [if_neg c192] at H
                                                        refine g_ic0f iL_law_940 c192 ?_
                                                        refine g_c iL_law_943 ?_
                                                        exact g_ri iL_law_944 (by decide) H
                                                    · rw [if_neg c186] at H
                                                      by_cases c193 : (rx_alu 3 (σ 159 x3) 63) = 25
                                                      · rw [if_pos c193] at H
                                                        refine g_sw iL_law_33 (by simp only [rx_sw]; rw [if_neg c3, if_neg c11, if_neg c19, if_neg c28, if_neg c36, if_neg c45, if_neg c53, if_neg c61, if_neg c69, if_neg c78, if_neg c85, if_neg c93, if_neg c100, if_neg c106, if_neg c114, if_neg c121, if_neg c128, if_neg c135, if_neg c142, if_neg c149, if_neg c156, if_neg c163, if_neg c170, if_neg c178, if_neg c186, if_pos c193]) ?_
                                                        refine g_al iL_law_945 rfl ?_
                                                        refine g_al iL_law_946 rfl ?_
                                                        refine g_il iL_law_947 rfl ?_
                                                        refine g_c iL_law_948 ?_
                                                        refine g_add iL_law_949 ?_
                                                        obtain ⟨o194, H⟩ := H
                                                        refine g_ld iL_law_950 rfl o194 ?_
                                                        refine g_al iL_law_951 rfl ?_
                                                        refine g_il iL_law_952 rfl ?_
                                                        refine g_c iL_law_953 ?_
                                                        refine g_add iL_law_954 ?_
                                                        obtain ⟨o195, H⟩ := H
                                                        refine g_ld iL_law_955 rfl o195 ?_
                                                        refine g_al iL_law_956 rfl ?_
                                                        refine g_il iL_law_957 rfl ?_
                                                        refine g_c iL_law_958 ?_
                                                        refine g_add iL_law_959 ?_
                                                        obtain ⟨o196, H⟩ := H
                                                        refine g_ld iL_law_960 rfl o196 ?_
                                                        refine g_ci (as := [.inr 0, .inl (σ 159 (rx_w (x3 + 1))), .inl (σ 159 (rx_w (x3 + 2))), .inl (σ 159 (rx_w (x3 + 3)))]) (rest := []) iL_law_961 rfl rfl (Nat.le_of_ble_eq_true rfl) (Or.inr ⟨_, _, rfl, oo_10_0⟩) (rx_CI.imp H (fun v198 σ197 H => ?_))
                                                        refine g_al iL_law_964 rfl ?_
                                                        refine g_al iL_law_965 rfl ?_
                                                        refine g_il iL_law_966 rfl ?_
                                                        refine g_c iL_law_967 ?_
                                                        refine g_add iL_law_968 ?_
                                                        refine g_ld iL_law_969 rfl o194 ?_
                                                        refine g_al iL_law_970 rfl ?_
                                                        refine g_il iL_law_971 rfl ?_
                                                        refine g_c iL_law_972 ?_
                                                        refine g_add iL_law_973 ?_
                                                        refine g_ld iL_law_974 rfl o195 ?_
                                                        refine g_al iL_law_975 rfl ?_
                                                        refine g_il iL_law_976 rfl ?_
                                                        refine g_c iL_law_977 ?_
                                                        refine g_add iL_law_978 ?_
                                                        refine g_ld iL_law_979 rfl o196 ?_
                                                        refine g_ci (as := [.inr 125, .inl (σ197 159 (rx_w (x3 + 1))), .inl (σ197 159 (rx_w (x3 + 2))), .inl (σ197 159 (rx_w (x3 + 3)))]) (rest := [.inl v198]) iL_law_980 rfl rfl (Nat.le_of_ble_eq_true rfl) (Or.inr ⟨_, _, rfl, oo_11_125⟩) (rx_CI.imp H (fun v200 σ199 H => ?_))
                                                        by_cases c201 : v198 = v200
                                                        · rw [if_pos c201] at H
                                                          refine g_ic0t iL_law_983 c201 ?_
                                                          refine g_ii iL_law_1489 rfl ?_
                                                          refine rx_Go.ls (la := [some (.inr 159), some (.inr 0), some (.inr 125), some (.inl (rx_w (x3 + 6)))]) rfl ?_
                                                          refine g_goto iL_law_1492 ?_
                                                          exact H
                                                        · rw [if_neg c201] at H
                                                          refine g_ic0f iL_law_983 c201 ?_
                                                          refine g_c iL_law_986 ?_
                                                          exact g_ri iL_law_987 (by decide) H
                                                      · rw [if_neg c193] at H
                                                        by_cases c202 : (rx_alu 3 (σ 159 x3) 63) = 26
                                                        · rw [if_pos c202] at H
                                                          refine g_sw iL_law_33 (by simp only [rx_sw]; rw [if_neg c3, if_neg c11, if_neg c19, if_neg c28, if_neg c36, if_neg c45, if_neg c53, if_neg c61, if_neg c69, if_neg c78, if_neg c85, if_neg c93, if_neg c100, if_neg c106, if_neg c114, if_neg c121, if_neg c128, if_neg c135, if_neg c142, if_neg c149, if_neg c156, if_neg c163, if_neg c170, if_neg c178, if_neg c186, if_neg c193, if_pos c202]) ?_
                                                          refine g_al iL_law_988 rfl ?_
                                                          refine g_al iL_law_989 rfl ?_
                                                          refine g_il iL_law_990 rfl ?_
                                                          refine g_c iL_law_991 ?_
                                                          refine g_add iL_law_992 ?_
                                                          obtain ⟨o203, H⟩ := H
                                                          refine g_ld iL_law_993 rfl o203 ?_
                                                          refine g_ci (as := [.inr 0, .inl (σ 159 (rx_w (x3 + 1)))]) (rest := []) iL_law_994 rfl rfl (Nat.le_of_ble_eq_true rfl) (Or.inr ⟨_, _, rfl, oo_10_0⟩) (rx_CI.imp H (fun v205 σ204 H => ?_))
                                                          refine g_al iL_law_997 rfl ?_
                                                          refine g_al iL_law_998 rfl ?_
                                                          refine g_il iL_law_999 rfl ?_
                                                          refine g_c iL_law_1000 ?_
                                                          refine g_add iL_law_1001 ?_
                                                          refine g_ld iL_law_1002 rfl o203 ?_
                                                          refine g_ci (as := [.inr 125, .inl (σ204 159 (rx_w (x3 + 1)))]) (rest := [.inl v205]) iL_law_1003 rfl rfl (Nat.le_of_ble_eq_true rfl) (Or.inr ⟨_, _, rfl, oo_11_125⟩) (rx_CI.imp H (fun v207 σ206 H => ?_))
                                                          by_cases c208 : v205 = v207
                                                          · rw [if_pos c208] at H
                                                            refine g_ic0t iL_law_1006 c208 ?_
                                                            refine g_ii iL_law_1489 rfl ?_
                                                            refine rx_Go.ls (la := [some (.inr 159), some (.inr 0), some (.inr 125), some (.inl (rx_w (x3 + 6)))]) rfl ?_
                                                            refine g_goto iL_law_1492 ?_
                                                            exact H
                                                          · rw [if_neg c208] at H
                                                            refine g_ic0f iL_law_1006 c208 ?_
                                                            refine g_c iL_law_1009 ?_
                                                            exact g_ri iL_law_1010 (by decide) H
                                                        · rw [if_neg c202] at H
                                                          by_cases c209 : (rx_alu 3 (σ 159 x3) 63) = 27
                                                          · rw [if_pos c209] at H
                                                            refine g_sw iL_law_33 (by simp only [rx_sw]; rw [if_neg c3, if_neg c11, if_neg c19, if_neg c28, if_neg c36, if_neg c45, if_neg c53, if_neg c61, if_neg c69, if_neg c78, if_neg c85, if_neg c93, if_neg c100, if_neg c106, if_neg c114, if_neg c121, if_neg c128, if_neg c135, if_neg c142, if_neg c149, if_neg c156, if_neg c163, if_neg c170, if_neg c178, if_neg c186, if_neg c193, if_neg c202, if_pos c209]) ?_
                                                            refine g_al iL_law_1011 rfl ?_
                                                            refine g_ci (as := [.inr 0]) (rest := []) iL_law_1012 rfl rfl (Nat.le_of_ble_eq_true rfl) (Or.inr ⟨_, _, rfl, oo_10_0⟩) (rx_CI.imp H (fun v211 σ210 H => ?_))
                                                            refine g_al iL_law_1015 rfl ?_
                                                            refine g_ci (as := [.inr 125]) (rest := [.inl v211]) iL_law_1016 rfl rfl (Nat.le_of_ble_eq_true rfl) (Or.inr ⟨_, _, rfl, oo_11_125⟩) (rx_CI.imp H (fun v213 σ212 H => ?_))
                                                            by_cases c214 : v211 = v213
                                                            · rw [if_pos c214] at H
                                                              refine g_ic0t iL_law_1019 c214 ?_
                                                              refine g_ii iL_law_1489 rfl ?_
                                                              refine rx_Go.ls (la := [some (.inr 159), some (.inr 0), some (.inr 125), some (.inl (rx_w (x3 + 6)))]) rfl ?_
                                                              refine g_goto iL_law_1492 ?_
                                                              exact H
                                                            · rw [if_neg c214] at H
                                                              refine g_ic0f iL_law_1019 c214 ?_
                                                              refine g_c iL_law_1022 ?_
                                                              exact g_ri iL_law_1023 (by decide) H
                                                          · rw [if_neg c209] at H
                                                            by_cases c215 : (rx_alu 3 (σ 159 x3) 63) = 28
                                                            · rw [if_pos c215] at H
                                                              refine g_sw iL_law_33 (by simp only [rx_sw]; rw [if_neg c3, if_neg c11, if_neg c19, if_neg c28, if_neg c36, if_neg c45, if_neg c53, if_neg c61, if_neg c69, if_neg c78, if_neg c85, if_neg c93, if_neg c100, if_neg c106, if_neg c114, if_neg c121, if_neg c128, if_neg c135, if_neg c142, if_neg c149, if_neg c156, if_neg c163, if_neg c170, if_neg c178, if_neg c186, if_neg c193, if_neg c202, if_neg c209, if_pos c215]) ?_
                                                              refine g_al iL_law_1024 rfl ?_
                                                              refine g_al iL_law_1025 rfl ?_
                                                              refine g_il iL_law_1026 rfl ?_
                                                              refine g_c iL_law_1027 ?_
                                                              refine g_add iL_law_1028 ?_
                                                              obtain ⟨o216, H⟩ := H
                                                              refine g_ld iL_law_1029 rfl o216 ?_
                                                              refine g_al iL_law_1030 rfl ?_
                                                              refine g_il iL_law_1031 rfl ?_
                                                              refine g_c iL_law_1032 ?_
                                                              refine g_add iL_law_1033 ?_
                                                              obtain ⟨o217, H⟩ := H
                                                              refine g_ld iL_law_1034 rfl o217 ?_
                                                              refine g_ci (as := [.inr 0, .inl (σ 159 (rx_w (x3 + 1))), .inl (σ 159 (rx_w (x3 + 2)))]) (rest := []) iL_law_1035 rfl rfl (Nat.le_of_ble_eq_true rfl) (Or.inr ⟨_, _, rfl, oo_10_0⟩) (rx_CI.imp H (fun v219 σ218 H => ?_))
                                                              refine g_al iL_law_1038 rfl ?_
                                                              refine g_al iL_law_1039 rfl ?_
                                                              refine g_il iL_law_1040 rfl ?_
                                                              refine g_c iL_law_1041 ?_
                                                              refine g_add iL_law_1042 ?_
                                                              refine g_ld iL_law_1043 rfl o216 ?_
                                                              refine g_al iL_law_1044 rfl ?_
                                                              refine g_il iL_law_1045 rfl ?_
                                                              refine g_c iL_law_1046 ?_
                                                              refine g_add iL_law_1047 ?_
                                                              refine g_ld iL_law_1048 rfl o217 ?_
                                                              refine g_ci (as := [.inr 125, .inl (σ218 159 (rx_w (x3 + 1))), .inl (σ218 159 (rx_w (x3 + 2)))]) (rest := [.inl v219]) iL_law_1049 rfl rfl (Nat.le_of_ble_eq_true rfl) (Or.inr ⟨_, _, rfl, oo_11_125⟩) (rx_CI.imp H (fun v221 σ220 H => ?_))
                                                              by_cases c222 : v219 = v221
                                                              · rw [if_pos c222] at H
                                                                refine g_ic0t iL_law_1052 c222 ?_
                                                                refine g_ii iL_law_1489 rfl ?_
                                                                refine rx_Go.ls (la := [some (.inr 159), some (.inr 0), some (.inr 125), some (.inl (rx_w (x3 + 6)))]) rfl ?_
                                                                refine g_goto iL_law_1492 ?_
                                                                exact H
                                                              · rw [if_neg c222] at H
                                                                refine g_ic0f iL_law_1052 c222 ?_
                                                                refine g_c iL_law_1055 ?_
                                                                exact g_ri iL_law_1056 (by decide) H
                                                            · rw [if_neg c215] at H
                                                              by_cases c223 : (rx_alu 3 (σ 159 x3) 63) = 29
                                                              · rw [if_pos c223] at H
                                                                refine g_sw iL_law_33 (by simp only [rx_sw]; rw [if_neg c3, if_neg c11, if_neg c19, if_neg c28, if_neg c36, if_neg c45, if_neg c53, if_neg c61, if_neg c69, if_neg c78, if_neg c85, if_neg c93, if_neg c100, if_neg c106, if_neg c114, if_neg c121, if_neg c128, if_neg c135, if_neg c142, if_neg c149, if_neg c156, if_neg c163, if_neg c170, if_neg c178, if_neg c186, if_neg c193, if_neg c202, if_neg c209, if_neg c215, if_pos c223]) ?_
                                                                refine g_al iL_law_1057 rfl ?_
                                                                refine g_al iL_law_1058 rfl ?_
                                                                refine g_il iL_law_1059 rfl ?_
                                                                refine g_c iL_law_1060 ?_
                                                                refine g_add iL_law_1061 ?_
                                                                obtain ⟨o224, H⟩ := H
                                                                refine g_ld iL_law_1062 rfl o224 ?_
                                                                refine g_ci (as := [.inr 0, .inl (σ 159 (rx_w (x3 + 1)))]) (rest := []) iL_law_1063 rfl rfl (Nat.le_of_ble_eq_true rfl) (Or.inr ⟨_, _, rfl, oo_10_0⟩) (rx_CI.imp H (fun v226 σ225 H => ?_))
                                                                refine g_al iL_law_1066 rfl ?_
                                                                refine g_al iL_law_1067 rfl ?_
                                                                refine g_il iL_law_1068 rfl ?_
                                                                refine g_c iL_law_1069 ?_
                                                                refine g_add iL_law_1070 ?_
                                                                refine g_ld iL_law_1071 rfl o224 ?_
                                                                refine g_ci (as := [.inr 125, .inl (σ225 159 (rx_w (x3 + 1)))]) (rest := [.inl v226]) iL_law_1072 rfl rfl (Nat.le_of_ble_eq_true rfl) (Or.inr ⟨_, _, rfl, oo_11_125⟩) (rx_CI.imp H (fun v228 σ227 H => ?_))
                                                                by_cases c229 : v226 = v228
                                                                · rw [if_pos c229] at H
                                                                  refine g_ic0t iL_law_1075 c229 ?_
                                                                  refine g_ii iL_law_1489 rfl ?_
                                                                  refine rx_Go.ls (la := [some (.inr 159), some (.inr 0), some (.inr 125), some (.inl (rx_w (x3 + 6)))]) rfl ?_
                                                                  refine g_goto iL_law_1492 ?_
                                                                  exact H
                                                                · rw [if_neg c229] at H
                                                                  refine g_ic0f iL_law_1075 c229 ?_
                                                                  refine g_c iL_law_1078 ?_
                                                                  exact g_ri iL_law_1079 (by decide) H
                                                              · rw [if_neg c223] at H
                                                                by_cases c230 : (rx_alu 3 (σ 159 x3) 63) = 30
                                                                · rw [if_pos c230] at H
                                                                  refine g_sw iL_law_33 (by simp only [rx_sw]; rw [if_neg c3, if_neg c11, if_neg c19, if_neg c28, if_neg c36, if_neg c45, if_neg c53, if_neg c61, if_neg c69, if_neg c78, if_neg c85, if_neg c93, if_neg c100, if_neg c106, if_neg c114, if_neg c121, if_neg c128, if_neg c135, if_neg c142, if_neg c149, if_neg c156, if_neg c163, if_neg c170, if_neg c178, if_neg c186, if_neg c193, if_neg c202, if_neg c209, if_neg c215, if_neg c223, if_pos c230]) ?_
                                                                  refine g_al iL_law_1080 rfl ?_
                                                                  refine g_al iL_law_1081 rfl ?_
                                                                  refine g_il iL_law_1082 rfl ?_
                                                                  refine g_c iL_law_1083 ?_
                                                                  refine g_add iL_law_1084 ?_
                                                                  obtain ⟨o231, H⟩ := H
                                                                  refine g_ld iL_law_1085 rfl o231 ?_
                                                                  refine g_al iL_law_1086 rfl ?_
                                                                  refine g_il iL_law_1087 rfl ?_
                                                                  refine g_c iL_law_1088 ?_
                                                                  refine g_add iL_law_1089 ?_
                                                                  obtain ⟨o232, H⟩ := H
                                                                  refine g_ld iL_law_1090 rfl o232 ?_
                                                                  refine g_al iL_law_1091 rfl ?_
                                                                  refine g_il iL_law_1092 rfl ?_
                                                                  refine g_c iL_law_1093 ?_
                                                                  refine g_add iL_law_1094 ?_
                                                                  obtain ⟨o233, H⟩ := H
                                                                  refine g_ld iL_law_1095 rfl o233 ?_
                                                                  refine g_ci (as := [.inr 0, .inl (σ 159 (rx_w (x3 + 1))), .inl (σ 159 (rx_w (x3 + 2))), .inl (σ 159 (rx_w (x3 + 3)))]) (rest := []) iL_law_1096 rfl rfl (Nat.le_of_ble_eq_true rfl) (Or.inr ⟨_, _, rfl, oo_10_0⟩) (rx_CI.imp H (fun v235 σ234 H => ?_))
                                                                  refine g_al iL_law_1099 rfl ?_
                                                                  refine g_al iL_law_1100 rfl ?_
                                                                  refine g_il iL_law_1101 rfl ?_
                                                                  refine g_c iL_law_1102 ?_
                                                                  refine g_add iL_law_1103 ?_
                                                                  refine g_ld iL_law_1104 rfl o231 ?_
                                                                  refine g_al iL_law_1105 rfl ?_
                                                                  refine g_il iL_law_1106 rfl ?_
                                                                  refine g_c iL_law_1107 ?_
                                                                  refine g_add iL_law_1108 ?_
                                                                  refine g_ld iL_law_1109 rfl o232 ?_
                                                                  refine g_al iL_law_1110 rfl ?_
                                                                  refine g_il iL_law_1111 rfl ?_
                                                                  refine g_c iL_law_1112 ?_
                                                                  refine g_add iL_law_1113 ?_
                                                                  refine g_ld iL_law_1114 rfl o233 ?_
                                                                  refine g_ci (as := [.inr 125, .inl (σ234 159 (rx_w (x3 + 1))), .inl (σ234 159 (rx_w (x3 + 2))), .inl (σ234 159 (rx_w (x3 + 3)))]) (rest := [.inl v235]) iL_law_1115 rfl rfl (Nat.le_of_ble_eq_true rfl) (Or.inr ⟨_, _, rfl, oo_11_125⟩) (rx_CI.imp H (fun v237 σ236 H => ?_))
                                                                  by_cases c238 : v235 = v237
                                                                  · rw [if_pos c238] at H
                                                                    refine g_ic0t iL_law_1118 c238 ?_
                                                                    refine g_ii iL_law_1489 rfl ?_
                                                                    refine rx_Go.ls (la := [some (.inr 159), some (.inr 0), some (.inr 125), some (.inl (rx_w (x3 + 6)))]) rfl ?_
                                                                    refine g_goto iL_law_1492 ?_
                                                                    exact H
                                                                  · rw [if_neg c238] at H
                                                                    refine g_ic0f iL_law_1118 c238 ?_
                                                                    refine g_c iL_law_1121 ?_
                                                                    exact g_ri iL_law_1122 (by decide) H
                                                                · rw [if_neg c230] at H
                                                                  by_cases c239 : (rx_alu 3 (σ 159 x3) 63) = 31
                                                                  · rw [if_pos c239] at H
                                                                    refine g_sw iL_law_33 (by simp only [rx_sw]; rw [if_neg c3, if_neg c11, if_neg c19, if_neg c28, if_neg c36, if_neg c45, if_neg c53, if_neg c61, if_neg c69, if_neg c78, if_neg c85, if_neg c93, if_neg c100, if_neg c106, if_neg c114, if_neg c121, if_neg c128, if_neg c135, if_neg c142, if_neg c149, if_neg c156, if_neg c163, if_neg c170, if_neg c178, if_neg c186, if_neg c193, if_neg c202, if_neg c209, if_neg c215, if_neg c223, if_neg c230, if_pos c239]) ?_
                                                                    refine g_al iL_law_1123 rfl ?_
                                                                    refine g_al iL_law_1124 rfl ?_
                                                                    refine g_il iL_law_1125 rfl ?_
                                                                    refine g_c iL_law_1126 ?_
                                                                    refine g_add iL_law_1127 ?_
                                                                    obtain ⟨o240, H⟩ := H
                                                                    refine g_ld iL_law_1128 rfl o240 ?_
                                                                    refine g_al iL_law_1129 rfl ?_
                                                                    refine g_il iL_law_1130 rfl ?_
                                                                    refine g_c iL_law_1131 ?_
                                                                    refine g_add iL_law_1132 ?_
                                                                    obtain ⟨o241, H⟩ := H
                                                                    refine g_ld iL_law_1133 rfl o241 ?_
                                                                    refine g_al iL_law_1134 rfl ?_
                                                                    refine g_il iL_law_1135 rfl ?_
                                                                    refine g_c iL_law_1136 ?_
                                                                    refine g_add iL_law_1137 ?_
                                                                    obtain ⟨o242, H⟩ := H
                                                                    refine g_ld iL_law_1138 rfl o242 ?_
                                                                    refine g_ci (as := [.inr 0, .inl (σ 159 (rx_w (x3 + 1))), .inl (σ 159 (rx_w (x3 + 2))), .inl (σ 159 (rx_w (x3 + 3)))]) (rest := []) iL_law_1139 rfl rfl (Nat.le_of_ble_eq_true rfl) (Or.inr ⟨_, _, rfl, oo_10_0⟩) (rx_CI.imp H (fun v244 σ243 H => ?_))
                                                                    refine g_al iL_law_1142 rfl ?_
                                                                    refine g_al iL_law_1143 rfl ?_
                                                                    refine g_il iL_law_1144 rfl ?_
                                                                    refine g_c iL_law_1145 ?_
                                                                    refine g_add iL_law_1146 ?_
                                                                    refine g_ld iL_law_1147 rfl o240 ?_
                                                                    refine g_al iL_law_1148 rfl ?_
                                                                    refine g_il iL_law_1149 rfl ?_
                                                                    refine g_c iL_law_1150 ?_
                                                                    refine g_add iL_law_1151 ?_
                                                                    refine g_ld iL_law_1152 rfl o241 ?_
                                                                    refine g_al iL_law_1153 rfl ?_
                                                                    refine g_il iL_law_1154 rfl ?_
                                                                    refine g_c iL_law_1155 ?_
                                                                    refine g_add iL_law_1156 ?_
                                                                    refine g_ld iL_law_1157 rfl o242 ?_
                                                                    refine g_ci (as := [.inr 125, .inl (σ243 159 (rx_w (x3 + 1))), .inl (σ243 159 (rx_w (x3 + 2))), .inl (σ243 159 (rx_w (x3 + 3)))]) (rest := [.inl v244]) iL_law_1158 rfl rfl (Nat.le_of_ble_eq_true rfl) (Or.inr ⟨_, _, rfl, oo_11_125⟩) (rx_CI.imp H (fun v246 σ245 H => ?_))
                                                                    by_cases c247 : v244 = v246
                                                                    · rw [if_pos c247] at H
                                                                      refine g_ic0t iL_law_1161 c247 ?_
                                                                      refine g_ii iL_law_1489 rfl ?_
                                                                      refine rx_Go.ls (la := [some (.inr 159), some (.inr 0), some (.inr 125), some (.inl (rx_w (x3 + 6)))]) rfl ?_
                                                                      refine g_goto iL_law_1492 ?_
                                                                      exact H
                                                                    · rw [if_neg c247] at H
                                                                      refine g_ic0f iL_law_1161 c247 ?_
                                                                      refine g_c iL_law_1164 ?_
                                                                      exact g_ri iL_law_1165 (by decide) H
                                                                  · rw [if_neg c239] at H
                                                                    by_cases c248 : (rx_alu 3 (σ 159 x3) 63) = 32
                                                                    · rw [if_pos c248] at H
                                                                      refine g_sw iL_law_33 (by simp only [rx_sw]; rw [if_neg c3, if_neg c11, if_neg c19, if_neg c28, if_neg c36, if_neg c45, if_neg c53, if_neg c61, if_neg c69, if_neg c78, if_neg c85, if_neg c93, if_neg c100, if_neg c106, if_neg c114, if_neg c121, if_neg c128, if_neg c135, if_neg c142, if_neg c149, if_neg c156, if_neg c163, if_neg c170, if_neg c178, if_neg c186, if_neg c193, if_neg c202, if_neg c209, if_neg c215, if_neg c223, if_neg c230, if_neg c239, if_pos c248]) ?_
                                                                      refine g_al iL_law_1166 rfl ?_
                                                                      refine g_al iL_law_1167 rfl ?_
                                                                      refine g_il iL_law_1168 rfl ?_
                                                                      refine g_c iL_law_1169 ?_
                                                                      refine g_add iL_law_1170 ?_
                                                                      obtain ⟨o249, H⟩ := H
                                                                      refine g_ld iL_law_1171 rfl o249 ?_
                                                                      refine g_ci (as := [.inr 0, .inl (σ 159 (rx_w (x3 + 1)))]) (rest := []) iL_law_1172 rfl rfl (Nat.le_of_ble_eq_true rfl) (Or.inr ⟨_, _, rfl, oo_10_0⟩) (rx_CI.imp H (fun v251 σ250 H => ?_))
                                                                      refine g_al iL_law_1175 rfl ?_
                                                                      refine g_al iL_law_1176 rfl ?_
                                                                      refine g_il iL_law_1177 rfl ?_
                                                                      refine g_c iL_law_1178 ?_
                                                                      refine g_add iL_law_1179 ?_
                                                                      refine g_ld iL_law_1180 rfl o249 ?_
                                                                      refine g_ci (as := [.inr 125, .inl (σ250 159 (rx_w (x3 + 1)))]) (rest := [.inl v251]) iL_law_1181 rfl rfl (Nat.le_of_ble_eq_true rfl) (Or.inr ⟨_, _, rfl, oo_11_125⟩) (rx_CI.imp H (fun v253 σ252 H => ?_))
                                                                      by_cases c254 : v251 = v253
                                                                      · rw [if_pos c254] at H
                                                                        refine g_ic0t iL_law_1184 c254 ?_
                                                                        refine g_ii iL_law_1489 rfl ?_
                                                                        refine rx_Go.ls (la := [some (.inr 159), some (.inr 0), some (.inr 125), some (.inl (rx_w (x3 + 6)))]) rfl ?_
                                                                        refine g_goto iL_law_1492 ?_
                                                                        exact H
                                                                      · rw [if_neg c254] at H
                                                                        refine g_ic0f iL_law_1184 c254 ?_
                                                                        refine g_c iL_law_1187 ?_
                                                                        exact g_ri iL_law_1188 (by decide) H
                                                                    · rw [if_neg c248] at H
                                                                      by_cases c255 : (rx_alu 3 (σ 159 x3) 63) = 33
                                                                      · rw [if_pos c255] at H
                                                                        refine g_sw iL_law_33 (by simp only [rx_sw]; rw [if_neg c3, if_neg c11, if_neg c19, if_neg c28, if_neg c36, if_neg c45, if_neg c53, if_neg c61, if_neg c69, if_neg c78, if_neg c85, if_neg c93, if_neg c100, if_neg c106, if_neg c114, if_neg c121, if_neg c128, if_neg c135, if_neg c142, if_neg c149, if_neg c156, if_neg c163, if_neg c170, if_neg c178, if_neg c186, if_neg c193, if_neg c202, if_neg c209, if_neg c215, if_neg c223, if_neg c230, if_neg c239, if_neg c248, if_pos c255]) ?_
                                                                        refine g_al iL_law_1189 rfl ?_
                                                                        refine g_al iL_law_1190 rfl ?_
                                                                        refine g_il iL_law_1191 rfl ?_
                                                                        refine g_c iL_law_1192 ?_
                                                                        refine g_add iL_law_1193 ?_
                                                                        obtain ⟨o256, H⟩ := H
                                                                        refine g_ld iL_law_1194 rfl o256 ?_
                                                                        refine g_al iL_law_1195 rfl ?_
                                                                        refine g_il iL_law_1196 rfl ?_
                                                                        refine g_c iL_law_1197 ?_
                                                                        refine g_add iL_law_1198 ?_
                                                                        obtain ⟨o257, H⟩ := H
                                                                        refine g_ld iL_law_1199 rfl o257 ?_
                                                                        refine g_al iL_law_1200 rfl ?_
                                                                        refine g_il iL_law_1201 rfl ?_
                                                                        refine g_c iL_law_1202 ?_
                                                                        refine g_add iL_law_1203 ?_
                                                                        obtain ⟨o258, H⟩ := H
                                                                        refine g_ld iL_law_1204 rfl o258 ?_
                                                                        refine g_al iL_law_1205 rfl ?_
                                                                        refine g_il iL_law_1206 rfl ?_
                                                                        refine g_c iL_law_1207 ?_
                                                                        refine g_add iL_law_1208 ?_
                                                                        obtain ⟨o259, H⟩ := H
                                                                        refine g_ld iL_law_1209 rfl o259 ?_
                                                                        refine g_al iL_law_1210 rfl ?_
                                                                        refine g_il iL_law_1211 rfl ?_
                                                                        refine g_c iL_law_1212 ?_
                                                                        refine g_add iL_law_1213 ?_
                                                                        obtain ⟨o260, H⟩ := H
                                                                        refine g_ld iL_law_1214 rfl o260 ?_
                                                                        refine g_ci (as := [.inr 0, .inl (σ 159 (rx_w (x3 + 1))), .inl (σ 159 (rx_w (x3 + 2))), .inl (σ 159 (rx_w (x3 + 3))), .inl (σ 159 (rx_w (x3 + 4))), .inl (σ 159 (rx_w (x3 + 5)))]) (rest := []) iL_law_1215 rfl rfl (Nat.le_of_ble_eq_true rfl) (Or.inr ⟨_, _, rfl, oo_10_0⟩) (rx_CI.imp H (fun v262 σ261 H => ?_))
                                                                        refine g_al iL_law_1218 rfl ?_
                                                                        refine g_al iL_law_1219 rfl ?_
                                                                        refine g_il iL_law_1220 rfl ?_
                                                                        refine g_c iL_law_1221 ?_
                                                                        refine g_add iL_law_1222 ?_
                                                                        refine g_ld iL_law_1223 rfl o256 ?_
                                                                        refine g_al iL_law_1224 rfl ?_
                                                                        refine g_il iL_law_1225 rfl ?_
                                                                        refine g_c iL_law_1226 ?_
                                                                        refine g_add iL_law_1227 ?_
                                                                        refine g_ld iL_law_1228 rfl o257 ?_
                                                                        refine g_al iL_law_1229 rfl ?_
                                                                        refine g_il iL_law_1230 rfl ?_
                                                                        refine g_c iL_law_1231 ?_
                                                                        refine g_add iL_law_1232 ?_
                                                                        refine g_ld iL_law_1233 rfl o258 ?_
                                                                        refine g_al iL_law_1234 rfl ?_
                                                                        refine g_il iL_law_1235 rfl ?_
                                                                        refine g_c iL_law_1236 ?_
                                                                        refine g_add iL_law_1237 ?_
                                                                        refine g_ld iL_law_1238 rfl o259 ?_
                                                                        refine g_al iL_law_1239 rfl ?_
                                                                        refine g_il iL_law_1240 rfl ?_
                                                                        refine g_c iL_law_1241 ?_
                                                                        refine g_add iL_law_1242 ?_
                                                                        refine g_ld iL_law_1243 rfl o260 ?_
                                                                        refine g_ci (as := [.inr 125, .inl (σ261 159 (rx_w (x3 + 1))), .inl (σ261 159 (rx_w (x3 + 2))), .inl (σ261 159 (rx_w (x3 + 3))), .inl (σ261 159 (rx_w (x3 + 4))), .inl (σ261 159 (rx_w (x3 + 5)))]) (rest := [.inl v262]) iL_law_1244 rfl rfl (Nat.le_of_ble_eq_true rfl) (Or.inr ⟨_, _, rfl, oo_11_125⟩) (rx_CI.imp H (fun v264 σ263 H => ?_))
                                                                        by_cases c265 : v262 = v264
                                                                        · rw [if_pos c265] at H
                                                                          refine g_ic0t iL_law_1247 c265 ?_
                                                                          refine g_ii iL_law_1489 rfl ?_
                                                                          refine rx_Go.ls (la := [some (.inr 159), some (.inr 0), some (.inr 125), some (.inl (rx_w (x3 + 6)))]) rfl ?_
                                                                          refine g_goto iL_law_1492 ?_
                                                                          exact H
                                                                        · rw [if_neg c265] at H
                                                                          refine g_ic0f iL_law_1247 c265 ?_
                                                                          refine g_c iL_law_1250 ?_
                                                                          exact g_ri iL_law_1251 (by decide) H
                                                                      · rw [if_neg c255] at H
                                                                        by_cases c266 : (rx_alu 3 (σ 159 x3) 63) = 34
                                                                        · rw [if_pos c266] at H
                                                                          refine g_sw iL_law_33 (by simp only [rx_sw]; rw [if_neg c3, if_neg c11, if_neg c19, if_neg c28, if_neg c36, if_neg c45, if_neg c53, if_neg c61, if_neg c69, if_neg c78, if_neg c85, if_neg c93, if_neg c100, if_neg c106, if_neg c114, if_neg c121, if_neg c128, if_neg c135, if_neg c142, if_neg c149, if_neg c156, if_neg c163, if_neg c170, if_neg c178, if_neg c186, if_neg c193, if_neg c202, if_neg c209, if_neg c215, if_neg c223, if_neg c230, if_neg c239, if_neg c248, if_neg c255, if_pos c266]) ?_
                                                                          refine g_al iL_law_1252 rfl ?_
                                                                          refine g_al iL_law_1253 rfl ?_
                                                                          refine g_il iL_law_1254 rfl ?_
                                                                          refine g_c iL_law_1255 ?_
                                                                          refine g_add iL_law_1256 ?_
                                                                          obtain ⟨o267, H⟩ := H
                                                                          refine g_ld iL_law_1257 rfl o267 ?_
                                                                          refine g_al iL_law_1258 rfl ?_
                                                                          refine g_il iL_law_1259 rfl ?_
                                                                          refine g_c iL_law_1260 ?_
                                                                          refine g_add iL_law_1261 ?_
                                                                          obtain ⟨o268, H⟩ := H
                                                                          refine g_ld iL_law_1262 rfl o268 ?_
                                                                          refine g_al iL_law_1263 rfl ?_
                                                                          refine g_il iL_law_1264 rfl ?_
                                                                          refine g_c iL_law_1265 ?_
                                                                          refine g_add iL_law_1266 ?_
                                                                          obtain ⟨o269, H⟩ := H
                                                                          refine g_ld iL_law_1267 rfl o269 ?_
                                                                          refine g_ci (as := [.inr 0, .inl (σ 159 (rx_w (x3 + 1))), .inl (σ 159 (rx_w (x3 + 2))), .inl (σ 159 (rx_w (x3 + 3)))]) (rest := []) iL_law_1268 rfl rfl (Nat.le_of_ble_eq_true rfl) (Or.inr ⟨_, _, rfl, oo_10_0⟩) (rx_CI.imp H (fun v271 σ270 H => ?_))
                                                                          refine g_al iL_law_1271 rfl ?_
                                                                          refine g_al iL_law_1272 rfl ?_
                                                                          refine g_il iL_law_1273 rfl ?_
                                                                          refine g_c iL_law_1274 ?_
                                                                          refine g_add iL_law_1275 ?_
                                                                          refine g_ld iL_law_1276 rfl o267 ?_
                                                                          refine g_al iL_law_1277 rfl ?_
                                                                          refine g_il iL_law_1278 rfl ?_
                                                                          refine g_c iL_law_1279 ?_
                                                                          refine g_add iL_law_1280 ?_
                                                                          refine g_ld iL_law_1281 rfl o268 ?_
                                                                          refine g_al iL_law_1282 rfl ?_
                                                                          refine g_il iL_law_1283 rfl ?_
                                                                          refine g_c iL_law_1284 ?_
                                                                          refine g_add iL_law_1285 ?_
                                                                          refine g_ld iL_law_1286 rfl o269 ?_
                                                                          refine g_ci (as := [.inr 125, .inl (σ270 159 (rx_w (x3 + 1))), .inl (σ270 159 (rx_w (x3 + 2))), .inl (σ270 159 (rx_w (x3 + 3)))]) (rest := [.inl v271]) iL_law_1287 rfl rfl (Nat.le_of_ble_eq_true rfl) (Or.inr ⟨_, _, rfl, oo_11_125⟩) (rx_CI.imp H (fun v273 σ272 H => ?_))
                                                                          by_cases c274 : v271 = v273
                                                                          · rw [if_pos c274] at H
                                                                            refine g_ic0t iL_law_1290 c274 ?_
                                                                            refine g_ii iL_law_1489 rfl ?_
                                                                            refine rx_Go.ls (la := [some (.inr 159), some (.inr 0), some (.inr 125), some (.inl (rx_w (x3 + 6)))]) rfl ?_
                                                                            refine g_goto iL_law_1492 ?_
                                                                            exact H
                                                                          · rw [if_neg c274] at H
                                                                            refine g_ic0f iL_law_1290 c274 ?_
                                                                            refine g_c iL_law_1293 ?_
                                                                            exact g_ri iL_law_1294 (by decide) H
                                                                        · rw [if_neg c266] at H
                                                                          by_cases c275 : (rx_alu 3 (σ 159 x3) 63) = 35
                                                                          · rw [if_pos c275] at H
                                                                            refine g_sw iL_law_33 (by simp only [rx_sw]; rw [if_neg c3, if_neg c11, if_neg c19, if_neg c28, if_neg c36, if_neg c45, if_neg c53, if_neg c61, if_neg c69, if_neg c78, if_neg c85, if_neg c93, if_neg c100, if_neg c106, if_neg c114, if_neg c121, if_neg c128, if_neg c135, if_neg c142, if_neg c149, if_neg c156, if_neg c163, if_neg c170, if_neg c178, if_neg c186, if_neg c193, if_neg c202, if_neg c209, if_neg c215, if_neg c223, if_neg c230, if_neg c239, if_neg c248, if_neg c255, if_neg c266, if_pos c275]) ?_
                                                                            refine g_al iL_law_1295 rfl ?_
                                                                            refine g_al iL_law_1296 rfl ?_
                                                                            refine g_il iL_law_1297 rfl ?_
                                                                            refine g_c iL_law_1298 ?_
                                                                            refine g_add iL_law_1299 ?_
                                                                            obtain ⟨o276, H⟩ := H
                                                                            refine g_ld iL_law_1300 rfl o276 ?_
                                                                            refine g_al iL_law_1301 rfl ?_
                                                                            refine g_il iL_law_1302 rfl ?_
                                                                            refine g_c iL_law_1303 ?_
                                                                            refine g_add iL_law_1304 ?_
                                                                            obtain ⟨o277, H⟩ := H
                                                                            refine g_ld iL_law_1305 rfl o277 ?_
                                                                            refine g_ci (as := [.inr 0, .inl (σ 159 (rx_w (x3 + 1))), .inl (σ 159 (rx_w (x3 + 2)))]) (rest := []) iL_law_1306 rfl rfl (Nat.le_of_ble_eq_true rfl) (Or.inr ⟨_, _, rfl, oo_10_0⟩) (rx_CI.imp H (fun v279 σ278 H => ?_))
                                                                            refine g_al iL_law_1309 rfl ?_
                                                                            refine g_al iL_law_1310 rfl ?_
                                                                            refine g_il iL_law_1311 rfl ?_
                                                                            refine g_c iL_law_1312 ?_
                                                                            refine g_add iL_law_1313 ?_
                                                                            refine g_ld iL_law_1314 rfl o276 ?_
                                                                            refine g_al iL_law_1315 rfl ?_
                                                                            refine g_il iL_law_1316 rfl ?_
                                                                            refine g_c iL_law_1317 ?_
                                                                            refine g_add iL_law_1318 ?_
                                                                            refine g_ld iL_law_1319 rfl o277 ?_
                                                                            refine g_ci (as := [.inr 125, .inl (σ278 159 (rx_w (x3 + 1))), .inl (σ278 159 (rx_w (x3 + 2)))]) (rest := [.inl v279]) iL_law_1320 rfl rfl (Nat.le_of_ble_eq_true rfl) (Or.inr ⟨_, _, rfl, oo_11_125⟩) (rx_CI.imp H (fun v281 σ280 H => ?_))
                                                                            by_cases c282 : v279 = v281
                                                                            · rw [if_pos c282] at H
                                                                              refine g_ic0t iL_law_1323 c282 ?_
                                                                              refine g_ii iL_law_1489 rfl ?_
                                                                              refine rx_Go.ls (la := [some (.inr 159), some (.inr 0), some (.inr 125), some (.inl (rx_w (x3 + 6)))]) rfl ?_
                                                                              refine g_goto iL_law_1492 ?_
                                                                              exact H
                                                                            · rw [if_neg c282] at H
                                                                              refine g_ic0f iL_law_1323 c282 ?_
                                                                              refine g_c iL_law_1326 ?_
                                                                              exact g_ri iL_law_1327 (by decide) H
                                                                          · rw [if_neg c275] at H
                                                                            by_cases c283 : (rx_alu 3 (σ 159 x3) 63) = 36
                                                                            · rw [if_pos c283] at H
                                                                              refine g_sw iL_law_33 (by simp only [rx_sw]; rw [if_neg c3, if_neg c11, if_neg c19, if_neg c28, if_neg c36, if_neg c45, if_neg c53, if_neg c61, if_neg c69, if_neg c78, if_neg c85, if_neg c93, if_neg c100, if_neg c106, if_neg c114, if_neg c121, if_neg c128, if_neg c135, if_neg c142, if_neg c149, if_neg c156, if_neg c163, if_neg c170, if_neg c178, if_neg c186, if_neg c193, if_neg c202, if_neg c209, if_neg c215, if_neg c223, if_neg c230, if_neg c239, if_neg c248, if_neg c255, if_neg c266, if_neg c275, if_pos c283]) ?_
                                                                              refine g_al iL_law_1328 rfl ?_
                                                                              refine g_al iL_law_1329 rfl ?_
                                                                              refine g_il iL_law_1330 rfl ?_
                                                                              refine g_c iL_law_1331 ?_
                                                                              refine g_add iL_law_1332 ?_
                                                                              obtain ⟨o284, H⟩ := H
                                                                              refine g_ld iL_law_1333 rfl o284 ?_
                                                                              refine g_al iL_law_1334 rfl ?_
                                                                              refine g_il iL_law_1335 rfl ?_
                                                                              refine g_c iL_law_1336 ?_
                                                                              refine g_add iL_law_1337 ?_
                                                                              obtain ⟨o285, H⟩ := H
                                                                              refine g_ld iL_law_1338 rfl o285 ?_
                                                                              refine g_ci (as := [.inr 0, .inl (σ 159 (rx_w (x3 + 1))), .inl (σ 159 (rx_w (x3 + 2)))]) (rest := []) iL_law_1339 rfl rfl (Nat.le_of_ble_eq_true rfl) (Or.inr ⟨_, _, rfl, oo_10_0⟩) (rx_CI.imp H (fun v287 σ286 H => ?_))
                                                                              refine g_al iL_law_1342 rfl ?_
                                                                              refine g_al iL_law_1343 rfl ?_
                                                                              refine g_il iL_law_1344 rfl ?_
                                                                              refine g_c iL_law_1345 ?_
                                                                              refine g_add iL_law_1346 ?_
                                                                              refine g_ld iL_law_1347 rfl o284 ?_
                                                                              refine g_al iL_law_1348 rfl ?_
                                                                              refine g_il iL_law_1349 rfl ?_
                                                                              refine g_c iL_law_1350 ?_
                                                                              refine g_add iL_law_1351 ?_
                                                                              refine g_ld iL_law_1352 rfl o285 ?_
                                                                              refine g_ci (as := [.inr 125, .inl (σ286 159 (rx_w (x3 + 1))), .inl (σ286 159 (rx_w (x3 + 2)))]) (rest := [.inl v287]) iL_law_1353 rfl rfl (Nat.le_of_ble_eq_true rfl) (Or.inr ⟨_, _, rfl, oo_11_125⟩) (rx_CI.imp H (fun v289 σ288 H => ?_))
                                                                              by_cases c290 : v287 = v289
                                                                              · rw [if_pos c290] at H
                                                                                refine g_ic0t iL_law_1356 c290 ?_
                                                                                refine g_ii iL_law_1489 rfl ?_
                                                                                refine rx_Go.ls (la := [some (.inr 159), some (.inr 0), some (.inr 125), some (.inl (rx_w (x3 + 6)))]) rfl ?_
                                                                                refine g_goto iL_law_1492 ?_
                                                                                exact H
                                                                              · rw [if_neg c290] at H
                                                                                refine g_ic0f iL_law_1356 c290 ?_
                                                                                refine g_c iL_law_1359 ?_
                                                                                exact g_ri iL_law_1360 (by decide) H
                                                                            · rw [if_neg c283] at H
                                                                              by_cases c291 : (rx_alu 3 (σ 159 x3) 63) = 37
                                                                              · rw [if_pos c291] at H
                                                                                refine g_sw iL_law_33 (by simp only [rx_sw]; rw [if_neg c3, if_neg c11, if_neg c19, if_neg c28, if_neg c36, if_neg c45, if_neg c53, if_neg c61, if_neg c69, if_neg c78, if_neg c85, if_neg c93, if_neg c100, if_neg c106, if_neg c114, if_neg c121, if_neg c128, if_neg c135, if_neg c142, if_neg c149, if_neg c156, if_neg c163, if_neg c170, if_neg c178, if_neg c186, if_neg c193, if_neg c202, if_neg c209, if_neg c215, if_neg c223, if_neg c230, if_neg c239, if_neg c248, if_neg c255, if_neg c266, if_neg c275, if_neg c283, if_pos c291]) ?_
                                                                                refine g_al iL_law_1361 rfl ?_
                                                                                refine g_al iL_law_1362 rfl ?_
                                                                                refine g_il iL_law_1363 rfl ?_
                                                                                refine g_c iL_law_1364 ?_
                                                                                refine g_add iL_law_1365 ?_
                                                                                obtain ⟨o292, H⟩ := H
                                                                                refine g_ld iL_law_1366 rfl o292 ?_
                                                                                refine g_al iL_law_1367 rfl ?_
                                                                                refine g_il iL_law_1368 rfl ?_
                                                                                refine g_c iL_law_1369 ?_
                                                                                refine g_add iL_law_1370 ?_
                                                                                obtain ⟨o293, H⟩ := H
                                                                                refine g_ld iL_law_1371 rfl o293 ?_
                                                                                refine g_ci (as := [.inr 0, .inl (σ 159 (rx_w (x3 + 1))), .inl (σ 159 (rx_w (x3 + 2)))]) (rest := []) iL_law_1372 rfl rfl (Nat.le_of_ble_eq_true rfl) (Or.inr ⟨_, _, rfl, oo_10_0⟩) (rx_CI.imp H (fun v295 σ294 H => ?_))
                                                                                refine g_al iL_law_1375 rfl ?_
                                                                                refine g_al iL_law_1376 rfl ?_
                                                                                refine g_il iL_law_1377 rfl ?_
                                                                                refine g_c iL_law_1378 ?_
                                                                                refine g_add iL_law_1379 ?_
                                                                                refine g_ld iL_law_1380 rfl o292 ?_
                                                                                refine g_al iL_law_1381 rfl ?_
                                                                                refine g_il iL_law_1382 rfl ?_
                                                                                refine g_c iL_law_1383 ?_
                                                                                refine g_add iL_law_1384 ?_
                                                                                refine g_ld iL_law_1385 rfl o293 ?_
                                                                                refine g_ci (as := [.inr 125, .inl (σ294 159 (rx_w (x3 + 1))), .inl (σ294 159 (rx_w (x3 + 2)))]) (rest := [.inl v295]) iL_law_1386 rfl rfl (Nat.le_of_ble_eq_true rfl) (Or.inr ⟨_, _, rfl, oo_11_125⟩) (rx_CI.imp H (fun v297 σ296 H => ?_))
                                                                                by_cases c298 : v295 = v297
                                                                                · rw [if_pos c298] at H
                                                                                  refine g_ic0t iL_law_1389 c298 ?_
                                                                                  refine g_ii iL_law_1489 rfl ?_
                                                                                  refine rx_Go.ls (la := [some (.inr 159), some (.inr 0), some (.inr 125), some (.inl (rx_w (x3 + 6)))]) rfl ?_
                                                                                  refine g_goto iL_law_1492 ?_
                                                                                  exact H
                                                                                · rw [if_neg c298] at H
                                                                                  refine g_ic0f iL_law_1389 c298 ?_
                                                                                  refine g_c iL_law_1392 ?_
                                                                                  exact g_ri iL_law_1393 (by decide) H
                                                                              · rw [if_neg c291] at H
                                                                                by_cases c299 : (rx_alu 3 (σ 159 x3) 63) = 38
                                                                                · rw [if_pos c299] at H
                                                                                  refine g_sw iL_law_33 (by simp only [rx_sw]; rw [if_neg c3, if_neg c11, if_neg c19, if_neg c28, if_neg c36, if_neg c45, if_neg c53, if_neg c61, if_neg c69, if_neg c78, if_neg c85, if_neg c93, if_neg c100, if_neg c106, if_neg c114, if_neg c121, if_neg c128, if_neg c135, if_neg c142, if_neg c149, if_neg c156, if_neg c163, if_neg c170, if_neg c178, if_neg c186, if_neg c193, if_neg c202, if_neg c209, if_neg c215, if_neg c223, if_neg c230, if_neg c239, if_neg c248, if_neg c255, if_neg c266, if_neg c275, if_neg c283, if_neg c291, if_pos c299]) ?_
                                                                                  refine g_al iL_law_1394 rfl ?_
                                                                                  refine g_al iL_law_1395 rfl ?_
                                                                                  refine g_il iL_law_1396 rfl ?_
                                                                                  refine g_c iL_law_1397 ?_
                                                                                  refine g_add iL_law_1398 ?_
                                                                                  obtain ⟨o300, H⟩ := H
                                                                                  refine g_ld iL_law_1399 rfl o300 ?_
                                                                                  refine g_ci (as := [.inr 0, .inl (σ 159 (rx_w (x3 + 1)))]) (rest := []) iL_law_1400 rfl rfl (Nat.le_of_ble_eq_true rfl) (Or.inr ⟨_, _, rfl, oo_10_0⟩) (rx_CI.imp H (fun v302 σ301 H => ?_))
                                                                                  refine g_al iL_law_1403 rfl ?_
                                                                                  refine g_al iL_law_1404 rfl ?_
                                                                                  refine g_il iL_law_1405 rfl ?_
                                                                                  refine g_c iL_law_1406 ?_
                                                                                  refine g_add iL_law_1407 ?_
                                                                                  refine g_ld iL_law_1408 rfl o300 ?_
                                                                                  refine g_ci (as := [.inr 125, .inl (σ301 159 (rx_w (x3 + 1)))]) (rest := [.inl v302]) iL_law_1409 rfl rfl (Nat.le_of_ble_eq_true rfl) (Or.inr ⟨_, _, rfl, oo_11_125⟩) (rx_CI.imp H (fun v304 σ303 H => ?_))
                                                                                  by_cases c305 : v302 = v304
                                                                                  · rw [if_pos c305] at H
                                                                                    refine g_ic0t iL_law_1412 c305 ?_
                                                                                    refine g_ii iL_law_1489 rfl ?_
                                                                                    refine rx_Go.ls (la := [some (.inr 159), some (.inr 0), some (.inr 125), some (.inl (rx_w (x3 + 6)))]) rfl ?_
                                                                                    refine g_goto iL_law_1492 ?_
                                                                                    exact H
                                                                                  · rw [if_neg c305] at H
                                                                                    refine g_ic0f iL_law_1412 c305 ?_
                                                                                    refine g_c iL_law_1415 ?_
                                                                                    exact g_ri iL_law_1416 (by decide) H
                                                                                · rw [if_neg c299] at H
                                                                                  by_cases c306 : (rx_alu 3 (σ 159 x3) 63) = 39
                                                                                  · rw [if_pos c306] at H
                                                                                    refine g_sw iL_law_33 (by simp only [rx_sw]; rw [if_neg c3, if_neg c11, if_neg c19, if_neg c28, if_neg c36, if_neg c45, if_neg c53, if_neg c61, if_neg c69, if_neg c78, if_neg c85, if_neg c93, if_neg c100, if_neg c106, if_neg c114, if_neg c121, if_neg c128, if_neg c135, if_neg c142, if_neg c149, if_neg c156, if_neg c163, if_neg c170, if_neg c178, if_neg c186, if_neg c193, if_neg c202, if_neg c209, if_neg c215, if_neg c223, if_neg c230, if_neg c239, if_neg c248, if_neg c255, if_neg c266, if_neg c275, if_neg c283, if_neg c291, if_neg c299, if_pos c306]) ?_
                                                                                    refine g_al iL_law_1417 rfl ?_
                                                                                    refine g_al iL_law_1418 rfl ?_
                                                                                    refine g_il iL_law_1419 rfl ?_
                                                                                    refine g_c iL_law_1420 ?_
                                                                                    refine g_add iL_law_1421 ?_
                                                                                    obtain ⟨o307, H⟩ := H
                                                                                    refine g_ld iL_law_1422 rfl o307 ?_
                                                                                    refine g_ci (as := [.inr 0, .inl (σ 159 (rx_w (x3 + 1)))]) (rest := []) iL_law_1423 rfl rfl (Nat.le_of_ble_eq_true rfl) (Or.inr ⟨_, _, rfl, oo_10_0⟩) (rx_CI.imp H (fun v309 σ308 H => ?_))
                                                                                    refine g_al iL_law_1426 rfl ?_
                                                                                    refine g_al iL_law_1427 rfl ?_
                                                                                    refine g_il iL_law_1428 rfl ?_
                                                                                    refine g_c iL_law_1429 ?_
                                                                                    refine g_add iL_law_1430 ?_
                                                                                    refine g_ld iL_law_1431 rfl o307 ?_
                                                                                    refine g_ci (as := [.inr 125, .inl (σ308 159 (rx_w (x3 + 1)))]) (rest := [.inl v309]) iL_law_1432 rfl rfl (Nat.le_of_ble_eq_true rfl) (Or.inr ⟨_, _, rfl, oo_11_125⟩) (rx_CI.imp H (fun v311 σ310 H => ?_))
                                                                                    by_cases c312 : v309 = v311
                                                                                    · rw [if_pos c312] at H
                                                                                      refine g_ic0t iL_law_1435 c312 ?_
                                                                                      refine g_ii iL_law_1489 rfl ?_
                                                                                      refine rx_Go.ls (la := [some (.inr 159), some (.inr 0), some (.inr 125), some (.inl (rx_w (x3 + 6)))]) rfl ?_
                                                                                      refine g_goto iL_law_1492 ?_
                                                                                      exact H
                                                                                    · rw [if_neg c312] at H
                                                                                      refine g_ic0f iL_law_1435 c312 ?_
                                                                                      refine g_c iL_law_1438 ?_
                                                                                      exact g_ri iL_law_1439 (by decide) H
                                                                                  · rw [if_neg c306] at H
                                                                                    by_cases c313 : (rx_alu 3 (σ 159 x3) 63) = 40
                                                                                    · rw [if_pos c313] at H
                                                                                      refine g_sw iL_law_33 (by simp only [rx_sw]; rw [if_neg c3, if_neg c11, if_neg c19, if_neg c28, if_neg c36, if_neg c45, if_neg c53, if_neg c61, if_neg c69, if_neg c78, if_neg c85, if_neg c93, if_neg c100, if_neg c106, if_neg c114, if_neg c121, if_neg c128, if_neg c135, if_neg c142, if_neg c149, if_neg c156, if_neg c163, if_neg c170, if_neg c178, if_neg c186, if_neg c193, if_neg c202, if_neg c209, if_neg c215, if_neg c223, if_neg c230, if_neg c239, if_neg c248, if_neg c255, if_neg c266, if_neg c275, if_neg c283, if_neg c291, if_neg c299, if_neg c306, if_pos c313]) ?_
                                                                                      refine g_al iL_law_1440 rfl ?_
                                                                                      refine g_ci (as := [.inr 0]) (rest := []) iL_law_1441 rfl rfl (Nat.le_of_ble_eq_true rfl) (Or.inr ⟨_, _, rfl, oo_10_0⟩) (rx_CI.imp H (fun v315 σ314 H => ?_))
                                                                                      refine g_al iL_law_1444 rfl ?_
                                                                                      refine g_ci (as := [.inr 125]) (rest := [.inl v315]) iL_law_1445 rfl rfl (Nat.le_of_ble_eq_true rfl) (Or.inr ⟨_, _, rfl, oo_11_125⟩) (rx_CI.imp H (fun v317 σ316 H => ?_))
                                                                                      by_cases c318 : v315 = v317
                                                                                      · rw [if_pos c318] at H
                                                                                        refine g_ic0t iL_law_1448 c318 ?_
                                                                                        refine g_ii iL_law_1489 rfl ?_
                                                                                        refine rx_Go.ls (la := [some (.inr 159), some (.inr 0), some (.inr 125), some (.inl (rx_w (x3 + 6)))]) rfl ?_
                                                                                        refine g_goto iL_law_1492 ?_
                                                                                        exact H
                                                                                      · rw [if_neg c318] at H
                                                                                        refine g_ic0f iL_law_1448 c318 ?_
                                                                                        refine g_c iL_law_1451 ?_
                                                                                        exact g_ri iL_law_1452 (by decide) H
                                                                                    · rw [if_neg c313] at H
                                                                                      by_cases c319 : (rx_alu 3 (σ 159 x3) 63) = 41
                                                                                      · rw [if_pos c319] at H
                                                                                        refine g_sw iL_law_33 (by simp only [rx_sw]; rw [if_neg c3, if_neg c11, if_neg c19, if_neg c28, if_neg c36, if_neg c45, if_neg c53, if_neg c61, if_neg c69, if_neg c78, if_neg c85, if_neg c93, if_neg c100, if_neg c106, if_neg c114, if_neg c121, if_neg c128, if_neg c135, if_neg c142, if_neg c149, if_neg c156, if_neg c163, if_neg c170, if_neg c178, if_neg c186, if_neg c193, if_neg c202, if_neg c209, if_neg c215, if_neg c223, if_neg c230, if_neg c239, if_neg c248, if_neg c255, if_neg c266, if_neg c275, if_neg c283, if_neg c291, if_neg c299, if_neg c306, if_neg c313, if_pos c319]) ?_
                                                                                        refine g_al iL_law_1453 rfl ?_
                                                                                        refine g_ci (as := [.inr 0]) (rest := []) iL_law_1454 rfl rfl (Nat.le_of_ble_eq_true rfl) (Or.inr ⟨_, _, rfl, oo_10_0⟩) (rx_CI.imp H (fun v321 σ320 H => ?_))
                                                                                        refine g_al iL_law_1457 rfl ?_
                                                                                        refine g_ci (as := [.inr 125]) (rest := [.inl v321]) iL_law_1458 rfl rfl (Nat.le_of_ble_eq_true rfl) (Or.inr ⟨_, _, rfl, oo_11_125⟩) (rx_CI.imp H (fun v323 σ322 H => ?_))
                                                                                        by_cases c324 : v321 = v323
                                                                                        · rw [if_pos c324] at H
                                                                                          refine g_ic0t iL_law_1461 c324 ?_
                                                                                          refine g_ii iL_law_1489 rfl ?_
                                                                                          refine rx_Go.ls (la := [some (.inr 159), some (.inr 0), some (.inr 125), some (.inl (rx_w (x3 + 6)))]) rfl ?_
                                                                                          refine g_goto iL_law_1492 ?_
                                                                                          exact H
                                                                                        · rw [if_neg c324] at H
                                                                                          refine g_ic0f iL_law_1461 c324 ?_
                                                                                          refine g_c iL_law_1464 ?_
                                                                                          exact g_ri iL_law_1465 (by decide) H
                                                                                      · rw [if_neg c319] at H
                                                                                        by_cases c325 : (rx_alu 3 (σ 159 x3) 63) = 42
                                                                                        · rw [if_pos c325] at H
                                                                                          refine g_sw iL_law_33 (by simp only [rx_sw]; rw [if_neg c3, if_neg c11, if_neg c19, if_neg c28, if_neg c36, if_neg c45, if_neg c53, if_neg c61, if_neg c69, if_neg c78, if_neg c85, if_neg c93, if_neg c100, if_neg c106, if_neg c114, if_neg c121, if_neg c128, if_neg c135, if_neg c142, if_neg c149, if_neg c156, if_neg c163, if_neg c170, if_neg c178, if_neg c186, if_neg c193, if_neg c202, if_neg c209, if_neg c215, if_neg c223, if_neg c230, if_neg c239, if_neg c248, if_neg c255, if_neg c266, if_neg c275, if_neg c283, if_neg c291, if_neg c299, if_neg c306, if_neg c313, if_neg c319, if_pos c325]) ?_
                                                                                          refine g_al iL_law_1466 rfl ?_
                                                                                          refine g_al iL_law_1467 rfl ?_
                                                                                          refine g_il iL_law_1468 rfl ?_
                                                                                          refine g_c iL_law_1469 ?_
                                                                                          refine g_add iL_law_1470 ?_
                                                                                          obtain ⟨o326, H⟩ := H
                                                                                          refine g_ld iL_law_1471 rfl o326 ?_
                                                                                          refine g_ci (as := [.inr 0, .inl (σ 159 (rx_w (x3 + 1)))]) (rest := []) iL_law_1472 rfl rfl (Nat.le_of_ble_eq_true rfl) (Or.inr ⟨_, _, rfl, oo_10_0⟩) (rx_CI.imp H (fun v328 σ327 H => ?_))
                                                                                          refine g_al iL_law_1475 rfl ?_
                                                                                          refine g_al iL_law_1476 rfl ?_
                                                                                          refine g_il iL_law_1477 rfl ?_
                                                                                          refine g_c iL_law_1478 ?_
                                                                                          refine g_add iL_law_1479 ?_
                                                                                          refine g_ld iL_law_1480 rfl o326 ?_
                                                                                          refine g_ci (as := [.inr 125, .inl (σ327 159 (rx_w (x3 + 1)))]) (rest := [.inl v328]) iL_law_1481 rfl rfl (Nat.le_of_ble_eq_true rfl) (Or.inr ⟨_, _, rfl, oo_11_125⟩) (rx_CI.imp H (fun v330 σ329 H => ?_))
                                                                                          by_cases c331 : v328 = v330
                                                                                          · rw [if_pos c331] at H
                                                                                            refine g_ic0t iL_law_1484 c331 ?_
                                                                                            refine g_ii iL_law_1489 rfl ?_
                                                                                            refine rx_Go.ls (la := [some (.inr 159), some (.inr 0), some (.inr 125), some (.inl (rx_w (x3 + 6)))]) rfl ?_
                                                                                            refine g_goto iL_law_1492 ?_
                                                                                            exact H
                                                                                          · rw [if_neg c331] at H
                                                                                            refine g_ic0f iL_law_1484 c331 ?_
                                                                                            refine g_c iL_law_1487 ?_
                                                                                            exact g_ri iL_law_1488 (by decide) H
                                                                                        · rw [if_neg c325] at H
                                                                                          refine g_sw (t := 1489) iL_law_33 (by simp only [rx_sw, c3, c11, c19, c28, c36, c45, c53, c61, c69, c78, c85, c93, c100, c106, c114, c121, c128, c135, c142, c149, c156, c163, c170, c178, c186, c193, c202, c209, c215, c223, c230, c239, c248, c255, c266, c275, c283, c291, c299, c306, c313, c319, c325, if_false]) ?_
                                                                                          refine g_ii iL_law_1489 rfl ?_
                                                                                          refine rx_Go.ls (la := [some (.inr 159), some (.inr 0), some (.inr 125), some (.inl (rx_w (x3 + 6)))]) rfl ?_
                                                                                          refine g_goto iL_law_1492 ?_
                                                                                          exact H
