-- ===== PART A: goes FIRST, ahead of the names: the tables' words, and 'selects' of the private methods out of them =====
/-- a private method of a class that the tables say can be made, by its rows of tables_1 -/
def lw_okq (q : MethodName × Nat) : Prop := (q.1.cls ≠ "java/lang/invoke/MethodHandle" ∧ q.1.cls ≠ "java/lang/invoke/VarHandle") ∧ Cond.instantiable q.1.cls q.2 ∈ tables_1 ∧ Cond.privateMethod q.1 ∈ tables_1 ∧ Cond.instanceMethod q.1 ∈ tables_1
theorem lw_p0 : lw_okq (⟨"RoadsCrossed$Land", "hasRoad", "(II)Z"⟩, 14) := ⟨⟨by decide +kernel, by decide +kernel⟩, List.mem_of_getElem? (i := 29) (by decide +kernel), List.mem_of_getElem? (i := 449) (by decide +kernel), List.mem_of_getElem? (i := 450) (by decide +kernel)⟩
theorem lw_p1 : lw_okq (⟨"RoadsCrossed$Land", "meetStraight", "(IIII)Z"⟩, 14) := ⟨⟨by decide +kernel, by decide +kernel⟩, List.mem_of_getElem? (i := 29) (by decide +kernel), List.mem_of_getElem? (i := 542) (by decide +kernel), List.mem_of_getElem? (i := 543) (by decide +kernel)⟩
theorem lw_p2 : lw_okq (⟨"RoadsCrossed$Land", "side", "(III)I"⟩, 14) := ⟨⟨by decide +kernel, by decide +kernel⟩, List.mem_of_getElem? (i := 29) (by decide +kernel), List.mem_of_getElem? (i := 549) (by decide +kernel), List.mem_of_getElem? (i := 550) (by decide +kernel)⟩
theorem lw_p3 : lw_okq (⟨"RoadsCrossed$Land", "meetInLayers", "(II)Z"⟩, 14) := ⟨⟨by decide +kernel, by decide +kernel⟩, List.mem_of_getElem? (i := 29) (by decide +kernel), List.mem_of_getElem? (i := 557) (by decide +kernel), List.mem_of_getElem? (i := 558) (by decide +kernel)⟩
theorem lw_p4 : lw_okq (⟨"RoadsCrossed$Land", "upperLayer", "(I)I"⟩, 14) := ⟨⟨by decide +kernel, by decide +kernel⟩, List.mem_of_getElem? (i := 29) (by decide +kernel), List.mem_of_getElem? (i := 561) (by decide +kernel), List.mem_of_getElem? (i := 562) (by decide +kernel)⟩
theorem lw_p5 : lw_okq (⟨"RoadsCrossed$Land", "endIn", "(II)I"⟩, 14) := ⟨⟨by decide +kernel, by decide +kernel⟩, List.mem_of_getElem? (i := 29) (by decide +kernel), List.mem_of_getElem? (i := 568) (by decide +kernel), List.mem_of_getElem? (i := 569) (by decide +kernel)⟩
theorem lw_p6 : lw_okq (⟨"RoadsCrossed", "dearestRoad", "()I"⟩, 14) := ⟨⟨by decide +kernel, by decide +kernel⟩, List.mem_of_getElem? (i := 21) (by decide +kernel), List.mem_of_getElem? (i := 576) (by decide +kernel), List.mem_of_getElem? (i := 577) (by decide +kernel)⟩
theorem lw_p7 : lw_okq (⟨"RoadsCrossed", "crossingsTold", "(II)I"⟩, 14) := ⟨⟨by decide +kernel, by decide +kernel⟩, List.mem_of_getElem? (i := 21) (by decide +kernel), List.mem_of_getElem? (i := 596) (by decide +kernel), List.mem_of_getElem? (i := 597) (by decide +kernel)⟩
theorem lw_p8 : lw_okq (⟨"RoadsCrossed$Land", "isParted", "(I)Z"⟩, 14) := ⟨⟨by decide +kernel, by decide +kernel⟩, List.mem_of_getElem? (i := 29) (by decide +kernel), List.mem_of_getElem? (i := 613) (by decide +kernel), List.mem_of_getElem? (i := 614) (by decide +kernel)⟩
theorem lw_p9 : lw_okq (⟨"RoadsCrossed$LineSearch", "costOfNext", "([[III)I"⟩, 6) := ⟨⟨by decide +kernel, by decide +kernel⟩, List.mem_of_getElem? (i := 236) (by decide +kernel), List.mem_of_getElem? (i := 722) (by decide +kernel), List.mem_of_getElem? (i := 723) (by decide +kernel)⟩
theorem lw_p10 : lw_okq (⟨"RoadsCrossed$LineSearch", "costOfOpen", "([III)I"⟩, 6) := ⟨⟨by decide +kernel, by decide +kernel⟩, List.mem_of_getElem? (i := 236) (by decide +kernel), List.mem_of_getElem? (i := 726) (by decide +kernel), List.mem_of_getElem? (i := 727) (by decide +kernel)⟩
theorem lw_p11 : lw_okq (⟨"RoadsCrossed$RowSearch", "collect", "(LRoadsCrossed$Land;I)V"⟩, 5) := ⟨⟨by decide +kernel, by decide +kernel⟩, List.mem_of_getElem? (i := 264) (by decide +kernel), List.mem_of_getElem? (i := 746) (by decide +kernel), List.mem_of_getElem? (i := 747) (by decide +kernel)⟩
theorem lw_p12 : lw_okq (⟨"RoadsCrossed$RowSearch", "nextOrder", "()Z"⟩, 5) := ⟨⟨by decide +kernel, by decide +kernel⟩, List.mem_of_getElem? (i := 264) (by decide +kernel), List.mem_of_getElem? (i := 754) (by decide +kernel), List.mem_of_getElem? (i := 755) (by decide +kernel)⟩
theorem lw_p13 : lw_okq (⟨"RoadsCrossed$RowSearch", "exchange", "(II)V"⟩, 5) := ⟨⟨by decide +kernel, by decide +kernel⟩, List.mem_of_getElem? (i := 264) (by decide +kernel), List.mem_of_getElem? (i := 758) (by decide +kernel), List.mem_of_getElem? (i := 759) (by decide +kernel)⟩
theorem lw_p14 : lw_okq (⟨"RoadsCrossed$Land", "draw", "(I)I"⟩, 14) := ⟨⟨by decide +kernel, by decide +kernel⟩, List.mem_of_getElem? (i := 29) (by decide +kernel), List.mem_of_getElem? (i := 770) (by decide +kernel), List.mem_of_getElem? (i := 771) (by decide +kernel)⟩
theorem lw_p15 : lw_okq (⟨"RoadsCrossed$Reader", "next", "()V"⟩, 10) := ⟨⟨by decide +kernel, by decide +kernel⟩, List.mem_of_getElem? (i := 109) (by decide +kernel), List.mem_of_getElem? (i := 808) (by decide +kernel), List.mem_of_getElem? (i := 809) (by decide +kernel)⟩
def lw_privs_1 : List (MethodName × Nat) := [(⟨"RoadsCrossed$Land", "hasRoad", "(II)Z"⟩, 14), (⟨"RoadsCrossed$Land", "meetStraight", "(IIII)Z"⟩, 14), (⟨"RoadsCrossed$Land", "side", "(III)I"⟩, 14), (⟨"RoadsCrossed$Land", "meetInLayers", "(II)Z"⟩, 14), (⟨"RoadsCrossed$Land", "upperLayer", "(I)I"⟩, 14), (⟨"RoadsCrossed$Land", "endIn", "(II)I"⟩, 14), (⟨"RoadsCrossed", "dearestRoad", "()I"⟩, 14), (⟨"RoadsCrossed", "crossingsTold", "(II)I"⟩, 14), (⟨"RoadsCrossed$Land", "isParted", "(I)Z"⟩, 14), (⟨"RoadsCrossed$LineSearch", "costOfNext", "([[III)I"⟩, 6), (⟨"RoadsCrossed$LineSearch", "costOfOpen", "([III)I"⟩, 6), (⟨"RoadsCrossed$RowSearch", "collect", "(LRoadsCrossed$Land;I)V"⟩, 5), (⟨"RoadsCrossed$RowSearch", "nextOrder", "()Z"⟩, 5), (⟨"RoadsCrossed$RowSearch", "exchange", "(II)V"⟩, 5), (⟨"RoadsCrossed$Land", "draw", "(I)I"⟩, 14), (⟨"RoadsCrossed$Reader", "next", "()V"⟩, 10)]
theorem lw_r1 : ∀ q ∈ lw_privs_1, lw_okq q := List.forall_mem_cons.mpr ⟨lw_p0, List.forall_mem_cons.mpr ⟨lw_p1, List.forall_mem_cons.mpr ⟨lw_p2, List.forall_mem_cons.mpr ⟨lw_p3, List.forall_mem_cons.mpr ⟨lw_p4, List.forall_mem_cons.mpr ⟨lw_p5, List.forall_mem_cons.mpr ⟨lw_p6, List.forall_mem_cons.mpr ⟨lw_p7, List.forall_mem_cons.mpr ⟨lw_p8, List.forall_mem_cons.mpr ⟨lw_p9, List.forall_mem_cons.mpr ⟨lw_p10, List.forall_mem_cons.mpr ⟨lw_p11, List.forall_mem_cons.mpr ⟨lw_p12, List.forall_mem_cons.mpr ⟨lw_p13, List.forall_mem_cons.mpr ⟨lw_p14, List.forall_mem_cons.mpr ⟨lw_p15, fun _ h => absurd h List.not_mem_nil⟩⟩⟩⟩⟩⟩⟩⟩⟩⟩⟩⟩⟩⟩⟩⟩
theorem lw_p16 : lw_okq (⟨"RoadsCrossed$Reader", "behindRow", "(III)I"⟩, 10) := ⟨⟨by decide +kernel, by decide +kernel⟩, List.mem_of_getElem? (i := 109) (by decide +kernel), List.mem_of_getElem? (i := 812) (by decide +kernel), List.mem_of_getElem? (i := 813) (by decide +kernel)⟩
theorem lw_p17 : lw_okq (⟨"RoadsCrossed$Reader", "keyHere", "()I"⟩, 10) := ⟨⟨by decide +kernel, by decide +kernel⟩, List.mem_of_getElem? (i := 109) (by decide +kernel), List.mem_of_getElem? (i := 819) (by decide +kernel), List.mem_of_getElem? (i := 820) (by decide +kernel)⟩
theorem lw_p18 : lw_okq (⟨"RoadsCrossed$Reader", "isHere", "(Ljava/lang/String;)Z"⟩, 10) := ⟨⟨by decide +kernel, by decide +kernel⟩, List.mem_of_getElem? (i := 109) (by decide +kernel), List.mem_of_getElem? (i := 824) (by decide +kernel), List.mem_of_getElem? (i := 825) (by decide +kernel)⟩
theorem lw_p19 : lw_okq (⟨"RoadsCrossed$Reader", "fail", "()V"⟩, 10) := ⟨⟨by decide +kernel, by decide +kernel⟩, List.mem_of_getElem? (i := 109) (by decide +kernel), List.mem_of_getElem? (i := 878) (by decide +kernel), List.mem_of_getElem? (i := 879) (by decide +kernel)⟩
theorem lw_p20 : lw_okq (⟨"RoadsCrossed$Reader", "chain", "(III)V"⟩, 10) := ⟨⟨by decide +kernel, by decide +kernel⟩, List.mem_of_getElem? (i := 109) (by decide +kernel), List.mem_of_getElem? (i := 882) (by decide +kernel), List.mem_of_getElem? (i := 883) (by decide +kernel)⟩
theorem lw_p21 : lw_okq (⟨"RoadsCrossed$Reader", "piece", "(II)V"⟩, 10) := ⟨⟨by decide +kernel, by decide +kernel⟩, List.mem_of_getElem? (i := 109) (by decide +kernel), List.mem_of_getElem? (i := 886) (by decide +kernel), List.mem_of_getElem? (i := 887) (by decide +kernel)⟩
theorem lw_p22 : lw_okq (⟨"RoadsCrossed$Reader", "numberHere", "()I"⟩, 10) := ⟨⟨by decide +kernel, by decide +kernel⟩, List.mem_of_getElem? (i := 109) (by decide +kernel), List.mem_of_getElem? (i := 890) (by decide +kernel), List.mem_of_getElem? (i := 891) (by decide +kernel)⟩
theorem lw_p23 : lw_okq (⟨"RoadsCrossed$Reader", "writeLeaf", "(I)V"⟩, 10) := ⟨⟨by decide +kernel, by decide +kernel⟩, List.mem_of_getElem? (i := 109) (by decide +kernel), List.mem_of_getElem? (i := 894) (by decide +kernel), List.mem_of_getElem? (i := 895) (by decide +kernel)⟩
theorem lw_p24 : lw_okq (⟨"RoadsCrossed$Reader", "write", "(I)V"⟩, 10) := ⟨⟨by decide +kernel, by decide +kernel⟩, List.mem_of_getElem? (i := 109) (by decide +kernel), List.mem_of_getElem? (i := 898) (by decide +kernel), List.mem_of_getElem? (i := 899) (by decide +kernel)⟩
theorem lw_p25 : lw_okq (⟨"RoadsCrossed$Reader", "nameHere", "()I"⟩, 10) := ⟨⟨by decide +kernel, by decide +kernel⟩, List.mem_of_getElem? (i := 109) (by decide +kernel), List.mem_of_getElem? (i := 902) (by decide +kernel), List.mem_of_getElem? (i := 903) (by decide +kernel)⟩
theorem lw_p26 : lw_okq (⟨"RoadsCrossed", "checkSwapsTold", "(II)I"⟩, 14) := ⟨⟨by decide +kernel, by decide +kernel⟩, List.mem_of_getElem? (i := 21) (by decide +kernel), List.mem_of_getElem? (i := 995) (by decide +kernel), List.mem_of_getElem? (i := 996) (by decide +kernel)⟩
theorem lw_p27 : lw_okq (⟨"RoadsCrossedModel", "postAt", "(II)I"⟩, 49) := ⟨⟨by decide +kernel, by decide +kernel⟩, List.mem_of_getElem? (i := 1011) (by decide +kernel), List.mem_of_getElem? (i := 1178) (by decide +kernel), List.mem_of_getElem? (i := 1179) (by decide +kernel)⟩
theorem lw_p28 : lw_okq (⟨"RoadsCrossedModel", "xOf", "(I)I"⟩, 49) := ⟨⟨by decide +kernel, by decide +kernel⟩, List.mem_of_getElem? (i := 1011) (by decide +kernel), List.mem_of_getElem? (i := 1182) (by decide +kernel), List.mem_of_getElem? (i := 1183) (by decide +kernel)⟩
theorem lw_p29 : lw_okq (⟨"RoadsCrossedModel", "yOf", "(I)I"⟩, 49) := ⟨⟨by decide +kernel, by decide +kernel⟩, List.mem_of_getElem? (i := 1011) (by decide +kernel), List.mem_of_getElem? (i := 1186) (by decide +kernel), List.mem_of_getElem? (i := 1187) (by decide +kernel)⟩
theorem lw_p30 : lw_okq (⟨"RoadsCrossedModel", "comes", "(II)I"⟩, 49) := ⟨⟨by decide +kernel, by decide +kernel⟩, List.mem_of_getElem? (i := 1011) (by decide +kernel), List.mem_of_getElem? (i := 1192) (by decide +kernel), List.mem_of_getElem? (i := 1193) (by decide +kernel)⟩
theorem lw_p31 : lw_okq (⟨"RoadsCrossedModel", "isPost", "(I)Z"⟩, 49) := ⟨⟨by decide +kernel, by decide +kernel⟩, List.mem_of_getElem? (i := 1011) (by decide +kernel), List.mem_of_getElem? (i := 1200) (by decide +kernel), List.mem_of_getElem? (i := 1201) (by decide +kernel)⟩
def lw_privs_2 : List (MethodName × Nat) := [(⟨"RoadsCrossed$Reader", "behindRow", "(III)I"⟩, 10), (⟨"RoadsCrossed$Reader", "keyHere", "()I"⟩, 10), (⟨"RoadsCrossed$Reader", "isHere", "(Ljava/lang/String;)Z"⟩, 10), (⟨"RoadsCrossed$Reader", "fail", "()V"⟩, 10), (⟨"RoadsCrossed$Reader", "chain", "(III)V"⟩, 10), (⟨"RoadsCrossed$Reader", "piece", "(II)V"⟩, 10), (⟨"RoadsCrossed$Reader", "numberHere", "()I"⟩, 10), (⟨"RoadsCrossed$Reader", "writeLeaf", "(I)V"⟩, 10), (⟨"RoadsCrossed$Reader", "write", "(I)V"⟩, 10), (⟨"RoadsCrossed$Reader", "nameHere", "()I"⟩, 10), (⟨"RoadsCrossed", "checkSwapsTold", "(II)I"⟩, 14), (⟨"RoadsCrossedModel", "postAt", "(II)I"⟩, 49), (⟨"RoadsCrossedModel", "xOf", "(I)I"⟩, 49), (⟨"RoadsCrossedModel", "yOf", "(I)I"⟩, 49), (⟨"RoadsCrossedModel", "comes", "(II)I"⟩, 49), (⟨"RoadsCrossedModel", "isPost", "(I)Z"⟩, 49)]
theorem lw_r2 : ∀ q ∈ lw_privs_2, lw_okq q := List.forall_mem_cons.mpr ⟨lw_p16, List.forall_mem_cons.mpr ⟨lw_p17, List.forall_mem_cons.mpr ⟨lw_p18, List.forall_mem_cons.mpr ⟨lw_p19, List.forall_mem_cons.mpr ⟨lw_p20, List.forall_mem_cons.mpr ⟨lw_p21, List.forall_mem_cons.mpr ⟨lw_p22, List.forall_mem_cons.mpr ⟨lw_p23, List.forall_mem_cons.mpr ⟨lw_p24, List.forall_mem_cons.mpr ⟨lw_p25, List.forall_mem_cons.mpr ⟨lw_p26, List.forall_mem_cons.mpr ⟨lw_p27, List.forall_mem_cons.mpr ⟨lw_p28, List.forall_mem_cons.mpr ⟨lw_p29, List.forall_mem_cons.mpr ⟨lw_p30, List.forall_mem_cons.mpr ⟨lw_p31, fun _ h => absurd h List.not_mem_nil⟩⟩⟩⟩⟩⟩⟩⟩⟩⟩⟩⟩⟩⟩⟩⟩
theorem lw_p32 : lw_okq (⟨"RoadsCrossedModel", "placeOf", "(I)I"⟩, 49) := ⟨⟨by decide +kernel, by decide +kernel⟩, List.mem_of_getElem? (i := 1011) (by decide +kernel), List.mem_of_getElem? (i := 1204) (by decide +kernel), List.mem_of_getElem? (i := 1205) (by decide +kernel)⟩
theorem lw_p33 : lw_okq (⟨"RoadsCrossedModel", "isFrom", "(II)Z"⟩, 49) := ⟨⟨by decide +kernel, by decide +kernel⟩, List.mem_of_getElem? (i := 1011) (by decide +kernel), List.mem_of_getElem? (i := 1208) (by decide +kernel), List.mem_of_getElem? (i := 1209) (by decide +kernel)⟩
theorem lw_p34 : lw_okq (⟨"RoadsCrossedModel", "lesser", "(I)I"⟩, 49) := ⟨⟨by decide +kernel, by decide +kernel⟩, List.mem_of_getElem? (i := 1011) (by decide +kernel), List.mem_of_getElem? (i := 1212) (by decide +kernel), List.mem_of_getElem? (i := 1213) (by decide +kernel)⟩
theorem lw_p35 : lw_okq (⟨"RoadsCrossedModel", "of", "(II)I"⟩, 49) := ⟨⟨by decide +kernel, by decide +kernel⟩, List.mem_of_getElem? (i := 1011) (by decide +kernel), List.mem_of_getElem? (i := 1216) (by decide +kernel), List.mem_of_getElem? (i := 1217) (by decide +kernel)⟩
theorem lw_p36 : lw_okq (⟨"RoadsCrossedModel", "greater", "(I)I"⟩, 49) := ⟨⟨by decide +kernel, by decide +kernel⟩, List.mem_of_getElem? (i := 1011) (by decide +kernel), List.mem_of_getElem? (i := 1220) (by decide +kernel), List.mem_of_getElem? (i := 1221) (by decide +kernel)⟩
theorem lw_p37 : lw_okq (⟨"RoadsCrossedModel", "layerOf", "(I)I"⟩, 49) := ⟨⟨by decide +kernel, by decide +kernel⟩, List.mem_of_getElem? (i := 1011) (by decide +kernel), List.mem_of_getElem? (i := 1232) (by decide +kernel), List.mem_of_getElem? (i := 1233) (by decide +kernel)⟩
theorem lw_p38 : lw_okq (⟨"RoadsCrossedModel", "isBetween", "(II)Z"⟩, 49) := ⟨⟨by decide +kernel, by decide +kernel⟩, List.mem_of_getElem? (i := 1011) (by decide +kernel), List.mem_of_getElem? (i := 1240) (by decide +kernel), List.mem_of_getElem? (i := 1241) (by decide +kernel)⟩
theorem lw_p39 : lw_okq (⟨"RoadsCrossedModel", "goes", "(IIII)I"⟩, 49) := ⟨⟨by decide +kernel, by decide +kernel⟩, List.mem_of_getElem? (i := 1011) (by decide +kernel), List.mem_of_getElem? (i := 1244) (by decide +kernel), List.mem_of_getElem? (i := 1245) (by decide +kernel)⟩
theorem lw_p40 : lw_okq (⟨"RoadsCrossedModel", "isRoad", "(I)Z"⟩, 49) := ⟨⟨by decide +kernel, by decide +kernel⟩, List.mem_of_getElem? (i := 1011) (by decide +kernel), List.mem_of_getElem? (i := 1252) (by decide +kernel), List.mem_of_getElem? (i := 1253) (by decide +kernel)⟩
theorem lw_p41 : lw_okq (⟨"RoadsCrossedModel", "harmOf", "(I)I"⟩, 49) := ⟨⟨by decide +kernel, by decide +kernel⟩, List.mem_of_getElem? (i := 1011) (by decide +kernel), List.mem_of_getElem? (i := 1256) (by decide +kernel), List.mem_of_getElem? (i := 1257) (by decide +kernel)⟩
theorem lw_p42 : lw_okq (⟨"RoadsCrossedModel", "counts", "(I)I"⟩, 49) := ⟨⟨by decide +kernel, by decide +kernel⟩, List.mem_of_getElem? (i := 1011) (by decide +kernel), List.mem_of_getElem? (i := 1260) (by decide +kernel), List.mem_of_getElem? (i := 1261) (by decide +kernel)⟩
theorem lw_p43 : lw_okq (⟨"RoadsCrossedModel", "worksOut", "(I)I"⟩, 49) := ⟨⟨by decide +kernel, by decide +kernel⟩, List.mem_of_getElem? (i := 1011) (by decide +kernel), List.mem_of_getElem? (i := 1264) (by decide +kernel), List.mem_of_getElem? (i := 1265) (by decide +kernel)⟩
theorem lw_p44 : lw_okq (⟨"RoadsCrossedModel", "becomes", "(III)I"⟩, 49) := ⟨⟨by decide +kernel, by decide +kernel⟩, List.mem_of_getElem? (i := 1011) (by decide +kernel), List.mem_of_getElem? (i := 1289) (by decide +kernel), List.mem_of_getElem? (i := 1290) (by decide +kernel)⟩
theorem lw_p45 : lw_okq (⟨"RoadsCrossedModel", "doCross", "(II)Z"⟩, 49) := ⟨⟨by decide +kernel, by decide +kernel⟩, List.mem_of_getElem? (i := 1011) (by decide +kernel), List.mem_of_getElem? (i := 1305) (by decide +kernel), List.mem_of_getElem? (i := 1306) (by decide +kernel)⟩
theorem lw_p46 : lw_okq (⟨"RoadsCrossedModel", "areApart", "(II)Z"⟩, 49) := ⟨⟨by decide +kernel, by decide +kernel⟩, List.mem_of_getElem? (i := 1011) (by decide +kernel), List.mem_of_getElem? (i := 1309) (by decide +kernel), List.mem_of_getElem? (i := 1310) (by decide +kernel)⟩
theorem lw_p47 : lw_okq (⟨"RoadsCrossedModel", "sideOf", "(III)I"⟩, 49) := ⟨⟨by decide +kernel, by decide +kernel⟩, List.mem_of_getElem? (i := 1011) (by decide +kernel), List.mem_of_getElem? (i := 1313) (by decide +kernel), List.mem_of_getElem? (i := 1314) (by decide +kernel)⟩
def lw_privs_3 : List (MethodName × Nat) := [(⟨"RoadsCrossedModel", "placeOf", "(I)I"⟩, 49), (⟨"RoadsCrossedModel", "isFrom", "(II)Z"⟩, 49), (⟨"RoadsCrossedModel", "lesser", "(I)I"⟩, 49), (⟨"RoadsCrossedModel", "of", "(II)I"⟩, 49), (⟨"RoadsCrossedModel", "greater", "(I)I"⟩, 49), (⟨"RoadsCrossedModel", "layerOf", "(I)I"⟩, 49), (⟨"RoadsCrossedModel", "isBetween", "(II)Z"⟩, 49), (⟨"RoadsCrossedModel", "goes", "(IIII)I"⟩, 49), (⟨"RoadsCrossedModel", "isRoad", "(I)Z"⟩, 49), (⟨"RoadsCrossedModel", "harmOf", "(I)I"⟩, 49), (⟨"RoadsCrossedModel", "counts", "(I)I"⟩, 49), (⟨"RoadsCrossedModel", "worksOut", "(I)I"⟩, 49), (⟨"RoadsCrossedModel", "becomes", "(III)I"⟩, 49), (⟨"RoadsCrossedModel", "doCross", "(II)Z"⟩, 49), (⟨"RoadsCrossedModel", "areApart", "(II)Z"⟩, 49), (⟨"RoadsCrossedModel", "sideOf", "(III)I"⟩, 49)]
theorem lw_r3 : ∀ q ∈ lw_privs_3, lw_okq q := List.forall_mem_cons.mpr ⟨lw_p32, List.forall_mem_cons.mpr ⟨lw_p33, List.forall_mem_cons.mpr ⟨lw_p34, List.forall_mem_cons.mpr ⟨lw_p35, List.forall_mem_cons.mpr ⟨lw_p36, List.forall_mem_cons.mpr ⟨lw_p37, List.forall_mem_cons.mpr ⟨lw_p38, List.forall_mem_cons.mpr ⟨lw_p39, List.forall_mem_cons.mpr ⟨lw_p40, List.forall_mem_cons.mpr ⟨lw_p41, List.forall_mem_cons.mpr ⟨lw_p42, List.forall_mem_cons.mpr ⟨lw_p43, List.forall_mem_cons.mpr ⟨lw_p44, List.forall_mem_cons.mpr ⟨lw_p45, List.forall_mem_cons.mpr ⟨lw_p46, List.forall_mem_cons.mpr ⟨lw_p47, fun _ h => absurd h List.not_mem_nil⟩⟩⟩⟩⟩⟩⟩⟩⟩⟩⟩⟩⟩⟩⟩⟩
theorem lw_p48 : lw_okq (⟨"RoadsCrossedModel", "isOn", "(III)Z"⟩, 49) := ⟨⟨by decide +kernel, by decide +kernel⟩, List.mem_of_getElem? (i := 1011) (by decide +kernel), List.mem_of_getElem? (i := 1320) (by decide +kernel), List.mem_of_getElem? (i := 1321) (by decide +kernel)⟩
theorem lw_p49 : lw_okq (⟨"RoadsCrossedModel", "findPairs", "()V"⟩, 49) := ⟨⟨by decide +kernel, by decide +kernel⟩, List.mem_of_getElem? (i := 1011) (by decide +kernel), List.mem_of_getElem? (i := 1330) (by decide +kernel), List.mem_of_getElem? (i := 1331) (by decide +kernel)⟩
theorem lw_p50 : lw_okq (⟨"RoadsCrossedModel", "straightly", "(ZI)I"⟩, 49) := ⟨⟨by decide +kernel, by decide +kernel⟩, List.mem_of_getElem? (i := 1011) (by decide +kernel), List.mem_of_getElem? (i := 1334) (by decide +kernel), List.mem_of_getElem? (i := 1335) (by decide +kernel)⟩
theorem lw_p51 : lw_okq (⟨"RoadsCrossedModel", "isParted", "()Z"⟩, 49) := ⟨⟨by decide +kernel, by decide +kernel⟩, List.mem_of_getElem? (i := 1011) (by decide +kernel), List.mem_of_getElem? (i := 1343) (by decide +kernel), List.mem_of_getElem? (i := 1344) (by decide +kernel)⟩
theorem lw_p52 : lw_okq (⟨"RoadsCrossedModel", "costBehind", "(II)I"⟩, 49) := ⟨⟨by decide +kernel, by decide +kernel⟩, List.mem_of_getElem? (i := 1011) (by decide +kernel), List.mem_of_getElem? (i := 1351) (by decide +kernel), List.mem_of_getElem? (i := 1352) (by decide +kernel)⟩
theorem lw_p53 : lw_okq (⟨"RoadsCrossedModel", "swap", "(II)V"⟩, 49) := ⟨⟨by decide +kernel, by decide +kernel⟩, List.mem_of_getElem? (i := 1011) (by decide +kernel), List.mem_of_getElem? (i := 1355) (by decide +kernel), List.mem_of_getElem? (i := 1356) (by decide +kernel)⟩
theorem lw_p54 : lw_okq (⟨"RoadsCrossedModel", "findSwap", "()V"⟩, 49) := ⟨⟨by decide +kernel, by decide +kernel⟩, List.mem_of_getElem? (i := 1011) (by decide +kernel), List.mem_of_getElem? (i := 1363) (by decide +kernel), List.mem_of_getElem? (i := 1364) (by decide +kernel)⟩
theorem lw_p55 : lw_okq (⟨"RoadsCrossedModel", "maySwap", "(II)Z"⟩, 49) := ⟨⟨by decide +kernel, by decide +kernel⟩, List.mem_of_getElem? (i := 1011) (by decide +kernel), List.mem_of_getElem? (i := 1367) (by decide +kernel), List.mem_of_getElem? (i := 1368) (by decide +kernel)⟩
theorem lw_p56 : lw_okq (⟨"RoadsCrossedModel", "findPlaces", "()V"⟩, 49) := ⟨⟨by decide +kernel, by decide +kernel⟩, List.mem_of_getElem? (i := 1011) (by decide +kernel), List.mem_of_getElem? (i := 1392) (by decide +kernel), List.mem_of_getElem? (i := 1393) (by decide +kernel)⟩
theorem lw_p57 : lw_okq (⟨"RoadsCrossedModel", "doPass", "(II)Z"⟩, 49) := ⟨⟨by decide +kernel, by decide +kernel⟩, List.mem_of_getElem? (i := 1011) (by decide +kernel), List.mem_of_getElem? (i := 1396) (by decide +kernel), List.mem_of_getElem? (i := 1397) (by decide +kernel)⟩
theorem lw_p58 : lw_okq (⟨"RoadsCrossedModel", "isWithin", "(III)Z"⟩, 49) := ⟨⟨by decide +kernel, by decide +kernel⟩, List.mem_of_getElem? (i := 1011) (by decide +kernel), List.mem_of_getElem? (i := 1400) (by decide +kernel), List.mem_of_getElem? (i := 1401) (by decide +kernel)⟩
theorem lw_p59 : lw_okq (⟨"RoadsCrossedModel", "findPasses", "()V"⟩, 49) := ⟨⟨by decide +kernel, by decide +kernel⟩, List.mem_of_getElem? (i := 1011) (by decide +kernel), List.mem_of_getElem? (i := 1408) (by decide +kernel), List.mem_of_getElem? (i := 1409) (by decide +kernel)⟩
theorem lw_p60 : lw_okq (⟨"RoadsCrossedModel", "mutual", "()I"⟩, 49) := ⟨⟨by decide +kernel, by decide +kernel⟩, List.mem_of_getElem? (i := 1011) (by decide +kernel), List.mem_of_getElem? (i := 1412) (by decide +kernel), List.mem_of_getElem? (i := 1413) (by decide +kernel)⟩
theorem lw_p61 : lw_okq (⟨"RoadsCrossedModel", "hasTwo", "(I)Z"⟩, 49) := ⟨⟨by decide +kernel, by decide +kernel⟩, List.mem_of_getElem? (i := 1011) (by decide +kernel), List.mem_of_getElem? (i := 1416) (by decide +kernel), List.mem_of_getElem? (i := 1417) (by decide +kernel)⟩
theorem lw_p62 : lw_okq (⟨"RoadsCrossedModel", "fillsPages", "(I)Z"⟩, 49) := ⟨⟨by decide +kernel, by decide +kernel⟩, List.mem_of_getElem? (i := 1011) (by decide +kernel), List.mem_of_getElem? (i := 1420) (by decide +kernel), List.mem_of_getElem? (i := 1421) (by decide +kernel)⟩
theorem lw_p63 : lw_okq (⟨"RoadsCrossedModel", "lastPage", "(I)I"⟩, 49) := ⟨⟨by decide +kernel, by decide +kernel⟩, List.mem_of_getElem? (i := 1011) (by decide +kernel), List.mem_of_getElem? (i := 1424) (by decide +kernel), List.mem_of_getElem? (i := 1425) (by decide +kernel)⟩
def lw_privs_4 : List (MethodName × Nat) := [(⟨"RoadsCrossedModel", "isOn", "(III)Z"⟩, 49), (⟨"RoadsCrossedModel", "findPairs", "()V"⟩, 49), (⟨"RoadsCrossedModel", "straightly", "(ZI)I"⟩, 49), (⟨"RoadsCrossedModel", "isParted", "()Z"⟩, 49), (⟨"RoadsCrossedModel", "costBehind", "(II)I"⟩, 49), (⟨"RoadsCrossedModel", "swap", "(II)V"⟩, 49), (⟨"RoadsCrossedModel", "findSwap", "()V"⟩, 49), (⟨"RoadsCrossedModel", "maySwap", "(II)Z"⟩, 49), (⟨"RoadsCrossedModel", "findPlaces", "()V"⟩, 49), (⟨"RoadsCrossedModel", "doPass", "(II)Z"⟩, 49), (⟨"RoadsCrossedModel", "isWithin", "(III)Z"⟩, 49), (⟨"RoadsCrossedModel", "findPasses", "()V"⟩, 49), (⟨"RoadsCrossedModel", "mutual", "()I"⟩, 49), (⟨"RoadsCrossedModel", "hasTwo", "(I)Z"⟩, 49), (⟨"RoadsCrossedModel", "fillsPages", "(I)Z"⟩, 49), (⟨"RoadsCrossedModel", "lastPage", "(I)I"⟩, 49)]
theorem lw_r4 : ∀ q ∈ lw_privs_4, lw_okq q := List.forall_mem_cons.mpr ⟨lw_p48, List.forall_mem_cons.mpr ⟨lw_p49, List.forall_mem_cons.mpr ⟨lw_p50, List.forall_mem_cons.mpr ⟨lw_p51, List.forall_mem_cons.mpr ⟨lw_p52, List.forall_mem_cons.mpr ⟨lw_p53, List.forall_mem_cons.mpr ⟨lw_p54, List.forall_mem_cons.mpr ⟨lw_p55, List.forall_mem_cons.mpr ⟨lw_p56, List.forall_mem_cons.mpr ⟨lw_p57, List.forall_mem_cons.mpr ⟨lw_p58, List.forall_mem_cons.mpr ⟨lw_p59, List.forall_mem_cons.mpr ⟨lw_p60, List.forall_mem_cons.mpr ⟨lw_p61, List.forall_mem_cons.mpr ⟨lw_p62, List.forall_mem_cons.mpr ⟨lw_p63, fun _ h => absurd h List.not_mem_nil⟩⟩⟩⟩⟩⟩⟩⟩⟩⟩⟩⟩⟩⟩⟩⟩
theorem lw_p64 : lw_okq (⟨"RoadsCrossedModel", "fitsPage", "(I)Z"⟩, 49) := ⟨⟨by decide +kernel, by decide +kernel⟩, List.mem_of_getElem? (i := 1011) (by decide +kernel), List.mem_of_getElem? (i := 1428) (by decide +kernel), List.mem_of_getElem? (i := 1429) (by decide +kernel)⟩
theorem lw_p65 : lw_okq (⟨"RoadsCrossedModel", "findBestLine", "()V"⟩, 49) := ⟨⟨by decide +kernel, by decide +kernel⟩, List.mem_of_getElem? (i := 1011) (by decide +kernel), List.mem_of_getElem? (i := 1436) (by decide +kernel), List.mem_of_getElem? (i := 1437) (by decide +kernel)⟩
theorem lw_p66 : lw_okq (⟨"RoadsCrossedModel", "closes", "(II)I"⟩, 49) := ⟨⟨by decide +kernel, by decide +kernel⟩, List.mem_of_getElem? (i := 1011) (by decide +kernel), List.mem_of_getElem? (i := 1440) (by decide +kernel), List.mem_of_getElem? (i := 1441) (by decide +kernel)⟩
theorem lw_p67 : lw_okq (⟨"RoadsCrossedModel", "layered", "(Z)I"⟩, 49) := ⟨⟨by decide +kernel, by decide +kernel⟩, List.mem_of_getElem? (i := 1011) (by decide +kernel), List.mem_of_getElem? (i := 1448) (by decide +kernel), List.mem_of_getElem? (i := 1449) (by decide +kernel)⟩
theorem lw_p68 : lw_okq (⟨"RoadsCrossedModel", "layerFrom", "(I)I"⟩, 49) := ⟨⟨by decide +kernel, by decide +kernel⟩, List.mem_of_getElem? (i := 1011) (by decide +kernel), List.mem_of_getElem? (i := 1452) (by decide +kernel), List.mem_of_getElem? (i := 1453) (by decide +kernel)⟩
theorem lw_p69 : lw_okq (⟨"RoadsCrossedModel", "endIn", "(II)I"⟩, 49) := ⟨⟨by decide +kernel, by decide +kernel⟩, List.mem_of_getElem? (i := 1011) (by decide +kernel), List.mem_of_getElem? (i := 1456) (by decide +kernel), List.mem_of_getElem? (i := 1457) (by decide +kernel)⟩
theorem lw_p70 : lw_okq (⟨"RoadsCrossedModel", "findMembers", "(I)V"⟩, 49) := ⟨⟨by decide +kernel, by decide +kernel⟩, List.mem_of_getElem? (i := 1011) (by decide +kernel), List.mem_of_getElem? (i := 1464) (by decide +kernel), List.mem_of_getElem? (i := 1465) (by decide +kernel)⟩
theorem lw_p71 : lw_okq (⟨"RoadsCrossedModel", "sits", "(II)V"⟩, 49) := ⟨⟨by decide +kernel, by decide +kernel⟩, List.mem_of_getElem? (i := 1011) (by decide +kernel), List.mem_of_getElem? (i := 1468) (by decide +kernel), List.mem_of_getElem? (i := 1469) (by decide +kernel)⟩
theorem lw_p72 : lw_okq (⟨"RoadsCrossedModel", "drawsPost", "()I"⟩, 49) := ⟨⟨by decide +kernel, by decide +kernel⟩, List.mem_of_getElem? (i := 1011) (by decide +kernel), List.mem_of_getElem? (i := 1476) (by decide +kernel), List.mem_of_getElem? (i := 1477) (by decide +kernel)⟩
theorem lw_p73 : lw_okq (⟨"RoadsCrossedModel", "draw", "()I"⟩, 49) := ⟨⟨by decide +kernel, by decide +kernel⟩, List.mem_of_getElem? (i := 1011) (by decide +kernel), List.mem_of_getElem? (i := 1480) (by decide +kernel), List.mem_of_getElem? (i := 1481) (by decide +kernel)⟩
theorem lw_p74 : lw_okq (⟨"RoadsCrossedModel", "drawsRoad", "()I"⟩, 49) := ⟨⟨by decide +kernel, by decide +kernel⟩, List.mem_of_getElem? (i := 1011) (by decide +kernel), List.mem_of_getElem? (i := 1485) (by decide +kernel), List.mem_of_getElem? (i := 1486) (by decide +kernel)⟩
theorem lw_p75 : lw_okq (⟨"RoadsCrossedModel", "go", "()V"⟩, 49) := ⟨⟨by decide +kernel, by decide +kernel⟩, List.mem_of_getElem? (i := 1011) (by decide +kernel), List.mem_of_getElem? (i := 1505) (by decide +kernel), List.mem_of_getElem? (i := 1506) (by decide +kernel)⟩
theorem lw_p76 : lw_okq (⟨"RoadsCrossedModel", "isLetter", "(I)Z"⟩, 49) := ⟨⟨by decide +kernel, by decide +kernel⟩, List.mem_of_getElem? (i := 1011) (by decide +kernel), List.mem_of_getElem? (i := 1509) (by decide +kernel), List.mem_of_getElem? (i := 1510) (by decide +kernel)⟩
theorem lw_p77 : lw_okq (⟨"RoadsCrossedModel", "isFigure", "(I)Z"⟩, 49) := ⟨⟨by decide +kernel, by decide +kernel⟩, List.mem_of_getElem? (i := 1011) (by decide +kernel), List.mem_of_getElem? (i := 1513) (by decide +kernel), List.mem_of_getElem? (i := 1514) (by decide +kernel)⟩
theorem lw_p78 : lw_okq (⟨"RoadsCrossedModel", "takesKey", "()Z"⟩, 49) := ⟨⟨by decide +kernel, by decide +kernel⟩, List.mem_of_getElem? (i := 1011) (by decide +kernel), List.mem_of_getElem? (i := 1517) (by decide +kernel), List.mem_of_getElem? (i := 1518) (by decide +kernel)⟩
theorem lw_p79 : lw_okq (⟨"RoadsCrossedModel", "takesE", "()Z"⟩, 49) := ⟨⟨by decide +kernel, by decide +kernel⟩, List.mem_of_getElem? (i := 1011) (by decide +kernel), List.mem_of_getElem? (i := 1521) (by decide +kernel), List.mem_of_getElem? (i := 1522) (by decide +kernel)⟩
def lw_privs_5 : List (MethodName × Nat) := [(⟨"RoadsCrossedModel", "fitsPage", "(I)Z"⟩, 49), (⟨"RoadsCrossedModel", "findBestLine", "()V"⟩, 49), (⟨"RoadsCrossedModel", "closes", "(II)I"⟩, 49), (⟨"RoadsCrossedModel", "layered", "(Z)I"⟩, 49), (⟨"RoadsCrossedModel", "layerFrom", "(I)I"⟩, 49), (⟨"RoadsCrossedModel", "endIn", "(II)I"⟩, 49), (⟨"RoadsCrossedModel", "findMembers", "(I)V"⟩, 49), (⟨"RoadsCrossedModel", "sits", "(II)V"⟩, 49), (⟨"RoadsCrossedModel", "drawsPost", "()I"⟩, 49), (⟨"RoadsCrossedModel", "draw", "()I"⟩, 49), (⟨"RoadsCrossedModel", "drawsRoad", "()I"⟩, 49), (⟨"RoadsCrossedModel", "go", "()V"⟩, 49), (⟨"RoadsCrossedModel", "isLetter", "(I)Z"⟩, 49), (⟨"RoadsCrossedModel", "isFigure", "(I)Z"⟩, 49), (⟨"RoadsCrossedModel", "takesKey", "()Z"⟩, 49), (⟨"RoadsCrossedModel", "takesE", "()Z"⟩, 49)]
theorem lw_r5 : ∀ q ∈ lw_privs_5, lw_okq q := List.forall_mem_cons.mpr ⟨lw_p64, List.forall_mem_cons.mpr ⟨lw_p65, List.forall_mem_cons.mpr ⟨lw_p66, List.forall_mem_cons.mpr ⟨lw_p67, List.forall_mem_cons.mpr ⟨lw_p68, List.forall_mem_cons.mpr ⟨lw_p69, List.forall_mem_cons.mpr ⟨lw_p70, List.forall_mem_cons.mpr ⟨lw_p71, List.forall_mem_cons.mpr ⟨lw_p72, List.forall_mem_cons.mpr ⟨lw_p73, List.forall_mem_cons.mpr ⟨lw_p74, List.forall_mem_cons.mpr ⟨lw_p75, List.forall_mem_cons.mpr ⟨lw_p76, List.forall_mem_cons.mpr ⟨lw_p77, List.forall_mem_cons.mpr ⟨lw_p78, List.forall_mem_cons.mpr ⟨lw_p79, fun _ h => absurd h List.not_mem_nil⟩⟩⟩⟩⟩⟩⟩⟩⟩⟩⟩⟩⟩⟩⟩⟩
theorem lw_p80 : lw_okq (⟨"RoadsCrossedModel", "takesPart", "()Z"⟩, 49) := ⟨⟨by decide +kernel, by decide +kernel⟩, List.mem_of_getElem? (i := 1011) (by decide +kernel), List.mem_of_getElem? (i := 1525) (by decide +kernel), List.mem_of_getElem? (i := 1526) (by decide +kernel)⟩
theorem lw_p81 : lw_okq (⟨"RoadsCrossedModel", "nameOf", "(I)I"⟩, 49) := ⟨⟨by decide +kernel, by decide +kernel⟩, List.mem_of_getElem? (i := 1011) (by decide +kernel), List.mem_of_getElem? (i := 1529) (by decide +kernel), List.mem_of_getElem? (i := 1530) (by decide +kernel)⟩
theorem lw_p82 : lw_okq (⟨"RoadsCrossedModel", "settle", "(I)V"⟩, 49) := ⟨⟨by decide +kernel, by decide +kernel⟩, List.mem_of_getElem? (i := 1011) (by decide +kernel), List.mem_of_getElem? (i := 1533) (by decide +kernel), List.mem_of_getElem? (i := 1534) (by decide +kernel)⟩
theorem lw_p83 : lw_okq (⟨"RoadsCrossedModel", "notsOpen", "()I"⟩, 49) := ⟨⟨by decide +kernel, by decide +kernel⟩, List.mem_of_getElem? (i := 1011) (by decide +kernel), List.mem_of_getElem? (i := 1540) (by decide +kernel), List.mem_of_getElem? (i := 1541) (by decide +kernel)⟩
theorem lw_p84 : lw_okq (⟨"RoadsCrossedModel", "signHere", "()I"⟩, 49) := ⟨⟨by decide +kernel, by decide +kernel⟩, List.mem_of_getElem? (i := 1011) (by decide +kernel), List.mem_of_getElem? (i := 1544) (by decide +kernel), List.mem_of_getElem? (i := 1545) (by decide +kernel)⟩
theorem lw_p85 : lw_okq (⟨"RoadsCrossedModel", "rightSwaps", "(II)I"⟩, 49) := ⟨⟨by decide +kernel, by decide +kernel⟩, List.mem_of_getElem? (i := 1011) (by decide +kernel), List.mem_of_getElem? (i := 1605) (by decide +kernel), List.mem_of_getElem? (i := 1606) (by decide +kernel)⟩
def lw_privs_6 : List (MethodName × Nat) := [(⟨"RoadsCrossedModel", "takesPart", "()Z"⟩, 49), (⟨"RoadsCrossedModel", "nameOf", "(I)I"⟩, 49), (⟨"RoadsCrossedModel", "settle", "(I)V"⟩, 49), (⟨"RoadsCrossedModel", "notsOpen", "()I"⟩, 49), (⟨"RoadsCrossedModel", "signHere", "()I"⟩, 49), (⟨"RoadsCrossedModel", "rightSwaps", "(II)I"⟩, 49)]
theorem lw_r6 : ∀ q ∈ lw_privs_6, lw_okq q := List.forall_mem_cons.mpr ⟨lw_p80, List.forall_mem_cons.mpr ⟨lw_p81, List.forall_mem_cons.mpr ⟨lw_p82, List.forall_mem_cons.mpr ⟨lw_p83, List.forall_mem_cons.mpr ⟨lw_p84, List.forall_mem_cons.mpr ⟨lw_p85, fun _ h => absurd h List.not_mem_nil⟩⟩⟩⟩⟩⟩
def lw_privs : List (MethodName × Nat) := lw_privs_1 ++ (lw_privs_2 ++ (lw_privs_3 ++ (lw_privs_4 ++ (lw_privs_5 ++ (lw_privs_6)))))
def lw_tbl : List Cond := k2_sels lw_privs ++ tables_1
theorem lw_privs_ok : ∀ q ∈ lw_privs, lw_okq q := by
  show ∀ q ∈ lw_privs_1 ++ (lw_privs_2 ++ (lw_privs_3 ++ (lw_privs_4 ++ (lw_privs_5 ++ (lw_privs_6))))), lw_okq q
  exact List.forall_mem_append.mpr ⟨lw_r1, List.forall_mem_append.mpr ⟨lw_r2, List.forall_mem_append.mpr ⟨lw_r3, List.forall_mem_append.mpr ⟨lw_r4, List.forall_mem_append.mpr ⟨lw_r5, lw_r6⟩⟩⟩⟩⟩
def RX0 : String := "RoadsCrossed$Costs"
def TX0 : u_T := fun k => match k with
  | 0 => ("RoadsCrossed$Costs", "laws", "LRoadsCrossed$Laws;", true)
  | 1 => ("RoadsCrossed$Costs", "harms", "[I", true)
  | _ => ("RoadsCrossed$Costs", "ofTwo", "[[I", true)
def tyX0 : Nat → FieldType := fun k => match k with
  | 0 => .object "RoadsCrossed$Laws"
  | 1 => .array .int
  | _ => .array (.array .int)
abbrev wsX00 : List Cond := u_ws RX0 TX0 3
theorem nmX0 : ∀ a, a < 3 → ∀ b, b < 3 → a ≠ b → (TX0 a).2.1 ≠ (TX0 b).2.1 := by decide +kernel
theorem tyX0_ok : ∀ k, k < 3 → parseFieldDescriptor (TX0 k).2.2.1 = some (tyX0 k) := by decide +kernel
abbrev cX0_init : ByteArray := prog_2_method_1_code
def yX0_init : MethodName := ⟨RX0, "<init>", "()V"⟩
abbrev cX0_harmOf : ByteArray := prog_2_method_2_code
def yX0_harmOf : MethodName := ⟨RX0, "harmOf", "(LRoadsCrossed$Land;I)I"⟩
abbrev cX0_reckon : ByteArray := prog_2_method_3_code
def yX0_reckon : MethodName := ⟨RX0, "reckon", "(LRoadsCrossed$Land;)V"⟩
abbrev cX0_sum : ByteArray := prog_2_method_4_code
def yX0_sum : MethodName := ⟨RX0, "sum", "(LRoadsCrossed$Land;II)I"⟩
abbrev cX0_straightSumOf : ByteArray := prog_2_method_5_code
def yX0_straightSumOf : MethodName := ⟨RX0, "straightSumOf", "(LRoadsCrossed$Land;I)I"⟩
def RX1 : String := "RoadsCrossed$Land"
def TX1 : u_T := fun k => match k with
  | 0 => ("RoadsCrossed$Land", "posts", "I", false)
  | 1 => ("RoadsCrossed$Land", "x", "[I", true)
  | 2 => ("RoadsCrossed$Land", "y", "[I", true)
  | 3 => ("RoadsCrossed$Land", "layer", "[I", true)
  | 4 => ("RoadsCrossed$Land", "line", "[I", true)
  | 5 => ("RoadsCrossed$Land", "place", "[I", true)
  | 6 => ("RoadsCrossed$Land", "roads", "I", false)
  | 7 => ("RoadsCrossed$Land", "kind", "[I", true)
  | 8 => ("RoadsCrossed$Land", "low", "[I", true)
  | 9 => ("RoadsCrossed$Land", "high", "[I", true)
  | 10 => ("RoadsCrossed$Land", "weight", "[I", true)
  | 11 => ("RoadsCrossed$Land", "page", "[I", true)
  | 12 => ("RoadsCrossed$Land", "texts", "I", false)
  | _ => ("RoadsCrossed$Land", "z", "I", false)
def tyX1 : Nat → FieldType := fun k => match k with
  | 0 => .int
  | 1 => .array .int
  | 2 => .array .int
  | 3 => .array .int
  | 4 => .array .int
  | 5 => .array .int
  | 6 => .int
  | 7 => .array .int
  | 8 => .array .int
  | 9 => .array .int
  | 10 => .array .int
  | 11 => .array .int
  | 12 => .int
  | _ => .int
abbrev wsX10 : List Cond := u_ws RX1 TX1 14
theorem nmX1 : ∀ a, a < 14 → ∀ b, b < 14 → a ≠ b → (TX1 a).2.1 ≠ (TX1 b).2.1 := by decide +kernel
theorem tyX1_ok : ∀ k, k < 14 → parseFieldDescriptor (TX1 k).2.2.1 = some (tyX1 k) := by decide +kernel
abbrev cX1_init : ByteArray := prog_3_method_1_code
def yX1_init : MethodName := ⟨RX1, "<init>", "()V"⟩
abbrev cX1_takeFrom : ByteArray := prog_3_method_2_code
def yX1_takeFrom : MethodName := ⟨RX1, "takeFrom", "(LRoadsCrossed$Land;)V"⟩
abbrev cX1_takeRow : ByteArray := prog_3_method_3_code
def yX1_takeRow : MethodName := ⟨RX1, "takeRow", "([I[I)V"⟩
abbrev cX1_isPost : ByteArray := prog_3_method_4_code
def yX1_isPost : MethodName := ⟨RX1, "isPost", "(I)Z"⟩
abbrev cX1_isRoad : ByteArray := prog_3_method_5_code
def yX1_isRoad : MethodName := ⟨RX1, "isRoad", "(I)Z"⟩
abbrev cX1_postAt : ByteArray := prog_3_method_6_code
def yX1_postAt : MethodName := ⟨RX1, "postAt", "(II)I"⟩
abbrev cX1_postRefusal : ByteArray := prog_3_method_7_code
def yX1_postRefusal : MethodName := ⟨RX1, "postRefusal", "(II)I"⟩
abbrev cX1_addPost : ByteArray := prog_3_method_8_code
def yX1_addPost : MethodName := ⟨RX1, "addPost", "(II)I"⟩
abbrev cX1_putInLine : ByteArray := prog_3_method_9_code
def yX1_putInLine : MethodName := ⟨RX1, "putInLine", "(II)V"⟩
abbrev cX1_swapPosts : ByteArray := prog_3_method_10_code
def yX1_swapPosts : MethodName := ⟨RX1, "swapPosts", "(II)V"⟩
abbrev cX1_postsOf : ByteArray := prog_3_method_11_code
def yX1_postsOf : MethodName := ⟨RX1, "postsOf", "(I)I"⟩
abbrev cX1_roadsFrom : ByteArray := prog_3_method_12_code
def yX1_roadsFrom : MethodName := ⟨RX1, "roadsFrom", "(I)I"⟩
abbrev cX1_hasRoad : ByteArray := prog_3_method_13_code
def yX1_hasRoad : MethodName := ⟨RX1, "hasRoad", "(II)Z"⟩
abbrev cX1_roadRefusal : ByteArray := prog_3_method_14_code
def yX1_roadRefusal : MethodName := ⟨RX1, "roadRefusal", "(II)I"⟩
abbrev cX1_addRoad : ByteArray := prog_3_method_15_code
def yX1_addRoad : MethodName := ⟨RX1, "addRoad", "(IIII)I"⟩
abbrev cX1_dropRoad : ByteArray := prog_3_method_16_code
def yX1_dropRoad : MethodName := ⟨RX1, "dropRoad", "(I)V"⟩
abbrev cX1_draw : ByteArray := prog_3_method_17_code
def yX1_draw : MethodName := ⟨RX1, "draw", "(I)I"⟩
abbrev cX1_drawPost : ByteArray := prog_3_method_18_code
def yX1_drawPost : MethodName := ⟨RX1, "drawPost", "()Z"⟩
abbrev cX1_drawRoad : ByteArray := prog_3_method_19_code
def yX1_drawRoad : MethodName := ⟨RX1, "drawRoad", "()Z"⟩
abbrev cX1_isTwoSided : ByteArray := prog_3_method_20_code
def yX1_isTwoSided : MethodName := ⟨RX1, "isTwoSided", "()Z"⟩
abbrev cX1_isParted : ByteArray := prog_3_method_21_code
def yX1_isParted : MethodName := ⟨RX1, "isParted", "(I)Z"⟩
abbrev cX1_pairsThatMeet : ByteArray := prog_3_method_22_code
def yX1_pairsThatMeet : MethodName := ⟨RX1, "pairsThatMeet", "(I)I"⟩
abbrev cX1_meet : ByteArray := prog_3_method_23_code
def yX1_meet : MethodName := ⟨RX1, "meet", "(III)Z"⟩
abbrev cX1_shareEnd : ByteArray := prog_3_method_24_code
def yX1_shareEnd : MethodName := ⟨RX1, "shareEnd", "(II)Z"⟩
abbrev cX1_meetStraight : ByteArray := prog_3_method_25_code
def yX1_meetStraight : MethodName := ⟨RX1, "meetStraight", "(IIII)Z"⟩
abbrev cX1_areApart : ByteArray := prog_3_method_26_code
def yX1_areApart : MethodName := ⟨RX1, "areApart", "(IIII)Z"⟩
abbrev cX1_side : ByteArray := prog_3_method_27_code
def yX1_side : MethodName := ⟨RX1, "side", "(III)I"⟩
abbrev cX1_meetInLine : ByteArray := prog_3_method_28_code
def yX1_meetInLine : MethodName := ⟨RX1, "meetInLine", "(II)Z"⟩
abbrev cX1_meetInLayers : ByteArray := prog_3_method_29_code
def yX1_meetInLayers : MethodName := ⟨RX1, "meetInLayers", "(II)Z"⟩
abbrev cX1_upperLayer : ByteArray := prog_3_method_30_code
def yX1_upperLayer : MethodName := ⟨RX1, "upperLayer", "(I)I"⟩
abbrev cX1_endIn : ByteArray := prog_3_method_31_code
def yX1_endIn : MethodName := ⟨RX1, "endIn", "(II)I"⟩
def RX2 : String := "RoadsCrossed$Laws"
def TX2 : u_T := fun k => match k with
  | 0 => ("RoadsCrossed$Laws", "keys", "[I", true)
  | 1 => ("RoadsCrossed$Laws", "leaves", "[I", true)
  | 2 => ("RoadsCrossed$Laws", "lengths", "[I", true)
  | 3 => ("RoadsCrossed$Laws", "codes", "[[I", true)
  | _ => ("RoadsCrossed$Laws", "stack", "[I", true)
def tyX2 : Nat → FieldType := fun k => match k with
  | 0 => .array .int
  | 1 => .array .int
  | 2 => .array .int
  | 3 => .array (.array .int)
  | _ => .array .int
abbrev wsX20 : List Cond := u_ws RX2 TX2 5
theorem nmX2 : ∀ a, a < 5 → ∀ b, b < 5 → a ≠ b → (TX2 a).2.1 ≠ (TX2 b).2.1 := by decide +kernel
theorem tyX2_ok : ∀ k, k < 5 → parseFieldDescriptor (TX2 k).2.2.1 = some (tyX2 k) := by decide +kernel
abbrev cX2_init : ByteArray := prog_4_method_1_code
def yX2_init : MethodName := ⟨RX2, "<init>", "()V"⟩
abbrev cX2_put : ByteArray := prog_4_method_2_code
def yX2_put : MethodName := ⟨RX2, "put", "(ILRoadsCrossed$Reader;)V"⟩
abbrev cX2_lastOf : ByteArray := prog_4_method_3_code
def yX2_lastOf : MethodName := ⟨RX2, "lastOf", "(II)I"⟩
abbrev cX2_answer : ByteArray := prog_4_method_4_code
def yX2_answer : MethodName := ⟨RX2, "answer", "(IIII)I"⟩
abbrev cX2_valueOf : ByteArray := prog_4_method_5_code
def yX2_valueOf : MethodName := ⟨RX2, "valueOf", "(IIII)I"⟩
abbrev cX2_apply : ByteArray := prog_4_method_6_code
def yX2_apply : MethodName := ⟨RX2, "apply", "(III)I"⟩
def RX3 : String := "RoadsCrossed$LineSearch"
def TX3 : u_T := fun k => match k with
  | 0 => ("RoadsCrossed$LineSearch", "found", "[I", true)
  | 1 => ("RoadsCrossed$LineSearch", "least", "I", false)
  | 2 => ("RoadsCrossed$LineSearch", "row", "[I", true)
  | 3 => ("RoadsCrossed$LineSearch", "standing", "I", false)
  | 4 => ("RoadsCrossed$LineSearch", "posts", "I", false)
  | _ => ("RoadsCrossed$LineSearch", "between", "[[I", true)
def tyX3 : Nat → FieldType := fun k => match k with
  | 0 => .array .int
  | 1 => .int
  | 2 => .array .int
  | 3 => .int
  | 4 => .int
  | _ => .array (.array .int)
abbrev wsX30 : List Cond := u_ws RX3 TX3 6
theorem nmX3 : ∀ a, a < 6 → ∀ b, b < 6 → a ≠ b → (TX3 a).2.1 ≠ (TX3 b).2.1 := by decide +kernel
theorem tyX3_ok : ∀ k, k < 6 → parseFieldDescriptor (TX3 k).2.2.1 = some (tyX3 k) := by decide +kernel
abbrev cX3_init : ByteArray := prog_5_method_1_code
def yX3_init : MethodName := ⟨RX3, "<init>", "()V"⟩
abbrev cX3_search : ByteArray := prog_5_method_2_code
def yX3_search : MethodName := ⟨RX3, "search", "(LRoadsCrossed$Land;[[I)V"⟩
abbrev cX3_extend : ByteArray := prog_5_method_3_code
def yX3_extend : MethodName := ⟨RX3, "extend", "(LRoadsCrossed$LineSearch;[[III)V"⟩
abbrev cX3_costOfNext : ByteArray := prog_5_method_4_code
def yX3_costOfNext : MethodName := ⟨RX3, "costOfNext", "([[III)I"⟩
abbrev cX3_costOfOpen : ByteArray := prog_5_method_5_code
def yX3_costOfOpen : MethodName := ⟨RX3, "costOfOpen", "([III)I"⟩
def RX4 : String := "RoadsCrossed$PageSearch"
def TX4 : u_T := fun k => match k with
  | 0 => ("RoadsCrossed$PageSearch", "found", "[I", true)
  | 1 => ("RoadsCrossed$PageSearch", "clashes", "[I", true)
  | 2 => ("RoadsCrossed$PageSearch", "onPage", "[I", true)
  | _ => ("RoadsCrossed$PageSearch", "roads", "I", false)
def tyX4 : Nat → FieldType := fun k => match k with
  | 0 => .array .int
  | 1 => .array .int
  | 2 => .array .int
  | _ => .int
abbrev wsX40 : List Cond := u_ws RX4 TX4 4
theorem nmX4 : ∀ a, a < 4 → ∀ b, b < 4 → a ≠ b → (TX4 a).2.1 ≠ (TX4 b).2.1 := by decide +kernel
theorem tyX4_ok : ∀ k, k < 4 → parseFieldDescriptor (TX4 k).2.2.1 = some (tyX4 k) := by decide +kernel
abbrev cX4_init : ByteArray := prog_6_method_1_code
def yX4_init : MethodName := ⟨RX4, "<init>", "()V"⟩
abbrev cX4_search : ByteArray := prog_6_method_2_code
def yX4_search : MethodName := ⟨RX4, "search", "(LRoadsCrossed$Land;)I"⟩
abbrev cX4_clashesOf : ByteArray := prog_6_method_3_code
def yX4_clashesOf : MethodName := ⟨RX4, "clashesOf", "(LRoadsCrossed$Land;I)I"⟩
abbrev cX4_paint : ByteArray := prog_6_method_4_code
def yX4_paint : MethodName := ⟨RX4, "paint", "(LRoadsCrossed$PageSearch;III)Z"⟩
def RX5 : String := "RoadsCrossed$Reader"
def TX5 : u_T := fun k => match k with
  | 0 => ("RoadsCrossed$Reader", "taped", "I", false)
  | 1 => ("RoadsCrossed$Reader", "key", "I", false)
  | 2 => ("RoadsCrossed$Reader", "leaves", "I", false)
  | 3 => ("RoadsCrossed$Reader", "length", "I", false)
  | 4 => ("RoadsCrossed$Reader", "code", "[I", true)
  | 5 => ("RoadsCrossed$Reader", "tape", "[I", true)
  | 6 => ("RoadsCrossed$Reader", "token", "I", false)
  | 7 => ("RoadsCrossed$Reader", "from", "I", false)
  | 8 => ("RoadsCrossed$Reader", "to", "I", false)
  | _ => ("RoadsCrossed$Reader", "fault", "I", false)
def tyX5 : Nat → FieldType := fun k => match k with
  | 0 => .int
  | 1 => .int
  | 2 => .int
  | 3 => .int
  | 4 => .array .int
  | 5 => .array .int
  | 6 => .int
  | 7 => .int
  | 8 => .int
  | _ => .int
abbrev wsX50 : List Cond := u_ws RX5 TX5 10
theorem nmX5 : ∀ a, a < 10 → ∀ b, b < 10 → a ≠ b → (TX5 a).2.1 ≠ (TX5 b).2.1 := by decide +kernel
theorem tyX5_ok : ∀ k, k < 10 → parseFieldDescriptor (TX5 k).2.2.1 = some (tyX5 k) := by decide +kernel
abbrev cX5_init : ByteArray := prog_7_method_1_code
def yX5_init : MethodName := ⟨RX5, "<init>", "()V"⟩
abbrev cX5_feedNumber : ByteArray := prog_7_method_2_code
def yX5_feedNumber : MethodName := ⟨RX5, "feedNumber", "(I)V"⟩
abbrev cX5_read : ByteArray := prog_7_method_3_code
def yX5_read : MethodName := ⟨RX5, "read", "()I"⟩
abbrev cX5_fail : ByteArray := prog_7_method_4_code
def yX5_fail : MethodName := ⟨RX5, "fail", "()V"⟩
abbrev cX5_next : ByteArray := prog_7_method_5_code
def yX5_next : MethodName := ⟨RX5, "next", "()V"⟩
abbrev cX5_isWithin : ByteArray := prog_7_method_6_code
def yX5_isWithin : MethodName := ⟨RX5, "isWithin", "(III)Z"⟩
abbrev cX5_behindRow : ByteArray := prog_7_method_7_code
def yX5_behindRow : MethodName := ⟨RX5, "behindRow", "(III)I"⟩
abbrev cX5_isHere : ByteArray := prog_7_method_8_code
def yX5_isHere : MethodName := ⟨RX5, "isHere", "(Ljava/lang/String;)Z"⟩
abbrev cX5_keyHere : ByteArray := prog_7_method_9_code
def yX5_keyHere : MethodName := ⟨RX5, "keyHere", "()I"⟩
abbrev cX5_chain : ByteArray := prog_7_method_10_code
def yX5_chain : MethodName := ⟨RX5, "chain", "(III)V"⟩
abbrev cX5_levelOf : ByteArray := prog_7_method_11_code
def yX5_levelOf : MethodName := ⟨RX5, "levelOf", "(I)I"⟩
abbrev cX5_piece : ByteArray := prog_7_method_12_code
def yX5_piece : MethodName := ⟨RX5, "piece", "(II)V"⟩
abbrev cX5_numberHere : ByteArray := prog_7_method_13_code
def yX5_numberHere : MethodName := ⟨RX5, "numberHere", "()I"⟩
abbrev cX5_nameHere : ByteArray := prog_7_method_14_code
def yX5_nameHere : MethodName := ⟨RX5, "nameHere", "()I"⟩
abbrev cX5_writeLeaf : ByteArray := prog_7_method_15_code
def yX5_writeLeaf : MethodName := ⟨RX5, "writeLeaf", "(I)V"⟩
abbrev cX5_write : ByteArray := prog_7_method_16_code
def yX5_write : MethodName := ⟨RX5, "write", "(I)V"⟩
def RX6 : String := "RoadsCrossed$RowSearch"
def TX6 : u_T := fun k => match k with
  | 0 => ("RoadsCrossed$RowSearch", "found", "[I", true)
  | 1 => ("RoadsCrossed$RowSearch", "least", "I", false)
  | 2 => ("RoadsCrossed$RowSearch", "posts", "[I", true)
  | 3 => ("RoadsCrossed$RowSearch", "places", "[I", true)
  | _ => ("RoadsCrossed$RowSearch", "size", "I", false)
def tyX6 : Nat → FieldType := fun k => match k with
  | 0 => .array .int
  | 1 => .int
  | 2 => .array .int
  | 3 => .array .int
  | _ => .int
abbrev wsX60 : List Cond := u_ws RX6 TX6 5
theorem nmX6 : ∀ a, a < 5 → ∀ b, b < 5 → a ≠ b → (TX6 a).2.1 ≠ (TX6 b).2.1 := by decide +kernel
theorem tyX6_ok : ∀ k, k < 5 → parseFieldDescriptor (TX6 k).2.2.1 = some (tyX6 k) := by decide +kernel
abbrev cX6_init : ByteArray := prog_8_method_1_code
def yX6_init : MethodName := ⟨RX6, "<init>", "()V"⟩
abbrev cX6_search : ByteArray := prog_8_method_2_code
def yX6_search : MethodName := ⟨RX6, "search", "(LRoadsCrossed$Land;ILRoadsCrossed$Costs;)V"⟩
abbrev cX6_collect : ByteArray := prog_8_method_3_code
def yX6_collect : MethodName := ⟨RX6, "collect", "(LRoadsCrossed$Land;I)V"⟩
abbrev cX6_nextOrder : ByteArray := prog_8_method_4_code
def yX6_nextOrder : MethodName := ⟨RX6, "nextOrder", "()Z"⟩
abbrev cX6_exchange : ByteArray := prog_8_method_5_code
def yX6_exchange : MethodName := ⟨RX6, "exchange", "(II)V"⟩
def RX7 : String := "RoadsCrossed$Sheet"
def TX7 : u_T := fun k => match k with
  | 0 => ("RoadsCrossed$Sheet", "sort", "I", false)
  | 1 => ("RoadsCrossed$Sheet", "size", "I", false)
  | _ => ("RoadsCrossed$Sheet", "values", "[I", true)
def tyX7 : Nat → FieldType := fun k => match k with
  | 0 => .int
  | 1 => .int
  | _ => .array .int
abbrev wsX70 : List Cond := u_ws RX7 TX7 3
theorem nmX7 : ∀ a, a < 3 → ∀ b, b < 3 → a ≠ b → (TX7 a).2.1 ≠ (TX7 b).2.1 := by decide +kernel
theorem tyX7_ok : ∀ k, k < 3 → parseFieldDescriptor (TX7 k).2.2.1 = some (tyX7 k) := by decide +kernel
abbrev cX7_init : ByteArray := prog_9_method_1_code
def yX7_init : MethodName := ⟨RX7, "<init>", "()V"⟩
abbrev cX7_become : ByteArray := prog_9_method_2_code
def yX7_become : MethodName := ⟨RX7, "become", "(II)V"⟩
abbrev cX7_takeFrom : ByteArray := prog_9_method_3_code
def yX7_takeFrom : MethodName := ⟨RX7, "takeFrom", "(LRoadsCrossed$Sheet;)V"⟩
abbrev cX7_isMissing : ByteArray := prog_9_method_4_code
def yX7_isMissing : MethodName := ⟨RX7, "isMissing", "()Z"⟩
abbrev cX7_hasPlace : ByteArray := prog_9_method_5_code
def yX7_hasPlace : MethodName := ⟨RX7, "hasPlace", "(I)Z"⟩
abbrev cX7_hasPlaces : ByteArray := prog_9_method_6_code
def yX7_hasPlaces : MethodName := ⟨RX7, "hasPlaces", "(II)Z"⟩
abbrev cX7_hasNoNumber : ByteArray := prog_9_method_7_code
def yX7_hasNoNumber : MethodName := ⟨RX7, "hasNoNumber", "()Z"⟩
abbrev cX7_isOrderOf : ByteArray := prog_9_method_8_code
def yX7_isOrderOf : MethodName := ⟨RX7, "isOrderOf", "(I)Z"⟩
def RX8 : String := "RoadsCrossed$Slot"
def TX8 : u_T := fun k => match k with
  | 0 => ("RoadsCrossed$Slot", "thing", "I", false)
  | 1 => ("RoadsCrossed$Slot", "kind", "I", false)
  | 2 => ("RoadsCrossed$Slot", "weight", "I", false)
  | 3 => ("RoadsCrossed$Slot", "row", "LRoadsCrossed$Sheet;", true)
  | _ => ("RoadsCrossed$Slot", "number", "I", false)
def tyX8 : Nat → FieldType := fun k => match k with
  | 0 => .int
  | 1 => .int
  | 2 => .int
  | 3 => .object "RoadsCrossed$Sheet"
  | _ => .int
abbrev wsX80 : List Cond := u_ws RX8 TX8 5
theorem nmX8 : ∀ a, a < 5 → ∀ b, b < 5 → a ≠ b → (TX8 a).2.1 ≠ (TX8 b).2.1 := by decide +kernel
theorem tyX8_ok : ∀ k, k < 5 → parseFieldDescriptor (TX8 k).2.2.1 = some (tyX8 k) := by decide +kernel
abbrev cX8_init : ByteArray := prog_10_method_1_code
def yX8_init : MethodName := ⟨RX8, "<init>", "()V"⟩
abbrev cX8_refusalAs : ByteArray := prog_10_method_2_code
def yX8_refusalAs : MethodName := ⟨RX8, "refusalAs", "(I)I"⟩
def RX9 : String := "RoadsCrossed$SwapSearch"
def TX9 : u_T := fun k => match k with
  | 0 => ("RoadsCrossed$SwapSearch", "one", "I", false)
  | 1 => ("RoadsCrossed$SwapSearch", "other", "I", false)
  | _ => ("RoadsCrossed$SwapSearch", "least", "I", false)
def tyX9 : Nat → FieldType := fun k => match k with
  | 0 => .int
  | 1 => .int
  | _ => .int
abbrev wsX90 : List Cond := u_ws RX9 TX9 3
theorem nmX9 : ∀ a, a < 3 → ∀ b, b < 3 → a ≠ b → (TX9 a).2.1 ≠ (TX9 b).2.1 := by decide +kernel
theorem tyX9_ok : ∀ k, k < 3 → parseFieldDescriptor (TX9 k).2.2.1 = some (tyX9 k) := by decide +kernel
abbrev cX9_init : ByteArray := prog_11_method_1_code
def yX9_init : MethodName := ⟨RX9, "<init>", "()V"⟩
abbrev cX9_search : ByteArray := prog_11_method_2_code
def yX9_search : MethodName := ⟨RX9, "search", "(LRoadsCrossed$Land;LRoadsCrossed$Costs;)Z"⟩
abbrev cX9_pair : ByteArray := prog_11_method_3_code
def yX9_pair : MethodName := ⟨RX9, "pair", "()I"⟩
def RX10 : String := "RoadsCrossed"
def TX10 : u_T := fun k => match k with
  | 0 => ("RoadsCrossed", "now", "LRoadsCrossed$Land;", true)
  | 1 => ("RoadsCrossed", "image", "LRoadsCrossed$Land;", true)
  | 2 => ("RoadsCrossed", "trial", "LRoadsCrossed$Land;", true)
  | 3 => ("RoadsCrossed", "kept", "Z", false)
  | 4 => ("RoadsCrossed", "reader", "LRoadsCrossed$Reader;", true)
  | 5 => ("RoadsCrossed", "costs", "LRoadsCrossed$Costs;", true)
  | 6 => ("RoadsCrossed", "swapSearch", "LRoadsCrossed$SwapSearch;", true)
  | 7 => ("RoadsCrossed", "pageSearch", "LRoadsCrossed$PageSearch;", true)
  | 8 => ("RoadsCrossed", "lineSearch", "LRoadsCrossed$LineSearch;", true)
  | 9 => ("RoadsCrossed", "rowSearch", "LRoadsCrossed$RowSearch;", true)
  | 10 => ("RoadsCrossed", "sheets", "[LRoadsCrossed$Sheet;", true)
  | 11 => ("RoadsCrossed", "slots", "[LRoadsCrossed$Slot;", true)
  | 12 => ("RoadsCrossed", "waiting", "[I", true)
  | _ => ("RoadsCrossed", "waits", "I", false)
def tyX10 : Nat → FieldType := fun k => match k with
  | 0 => .object "RoadsCrossed$Land"
  | 1 => .object "RoadsCrossed$Land"
  | 2 => .object "RoadsCrossed$Land"
  | 3 => .boolean
  | 4 => .object "RoadsCrossed$Reader"
  | 5 => .object "RoadsCrossed$Costs"
  | 6 => .object "RoadsCrossed$SwapSearch"
  | 7 => .object "RoadsCrossed$PageSearch"
  | 8 => .object "RoadsCrossed$LineSearch"
  | 9 => .object "RoadsCrossed$RowSearch"
  | 10 => .array (.object "RoadsCrossed$Sheet")
  | 11 => .array (.object "RoadsCrossed$Slot")
  | 12 => .array .int
  | _ => .int
abbrev wsX100 : List Cond := u_ws RX10 TX10 14
theorem nmX10 : ∀ a, a < 14 → ∀ b, b < 14 → a ≠ b → (TX10 a).2.1 ≠ (TX10 b).2.1 := by decide +kernel
theorem tyX10_ok : ∀ k, k < 14 → parseFieldDescriptor (TX10 k).2.2.1 = some (tyX10 k) := by decide +kernel
abbrev cX10_init : ByteArray := prog_1_method_1_code
def yX10_init : MethodName := ⟨RX10, "<init>", "()V"⟩
abbrev cX10_post : ByteArray := prog_1_method_2_code
def yX10_post : MethodName := ⟨RX10, "post", "(II)I"⟩
abbrev cX10_postTold : ByteArray := prog_1_method_3_code
def yX10_postTold : MethodName := ⟨RX10, "postTold", "(II)I"⟩
abbrev cX10_move : ByteArray := prog_1_method_4_code
def yX10_move : MethodName := ⟨RX10, "move", "(III)I"⟩
abbrev cX10_layer : ByteArray := prog_1_method_5_code
def yX10_layer : MethodName := ⟨RX10, "layer", "(II)I"⟩
abbrev cX10_road : ByteArray := prog_1_method_6_code
def yX10_road : MethodName := ⟨RX10, "road", "(III)I"⟩
abbrev cX10_told : ByteArray := prog_1_method_7_code
def yX10_told : MethodName := ⟨RX10, "told", "(II)I"⟩
abbrev cX10_as : ByteArray := prog_1_method_8_code
def yX10_as : MethodName := ⟨RX10, "as", "(II)I"⟩
abbrev cX10_turns : ByteArray := prog_1_method_9_code
def yX10_turns : MethodName := ⟨RX10, "turns", "(II)I"⟩
abbrev cX10_set : ByteArray := prog_1_method_10_code
def yX10_set : MethodName := ⟨RX10, "set", "(III)I"⟩
abbrev cX10_drop : ByteArray := prog_1_method_11_code
def yX10_drop : MethodName := ⟨RX10, "drop", "(I)I"⟩
abbrev cX10_cross : ByteArray := prog_1_method_12_code
def yX10_cross : MethodName := ⟨RX10, "cross", "(II)I"⟩
abbrev cX10_straight : ByteArray := prog_1_method_13_code
def yX10_straight : MethodName := ⟨RX10, "straight", "(I)I"⟩
abbrev cX10_bound : ByteArray := prog_1_method_14_code
def yX10_bound : MethodName := ⟨RX10, "bound", "()I"⟩
abbrev cX10_would : ByteArray := prog_1_method_15_code
def yX10_would : MethodName := ⟨RX10, "would", "(II)I"⟩
abbrev cX10_best : ByteArray := prog_1_method_16_code
def yX10_best : MethodName := ⟨RX10, "best", "(I)I"⟩
abbrev cX10_swaps : ByteArray := prog_1_method_17_code
def yX10_swaps : MethodName := ⟨RX10, "swaps", "(I)I"⟩
abbrev cX10_line : ByteArray := prog_1_method_18_code
def yX10_line : MethodName := ⟨RX10, "line", "(I)I"⟩
abbrev cX10_at : ByteArray := prog_1_method_19_code
def yX10_at : MethodName := ⟨RX10, "at", "(I)I"⟩
abbrev cX10_book : ByteArray := prog_1_method_20_code
def yX10_book : MethodName := ⟨RX10, "book", "(I)I"⟩
abbrev cX10_pages : ByteArray := prog_1_method_21_code
def yX10_pages : MethodName := ⟨RX10, "pages", "(I)I"⟩
abbrev cX10_bestLine : ByteArray := prog_1_method_22_code
def yX10_bestLine : MethodName := ⟨RX10, "bestLine", "(I)I"⟩
abbrev cX10_layers : ByteArray := prog_1_method_23_code
def yX10_layers : MethodName := ⟨RX10, "layers", "(I)I"⟩
abbrev cX10_bestRow : ByteArray := prog_1_method_24_code
def yX10_bestRow : MethodName := ⟨RX10, "bestRow", "(II)I"⟩
abbrev cX10_deal : ByteArray := prog_1_method_25_code
def yX10_deal : MethodName := ⟨RX10, "deal", "(II)I"⟩
abbrev cX10_seed : ByteArray := prog_1_method_26_code
def yX10_seed : MethodName := ⟨RX10, "seed", "(I)I"⟩
abbrev cX10_feed : ByteArray := prog_1_method_27_code
def yX10_feed : MethodName := ⟨RX10, "feed", "(III)I"⟩
abbrev cX10_trim : ByteArray := prog_1_method_28_code
def yX10_trim : MethodName := ⟨RX10, "trim", "(I)I"⟩
abbrev cX10_text : ByteArray := prog_1_method_29_code
def yX10_text : MethodName := ⟨RX10, "text", "()I"⟩
abbrev cX10_textTold : ByteArray := prog_1_method_30_code
def yX10_textTold : MethodName := ⟨RX10, "textTold", "(II)I"⟩
abbrev cX10_why : ByteArray := prog_1_method_31_code
def yX10_why : MethodName := ⟨RX10, "why", "(I)I"⟩
abbrev cX10_sheet : ByteArray := prog_1_method_32_code
def yX10_sheet : MethodName := ⟨RX10, "sheet", "(III)I"⟩
abbrev cX10_mark : ByteArray := prog_1_method_33_code
def yX10_mark : MethodName := ⟨RX10, "mark", "(III)I"⟩
abbrev cX10_pour : ByteArray := prog_1_method_34_code
def yX10_pour : MethodName := ⟨RX10, "pour", "(I)I"⟩
abbrev cX10_copy : ByteArray := prog_1_method_35_code
def yX10_copy : MethodName := ⟨RX10, "copy", "(IIIII)I"⟩
abbrev cX10_lay : ByteArray := prog_1_method_36_code
def yX10_lay : MethodName := ⟨RX10, "lay", "(III)I"⟩
abbrev cX10_ask : ByteArray := prog_1_method_37_code
def yX10_ask : MethodName := ⟨RX10, "ask", "(II)I"⟩
abbrev cX10_item : ByteArray := prog_1_method_38_code
def yX10_item : MethodName := ⟨RX10, "item", "(II)I"⟩
abbrev cX10_rest : ByteArray := prog_1_method_39_code
def yX10_rest : MethodName := ⟨RX10, "rest", "(II)I"⟩
abbrev cX10_tell : ByteArray := prog_1_method_40_code
def yX10_tell : MethodName := ⟨RX10, "tell", "(I)I"⟩
abbrev cX10_check : ByteArray := prog_1_method_41_code
def yX10_check : MethodName := ⟨RX10, "check", "(I)I"⟩
abbrev cX10_keep : ByteArray := prog_1_method_42_code
def yX10_keep : MethodName := ⟨RX10, "keep", "()I"⟩
abbrev cX10_back : ByteArray := prog_1_method_43_code
def yX10_back : MethodName := ⟨RX10, "back", "()I"⟩
abbrev cX10_count : ByteArray := prog_1_method_44_code
def yX10_count : MethodName := ⟨RX10, "count", "(I)I"⟩
abbrev cX10_crossingsTold : ByteArray := prog_1_method_45_code
def yX10_crossingsTold : MethodName := ⟨RX10, "crossingsTold", "(II)I"⟩
abbrev cX10_dearestRoad : ByteArray := prog_1_method_46_code
def yX10_dearestRoad : MethodName := ⟨RX10, "dearestRoad", "()I"⟩
abbrev cX10_checkSwapsTold : ByteArray := prog_1_method_47_code
def yX10_checkSwapsTold : MethodName := ⟨RX10, "checkSwapsTold", "(II)I"⟩
abbrev cX10_isPlace : ByteArray := prog_1_method_48_code
def yX10_isPlace : MethodName := ⟨RX10, "isPlace", "(II)Z"⟩
abbrev cX10_isLayer : ByteArray := prog_1_method_49_code
def yX10_isLayer : MethodName := ⟨RX10, "isLayer", "(I)Z"⟩
abbrev cX10_isPage : ByteArray := prog_1_method_50_code
def yX10_isPage : MethodName := ⟨RX10, "isPage", "(I)Z"⟩
abbrev cX10_isKind : ByteArray := prog_1_method_51_code
def yX10_isKind : MethodName := ⟨RX10, "isKind", "(I)Z"⟩
abbrev cX10_isWeight : ByteArray := prog_1_method_52_code
def yX10_isWeight : MethodName := ⟨RX10, "isWeight", "(I)Z"⟩
abbrev cX10_isSheet : ByteArray := prog_1_method_53_code
def yX10_isSheet : MethodName := ⟨RX10, "isSheet", "(I)Z"⟩
abbrev cX10_isSlot : ByteArray := prog_1_method_54_code
def yX10_isSlot : MethodName := ⟨RX10, "isSlot", "(I)Z"⟩
abbrev cX10_within : ByteArray := prog_1_method_55_code
def yX10_within : MethodName := ⟨RX10, "within", "(II)I"⟩
abbrev cX10_isUnder : ByteArray := prog_1_method_56_code
def yX10_isUnder : MethodName := ⟨RX10, "isUnder", "(II)Z"⟩
abbrev cX10_harmAs : ByteArray := prog_1_method_57_code
def yX10_harmAs : MethodName := ⟨RX10, "harmAs", "(III)I"⟩
abbrev cX10_worthOf : ByteArray := prog_1_method_58_code
def yX10_worthOf : MethodName := ⟨RX10, "worthOf", "(II)I"⟩
def RX11 : String := "RoadsCrossedModel"
def TX11 : u_T := fun k => match k with
  | 0 => ("RoadsCrossedModel", "now", "[I", true)
  | 1 => ("RoadsCrossedModel", "image", "[I", true)
  | 2 => ("RoadsCrossedModel", "aside", "[I", true)
  | 3 => ("RoadsCrossedModel", "hasImage", "Z", false)
  | 4 => ("RoadsCrossedModel", "harms", "[I", true)
  | 5 => ("RoadsCrossedModel", "pairs", "[I", true)
  | 6 => ("RoadsCrossedModel", "sides", "[I", true)
  | 7 => ("RoadsCrossedModel", "bestTwo", "I", false)
  | 8 => ("RoadsCrossedModel", "bestCost", "I", false)
  | 9 => ("RoadsCrossedModel", "met", "[Z", true)
  | 10 => ("RoadsCrossedModel", "places", "[I", true)
  | 11 => ("RoadsCrossedModel", "passes", "[I", true)
  | 12 => ("RoadsCrossedModel", "pageOf", "[I", true)
  | 13 => ("RoadsCrossedModel", "tried", "[I", true)
  | 14 => ("RoadsCrossedModel", "costs", "[I", true)
  | 15 => ("RoadsCrossedModel", "bestOrder", "[I", true)
  | 16 => ("RoadsCrossedModel", "leastCost", "I", false)
  | 17 => ("RoadsCrossedModel", "members", "[I", true)
  | 18 => ("RoadsCrossedModel", "seats", "[I", true)
  | 19 => ("RoadsCrossedModel", "taken", "[I", true)
  | 20 => ("RoadsCrossedModel", "memberMany", "I", false)
  | 21 => ("RoadsCrossedModel", "tape", "[I", true)
  | 22 => ("RoadsCrossedModel", "taped", "I", false)
  | 23 => ("RoadsCrossedModel", "next", "I", false)
  | 24 => ("RoadsCrossedModel", "from", "I", false)
  | 25 => ("RoadsCrossedModel", "token", "I", false)
  | 26 => ("RoadsCrossedModel", "value", "I", false)
  | 27 => ("RoadsCrossedModel", "ended", "I", false)
  | 28 => ("RoadsCrossedModel", "key", "I", false)
  | 29 => ("RoadsCrossedModel", "keys", "[C", true)
  | 30 => ("RoadsCrossedModel", "keyAt", "[I", true)
  | 31 => ("RoadsCrossedModel", "code", "[I", true)
  | 32 => ("RoadsCrossedModel", "codes", "I", false)
  | 33 => ("RoadsCrossedModel", "atoms", "I", false)
  | 34 => ("RoadsCrossedModel", "waits", "[I", true)
  | 35 => ("RoadsCrossedModel", "held", "I", false)
  | 36 => ("RoadsCrossedModel", "tested", "[Z", true)
  | 37 => ("RoadsCrossedModel", "stack", "[I", true)
  | 38 => ("RoadsCrossedModel", "facts", "[I", true)
  | 39 => ("RoadsCrossedModel", "sorts", "[I", true)
  | 40 => ("RoadsCrossedModel", "sizes", "[I", true)
  | 41 => ("RoadsCrossedModel", "cells", "[I", true)
  | 42 => ("RoadsCrossedModel", "holds", "[I", true)
  | 43 => ("RoadsCrossedModel", "holdsA", "[I", true)
  | 44 => ("RoadsCrossedModel", "holdsB", "[I", true)
  | 45 => ("RoadsCrossedModel", "heldCells", "[I", true)
  | 46 => ("RoadsCrossedModel", "moved", "[I", true)
  | 47 => ("RoadsCrossedModel", "tells", "[I", true)
  | _ => ("RoadsCrossedModel", "waiting", "I", false)
def tyX11 : Nat → FieldType := fun k => match k with
  | 0 => .array .int
  | 1 => .array .int
  | 2 => .array .int
  | 3 => .boolean
  | 4 => .array .int
  | 5 => .array .int
  | 6 => .array .int
  | 7 => .int
  | 8 => .int
  | 9 => .array .boolean
  | 10 => .array .int
  | 11 => .array .int
  | 12 => .array .int
  | 13 => .array .int
  | 14 => .array .int
  | 15 => .array .int
  | 16 => .int
  | 17 => .array .int
  | 18 => .array .int
  | 19 => .array .int
  | 20 => .int
  | 21 => .array .int
  | 22 => .int
  | 23 => .int
  | 24 => .int
  | 25 => .int
  | 26 => .int
  | 27 => .int
  | 28 => .int
  | 29 => .array .char
  | 30 => .array .int
  | 31 => .array .int
  | 32 => .int
  | 33 => .int
  | 34 => .array .int
  | 35 => .int
  | 36 => .array .boolean
  | 37 => .array .int
  | 38 => .array .int
  | 39 => .array .int
  | 40 => .array .int
  | 41 => .array .int
  | 42 => .array .int
  | 43 => .array .int
  | 44 => .array .int
  | 45 => .array .int
  | 46 => .array .int
  | 47 => .array .int
  | _ => .int
abbrev wsX110 : List Cond := u_ws RX11 TX11 49
theorem nmX11 : ∀ a, a < 49 → ∀ b, b < 49 → a ≠ b → (TX11 a).2.1 ≠ (TX11 b).2.1 := by decide +kernel
theorem tyX11_ok : ∀ k, k < 49 → parseFieldDescriptor (TX11 k).2.2.1 = some (tyX11 k) := by decide +kernel
abbrev cX11_init : ByteArray := prog_13_method_1_code
def yX11_init : MethodName := ⟨RX11, "<init>", "()V"⟩
abbrev cX11_in : ByteArray := prog_13_method_2_code
def yX11_in : MethodName := ⟨RX11, "in", "(III)Z"⟩
abbrev cX11_within : ByteArray := prog_13_method_3_code
def yX11_within : MethodName := ⟨RX11, "within", "(III)I"⟩
abbrev cX11_copyAll : ByteArray := prog_13_method_4_code
def yX11_copyAll : MethodName := ⟨RX11, "copyAll", "([I[I)V"⟩
abbrev cX11_isPost : ByteArray := prog_13_method_5_code
def yX11_isPost : MethodName := ⟨RX11, "isPost", "(I)Z"⟩
abbrev cX11_isRoad : ByteArray := prog_13_method_6_code
def yX11_isRoad : MethodName := ⟨RX11, "isRoad", "(I)Z"⟩
abbrev cX11_xOf : ByteArray := prog_13_method_7_code
def yX11_xOf : MethodName := ⟨RX11, "xOf", "(I)I"⟩
abbrev cX11_yOf : ByteArray := prog_13_method_8_code
def yX11_yOf : MethodName := ⟨RX11, "yOf", "(I)I"⟩
abbrev cX11_layerOf : ByteArray := prog_13_method_9_code
def yX11_layerOf : MethodName := ⟨RX11, "layerOf", "(I)I"⟩
abbrev cX11_of : ByteArray := prog_13_method_10_code
def yX11_of : MethodName := ⟨RX11, "of", "(II)I"⟩
abbrev cX11_lesser : ByteArray := prog_13_method_11_code
def yX11_lesser : MethodName := ⟨RX11, "lesser", "(I)I"⟩
abbrev cX11_greater : ByteArray := prog_13_method_12_code
def yX11_greater : MethodName := ⟨RX11, "greater", "(I)I"⟩
abbrev cX11_postAt : ByteArray := prog_13_method_13_code
def yX11_postAt : MethodName := ⟨RX11, "postAt", "(II)I"⟩
abbrev cX11_isPlace : ByteArray := prog_13_method_14_code
def yX11_isPlace : MethodName := ⟨RX11, "isPlace", "(II)Z"⟩
abbrev cX11_comes : ByteArray := prog_13_method_15_code
def yX11_comes : MethodName := ⟨RX11, "comes", "(II)I"⟩
abbrev cX11_post : ByteArray := prog_13_method_16_code
def yX11_post : MethodName := ⟨RX11, "post", "(II)I"⟩
abbrev cX11_placeOf : ByteArray := prog_13_method_17_code
def yX11_placeOf : MethodName := ⟨RX11, "placeOf", "(I)I"⟩
abbrev cX11_isFrom : ByteArray := prog_13_method_18_code
def yX11_isFrom : MethodName := ⟨RX11, "isFrom", "(II)Z"⟩
abbrev cX11_postTold : ByteArray := prog_13_method_19_code
def yX11_postTold : MethodName := ⟨RX11, "postTold", "(II)I"⟩
abbrev cX11_move : ByteArray := prog_13_method_20_code
def yX11_move : MethodName := ⟨RX11, "move", "(III)I"⟩
abbrev cX11_layer : ByteArray := prog_13_method_21_code
def yX11_layer : MethodName := ⟨RX11, "layer", "(II)I"⟩
abbrev cX11_isBetween : ByteArray := prog_13_method_22_code
def yX11_isBetween : MethodName := ⟨RX11, "isBetween", "(II)Z"⟩
abbrev cX11_goes : ByteArray := prog_13_method_23_code
def yX11_goes : MethodName := ⟨RX11, "goes", "(IIII)I"⟩
abbrev cX11_road : ByteArray := prog_13_method_24_code
def yX11_road : MethodName := ⟨RX11, "road", "(III)I"⟩
abbrev cX11_harmOf : ByteArray := prog_13_method_25_code
def yX11_harmOf : MethodName := ⟨RX11, "harmOf", "(I)I"⟩
abbrev cX11_worthBy : ByteArray := prog_13_method_26_code
def yX11_worthBy : MethodName := ⟨RX11, "worthBy", "(II)I"⟩
abbrev cX11_told : ByteArray := prog_13_method_27_code
def yX11_told : MethodName := ⟨RX11, "told", "(II)I"⟩
abbrev cX11_isUnder : ByteArray := prog_13_method_28_code
def yX11_isUnder : MethodName := ⟨RX11, "isUnder", "(II)Z"⟩
abbrev cX11_as : ByteArray := prog_13_method_29_code
def yX11_as : MethodName := ⟨RX11, "as", "(II)I"⟩
abbrev cX11_becomes : ByteArray := prog_13_method_30_code
def yX11_becomes : MethodName := ⟨RX11, "becomes", "(III)I"⟩
abbrev cX11_turns : ByteArray := prog_13_method_31_code
def yX11_turns : MethodName := ⟨RX11, "turns", "(II)I"⟩
abbrev cX11_set : ByteArray := prog_13_method_32_code
def yX11_set : MethodName := ⟨RX11, "set", "(III)I"⟩
abbrev cX11_drop : ByteArray := prog_13_method_33_code
def yX11_drop : MethodName := ⟨RX11, "drop", "(I)I"⟩
abbrev cX11_areApart : ByteArray := prog_13_method_34_code
def yX11_areApart : MethodName := ⟨RX11, "areApart", "(II)Z"⟩
abbrev cX11_findPairs : ByteArray := prog_13_method_35_code
def yX11_findPairs : MethodName := ⟨RX11, "findPairs", "()V"⟩
abbrev cX11_side : ByteArray := prog_13_method_36_code
def yX11_side : MethodName := ⟨RX11, "side", "(IIIIII)I"⟩
abbrev cX11_isOn : ByteArray := prog_13_method_37_code
def yX11_isOn : MethodName := ⟨RX11, "isOn", "(III)Z"⟩
abbrev cX11_sideOf : ByteArray := prog_13_method_38_code
def yX11_sideOf : MethodName := ⟨RX11, "sideOf", "(III)I"⟩
abbrev cX11_doCross : ByteArray := prog_13_method_39_code
def yX11_doCross : MethodName := ⟨RX11, "doCross", "(II)Z"⟩
abbrev cX11_cross : ByteArray := prog_13_method_40_code
def yX11_cross : MethodName := ⟨RX11, "cross", "(II)I"⟩
abbrev cX11_straightly : ByteArray := prog_13_method_41_code
def yX11_straightly : MethodName := ⟨RX11, "straightly", "(ZI)I"⟩
abbrev cX11_straight : ByteArray := prog_13_method_42_code
def yX11_straight : MethodName := ⟨RX11, "straight", "(I)I"⟩
abbrev cX11_isParted : ByteArray := prog_13_method_43_code
def yX11_isParted : MethodName := ⟨RX11, "isParted", "()Z"⟩
abbrev cX11_bound : ByteArray := prog_13_method_44_code
def yX11_bound : MethodName := ⟨RX11, "bound", "()I"⟩
abbrev cX11_swap : ByteArray := prog_13_method_45_code
def yX11_swap : MethodName := ⟨RX11, "swap", "(II)V"⟩
abbrev cX11_costBehind : ByteArray := prog_13_method_46_code
def yX11_costBehind : MethodName := ⟨RX11, "costBehind", "(II)I"⟩
abbrev cX11_would : ByteArray := prog_13_method_47_code
def yX11_would : MethodName := ⟨RX11, "would", "(II)I"⟩
abbrev cX11_maySwap : ByteArray := prog_13_method_48_code
def yX11_maySwap : MethodName := ⟨RX11, "maySwap", "(II)Z"⟩
abbrev cX11_findSwap : ByteArray := prog_13_method_49_code
def yX11_findSwap : MethodName := ⟨RX11, "findSwap", "()V"⟩
abbrev cX11_best : ByteArray := prog_13_method_50_code
def yX11_best : MethodName := ⟨RX11, "best", "(I)I"⟩
abbrev cX11_swaps : ByteArray := prog_13_method_51_code
def yX11_swaps : MethodName := ⟨RX11, "swaps", "(I)I"⟩
abbrev cX11_line : ByteArray := prog_13_method_52_code
def yX11_line : MethodName := ⟨RX11, "line", "(I)I"⟩
abbrev cX11_at : ByteArray := prog_13_method_53_code
def yX11_at : MethodName := ⟨RX11, "at", "(I)I"⟩
abbrev cX11_findPlaces : ByteArray := prog_13_method_54_code
def yX11_findPlaces : MethodName := ⟨RX11, "findPlaces", "()V"⟩
abbrev cX11_isWithin : ByteArray := prog_13_method_55_code
def yX11_isWithin : MethodName := ⟨RX11, "isWithin", "(III)Z"⟩
abbrev cX11_doPass : ByteArray := prog_13_method_56_code
def yX11_doPass : MethodName := ⟨RX11, "doPass", "(II)Z"⟩
abbrev cX11_book : ByteArray := prog_13_method_57_code
def yX11_book : MethodName := ⟨RX11, "book", "(I)I"⟩
abbrev cX11_findPasses : ByteArray := prog_13_method_58_code
def yX11_findPasses : MethodName := ⟨RX11, "findPasses", "()V"⟩
abbrev cX11_hasTwo : ByteArray := prog_13_method_59_code
def yX11_hasTwo : MethodName := ⟨RX11, "hasTwo", "(I)Z"⟩
abbrev cX11_mutual : ByteArray := prog_13_method_60_code
def yX11_mutual : MethodName := ⟨RX11, "mutual", "()I"⟩
abbrev cX11_fitsPage : ByteArray := prog_13_method_61_code
def yX11_fitsPage : MethodName := ⟨RX11, "fitsPage", "(I)Z"⟩
abbrev cX11_lastPage : ByteArray := prog_13_method_62_code
def yX11_lastPage : MethodName := ⟨RX11, "lastPage", "(I)I"⟩
abbrev cX11_fillsPages : ByteArray := prog_13_method_63_code
def yX11_fillsPages : MethodName := ⟨RX11, "fillsPages", "(I)Z"⟩
abbrev cX11_pages : ByteArray := prog_13_method_64_code
def yX11_pages : MethodName := ⟨RX11, "pages", "(I)I"⟩
abbrev cX11_closes : ByteArray := prog_13_method_65_code
def yX11_closes : MethodName := ⟨RX11, "closes", "(II)I"⟩
abbrev cX11_findBestLine : ByteArray := prog_13_method_66_code
def yX11_findBestLine : MethodName := ⟨RX11, "findBestLine", "()V"⟩
abbrev cX11_bestLine : ByteArray := prog_13_method_67_code
def yX11_bestLine : MethodName := ⟨RX11, "bestLine", "(I)I"⟩
abbrev cX11_layerFrom : ByteArray := prog_13_method_68_code
def yX11_layerFrom : MethodName := ⟨RX11, "layerFrom", "(I)I"⟩
abbrev cX11_endIn : ByteArray := prog_13_method_69_code
def yX11_endIn : MethodName := ⟨RX11, "endIn", "(II)I"⟩
abbrev cX11_layered : ByteArray := prog_13_method_70_code
def yX11_layered : MethodName := ⟨RX11, "layered", "(Z)I"⟩
abbrev cX11_layers : ByteArray := prog_13_method_71_code
def yX11_layers : MethodName := ⟨RX11, "layers", "(I)I"⟩
abbrev cX11_findMembers : ByteArray := prog_13_method_72_code
def yX11_findMembers : MethodName := ⟨RX11, "findMembers", "(I)V"⟩
abbrev cX11_sits : ByteArray := prog_13_method_73_code
def yX11_sits : MethodName := ⟨RX11, "sits", "(II)V"⟩
abbrev cX11_bestRow : ByteArray := prog_13_method_74_code
def yX11_bestRow : MethodName := ⟨RX11, "bestRow", "(II)I"⟩
abbrev cX11_draw : ByteArray := prog_13_method_75_code
def yX11_draw : MethodName := ⟨RX11, "draw", "()I"⟩
abbrev cX11_drawsPost : ByteArray := prog_13_method_76_code
def yX11_drawsPost : MethodName := ⟨RX11, "drawsPost", "()I"⟩
abbrev cX11_drawsRoad : ByteArray := prog_13_method_77_code
def yX11_drawsRoad : MethodName := ⟨RX11, "drawsRoad", "()I"⟩
abbrev cX11_deal : ByteArray := prog_13_method_78_code
def yX11_deal : MethodName := ⟨RX11, "deal", "(II)I"⟩
abbrev cX11_seed : ByteArray := prog_13_method_79_code
def yX11_seed : MethodName := ⟨RX11, "seed", "(I)I"⟩
abbrev cX11_feed : ByteArray := prog_13_method_80_code
def yX11_feed : MethodName := ⟨RX11, "feed", "(III)I"⟩
abbrev cX11_trim : ByteArray := prog_13_method_81_code
def yX11_trim : MethodName := ⟨RX11, "trim", "(I)I"⟩
abbrev cX11_isLetter : ByteArray := prog_13_method_82_code
def yX11_isLetter : MethodName := ⟨RX11, "isLetter", "(I)Z"⟩
abbrev cX11_isFigure : ByteArray := prog_13_method_83_code
def yX11_isFigure : MethodName := ⟨RX11, "isFigure", "(I)Z"⟩
abbrev cX11_go : ByteArray := prog_13_method_84_code
def yX11_go : MethodName := ⟨RX11, "go", "()V"⟩
abbrev cX11_takesKey : ByteArray := prog_13_method_85_code
def yX11_takesKey : MethodName := ⟨RX11, "takesKey", "()Z"⟩
abbrev cX11_nameOf : ByteArray := prog_13_method_86_code
def yX11_nameOf : MethodName := ⟨RX11, "nameOf", "(I)I"⟩
abbrev cX11_rank : ByteArray := prog_13_method_87_code
def yX11_rank : MethodName := ⟨RX11, "rank", "(I)I"⟩
abbrev cX11_settle : ByteArray := prog_13_method_88_code
def yX11_settle : MethodName := ⟨RX11, "settle", "(I)V"⟩
abbrev cX11_signHere : ByteArray := prog_13_method_89_code
def yX11_signHere : MethodName := ⟨RX11, "signHere", "()I"⟩
abbrev cX11_takesPart : ByteArray := prog_13_method_90_code
def yX11_takesPart : MethodName := ⟨RX11, "takesPart", "()Z"⟩
abbrev cX11_takesE : ByteArray := prog_13_method_91_code
def yX11_takesE : MethodName := ⟨RX11, "takesE", "()Z"⟩
abbrev cX11_notsOpen : ByteArray := prog_13_method_92_code
def yX11_notsOpen : MethodName := ⟨RX11, "notsOpen", "()I"⟩
abbrev cX11_text : ByteArray := prog_13_method_93_code
def yX11_text : MethodName := ⟨RX11, "text", "()I"⟩
abbrev cX11_textTold : ByteArray := prog_13_method_94_code
def yX11_textTold : MethodName := ⟨RX11, "textTold", "(II)I"⟩
abbrev cX11_counts : ByteArray := prog_13_method_95_code
def yX11_counts : MethodName := ⟨RX11, "counts", "(I)I"⟩
abbrev cX11_why : ByteArray := prog_13_method_96_code
def yX11_why : MethodName := ⟨RX11, "why", "(I)I"⟩
abbrev cX11_two : ByteArray := prog_13_method_97_code
def yX11_two : MethodName := ⟨RX11, "two", "(III)I"⟩
abbrev cX11_worksOut : ByteArray := prog_13_method_98_code
def yX11_worksOut : MethodName := ⟨RX11, "worksOut", "(I)I"⟩
abbrev cX11_isSheet : ByteArray := prog_13_method_99_code
def yX11_isSheet : MethodName := ⟨RX11, "isSheet", "(I)Z"⟩
abbrev cX11_isSlot : ByteArray := prog_13_method_100_code
def yX11_isSlot : MethodName := ⟨RX11, "isSlot", "(I)Z"⟩
abbrev cX11_sheet : ByteArray := prog_13_method_101_code
def yX11_sheet : MethodName := ⟨RX11, "sheet", "(III)I"⟩
abbrev cX11_mark : ByteArray := prog_13_method_102_code
def yX11_mark : MethodName := ⟨RX11, "mark", "(III)I"⟩
abbrev cX11_pour : ByteArray := prog_13_method_103_code
def yX11_pour : MethodName := ⟨RX11, "pour", "(I)I"⟩
abbrev cX11_copy : ByteArray := prog_13_method_104_code
def yX11_copy : MethodName := ⟨RX11, "copy", "(IIIII)I"⟩
abbrev cX11_lay : ByteArray := prog_13_method_105_code
def yX11_lay : MethodName := ⟨RX11, "lay", "(III)I"⟩
abbrev cX11_ask : ByteArray := prog_13_method_106_code
def yX11_ask : MethodName := ⟨RX11, "ask", "(II)I"⟩
abbrev cX11_item : ByteArray := prog_13_method_107_code
def yX11_item : MethodName := ⟨RX11, "item", "(II)I"⟩
abbrev cX11_rest : ByteArray := prog_13_method_108_code
def yX11_rest : MethodName := ⟨RX11, "rest", "(II)I"⟩
abbrev cX11_tell : ByteArray := prog_13_method_109_code
def yX11_tell : MethodName := ⟨RX11, "tell", "(I)I"⟩
abbrev cX11_rightSwaps : ByteArray := prog_13_method_110_code
def yX11_rightSwaps : MethodName := ⟨RX11, "rightSwaps", "(II)I"⟩
abbrev cX11_check : ByteArray := prog_13_method_111_code
def yX11_check : MethodName := ⟨RX11, "check", "(I)I"⟩
abbrev cX11_keep : ByteArray := prog_13_method_112_code
def yX11_keep : MethodName := ⟨RX11, "keep", "()I"⟩
abbrev cX11_back : ByteArray := prog_13_method_113_code
def yX11_back : MethodName := ⟨RX11, "back", "()I"⟩
abbrev cX11_count : ByteArray := prog_13_method_114_code
def yX11_count : MethodName := ⟨RX11, "count", "(I)I"⟩
def RJx145de : String := "java/io/Serializable"
def TJx145de : u_T := fun k => match k with
  | _ => ("", "", "", false)
def tyJx145de : Nat → FieldType := fun k => match k with
  | _ => .int
abbrev wsJx145de0 : List Cond := u_ws RJx145de TJx145de 0
theorem nmJx145de : ∀ a, a < 0 → ∀ b, b < 0 → a ≠ b → (TJx145de a).2.1 ≠ (TJx145de b).2.1 := by decide +kernel
theorem tyJx145de_ok : ∀ k, k < 0 → parseFieldDescriptor (TJx145de k).2.2.1 = some (tyJx145de k) := by decide +kernel
def RJx9f9b0 : String := "java/lang/CharSequence"
def TJx9f9b0 : u_T := fun k => match k with
  | _ => ("", "", "", false)
def tyJx9f9b0 : Nat → FieldType := fun k => match k with
  | _ => .int
abbrev wsJx9f9b00 : List Cond := u_ws RJx9f9b0 TJx9f9b0 0
theorem nmJx9f9b0 : ∀ a, a < 0 → ∀ b, b < 0 → a ≠ b → (TJx9f9b0 a).2.1 ≠ (TJx9f9b0 b).2.1 := by decide +kernel
theorem tyJx9f9b0_ok : ∀ k, k < 0 → parseFieldDescriptor (TJx9f9b0 k).2.2.1 = some (tyJx9f9b0 k) := by decide +kernel
def RJxb160c : String := "java/lang/Comparable"
def TJxb160c : u_T := fun k => match k with
  | _ => ("", "", "", false)
def tyJxb160c : Nat → FieldType := fun k => match k with
  | _ => .int
abbrev wsJxb160c0 : List Cond := u_ws RJxb160c TJxb160c 0
theorem nmJxb160c : ∀ a, a < 0 → ∀ b, b < 0 → a ≠ b → (TJxb160c a).2.1 ≠ (TJxb160c b).2.1 := by decide +kernel
theorem tyJxb160c_ok : ∀ k, k < 0 → parseFieldDescriptor (TJxb160c k).2.2.1 = some (tyJxb160c k) := by decide +kernel
def RJ9 : String := "java/lang/Math"
def TJ9 : u_T := fun k => match k with
  | _ => ("", "", "", false)
def tyJ9 : Nat → FieldType := fun k => match k with
  | _ => .int
abbrev wsJ90 : List Cond := u_ws RJ9 TJ9 0
theorem nmJ9 : ∀ a, a < 0 → ∀ b, b < 0 → a ≠ b → (TJ9 a).2.1 ≠ (TJ9 b).2.1 := by decide +kernel
theorem tyJ9_ok : ∀ k, k < 0 → parseFieldDescriptor (TJ9 k).2.2.1 = some (tyJ9 k) := by decide +kernel
abbrev cJ9_abs_0f7a4 : ByteArray := prog_14_method_59_code
def yJ9_abs_0f7a4 : MethodName := ⟨RJ9, "abs", "(I)I"⟩
abbrev cJ9_max_7cf53 : ByteArray := prog_14_method_65_code
def yJ9_max_7cf53 : MethodName := ⟨RJ9, "max", "(II)I"⟩
abbrev cJ9_min_7cf53 : ByteArray := prog_14_method_69_code
def yJ9_min_7cf53 : MethodName := ⟨RJ9, "min", "(II)I"⟩
def RJ0 : String := "java/lang/String"
def TJ0 : u_T := fun k => match k with
  | _ => ("", "", "", false)
def tyJ0 : Nat → FieldType := fun k => match k with
  | _ => .int
abbrev wsJ00 : List Cond := u_ws RJ0 TJ0 0
theorem nmJ0 : ∀ a, a < 0 → ∀ b, b < 0 → a ≠ b → (TJ0 a).2.1 ≠ (TJ0 b).2.1 := by decide +kernel
theorem tyJ0_ok : ∀ k, k < 0 → parseFieldDescriptor (TJ0 k).2.2.1 = some (tyJ0 k) := by decide +kernel
abbrev cJ0_length_8abf5 : ByteArray := prog_15_method_54_code
def yJ0_length_8abf5 : MethodName := ⟨RJ0, "length", "()I"⟩
abbrev cJ0_charAt_5068e : ByteArray := prog_15_method_56_code
def yJ0_charAt_5068e : MethodName := ⟨RJ0, "charAt", "(I)C"⟩
abbrev cJ0_coder_7d493 : ByteArray := prog_15_method_152_code
def yJ0_coder_7d493 : MethodName := ⟨RJ0, "coder", "()B"⟩
abbrev cJ0_isLatin1_aae02 : ByteArray := prog_15_method_154_code
def yJ0_isLatin1_aae02 : MethodName := ⟨RJ0, "isLatin1", "()Z"⟩
abbrev cJ0_checkIndex_df160 : ByteArray := prog_15_method_155_code
def yJ0_checkIndex_df160 : MethodName := ⟨RJ0, "checkIndex", "(II)V"⟩
def RJ1 : String := "java/lang/StringLatin1"
def TJ1 : u_T := fun k => match k with
  | _ => ("", "", "", false)
def tyJ1 : Nat → FieldType := fun k => match k with
  | _ => .int
abbrev wsJ10 : List Cond := u_ws RJ1 TJ1 0
theorem nmJ1 : ∀ a, a < 0 → ∀ b, b < 0 → a ≠ b → (TJ1 a).2.1 ≠ (TJ1 b).2.1 := by decide +kernel
theorem tyJ1_ok : ∀ k, k < 0 → parseFieldDescriptor (TJ1 k).2.2.1 = some (tyJ1 k) := by decide +kernel
abbrev cJ1_charAt_3b067 : ByteArray := prog_16_method_2_code
def yJ1_charAt_3b067 : MethodName := ⟨RJ1, "charAt", "([BI)C"⟩
def RJ2 : String := "java/lang/StringUTF16"
def TJ2 : u_T := fun k => match k with
  | _ => ("", "", "", false)
def tyJ2 : Nat → FieldType := fun k => match k with
  | _ => .int
abbrev wsJ20 : List Cond := u_ws RJ2 TJ2 0
theorem nmJ2 : ∀ a, a < 0 → ∀ b, b < 0 → a ≠ b → (TJ2 a).2.1 ≠ (TJ2 b).2.1 := by decide +kernel
theorem tyJ2_ok : ∀ k, k < 0 → parseFieldDescriptor (TJ2 k).2.2.1 = some (tyJ2 k) := by decide +kernel
abbrev cJ2_getChar_3b067 : ByteArray := prog_17_method_5_code
def yJ2_getChar_3b067 : MethodName := ⟨RJ2, "getChar", "([BI)C"⟩
abbrev cJ2_length_9d52b : ByteArray := prog_17_method_6_code
def yJ2_length_9d52b : MethodName := ⟨RJ2, "length", "([B)I"⟩
abbrev cJ2_charAt_3b067 : ByteArray := prog_17_method_83_code
def yJ2_charAt_3b067 : MethodName := ⟨RJ2, "charAt", "([BI)C"⟩
abbrev cJ2_checkIndex_2214a : ByteArray := prog_17_method_91_code
def yJ2_checkIndex_2214a : MethodName := ⟨RJ2, "checkIndex", "(I[B)V"⟩
def RJ10 : String := "java/lang/System"
def TJ10 : u_T := fun k => match k with
  | _ => ("", "", "", false)
def tyJ10 : Nat → FieldType := fun k => match k with
  | _ => .int
abbrev wsJ100 : List Cond := u_ws RJ10 TJ10 0
theorem nmJ10 : ∀ a, a < 0 → ∀ b, b < 0 → a ≠ b → (TJ10 a).2.1 ≠ (TJ10 b).2.1 := by decide +kernel
theorem tyJ10_ok : ∀ k, k < 0 → parseFieldDescriptor (TJ10 k).2.2.1 = some (tyJ10 k) := by decide +kernel
def RJxfd54e : String := "java/lang/constant/Constable"
def TJxfd54e : u_T := fun k => match k with
  | _ => ("", "", "", false)
def tyJxfd54e : Nat → FieldType := fun k => match k with
  | _ => .int
abbrev wsJxfd54e0 : List Cond := u_ws RJxfd54e TJxfd54e 0
theorem nmJxfd54e : ∀ a, a < 0 → ∀ b, b < 0 → a ≠ b → (TJxfd54e a).2.1 ≠ (TJxfd54e b).2.1 := by decide +kernel
theorem tyJxfd54e_ok : ∀ k, k < 0 → parseFieldDescriptor (TJxfd54e k).2.2.1 = some (tyJxfd54e k) := by decide +kernel
def RJx3cf43 : String := "java/lang/constant/ConstantDesc"
def TJx3cf43 : u_T := fun k => match k with
  | _ => ("", "", "", false)
def tyJx3cf43 : Nat → FieldType := fun k => match k with
  | _ => .int
abbrev wsJx3cf430 : List Cond := u_ws RJx3cf43 TJx3cf43 0
theorem nmJx3cf43 : ∀ a, a < 0 → ∀ b, b < 0 → a ≠ b → (TJx3cf43 a).2.1 ≠ (TJx3cf43 b).2.1 := by decide +kernel
theorem tyJx3cf43_ok : ∀ k, k < 0 → parseFieldDescriptor (TJx3cf43 k).2.2.1 = some (tyJx3cf43 k) := by decide +kernel
def RJ7 : String := "java/util/Arrays"
def TJ7 : u_T := fun k => match k with
  | _ => ("", "", "", false)
def tyJ7 : Nat → FieldType := fun k => match k with
  | _ => .int
abbrev wsJ70 : List Cond := u_ws RJ7 TJ7 0
theorem nmJ7 : ∀ a, a < 0 → ∀ b, b < 0 → a ≠ b → (TJ7 a).2.1 ≠ (TJ7 b).2.1 := by decide +kernel
theorem tyJ7_ok : ∀ k, k < 0 → parseFieldDescriptor (TJ7 k).2.2.1 = some (tyJ7 k) := by decide +kernel
abbrev cJ7_fill_53178 : ByteArray := prog_19_method_103_code
def yJ7_fill_53178 : MethodName := ⟨RJ7, "fill", "([II)V"⟩
def RJ3 : String := "jdk/internal/util/Preconditions"
def TJ3 : u_T := fun k => match k with
  | _ => ("", "", "", false)
def tyJ3 : Nat → FieldType := fun k => match k with
  | _ => .int
abbrev wsJ30 : List Cond := u_ws RJ3 TJ3 0
theorem nmJ3 : ∀ a, a < 0 → ∀ b, b < 0 → a ≠ b → (TJ3 a).2.1 ≠ (TJ3 b).2.1 := by decide +kernel
theorem tyJ3_ok : ∀ k, k < 0 → parseFieldDescriptor (TJ3 k).2.2.1 = some (tyJ3 k) := by decide +kernel
abbrev cJ3_checkIndex_8e157 : ByteArray := prog_20_method_11_code
def yJ3_checkIndex_8e157 : MethodName := ⟨RJ3, "checkIndex", "(IILjava/util/function/BiFunction;)I"⟩
def RL : String := "RoadsCrossedLaw"
abbrev cL_law : ByteArray := code
def yL_law : MethodName := ⟨RL, "law", "([I)Z"⟩
abbrev vwCl : List vw_C := [(RX0, TX0, 3), (RX1, TX1, 14), (RX2, TX2, 5), (RX3, TX3, 6), (RX4, TX4, 4), (RX5, TX5, 10), (RX6, TX6, 5), (RX7, TX7, 3), (RX8, TX8, 5), (RX9, TX9, 3), (RX10, TX10, 14), (RX11, TX11, 49)]
