/-! ===== the machine that makes cells: what the tables hold, each word at its place; every instruction checked ===== -/
set_option maxRecDepth 100000 in
theorem nf_F0 : (Cond.fieldLink "RoadsCrossed$Costs" 12 "RoadsCrossed$Costs" "laws" "LRoadsCrossed$Laws;" : Cond) ∈ rx_all := rx_in1 (p := 183) rfl rfl
set_option maxRecDepth 100000 in
theorem nf_F1 : (Cond.fieldLink "RoadsCrossed$Costs" 18 "RoadsCrossed$Costs" "harms" "[I" : Cond) ∈ rx_all := rx_in1 (p := 186) rfl rfl
set_option maxRecDepth 100000 in
theorem nf_F2 : (Cond.fieldLink "RoadsCrossed$Costs" 24 "RoadsCrossed$Costs" "ofTwo" "[[I" : Cond) ∈ rx_all := rx_in1 (p := 187) rfl rfl
set_option maxRecDepth 100000 in
theorem nf_F3 : (Cond.fieldLink "RoadsCrossed$Land" 9 "RoadsCrossed$Land" "posts" "I" : Cond) ∈ rx_all := rx_in1 (p := 34) rfl rfl
set_option maxRecDepth 100000 in
theorem nf_F4 : (Cond.fieldLink "RoadsCrossed$Land" 15 "RoadsCrossed$Land" "x" "[I" : Cond) ∈ rx_all := rx_in1 (p := 39) rfl rfl
set_option maxRecDepth 100000 in
theorem nf_F5 : (Cond.fieldLink "RoadsCrossed$Land" 19 "RoadsCrossed$Land" "y" "[I" : Cond) ∈ rx_all := rx_in1 (p := 41) rfl rfl
set_option maxRecDepth 100000 in
theorem nf_F6 : (Cond.fieldLink "RoadsCrossed$Land" 22 "RoadsCrossed$Land" "layer" "[I" : Cond) ∈ rx_all := rx_in1 (p := 43) rfl rfl
set_option maxRecDepth 100000 in
theorem nf_F7 : (Cond.fieldLink "RoadsCrossed$Land" 25 "RoadsCrossed$Land" "line" "[I" : Cond) ∈ rx_all := rx_in1 (p := 46) rfl rfl
set_option maxRecDepth 100000 in
theorem nf_F8 : (Cond.fieldLink "RoadsCrossed$Land" 28 "RoadsCrossed$Land" "place" "[I" : Cond) ∈ rx_all := rx_in1 (p := 49) rfl rfl
set_option maxRecDepth 100000 in
theorem nf_F9 : (Cond.fieldLink "RoadsCrossed$Land" 31 "RoadsCrossed$Land" "roads" "I" : Cond) ∈ rx_all := rx_in1 (p := 51) rfl rfl
set_option maxRecDepth 100000 in
theorem nf_F10 : (Cond.fieldLink "RoadsCrossed$Land" 34 "RoadsCrossed$Land" "kind" "[I" : Cond) ∈ rx_all := rx_in1 (p := 56) rfl rfl
set_option maxRecDepth 100000 in
theorem nf_F11 : (Cond.fieldLink "RoadsCrossed$Land" 37 "RoadsCrossed$Land" "low" "[I" : Cond) ∈ rx_all := rx_in1 (p := 59) rfl rfl
set_option maxRecDepth 100000 in
theorem nf_F12 : (Cond.fieldLink "RoadsCrossed$Land" 40 "RoadsCrossed$Land" "high" "[I" : Cond) ∈ rx_all := rx_in1 (p := 63) rfl rfl
set_option maxRecDepth 100000 in
theorem nf_F13 : (Cond.fieldLink "RoadsCrossed$Land" 43 "RoadsCrossed$Land" "weight" "[I" : Cond) ∈ rx_all := rx_in1 (p := 67) rfl rfl
set_option maxRecDepth 100000 in
theorem nf_F14 : (Cond.fieldLink "RoadsCrossed$Land" 46 "RoadsCrossed$Land" "page" "[I" : Cond) ∈ rx_all := rx_in1 (p := 70) rfl rfl
set_option maxRecDepth 100000 in
theorem nf_F15 : (Cond.fieldLink "RoadsCrossed$Land" 49 "RoadsCrossed$Land" "texts" "I" : Cond) ∈ rx_all := rx_in1 (p := 72) rfl rfl
set_option maxRecDepth 100000 in
theorem nf_F16 : (Cond.fieldLink "RoadsCrossed$Land" 52 "RoadsCrossed$Land" "z" "I" : Cond) ∈ rx_all := rx_in1 (p := 76) rfl rfl
set_option maxRecDepth 100000 in
theorem nf_F17 : (Cond.fieldLink "RoadsCrossed$Laws" 9 "RoadsCrossed$Laws" "keys" "[I" : Cond) ∈ rx_all := rx_in1 (p := 164) rfl rfl
set_option maxRecDepth 100000 in
theorem nf_F18 : (Cond.fieldLink "RoadsCrossed$Laws" 15 "RoadsCrossed$Laws" "leaves" "[I" : Cond) ∈ rx_all := rx_in1 (p := 166) rfl rfl
set_option maxRecDepth 100000 in
theorem nf_F19 : (Cond.fieldLink "RoadsCrossed$Laws" 18 "RoadsCrossed$Laws" "lengths" "[I" : Cond) ∈ rx_all := rx_in1 (p := 168) rfl rfl
set_option maxRecDepth 100000 in
theorem nf_F20 : (Cond.fieldLink "RoadsCrossed$Laws" 23 "RoadsCrossed$Laws" "codes" "[[I" : Cond) ∈ rx_all := rx_in1 (p := 169) rfl rfl
set_option maxRecDepth 100000 in
theorem nf_F21 : (Cond.fieldLink "RoadsCrossed$Laws" 26 "RoadsCrossed$Laws" "stack" "[I" : Cond) ∈ rx_all := rx_in1 (p := 170) rfl rfl
set_option maxRecDepth 100000 in
theorem nf_F22 : (Cond.fieldLink "RoadsCrossed$LineSearch" 9 "RoadsCrossed$LineSearch" "found" "[I" : Cond) ∈ rx_all := rx_in2 (p := 2) rfl rfl
set_option maxRecDepth 100000 in
theorem nf_F23 : (Cond.fieldLink "RoadsCrossed$LineSearch" 15 "RoadsCrossed$LineSearch" "least" "I" : Cond) ∈ rx_all := rx_in2 (p := 4) rfl rfl
set_option maxRecDepth 100000 in
theorem nf_F24 : (Cond.fieldLink "RoadsCrossed$LineSearch" 19 "RoadsCrossed$LineSearch" "row" "[I" : Cond) ∈ rx_all := rx_in2 (p := 6) rfl rfl
set_option maxRecDepth 100000 in
theorem nf_F25 : (Cond.fieldLink "RoadsCrossed$LineSearch" 22 "RoadsCrossed$LineSearch" "standing" "I" : Cond) ∈ rx_all := rx_in2 (p := 7) rfl rfl
set_option maxRecDepth 100000 in
theorem nf_F26 : (Cond.fieldLink "RoadsCrossed$LineSearch" 25 "RoadsCrossed$LineSearch" "posts" "I" : Cond) ∈ rx_all := rx_in2 (p := 8) rfl rfl
set_option maxRecDepth 100000 in
theorem nf_F27 : (Cond.fieldLink "RoadsCrossed$LineSearch" 30 "RoadsCrossed$LineSearch" "between" "[[I" : Cond) ∈ rx_all := rx_in2 (p := 9) rfl rfl
set_option maxRecDepth 100000 in
theorem nf_F28 : (Cond.fieldLink "RoadsCrossed$PageSearch" 9 "RoadsCrossed$PageSearch" "found" "[I" : Cond) ∈ rx_all := rx_in1 (p := 221) rfl rfl
set_option maxRecDepth 100000 in
theorem nf_F29 : (Cond.fieldLink "RoadsCrossed$PageSearch" 15 "RoadsCrossed$PageSearch" "clashes" "[I" : Cond) ∈ rx_all := rx_in1 (p := 223) rfl rfl
set_option maxRecDepth 100000 in
theorem nf_F30 : (Cond.fieldLink "RoadsCrossed$PageSearch" 18 "RoadsCrossed$PageSearch" "onPage" "[I" : Cond) ∈ rx_all := rx_in1 (p := 224) rfl rfl
set_option maxRecDepth 100000 in
theorem nf_F31 : (Cond.fieldLink "RoadsCrossed$PageSearch" 21 "RoadsCrossed$PageSearch" "roads" "I" : Cond) ∈ rx_all := rx_in1 (p := 225) rfl rfl
set_option maxRecDepth 100000 in
theorem nf_F32 : (Cond.fieldLink "RoadsCrossed$Reader" 9 "RoadsCrossed$Reader" "taped" "I" : Cond) ∈ rx_all := rx_in1 (p := 114) rfl rfl
set_option maxRecDepth 100000 in
theorem nf_F33 : (Cond.fieldLink "RoadsCrossed$Reader" 15 "RoadsCrossed$Reader" "key" "I" : Cond) ∈ rx_all := rx_in1 (p := 116) rfl rfl
set_option maxRecDepth 100000 in
theorem nf_F34 : (Cond.fieldLink "RoadsCrossed$Reader" 18 "RoadsCrossed$Reader" "leaves" "I" : Cond) ∈ rx_all := rx_in1 (p := 118) rfl rfl
set_option maxRecDepth 100000 in
theorem nf_F35 : (Cond.fieldLink "RoadsCrossed$Reader" 21 "RoadsCrossed$Reader" "length" "I" : Cond) ∈ rx_all := rx_in1 (p := 120) rfl rfl
set_option maxRecDepth 100000 in
theorem nf_F36 : (Cond.fieldLink "RoadsCrossed$Reader" 24 "RoadsCrossed$Reader" "code" "[I" : Cond) ∈ rx_all := rx_in1 (p := 122) rfl rfl
set_option maxRecDepth 100000 in
theorem nf_F37 : (Cond.fieldLink "RoadsCrossed$Reader" 28 "RoadsCrossed$Reader" "tape" "[I" : Cond) ∈ rx_all := rx_in1 (p := 124) rfl rfl
set_option maxRecDepth 100000 in
theorem nf_F38 : (Cond.fieldLink "RoadsCrossed$Reader" 31 "RoadsCrossed$Reader" "token" "I" : Cond) ∈ rx_all := rx_in1 (p := 125) rfl rfl
set_option maxRecDepth 100000 in
theorem nf_F39 : (Cond.fieldLink "RoadsCrossed$Reader" 34 "RoadsCrossed$Reader" "from" "I" : Cond) ∈ rx_all := rx_in1 (p := 126) rfl rfl
set_option maxRecDepth 100000 in
theorem nf_F40 : (Cond.fieldLink "RoadsCrossed$Reader" 37 "RoadsCrossed$Reader" "to" "I" : Cond) ∈ rx_all := rx_in1 (p := 127) rfl rfl
set_option maxRecDepth 100000 in
theorem nf_F41 : (Cond.fieldLink "RoadsCrossed$Reader" 40 "RoadsCrossed$Reader" "fault" "I" : Cond) ∈ rx_all := rx_in1 (p := 128) rfl rfl
set_option maxRecDepth 100000 in
theorem nf_F42 : (Cond.fieldLink "RoadsCrossed$RowSearch" 9 "RoadsCrossed$RowSearch" "found" "[I" : Cond) ∈ rx_all := rx_in2 (p := 29) rfl rfl
set_option maxRecDepth 100000 in
theorem nf_F43 : (Cond.fieldLink "RoadsCrossed$RowSearch" 15 "RoadsCrossed$RowSearch" "least" "I" : Cond) ∈ rx_all := rx_in2 (p := 31) rfl rfl
set_option maxRecDepth 100000 in
theorem nf_F44 : (Cond.fieldLink "RoadsCrossed$RowSearch" 19 "RoadsCrossed$RowSearch" "posts" "[I" : Cond) ∈ rx_all := rx_in2 (p := 33) rfl rfl
set_option maxRecDepth 100000 in
theorem nf_F45 : (Cond.fieldLink "RoadsCrossed$RowSearch" 22 "RoadsCrossed$RowSearch" "places" "[I" : Cond) ∈ rx_all := rx_in2 (p := 34) rfl rfl
set_option maxRecDepth 100000 in
theorem nf_F46 : (Cond.fieldLink "RoadsCrossed$RowSearch" 25 "RoadsCrossed$RowSearch" "size" "I" : Cond) ∈ rx_all := rx_in2 (p := 35) rfl rfl
set_option maxRecDepth 100000 in
theorem nf_F47 : (Cond.fieldLink "RoadsCrossed$Sheet" 9 "RoadsCrossed$Sheet" "sort" "I" : Cond) ∈ rx_all := rx_in2 (p := 56) rfl rfl
set_option maxRecDepth 100000 in
theorem nf_F48 : (Cond.fieldLink "RoadsCrossed$Sheet" 15 "RoadsCrossed$Sheet" "size" "I" : Cond) ∈ rx_all := rx_in2 (p := 58) rfl rfl
set_option maxRecDepth 100000 in
theorem nf_F49 : (Cond.fieldLink "RoadsCrossed$Sheet" 18 "RoadsCrossed$Sheet" "values" "[I" : Cond) ∈ rx_all := rx_in2 (p := 60) rfl rfl
set_option maxRecDepth 100000 in
theorem nf_F50 : (Cond.fieldLink "RoadsCrossed$Slot" 9 "RoadsCrossed$Slot" "thing" "I" : Cond) ∈ rx_all := rx_in2 (p := 76) rfl rfl
set_option maxRecDepth 100000 in
theorem nf_F51 : (Cond.fieldLink "RoadsCrossed$Slot" 15 "RoadsCrossed$Slot" "kind" "I" : Cond) ∈ rx_all := rx_in2 (p := 78) rfl rfl
set_option maxRecDepth 100000 in
theorem nf_F52 : (Cond.fieldLink "RoadsCrossed$Slot" 18 "RoadsCrossed$Slot" "weight" "I" : Cond) ∈ rx_all := rx_in2 (p := 80) rfl rfl
set_option maxRecDepth 100000 in
theorem nf_F53 : (Cond.fieldLink "RoadsCrossed$Slot" 24 "RoadsCrossed$Slot" "row" "LRoadsCrossed$Sheet;" : Cond) ∈ rx_all := rx_in2 (p := 82) rfl rfl
set_option maxRecDepth 100000 in
theorem nf_F54 : (Cond.fieldLink "RoadsCrossed$Slot" 28 "RoadsCrossed$Slot" "number" "I" : Cond) ∈ rx_all := rx_in2 (p := 84) rfl rfl
set_option maxRecDepth 100000 in
theorem nf_F55 : (Cond.fieldLink "RoadsCrossed$SwapSearch" 9 "RoadsCrossed$SwapSearch" "one" "I" : Cond) ∈ rx_all := rx_in1 (p := 202) rfl rfl
set_option maxRecDepth 100000 in
theorem nf_F56 : (Cond.fieldLink "RoadsCrossed$SwapSearch" 15 "RoadsCrossed$SwapSearch" "other" "I" : Cond) ∈ rx_all := rx_in1 (p := 204) rfl rfl
set_option maxRecDepth 100000 in
theorem nf_F57 : (Cond.fieldLink "RoadsCrossed$SwapSearch" 18 "RoadsCrossed$SwapSearch" "least" "I" : Cond) ∈ rx_all := rx_in1 (p := 206) rfl rfl
set_option maxRecDepth 100000 in
theorem nf_F58 : (Cond.fieldLink "RoadsCrossed" 12 "RoadsCrossed" "now" "LRoadsCrossed$Land;" : Cond) ∈ rx_all := rx_in2 (p := 97) rfl rfl
set_option maxRecDepth 100000 in
theorem nf_F59 : (Cond.fieldLink "RoadsCrossed" 18 "RoadsCrossed" "image" "LRoadsCrossed$Land;" : Cond) ∈ rx_all := rx_in2 (p := 98) rfl rfl
set_option maxRecDepth 100000 in
theorem nf_F60 : (Cond.fieldLink "RoadsCrossed" 21 "RoadsCrossed" "trial" "LRoadsCrossed$Land;" : Cond) ∈ rx_all := rx_in2 (p := 99) rfl rfl
set_option maxRecDepth 100000 in
theorem nf_F61 : (Cond.fieldLink "RoadsCrossed" 24 "RoadsCrossed" "kept" "Z" : Cond) ∈ rx_all := rx_in2 (p := 100) rfl rfl
set_option maxRecDepth 100000 in
theorem nf_F62 : (Cond.fieldLink "RoadsCrossed" 31 "RoadsCrossed" "reader" "LRoadsCrossed$Reader;" : Cond) ∈ rx_all := rx_in2 (p := 101) rfl rfl
set_option maxRecDepth 100000 in
theorem nf_F63 : (Cond.fieldLink "RoadsCrossed" 38 "RoadsCrossed" "costs" "LRoadsCrossed$Costs;" : Cond) ∈ rx_all := rx_in2 (p := 102) rfl rfl
set_option maxRecDepth 100000 in
theorem nf_F64 : (Cond.fieldLink "RoadsCrossed" 45 "RoadsCrossed" "swapSearch" "LRoadsCrossed$SwapSearch;" : Cond) ∈ rx_all := rx_in2 (p := 103) rfl rfl
set_option maxRecDepth 100000 in
theorem nf_F65 : (Cond.fieldLink "RoadsCrossed" 52 "RoadsCrossed" "pageSearch" "LRoadsCrossed$PageSearch;" : Cond) ∈ rx_all := rx_in2 (p := 104) rfl rfl
set_option maxRecDepth 100000 in
theorem nf_F66 : (Cond.fieldLink "RoadsCrossed" 59 "RoadsCrossed" "lineSearch" "LRoadsCrossed$LineSearch;" : Cond) ∈ rx_all := rx_in2 (p := 105) rfl rfl
set_option maxRecDepth 100000 in
theorem nf_F67 : (Cond.fieldLink "RoadsCrossed" 66 "RoadsCrossed" "rowSearch" "LRoadsCrossed$RowSearch;" : Cond) ∈ rx_all := rx_in2 (p := 106) rfl rfl
set_option maxRecDepth 100000 in
theorem nf_F68 : (Cond.fieldLink "RoadsCrossed" 72 "RoadsCrossed" "sheets" "[LRoadsCrossed$Sheet;" : Cond) ∈ rx_all := rx_in2 (p := 107) rfl rfl
set_option maxRecDepth 100000 in
theorem nf_F69 : (Cond.fieldLink "RoadsCrossed" 78 "RoadsCrossed" "slots" "[LRoadsCrossed$Slot;" : Cond) ∈ rx_all := rx_in2 (p := 108) rfl rfl
set_option maxRecDepth 100000 in
theorem nf_F70 : (Cond.fieldLink "RoadsCrossed" 82 "RoadsCrossed" "waiting" "[I" : Cond) ∈ rx_all := rx_in2 (p := 109) rfl rfl
set_option maxRecDepth 100000 in
theorem nf_F71 : (Cond.fieldLink "RoadsCrossed" 86 "RoadsCrossed" "waits" "I" : Cond) ∈ rx_all := rx_in2 (p := 110) rfl rfl
set_option maxRecDepth 100000 in
theorem nf_F72 : (Cond.fieldLink "RoadsCrossedModel" 9 "RoadsCrossedModel" "now" "[I" : Cond) ∈ rx_all := rx_in5 (p := 56) rfl rfl
set_option maxRecDepth 100000 in
theorem nf_F73 : (Cond.fieldLink "RoadsCrossedModel" 13 "RoadsCrossedModel" "image" "[I" : Cond) ∈ rx_all := rx_in5 (p := 57) rfl rfl
set_option maxRecDepth 100000 in
theorem nf_F74 : (Cond.fieldLink "RoadsCrossedModel" 16 "RoadsCrossedModel" "aside" "[I" : Cond) ∈ rx_all := rx_in5 (p := 58) rfl rfl
set_option maxRecDepth 100000 in
theorem nf_F75 : (Cond.fieldLink "RoadsCrossedModel" 19 "RoadsCrossedModel" "harms" "[I" : Cond) ∈ rx_all := rx_in5 (p := 60) rfl rfl
set_option maxRecDepth 100000 in
theorem nf_F76 : (Cond.fieldLink "RoadsCrossedModel" 22 "RoadsCrossedModel" "pairs" "[I" : Cond) ∈ rx_all := rx_in5 (p := 61) rfl rfl
set_option maxRecDepth 100000 in
theorem nf_F77 : (Cond.fieldLink "RoadsCrossedModel" 25 "RoadsCrossedModel" "sides" "[I" : Cond) ∈ rx_all := rx_in5 (p := 62) rfl rfl
set_option maxRecDepth 100000 in
theorem nf_F78 : (Cond.fieldLink "RoadsCrossedModel" 28 "RoadsCrossedModel" "met" "[Z" : Cond) ∈ rx_all := rx_in5 (p := 65) rfl rfl
set_option maxRecDepth 100000 in
theorem nf_F79 : (Cond.fieldLink "RoadsCrossedModel" 32 "RoadsCrossedModel" "places" "[I" : Cond) ∈ rx_all := rx_in5 (p := 66) rfl rfl
set_option maxRecDepth 100000 in
theorem nf_F80 : (Cond.fieldLink "RoadsCrossedModel" 35 "RoadsCrossedModel" "passes" "[I" : Cond) ∈ rx_all := rx_in5 (p := 67) rfl rfl
set_option maxRecDepth 100000 in
theorem nf_F81 : (Cond.fieldLink "RoadsCrossedModel" 38 "RoadsCrossedModel" "pageOf" "[I" : Cond) ∈ rx_all := rx_in5 (p := 68) rfl rfl
set_option maxRecDepth 100000 in
theorem nf_F82 : (Cond.fieldLink "RoadsCrossedModel" 41 "RoadsCrossedModel" "tried" "[I" : Cond) ∈ rx_all := rx_in5 (p := 69) rfl rfl
set_option maxRecDepth 100000 in
theorem nf_F83 : (Cond.fieldLink "RoadsCrossedModel" 44 "RoadsCrossedModel" "costs" "[I" : Cond) ∈ rx_all := rx_in5 (p := 70) rfl rfl
set_option maxRecDepth 100000 in
theorem nf_F84 : (Cond.fieldLink "RoadsCrossedModel" 47 "RoadsCrossedModel" "bestOrder" "[I" : Cond) ∈ rx_all := rx_in5 (p := 71) rfl rfl
set_option maxRecDepth 100000 in
theorem nf_F85 : (Cond.fieldLink "RoadsCrossedModel" 50 "RoadsCrossedModel" "members" "[I" : Cond) ∈ rx_all := rx_in5 (p := 73) rfl rfl
set_option maxRecDepth 100000 in
theorem nf_F86 : (Cond.fieldLink "RoadsCrossedModel" 53 "RoadsCrossedModel" "seats" "[I" : Cond) ∈ rx_all := rx_in5 (p := 74) rfl rfl
set_option maxRecDepth 100000 in
theorem nf_F87 : (Cond.fieldLink "RoadsCrossedModel" 56 "RoadsCrossedModel" "taken" "[I" : Cond) ∈ rx_all := rx_in5 (p := 75) rfl rfl
set_option maxRecDepth 100000 in
theorem nf_F88 : (Cond.fieldLink "RoadsCrossedModel" 59 "RoadsCrossedModel" "tape" "[I" : Cond) ∈ rx_all := rx_in5 (p := 77) rfl rfl
set_option maxRecDepth 100000 in
theorem nf_F89 : (Cond.fieldLink "RoadsCrossedModel" 62 "RoadsCrossedModel" "keys" "[C" : Cond) ∈ rx_all := rx_in5 (p := 85) rfl rfl
set_option maxRecDepth 100000 in
theorem nf_F90 : (Cond.fieldLink "RoadsCrossedModel" 66 "RoadsCrossedModel" "keyAt" "[I" : Cond) ∈ rx_all := rx_in5 (p := 86) rfl rfl
set_option maxRecDepth 100000 in
theorem nf_F91 : (Cond.fieldLink "RoadsCrossedModel" 69 "RoadsCrossedModel" "code" "[I" : Cond) ∈ rx_all := rx_in5 (p := 87) rfl rfl
set_option maxRecDepth 100000 in
theorem nf_F92 : (Cond.fieldLink "RoadsCrossedModel" 72 "RoadsCrossedModel" "waits" "[I" : Cond) ∈ rx_all := rx_in5 (p := 90) rfl rfl
set_option maxRecDepth 100000 in
theorem nf_F93 : (Cond.fieldLink "RoadsCrossedModel" 75 "RoadsCrossedModel" "tested" "[Z" : Cond) ∈ rx_all := rx_in5 (p := 92) rfl rfl
set_option maxRecDepth 100000 in
theorem nf_F94 : (Cond.fieldLink "RoadsCrossedModel" 78 "RoadsCrossedModel" "stack" "[I" : Cond) ∈ rx_all := rx_in5 (p := 93) rfl rfl
set_option maxRecDepth 100000 in
theorem nf_F95 : (Cond.fieldLink "RoadsCrossedModel" 81 "RoadsCrossedModel" "facts" "[I" : Cond) ∈ rx_all := rx_in5 (p := 94) rfl rfl
set_option maxRecDepth 100000 in
theorem nf_F96 : (Cond.fieldLink "RoadsCrossedModel" 84 "RoadsCrossedModel" "sorts" "[I" : Cond) ∈ rx_all := rx_in5 (p := 95) rfl rfl
set_option maxRecDepth 100000 in
theorem nf_F97 : (Cond.fieldLink "RoadsCrossedModel" 87 "RoadsCrossedModel" "sizes" "[I" : Cond) ∈ rx_all := rx_in5 (p := 96) rfl rfl
set_option maxRecDepth 100000 in
theorem nf_F98 : (Cond.fieldLink "RoadsCrossedModel" 90 "RoadsCrossedModel" "cells" "[I" : Cond) ∈ rx_all := rx_in5 (p := 97) rfl rfl
set_option maxRecDepth 100000 in
theorem nf_F99 : (Cond.fieldLink "RoadsCrossedModel" 93 "RoadsCrossedModel" "holds" "[I" : Cond) ∈ rx_all := rx_in5 (p := 98) rfl rfl
set_option maxRecDepth 100000 in
theorem nf_F100 : (Cond.fieldLink "RoadsCrossedModel" 96 "RoadsCrossedModel" "holdsA" "[I" : Cond) ∈ rx_all := rx_in5 (p := 99) rfl rfl
set_option maxRecDepth 100000 in
theorem nf_F101 : (Cond.fieldLink "RoadsCrossedModel" 99 "RoadsCrossedModel" "holdsB" "[I" : Cond) ∈ rx_all := rx_in5 (p := 100) rfl rfl
set_option maxRecDepth 100000 in
theorem nf_F102 : (Cond.fieldLink "RoadsCrossedModel" 102 "RoadsCrossedModel" "heldCells" "[I" : Cond) ∈ rx_all := rx_in5 (p := 101) rfl rfl
set_option maxRecDepth 100000 in
theorem nf_F103 : (Cond.fieldLink "RoadsCrossedModel" 105 "RoadsCrossedModel" "moved" "[I" : Cond) ∈ rx_all := rx_in5 (p := 102) rfl rfl
set_option maxRecDepth 100000 in
theorem nf_F104 : (Cond.fieldLink "RoadsCrossedModel" 108 "RoadsCrossedModel" "tells" "[I" : Cond) ∈ rx_all := rx_in5 (p := 103) rfl rfl
set_option maxRecDepth 100000 in
theorem nf_FL : ∀ q ∈ nk_FL, Cond.fieldLink (rx_cn q.1) q.2.1 ((rx_cl q.2.2.1).2.1 q.2.2.2).1 ((rx_cl q.2.2.1).2.1 q.2.2.2).2.1 ((rx_cl q.2.2.1).2.1 q.2.2.2).2.2.1 ∈ rx_all := by
  unfold nk_FL
  exact List.forall_mem_cons.mpr ⟨nf_F0, List.forall_mem_cons.mpr ⟨nf_F1, List.forall_mem_cons.mpr ⟨nf_F2, List.forall_mem_cons.mpr ⟨nf_F3, List.forall_mem_cons.mpr ⟨nf_F4, List.forall_mem_cons.mpr ⟨nf_F5, List.forall_mem_cons.mpr ⟨nf_F6, List.forall_mem_cons.mpr ⟨nf_F7, List.forall_mem_cons.mpr ⟨nf_F8, List.forall_mem_cons.mpr ⟨nf_F9, List.forall_mem_cons.mpr ⟨nf_F10, List.forall_mem_cons.mpr ⟨nf_F11, List.forall_mem_cons.mpr ⟨nf_F12, List.forall_mem_cons.mpr ⟨nf_F13, List.forall_mem_cons.mpr ⟨nf_F14, List.forall_mem_cons.mpr ⟨nf_F15, List.forall_mem_cons.mpr ⟨nf_F16, List.forall_mem_cons.mpr ⟨nf_F17, List.forall_mem_cons.mpr ⟨nf_F18, List.forall_mem_cons.mpr ⟨nf_F19, List.forall_mem_cons.mpr ⟨nf_F20, List.forall_mem_cons.mpr ⟨nf_F21, List.forall_mem_cons.mpr ⟨nf_F22, List.forall_mem_cons.mpr ⟨nf_F23, List.forall_mem_cons.mpr ⟨nf_F24, List.forall_mem_cons.mpr ⟨nf_F25, List.forall_mem_cons.mpr ⟨nf_F26, List.forall_mem_cons.mpr ⟨nf_F27, List.forall_mem_cons.mpr ⟨nf_F28, List.forall_mem_cons.mpr ⟨nf_F29, List.forall_mem_cons.mpr ⟨nf_F30, List.forall_mem_cons.mpr ⟨nf_F31, List.forall_mem_cons.mpr ⟨nf_F32, List.forall_mem_cons.mpr ⟨nf_F33, List.forall_mem_cons.mpr ⟨nf_F34, List.forall_mem_cons.mpr ⟨nf_F35, List.forall_mem_cons.mpr ⟨nf_F36, List.forall_mem_cons.mpr ⟨nf_F37, List.forall_mem_cons.mpr ⟨nf_F38, List.forall_mem_cons.mpr ⟨nf_F39, List.forall_mem_cons.mpr ⟨nf_F40, List.forall_mem_cons.mpr ⟨nf_F41, List.forall_mem_cons.mpr ⟨nf_F42, List.forall_mem_cons.mpr ⟨nf_F43, List.forall_mem_cons.mpr ⟨nf_F44, List.forall_mem_cons.mpr ⟨nf_F45, List.forall_mem_cons.mpr ⟨nf_F46, List.forall_mem_cons.mpr ⟨nf_F47, List.forall_mem_cons.mpr ⟨nf_F48, List.forall_mem_cons.mpr ⟨nf_F49, List.forall_mem_cons.mpr ⟨nf_F50, List.forall_mem_cons.mpr ⟨nf_F51, List.forall_mem_cons.mpr ⟨nf_F52, List.forall_mem_cons.mpr ⟨nf_F53, List.forall_mem_cons.mpr ⟨nf_F54, List.forall_mem_cons.mpr ⟨nf_F55, List.forall_mem_cons.mpr ⟨nf_F56, List.forall_mem_cons.mpr ⟨nf_F57, List.forall_mem_cons.mpr ⟨nf_F58, List.forall_mem_cons.mpr ⟨nf_F59, List.forall_mem_cons.mpr ⟨nf_F60, List.forall_mem_cons.mpr ⟨nf_F61, List.forall_mem_cons.mpr ⟨nf_F62, List.forall_mem_cons.mpr ⟨nf_F63, List.forall_mem_cons.mpr ⟨nf_F64, List.forall_mem_cons.mpr ⟨nf_F65, List.forall_mem_cons.mpr ⟨nf_F66, List.forall_mem_cons.mpr ⟨nf_F67, List.forall_mem_cons.mpr ⟨nf_F68, List.forall_mem_cons.mpr ⟨nf_F69, List.forall_mem_cons.mpr ⟨nf_F70, List.forall_mem_cons.mpr ⟨nf_F71, List.forall_mem_cons.mpr ⟨nf_F72, List.forall_mem_cons.mpr ⟨nf_F73, List.forall_mem_cons.mpr ⟨nf_F74, List.forall_mem_cons.mpr ⟨nf_F75, List.forall_mem_cons.mpr ⟨nf_F76, List.forall_mem_cons.mpr ⟨nf_F77, List.forall_mem_cons.mpr ⟨nf_F78, List.forall_mem_cons.mpr ⟨nf_F79, List.forall_mem_cons.mpr ⟨nf_F80, List.forall_mem_cons.mpr ⟨nf_F81, List.forall_mem_cons.mpr ⟨nf_F82, List.forall_mem_cons.mpr ⟨nf_F83, List.forall_mem_cons.mpr ⟨nf_F84, List.forall_mem_cons.mpr ⟨nf_F85, List.forall_mem_cons.mpr ⟨nf_F86, List.forall_mem_cons.mpr ⟨nf_F87, List.forall_mem_cons.mpr ⟨nf_F88, List.forall_mem_cons.mpr ⟨nf_F89, List.forall_mem_cons.mpr ⟨nf_F90, List.forall_mem_cons.mpr ⟨nf_F91, List.forall_mem_cons.mpr ⟨nf_F92, List.forall_mem_cons.mpr ⟨nf_F93, List.forall_mem_cons.mpr ⟨nf_F94, List.forall_mem_cons.mpr ⟨nf_F95, List.forall_mem_cons.mpr ⟨nf_F96, List.forall_mem_cons.mpr ⟨nf_F97, List.forall_mem_cons.mpr ⟨nf_F98, List.forall_mem_cons.mpr ⟨nf_F99, List.forall_mem_cons.mpr ⟨nf_F100, List.forall_mem_cons.mpr ⟨nf_F101, List.forall_mem_cons.mpr ⟨nf_F102, List.forall_mem_cons.mpr ⟨nf_F103, List.forall_mem_cons.mpr ⟨nf_F104, fun q h => absurd h List.not_mem_nil⟩⟩⟩⟩⟩⟩⟩⟩⟩⟩⟩⟩⟩⟩⟩⟩⟩⟩⟩⟩⟩⟩⟩⟩⟩⟩⟩⟩⟩⟩⟩⟩⟩⟩⟩⟩⟩⟩⟩⟩⟩⟩⟩⟩⟩⟩⟩⟩⟩⟩⟩⟩⟩⟩⟩⟩⟩⟩⟩⟩⟩⟩⟩⟩⟩⟩⟩⟩⟩⟩⟩⟩⟩⟩⟩⟩⟩⟩⟩⟩⟩⟩⟩⟩⟩⟩⟩⟩⟩⟩⟩⟩⟩⟩⟩⟩⟩⟩⟩⟩⟩⟩⟩⟩⟩
set_option maxRecDepth 100000 in
theorem nf_K0 : (Cond.classLink "RoadsCrossed$Costs" 9 "RoadsCrossed$Laws" : Cond) ∈ rx_all := rx_in1 (p := 156) rfl rfl
set_option maxRecDepth 100000 in
theorem nf_K1 : (Cond.classLink "RoadsCrossed$Slot" 21 "RoadsCrossed$Sheet" : Cond) ∈ rx_all := rx_in2 (p := 74) rfl rfl
set_option maxRecDepth 100000 in
theorem nf_K2 : (Cond.classLink "RoadsCrossed" 9 "RoadsCrossed$Land" : Cond) ∈ rx_all := rx_in1 (p := 28) rfl rfl
set_option maxRecDepth 100000 in
theorem nf_K3 : (Cond.classLink "RoadsCrossed" 28 "RoadsCrossed$Reader" : Cond) ∈ rx_all := rx_in1 (p := 108) rfl rfl
set_option maxRecDepth 100000 in
theorem nf_K4 : (Cond.classLink "RoadsCrossed" 35 "RoadsCrossed$Costs" : Cond) ∈ rx_all := rx_in1 (p := 150) rfl rfl
set_option maxRecDepth 100000 in
theorem nf_K5 : (Cond.classLink "RoadsCrossed" 42 "RoadsCrossed$SwapSearch" : Cond) ∈ rx_all := rx_in1 (p := 196) rfl rfl
set_option maxRecDepth 100000 in
theorem nf_K6 : (Cond.classLink "RoadsCrossed" 49 "RoadsCrossed$PageSearch" : Cond) ∈ rx_all := rx_in1 (p := 215) rfl rfl
set_option maxRecDepth 100000 in
theorem nf_K7 : (Cond.classLink "RoadsCrossed" 56 "RoadsCrossed$LineSearch" : Cond) ∈ rx_all := rx_in1 (p := 235) rfl rfl
set_option maxRecDepth 100000 in
theorem nf_K8 : (Cond.classLink "RoadsCrossed" 63 "RoadsCrossed$RowSearch" : Cond) ∈ rx_all := rx_in2 (p := 23) rfl rfl
set_option maxRecDepth 100000 in
theorem nf_K9 : (Cond.classLink "RoadsCrossed" 70 "RoadsCrossed$Sheet" : Cond) ∈ rx_all := rx_in2 (p := 47) rfl rfl
set_option maxRecDepth 100000 in
theorem nf_K10 : (Cond.classLink "RoadsCrossed" 76 "RoadsCrossed$Slot" : Cond) ∈ rx_all := rx_in2 (p := 49) rfl rfl
set_option maxRecDepth 100000 in
theorem nf_K11 : (Cond.classLink "RoadsCrossedLaw" 7 "RoadsCrossed" : Cond) ∈ rx_all := rx_in1 (p := 20) rfl rfl
set_option maxRecDepth 100000 in
theorem nf_K12 : (Cond.classLink "RoadsCrossedLaw" 10 "RoadsCrossedModel" : Cond) ∈ rx_all := rx_in5 (p := 50) rfl rfl
set_option maxRecDepth 100000 in
theorem nf_CL : ∀ q ∈ nk_CL, Cond.classLink (rx_cn q.1) q.2.1 (rx_cl q.2.2).1 ∈ rx_all := by
  unfold nk_CL
  exact List.forall_mem_cons.mpr ⟨nf_K0, List.forall_mem_cons.mpr ⟨nf_K1, List.forall_mem_cons.mpr ⟨nf_K2, List.forall_mem_cons.mpr ⟨nf_K3, List.forall_mem_cons.mpr ⟨nf_K4, List.forall_mem_cons.mpr ⟨nf_K5, List.forall_mem_cons.mpr ⟨nf_K6, List.forall_mem_cons.mpr ⟨nf_K7, List.forall_mem_cons.mpr ⟨nf_K8, List.forall_mem_cons.mpr ⟨nf_K9, List.forall_mem_cons.mpr ⟨nf_K10, List.forall_mem_cons.mpr ⟨nf_K11, List.forall_mem_cons.mpr ⟨nf_K12, fun q h => absurd h List.not_mem_nil⟩⟩⟩⟩⟩⟩⟩⟩⟩⟩⟩⟩⟩
set_option maxRecDepth 100000 in
theorem nf_C0 : Cond.instantiable (rx_cl 0).1 (rx_cl 0).2.2 ∈ rx_all ∧ Cond.initialized (rx_cl 0).1 ∈ rx_all ∧ (nk_df 0).length = (rx_cl 0).2.2 ∧ ∀ k, k < (rx_cl 0).2.2 → (parseFieldDescriptor ((rx_cl 0).2.1 k).2.2.1).bind nk_ty = some (decide ((nk_df 0)[k]? = some (some (.inl 0)))) ∧ ((nk_df 0)[k]? = some none ∨ (nk_df 0)[k]? = some (some (.inl 0))) := ⟨rx_in1 (p := 151) rfl rfl, rx_in1 (p := 4) rfl rfl, by decide +kernel, by decide +kernel⟩
set_option maxRecDepth 100000 in
theorem nf_C1 : Cond.instantiable (rx_cl 1).1 (rx_cl 1).2.2 ∈ rx_all ∧ Cond.initialized (rx_cl 1).1 ∈ rx_all ∧ (nk_df 1).length = (rx_cl 1).2.2 ∧ ∀ k, k < (rx_cl 1).2.2 → (parseFieldDescriptor ((rx_cl 1).2.1 k).2.2.1).bind nk_ty = some (decide ((nk_df 1)[k]? = some (some (.inl 0)))) ∧ ((nk_df 1)[k]? = some none ∨ (nk_df 1)[k]? = some (some (.inl 0))) := ⟨rx_in1 (p := 29) rfl rfl, rx_in1 (p := 2) rfl rfl, by decide +kernel, by decide +kernel⟩
set_option maxRecDepth 100000 in
theorem nf_C2 : Cond.instantiable (rx_cl 2).1 (rx_cl 2).2.2 ∈ rx_all ∧ Cond.initialized (rx_cl 2).1 ∈ rx_all ∧ (nk_df 2).length = (rx_cl 2).2.2 ∧ ∀ k, k < (rx_cl 2).2.2 → (parseFieldDescriptor ((rx_cl 2).2.1 k).2.2.1).bind nk_ty = some (decide ((nk_df 2)[k]? = some (some (.inl 0)))) ∧ ((nk_df 2)[k]? = some none ∨ (nk_df 2)[k]? = some (some (.inl 0))) := ⟨rx_in1 (p := 157) rfl rfl, rx_in1 (p := 5) rfl rfl, by decide +kernel, by decide +kernel⟩
set_option maxRecDepth 100000 in
theorem nf_C3 : Cond.instantiable (rx_cl 3).1 (rx_cl 3).2.2 ∈ rx_all ∧ Cond.initialized (rx_cl 3).1 ∈ rx_all ∧ (nk_df 3).length = (rx_cl 3).2.2 ∧ ∀ k, k < (rx_cl 3).2.2 → (parseFieldDescriptor ((rx_cl 3).2.1 k).2.2.1).bind nk_ty = some (decide ((nk_df 3)[k]? = some (some (.inl 0)))) ∧ ((nk_df 3)[k]? = some none ∨ (nk_df 3)[k]? = some (some (.inl 0))) := ⟨rx_in1 (p := 236) rfl rfl, rx_in1 (p := 8) rfl rfl, by decide +kernel, by decide +kernel⟩
set_option maxRecDepth 100000 in
theorem nf_C4 : Cond.instantiable (rx_cl 4).1 (rx_cl 4).2.2 ∈ rx_all ∧ Cond.initialized (rx_cl 4).1 ∈ rx_all ∧ (nk_df 4).length = (rx_cl 4).2.2 ∧ ∀ k, k < (rx_cl 4).2.2 → (parseFieldDescriptor ((rx_cl 4).2.1 k).2.2.1).bind nk_ty = some (decide ((nk_df 4)[k]? = some (some (.inl 0)))) ∧ ((nk_df 4)[k]? = some none ∨ (nk_df 4)[k]? = some (some (.inl 0))) := ⟨rx_in1 (p := 216) rfl rfl, rx_in1 (p := 7) rfl rfl, by decide +kernel, by decide +kernel⟩
set_option maxRecDepth 100000 in
theorem nf_C5 : Cond.instantiable (rx_cl 5).1 (rx_cl 5).2.2 ∈ rx_all ∧ Cond.initialized (rx_cl 5).1 ∈ rx_all ∧ (nk_df 5).length = (rx_cl 5).2.2 ∧ ∀ k, k < (rx_cl 5).2.2 → (parseFieldDescriptor ((rx_cl 5).2.1 k).2.2.1).bind nk_ty = some (decide ((nk_df 5)[k]? = some (some (.inl 0)))) ∧ ((nk_df 5)[k]? = some none ∨ (nk_df 5)[k]? = some (some (.inl 0))) := ⟨rx_in1 (p := 109) rfl rfl, rx_in1 (p := 3) rfl rfl, by decide +kernel, by decide +kernel⟩
set_option maxRecDepth 100000 in
theorem nf_C6 : Cond.instantiable (rx_cl 6).1 (rx_cl 6).2.2 ∈ rx_all ∧ Cond.initialized (rx_cl 6).1 ∈ rx_all ∧ (nk_df 6).length = (rx_cl 6).2.2 ∧ ∀ k, k < (rx_cl 6).2.2 → (parseFieldDescriptor ((rx_cl 6).2.1 k).2.2.1).bind nk_ty = some (decide ((nk_df 6)[k]? = some (some (.inl 0)))) ∧ ((nk_df 6)[k]? = some none ∨ (nk_df 6)[k]? = some (some (.inl 0))) := ⟨rx_in2 (p := 24) rfl rfl, rx_in1 (p := 9) rfl rfl, by decide +kernel, by decide +kernel⟩
set_option maxRecDepth 100000 in
theorem nf_C7 : Cond.instantiable (rx_cl 7).1 (rx_cl 7).2.2 ∈ rx_all ∧ Cond.initialized (rx_cl 7).1 ∈ rx_all ∧ (nk_df 7).length = (rx_cl 7).2.2 ∧ ∀ k, k < (rx_cl 7).2.2 → (parseFieldDescriptor ((rx_cl 7).2.1 k).2.2.1).bind nk_ty = some (decide ((nk_df 7)[k]? = some (some (.inl 0)))) ∧ ((nk_df 7)[k]? = some none ∨ (nk_df 7)[k]? = some (some (.inl 0))) := ⟨rx_in2 (p := 51) rfl rfl, rx_in1 (p := 10) rfl rfl, by decide +kernel, by decide +kernel⟩
set_option maxRecDepth 100000 in
theorem nf_C8 : Cond.instantiable (rx_cl 8).1 (rx_cl 8).2.2 ∈ rx_all ∧ Cond.initialized (rx_cl 8).1 ∈ rx_all ∧ (nk_df 8).length = (rx_cl 8).2.2 ∧ ∀ k, k < (rx_cl 8).2.2 → (parseFieldDescriptor ((rx_cl 8).2.1 k).2.2.1).bind nk_ty = some (decide ((nk_df 8)[k]? = some (some (.inl 0)))) ∧ ((nk_df 8)[k]? = some none ∨ (nk_df 8)[k]? = some (some (.inl 0))) := ⟨rx_in2 (p := 69) rfl rfl, rx_in1 (p := 11) rfl rfl, by decide +kernel, by decide +kernel⟩
set_option maxRecDepth 100000 in
theorem nf_C9 : Cond.instantiable (rx_cl 9).1 (rx_cl 9).2.2 ∈ rx_all ∧ Cond.initialized (rx_cl 9).1 ∈ rx_all ∧ (nk_df 9).length = (rx_cl 9).2.2 ∧ ∀ k, k < (rx_cl 9).2.2 → (parseFieldDescriptor ((rx_cl 9).2.1 k).2.2.1).bind nk_ty = some (decide ((nk_df 9)[k]? = some (some (.inl 0)))) ∧ ((nk_df 9)[k]? = some none ∨ (nk_df 9)[k]? = some (some (.inl 0))) := ⟨rx_in1 (p := 197) rfl rfl, rx_in1 (p := 6) rfl rfl, by decide +kernel, by decide +kernel⟩
set_option maxRecDepth 100000 in
theorem nf_C10 : Cond.instantiable (rx_cl 10).1 (rx_cl 10).2.2 ∈ rx_all ∧ Cond.initialized (rx_cl 10).1 ∈ rx_all ∧ (nk_df 10).length = (rx_cl 10).2.2 ∧ ∀ k, k < (rx_cl 10).2.2 → (parseFieldDescriptor ((rx_cl 10).2.1 k).2.2.1).bind nk_ty = some (decide ((nk_df 10)[k]? = some (some (.inl 0)))) ∧ ((nk_df 10)[k]? = some none ∨ (nk_df 10)[k]? = some (some (.inl 0))) := ⟨rx_in1 (p := 21) rfl rfl, rx_in1 (p := 1) rfl rfl, by decide +kernel, by decide +kernel⟩
set_option maxRecDepth 100000 in
theorem nf_C11 : Cond.instantiable (rx_cl 11).1 (rx_cl 11).2.2 ∈ rx_all ∧ Cond.initialized (rx_cl 11).1 ∈ rx_all ∧ (nk_df 11).length = (rx_cl 11).2.2 ∧ ∀ k, k < (rx_cl 11).2.2 → (parseFieldDescriptor ((rx_cl 11).2.1 k).2.2.1).bind nk_ty = some (decide ((nk_df 11)[k]? = some (some (.inl 0)))) ∧ ((nk_df 11)[k]? = some none ∨ (nk_df 11)[k]? = some (some (.inl 0))) := ⟨rx_in5 (p := 51) rfl rfl, rx_in1 (p := 12) rfl rfl, by decide +kernel, by decide +kernel⟩
theorem nf_C : ∀ ci, ci < 12 → Cond.instantiable (rx_cl ci).1 (rx_cl ci).2.2 ∈ rx_all ∧ Cond.initialized (rx_cl ci).1 ∈ rx_all ∧ (nk_df ci).length = (rx_cl ci).2.2 ∧ ∀ k, k < (rx_cl ci).2.2 → (parseFieldDescriptor ((rx_cl ci).2.1 k).2.2.1).bind nk_ty = some (decide ((nk_df ci)[k]? = some (some (.inl 0)))) ∧ ((nk_df ci)[k]? = some none ∨ (nk_df ci)[k]? = some (some (.inl 0))) := by
  intro ci h
  match ci, h with
  | 0, _ => exact nf_C0
  | 1, _ => exact nf_C1
  | 2, _ => exact nf_C2
  | 3, _ => exact nf_C3
  | 4, _ => exact nf_C4
  | 5, _ => exact nf_C5
  | 6, _ => exact nf_C6
  | 7, _ => exact nf_C7
  | 8, _ => exact nf_C8
  | 9, _ => exact nf_C9
  | 10, _ => exact nf_C10
  | 11, _ => exact nf_C11
  | n + 12, h => omega
set_option maxRecDepth 100000 in
theorem nf_A : Cond.classLink (rx_cn 10) 70 "RoadsCrossed$Sheet" ∈ rx_all ∧ Cond.classLink (rx_cn 10) 76 "RoadsCrossed$Slot" ∈ rx_all := ⟨rx_in2 (p := 47) rfl rfl, rx_in2 (p := 49) rfl rfl⟩
set_option maxRecDepth 100000 in
theorem nf_XL : ∀ q ∈ nk_XL, Cond.classLink (rx_cn q.1) q.2 "[[I" ∈ rx_all := by
  unfold nk_XL
  exact List.forall_mem_cons.mpr ⟨rx_in1 (p := 182) rfl rfl, List.forall_mem_cons.mpr ⟨rx_in1 (p := 162) rfl rfl, List.forall_mem_cons.mpr ⟨rx_in2 (p := 1) rfl rfl, fun q h => absurd h List.not_mem_nil⟩⟩⟩
set_option maxRecDepth 100000 in
theorem nf_O0 : (Cond.methodLink "RoadsCrossed$Costs" 3 ⟨"java/lang/Object", "<init>", "()V"⟩ : Cond) ∈ rx_all := rx_in1 (p := 155) rfl rfl
set_option maxRecDepth 100000 in
theorem nf_O1 : (Cond.methodLink "RoadsCrossed$Land" 3 ⟨"java/lang/Object", "<init>", "()V"⟩ : Cond) ∈ rx_all := rx_in1 (p := 33) rfl rfl
set_option maxRecDepth 100000 in
theorem nf_O2 : (Cond.methodLink "RoadsCrossed$Laws" 3 ⟨"java/lang/Object", "<init>", "()V"⟩ : Cond) ∈ rx_all := rx_in1 (p := 161) rfl rfl
set_option maxRecDepth 100000 in
theorem nf_O3 : (Cond.methodLink "RoadsCrossed$LineSearch" 3 ⟨"java/lang/Object", "<init>", "()V"⟩ : Cond) ∈ rx_all := rx_in2 (p := 0) rfl rfl
set_option maxRecDepth 100000 in
theorem nf_O4 : (Cond.methodLink "RoadsCrossed$PageSearch" 3 ⟨"java/lang/Object", "<init>", "()V"⟩ : Cond) ∈ rx_all := rx_in1 (p := 220) rfl rfl
set_option maxRecDepth 100000 in
theorem nf_O5 : (Cond.methodLink "RoadsCrossed$Reader" 3 ⟨"java/lang/Object", "<init>", "()V"⟩ : Cond) ∈ rx_all := rx_in1 (p := 113) rfl rfl
set_option maxRecDepth 100000 in
theorem nf_O6 : (Cond.methodLink "RoadsCrossed$RowSearch" 3 ⟨"java/lang/Object", "<init>", "()V"⟩ : Cond) ∈ rx_all := rx_in2 (p := 28) rfl rfl
set_option maxRecDepth 100000 in
theorem nf_O7 : (Cond.methodLink "RoadsCrossed$Sheet" 3 ⟨"java/lang/Object", "<init>", "()V"⟩ : Cond) ∈ rx_all := rx_in2 (p := 55) rfl rfl
set_option maxRecDepth 100000 in
theorem nf_O8 : (Cond.methodLink "RoadsCrossed$Slot" 3 ⟨"java/lang/Object", "<init>", "()V"⟩ : Cond) ∈ rx_all := rx_in2 (p := 73) rfl rfl
set_option maxRecDepth 100000 in
theorem nf_O9 : (Cond.methodLink "RoadsCrossed$SwapSearch" 3 ⟨"java/lang/Object", "<init>", "()V"⟩ : Cond) ∈ rx_all := rx_in1 (p := 201) rfl rfl
set_option maxRecDepth 100000 in
theorem nf_O10 : (Cond.methodLink "RoadsCrossed" 3 ⟨"java/lang/Object", "<init>", "()V"⟩ : Cond) ∈ rx_all := rx_in1 (p := 25) rfl rfl
set_option maxRecDepth 100000 in
theorem nf_O11 : (Cond.methodLink "RoadsCrossedModel" 1 ⟨"java/lang/Object", "<init>", "()V"⟩ : Cond) ∈ rx_all := rx_in5 (p := 55) rfl rfl
set_option maxRecDepth 100000 in
theorem nf_OL : ∀ q ∈ nk_OL, Cond.methodLink (rx_cn q.1) q.2 Lib.objectInit ∈ rx_all := by
  unfold nk_OL
  exact List.forall_mem_cons.mpr ⟨nf_O0, List.forall_mem_cons.mpr ⟨nf_O1, List.forall_mem_cons.mpr ⟨nf_O2, List.forall_mem_cons.mpr ⟨nf_O3, List.forall_mem_cons.mpr ⟨nf_O4, List.forall_mem_cons.mpr ⟨nf_O5, List.forall_mem_cons.mpr ⟨nf_O6, List.forall_mem_cons.mpr ⟨nf_O7, List.forall_mem_cons.mpr ⟨nf_O8, List.forall_mem_cons.mpr ⟨nf_O9, List.forall_mem_cons.mpr ⟨nf_O10, List.forall_mem_cons.mpr ⟨nf_O11, fun q h => absurd h List.not_mem_nil⟩⟩⟩⟩⟩⟩⟩⟩⟩⟩⟩⟩
set_option maxRecDepth 100000 in
theorem nf_Oc : Cond.instanceMethod Lib.objectInit ∈ rx_all ∧ Cond.code Lib.objectInit ⟨#[0xb1]⟩ 1 none ∈ rx_all := by
  have e : (⟨#[0xb1]⟩ : ByteArray) = object_method_1_code := by decide +kernel
  rw [e]
  exact ⟨rx_in1 (p := 26) rfl rfl, rx_in1 (p := 27) rfl rfl⟩
set_option maxRecDepth 100000 in
theorem nf_W : Cond.arrayClass .int ∈ rx_all ∧ Cond.arrayClass .boolean ∈ rx_all ∧ Cond.arrayClass .char ∈ rx_all := ⟨rx_in1 (p := 107) rfl rfl, rx_in5 (p := 204) rfl rfl, rx_in5 (p := 205) rfl rfl⟩
set_option maxRecDepth 100000 in
theorem nf_I11 : (Cond.methodLink "RoadsCrossedLaw" 9 ⟨"RoadsCrossed", "<init>", "()V"⟩ : Cond) ∈ rx_all := rx_in1 (p := 22) rfl rfl
set_option maxRecDepth 100000 in
theorem nf_I12 : (Cond.methodLink "RoadsCrossedLaw" 12 ⟨"RoadsCrossedModel", "<init>", "()V"⟩ : Cond) ∈ rx_all := rx_in5 (p := 52) rfl rfl
set_option maxRecDepth 100000 in
theorem nf_IL : ∀ q ∈ nk_IL, (q.2.2.2 = 1 → Cond.methodLinkNest (rx_cn q.1) q.2.1 (nk_mi q.2.2.1).1 "RoadsCrossed" ∈ nk_nest) ∧ (q.2.2.2 = 0 → Cond.methodLink (rx_cn q.1) q.2.1 (nk_mi q.2.2.1).1 ∈ rx_all) := by
  unfold nk_IL
  exact List.forall_mem_cons.mpr ⟨⟨fun _ => by decide +kernel, fun h => (by cases h)⟩, List.forall_mem_cons.mpr ⟨⟨fun _ => by decide +kernel, fun h => (by cases h)⟩, List.forall_mem_cons.mpr ⟨⟨fun _ => by decide +kernel, fun h => (by cases h)⟩, List.forall_mem_cons.mpr ⟨⟨fun _ => by decide +kernel, fun h => (by cases h)⟩, List.forall_mem_cons.mpr ⟨⟨fun _ => by decide +kernel, fun h => (by cases h)⟩, List.forall_mem_cons.mpr ⟨⟨fun _ => by decide +kernel, fun h => (by cases h)⟩, List.forall_mem_cons.mpr ⟨⟨fun _ => by decide +kernel, fun h => (by cases h)⟩, List.forall_mem_cons.mpr ⟨⟨fun _ => by decide +kernel, fun h => (by cases h)⟩, List.forall_mem_cons.mpr ⟨⟨fun _ => by decide +kernel, fun h => (by cases h)⟩, List.forall_mem_cons.mpr ⟨⟨fun _ => by decide +kernel, fun h => (by cases h)⟩, List.forall_mem_cons.mpr ⟨⟨fun _ => by decide +kernel, fun h => (by cases h)⟩, List.forall_mem_cons.mpr ⟨⟨fun h => (by cases h), fun _ => nf_I11⟩, List.forall_mem_cons.mpr ⟨⟨fun h => (by cases h), fun _ => nf_I12⟩, fun q h => absurd h List.not_mem_nil⟩⟩⟩⟩⟩⟩⟩⟩⟩⟩⟩⟩⟩
set_option maxRecDepth 100000 in
theorem nf_Y0 : plainName (nk_mi 0).1.cls = true ∧ (nk_mi 0).1.cls ≠ "java/lang/invoke/MethodHandle" ∧ (nk_mi 0).1.cls ≠ "java/lang/invoke/VarHandle" ∧ Cond.code (nk_mi 0).1 (nk_mi 0).2.1 (nk_mi 0).2.2.1 none ∈ rx_all ∧ ((nk_mi 0).2.2.1 ≤ 40 ∧ 1 ≤ (nk_mi 0).2.2.1) ∧ Cond.initialized (nk_mi 0).1.cls ∈ rx_all ∧ (nk_mi 0).1.cls = rx_cn (nk_mi 0).2.2.2.1 ∧ Cond.instanceMethod (nk_mi 0).1 ∈ rx_all ∧ (nk_mi 0).1.name = "<init>" ∧ (parseMethodDescriptor (nk_mi 0).1.desc).map (fun d => d.parameters.length) = some 0 := ⟨by decide +kernel, by decide +kernel, by decide +kernel, rx_in1 (p := 154) rfl rfl, ⟨by decide, by decide⟩, rx_in1 (p := 4) rfl rfl, rfl, rx_in1 (p := 153) rfl rfl, rfl, by decide +kernel⟩
set_option maxRecDepth 100000 in
theorem nf_Y1 : plainName (nk_mi 1).1.cls = true ∧ (nk_mi 1).1.cls ≠ "java/lang/invoke/MethodHandle" ∧ (nk_mi 1).1.cls ≠ "java/lang/invoke/VarHandle" ∧ Cond.code (nk_mi 1).1 (nk_mi 1).2.1 (nk_mi 1).2.2.1 none ∈ rx_all ∧ ((nk_mi 1).2.2.1 ≤ 40 ∧ 1 ≤ (nk_mi 1).2.2.1) ∧ Cond.initialized (nk_mi 1).1.cls ∈ rx_all ∧ (nk_mi 1).1.cls = rx_cn (nk_mi 1).2.2.2.1 ∧ Cond.instanceMethod (nk_mi 1).1 ∈ rx_all ∧ (nk_mi 1).1.name = "<init>" ∧ (parseMethodDescriptor (nk_mi 1).1.desc).map (fun d => d.parameters.length) = some 0 := ⟨by decide +kernel, by decide +kernel, by decide +kernel, rx_in1 (p := 32) rfl rfl, ⟨by decide, by decide⟩, rx_in1 (p := 2) rfl rfl, rfl, rx_in1 (p := 31) rfl rfl, rfl, by decide +kernel⟩
set_option maxRecDepth 100000 in
theorem nf_Y2 : plainName (nk_mi 2).1.cls = true ∧ (nk_mi 2).1.cls ≠ "java/lang/invoke/MethodHandle" ∧ (nk_mi 2).1.cls ≠ "java/lang/invoke/VarHandle" ∧ Cond.code (nk_mi 2).1 (nk_mi 2).2.1 (nk_mi 2).2.2.1 none ∈ rx_all ∧ ((nk_mi 2).2.2.1 ≤ 40 ∧ 1 ≤ (nk_mi 2).2.2.1) ∧ Cond.initialized (nk_mi 2).1.cls ∈ rx_all ∧ (nk_mi 2).1.cls = rx_cn (nk_mi 2).2.2.2.1 ∧ Cond.instanceMethod (nk_mi 2).1 ∈ rx_all ∧ (nk_mi 2).1.name = "<init>" ∧ (parseMethodDescriptor (nk_mi 2).1.desc).map (fun d => d.parameters.length) = some 0 := ⟨by decide +kernel, by decide +kernel, by decide +kernel, rx_in1 (p := 160) rfl rfl, ⟨by decide, by decide⟩, rx_in1 (p := 5) rfl rfl, rfl, rx_in1 (p := 159) rfl rfl, rfl, by decide +kernel⟩
set_option maxRecDepth 100000 in
theorem nf_Y3 : plainName (nk_mi 3).1.cls = true ∧ (nk_mi 3).1.cls ≠ "java/lang/invoke/MethodHandle" ∧ (nk_mi 3).1.cls ≠ "java/lang/invoke/VarHandle" ∧ Cond.code (nk_mi 3).1 (nk_mi 3).2.1 (nk_mi 3).2.2.1 none ∈ rx_all ∧ ((nk_mi 3).2.2.1 ≤ 40 ∧ 1 ≤ (nk_mi 3).2.2.1) ∧ Cond.initialized (nk_mi 3).1.cls ∈ rx_all ∧ (nk_mi 3).1.cls = rx_cn (nk_mi 3).2.2.2.1 ∧ Cond.instanceMethod (nk_mi 3).1 ∈ rx_all ∧ (nk_mi 3).1.name = "<init>" ∧ (parseMethodDescriptor (nk_mi 3).1.desc).map (fun d => d.parameters.length) = some 0 := ⟨by decide +kernel, by decide +kernel, by decide +kernel, rx_in1 (p := 239) rfl rfl, ⟨by decide, by decide⟩, rx_in1 (p := 8) rfl rfl, rfl, rx_in1 (p := 238) rfl rfl, rfl, by decide +kernel⟩
set_option maxRecDepth 100000 in
theorem nf_Y4 : plainName (nk_mi 4).1.cls = true ∧ (nk_mi 4).1.cls ≠ "java/lang/invoke/MethodHandle" ∧ (nk_mi 4).1.cls ≠ "java/lang/invoke/VarHandle" ∧ Cond.code (nk_mi 4).1 (nk_mi 4).2.1 (nk_mi 4).2.2.1 none ∈ rx_all ∧ ((nk_mi 4).2.2.1 ≤ 40 ∧ 1 ≤ (nk_mi 4).2.2.1) ∧ Cond.initialized (nk_mi 4).1.cls ∈ rx_all ∧ (nk_mi 4).1.cls = rx_cn (nk_mi 4).2.2.2.1 ∧ Cond.instanceMethod (nk_mi 4).1 ∈ rx_all ∧ (nk_mi 4).1.name = "<init>" ∧ (parseMethodDescriptor (nk_mi 4).1.desc).map (fun d => d.parameters.length) = some 0 := ⟨by decide +kernel, by decide +kernel, by decide +kernel, rx_in1 (p := 219) rfl rfl, ⟨by decide, by decide⟩, rx_in1 (p := 7) rfl rfl, rfl, rx_in1 (p := 218) rfl rfl, rfl, by decide +kernel⟩
set_option maxRecDepth 100000 in
theorem nf_Y5 : plainName (nk_mi 5).1.cls = true ∧ (nk_mi 5).1.cls ≠ "java/lang/invoke/MethodHandle" ∧ (nk_mi 5).1.cls ≠ "java/lang/invoke/VarHandle" ∧ Cond.code (nk_mi 5).1 (nk_mi 5).2.1 (nk_mi 5).2.2.1 none ∈ rx_all ∧ ((nk_mi 5).2.2.1 ≤ 40 ∧ 1 ≤ (nk_mi 5).2.2.1) ∧ Cond.initialized (nk_mi 5).1.cls ∈ rx_all ∧ (nk_mi 5).1.cls = rx_cn (nk_mi 5).2.2.2.1 ∧ Cond.instanceMethod (nk_mi 5).1 ∈ rx_all ∧ (nk_mi 5).1.name = "<init>" ∧ (parseMethodDescriptor (nk_mi 5).1.desc).map (fun d => d.parameters.length) = some 0 := ⟨by decide +kernel, by decide +kernel, by decide +kernel, rx_in1 (p := 112) rfl rfl, ⟨by decide, by decide⟩, rx_in1 (p := 3) rfl rfl, rfl, rx_in1 (p := 111) rfl rfl, rfl, by decide +kernel⟩
set_option maxRecDepth 100000 in
theorem nf_Y6 : plainName (nk_mi 6).1.cls = true ∧ (nk_mi 6).1.cls ≠ "java/lang/invoke/MethodHandle" ∧ (nk_mi 6).1.cls ≠ "java/lang/invoke/VarHandle" ∧ Cond.code (nk_mi 6).1 (nk_mi 6).2.1 (nk_mi 6).2.2.1 none ∈ rx_all ∧ ((nk_mi 6).2.2.1 ≤ 40 ∧ 1 ≤ (nk_mi 6).2.2.1) ∧ Cond.initialized (nk_mi 6).1.cls ∈ rx_all ∧ (nk_mi 6).1.cls = rx_cn (nk_mi 6).2.2.2.1 ∧ Cond.instanceMethod (nk_mi 6).1 ∈ rx_all ∧ (nk_mi 6).1.name = "<init>" ∧ (parseMethodDescriptor (nk_mi 6).1.desc).map (fun d => d.parameters.length) = some 0 := ⟨by decide +kernel, by decide +kernel, by decide +kernel, rx_in2 (p := 27) rfl rfl, ⟨by decide, by decide⟩, rx_in1 (p := 9) rfl rfl, rfl, rx_in2 (p := 26) rfl rfl, rfl, by decide +kernel⟩
set_option maxRecDepth 100000 in
theorem nf_Y7 : plainName (nk_mi 7).1.cls = true ∧ (nk_mi 7).1.cls ≠ "java/lang/invoke/MethodHandle" ∧ (nk_mi 7).1.cls ≠ "java/lang/invoke/VarHandle" ∧ Cond.code (nk_mi 7).1 (nk_mi 7).2.1 (nk_mi 7).2.2.1 none ∈ rx_all ∧ ((nk_mi 7).2.2.1 ≤ 40 ∧ 1 ≤ (nk_mi 7).2.2.1) ∧ Cond.initialized (nk_mi 7).1.cls ∈ rx_all ∧ (nk_mi 7).1.cls = rx_cn (nk_mi 7).2.2.2.1 ∧ Cond.instanceMethod (nk_mi 7).1 ∈ rx_all ∧ (nk_mi 7).1.name = "<init>" ∧ (parseMethodDescriptor (nk_mi 7).1.desc).map (fun d => d.parameters.length) = some 0 := ⟨by decide +kernel, by decide +kernel, by decide +kernel, rx_in2 (p := 54) rfl rfl, ⟨by decide, by decide⟩, rx_in1 (p := 10) rfl rfl, rfl, rx_in2 (p := 53) rfl rfl, rfl, by decide +kernel⟩
set_option maxRecDepth 100000 in
theorem nf_Y8 : plainName (nk_mi 8).1.cls = true ∧ (nk_mi 8).1.cls ≠ "java/lang/invoke/MethodHandle" ∧ (nk_mi 8).1.cls ≠ "java/lang/invoke/VarHandle" ∧ Cond.code (nk_mi 8).1 (nk_mi 8).2.1 (nk_mi 8).2.2.1 none ∈ rx_all ∧ ((nk_mi 8).2.2.1 ≤ 40 ∧ 1 ≤ (nk_mi 8).2.2.1) ∧ Cond.initialized (nk_mi 8).1.cls ∈ rx_all ∧ (nk_mi 8).1.cls = rx_cn (nk_mi 8).2.2.2.1 ∧ Cond.instanceMethod (nk_mi 8).1 ∈ rx_all ∧ (nk_mi 8).1.name = "<init>" ∧ (parseMethodDescriptor (nk_mi 8).1.desc).map (fun d => d.parameters.length) = some 0 := ⟨by decide +kernel, by decide +kernel, by decide +kernel, rx_in2 (p := 72) rfl rfl, ⟨by decide, by decide⟩, rx_in1 (p := 11) rfl rfl, rfl, rx_in2 (p := 71) rfl rfl, rfl, by decide +kernel⟩
set_option maxRecDepth 100000 in
theorem nf_Y9 : plainName (nk_mi 9).1.cls = true ∧ (nk_mi 9).1.cls ≠ "java/lang/invoke/MethodHandle" ∧ (nk_mi 9).1.cls ≠ "java/lang/invoke/VarHandle" ∧ Cond.code (nk_mi 9).1 (nk_mi 9).2.1 (nk_mi 9).2.2.1 none ∈ rx_all ∧ ((nk_mi 9).2.2.1 ≤ 40 ∧ 1 ≤ (nk_mi 9).2.2.1) ∧ Cond.initialized (nk_mi 9).1.cls ∈ rx_all ∧ (nk_mi 9).1.cls = rx_cn (nk_mi 9).2.2.2.1 ∧ Cond.instanceMethod (nk_mi 9).1 ∈ rx_all ∧ (nk_mi 9).1.name = "<init>" ∧ (parseMethodDescriptor (nk_mi 9).1.desc).map (fun d => d.parameters.length) = some 0 := ⟨by decide +kernel, by decide +kernel, by decide +kernel, rx_in1 (p := 200) rfl rfl, ⟨by decide, by decide⟩, rx_in1 (p := 6) rfl rfl, rfl, rx_in1 (p := 199) rfl rfl, rfl, by decide +kernel⟩
set_option maxRecDepth 100000 in
theorem nf_Y10 : plainName (nk_mi 10).1.cls = true ∧ (nk_mi 10).1.cls ≠ "java/lang/invoke/MethodHandle" ∧ (nk_mi 10).1.cls ≠ "java/lang/invoke/VarHandle" ∧ Cond.code (nk_mi 10).1 (nk_mi 10).2.1 (nk_mi 10).2.2.1 none ∈ rx_all ∧ ((nk_mi 10).2.2.1 ≤ 40 ∧ 1 ≤ (nk_mi 10).2.2.1) ∧ Cond.initialized (nk_mi 10).1.cls ∈ rx_all ∧ (nk_mi 10).1.cls = rx_cn (nk_mi 10).2.2.2.1 ∧ Cond.instanceMethod (nk_mi 10).1 ∈ rx_all ∧ (nk_mi 10).1.name = "<init>" ∧ (parseMethodDescriptor (nk_mi 10).1.desc).map (fun d => d.parameters.length) = some 0 := ⟨by decide +kernel, by decide +kernel, by decide +kernel, rx_in1 (p := 24) rfl rfl, ⟨by decide, by decide⟩, rx_in1 (p := 1) rfl rfl, rfl, rx_in1 (p := 23) rfl rfl, rfl, by decide +kernel⟩
set_option maxRecDepth 100000 in
theorem nf_Y11 : plainName (nk_mi 11).1.cls = true ∧ (nk_mi 11).1.cls ≠ "java/lang/invoke/MethodHandle" ∧ (nk_mi 11).1.cls ≠ "java/lang/invoke/VarHandle" ∧ Cond.code (nk_mi 11).1 (nk_mi 11).2.1 (nk_mi 11).2.2.1 none ∈ rx_all ∧ ((nk_mi 11).2.2.1 ≤ 40 ∧ 1 ≤ (nk_mi 11).2.2.1) ∧ Cond.initialized (nk_mi 11).1.cls ∈ rx_all ∧ (nk_mi 11).1.cls = rx_cn (nk_mi 11).2.2.2.1 ∧ Cond.instanceMethod (nk_mi 11).1 ∈ rx_all ∧ (nk_mi 11).1.name = "<init>" ∧ (parseMethodDescriptor (nk_mi 11).1.desc).map (fun d => d.parameters.length) = some 0 := ⟨by decide +kernel, by decide +kernel, by decide +kernel, rx_in5 (p := 54) rfl rfl, ⟨by decide, by decide⟩, rx_in1 (p := 12) rfl rfl, rfl, rx_in5 (p := 53) rfl rfl, rfl, by decide +kernel⟩
theorem nf_Y : ∀ y, y < 12 → plainName (nk_mi y).1.cls = true ∧ (nk_mi y).1.cls ≠ "java/lang/invoke/MethodHandle" ∧ (nk_mi y).1.cls ≠ "java/lang/invoke/VarHandle" ∧ Cond.code (nk_mi y).1 (nk_mi y).2.1 (nk_mi y).2.2.1 none ∈ rx_all ∧ ((nk_mi y).2.2.1 ≤ 40 ∧ 1 ≤ (nk_mi y).2.2.1) ∧ Cond.initialized (nk_mi y).1.cls ∈ rx_all ∧ (nk_mi y).1.cls = rx_cn (nk_mi y).2.2.2.1 ∧ Cond.instanceMethod (nk_mi y).1 ∈ rx_all ∧ (nk_mi y).1.name = "<init>" ∧ (parseMethodDescriptor (nk_mi y).1.desc).map (fun d => d.parameters.length) = some 0 := by
  intro y h
  match y, h with
  | 0, _ => exact nf_Y0
  | 1, _ => exact nf_Y1
  | 2, _ => exact nf_Y2
  | 3, _ => exact nf_Y3
  | 4, _ => exact nf_Y4
  | 5, _ => exact nf_Y5
  | 6, _ => exact nf_Y6
  | 7, _ => exact nf_Y7
  | 8, _ => exact nf_Y8
  | 9, _ => exact nf_Y9
  | 10, _ => exact nf_Y10
  | 11, _ => exact nf_Y11
  | n + 12, h => omega
theorem nf_all : nk_Facts := ⟨nf_FL, nf_CL, nf_C, nf_A, nf_XL, ⟨nf_OL, nf_Oc⟩, nf_W, nf_IL, nf_Y⟩
noncomputable def nk_okD (dd : Nat → Except Jvm.ClassFile.DecodeError (Jvm.ClassFile.Instr × Nat)) (M : nk_M) (pc : Nat) (i : rx_I) : Bool := match i with
  | (op, nx, a, b, c, sw) => match op with
    | 1 => (match b with
      | 0 => decide (dd pc = .ok (.iconst a, 1)) && decide (nx = pc + 1)
      | 1 => decide (dd pc = .ok (.bipush a, 2)) && decide (nx = pc + 2) && decide ((Int8.ofInt a).toInt32 = Int32.ofInt a)
      | _ => decide (dd pc = .ok (.sipush a, 3)) && decide (nx = pc + 3) && decide ((Int16.ofInt a).toInt32 = Int32.ofInt a))
    | 2 => decide (dd pc = .ok (.iload_n (Fin.ofNat 4 b), 1)) && decide (nx = pc + 1) && decide (b < 4)
    | 3 => decide (dd pc = .ok (.aload_n (Fin.ofNat 4 b), 1)) && decide (nx = pc + 1) && decide (b < 4)
    | 4 => decide (dd pc = .ok (.istore_n (Fin.ofNat 4 b), 1)) && decide (nx = pc + 1) && decide (b < 4)
    | 5 => decide (dd pc = .ok (.astore_n (Fin.ofNat 4 b), 1)) && decide (nx = pc + 1) && decide (b < 4)
    | 6 => decide (dd pc = .ok (.iinc b a, 3)) && decide (nx = pc + 3)
    | 10 => decide (dd pc = .ok (.dup, 1)) && decide (nx = pc + 1)
    | 14 => decide (dd pc = .ok (.if_icmp .ge a, 3)) && decide (nx = pc + 3) && decide ((pc : Int) + a = c)
    | 15 => decide (dd pc = .ok (.goto a, 3)) && decide ((pc : Int) + a = c)
    | 18 => decide (dd pc = .ok (.getfield (rx_hd sw 0).1.toNat, 3)) && decide (nx = pc + 3) && decide (b < vwCl.length) && decide (c < (rx_cl b).2.2) && decide ((M.2.2.2.1, (rx_hd sw 0).1.toNat, b, c) ∈ nk_FL)
    | 19 => decide (dd pc = .ok (.putfield (rx_hd sw 0).1.toNat, 3)) && decide (nx = pc + 3) && decide (b < vwCl.length) && decide (c < (rx_cl b).2.2) && decide ((M.2.2.2.1, (rx_hd sw 0).1.toNat, b, c) ∈ nk_FL) && decide (((rx_cl b).2.1 c).2.2.2 = false) && (if a = 0 then decide (parseFieldDescriptor ((rx_cl b).2.1 c).2.2.1 = some .int) else decide (parseFieldDescriptor ((rx_cl b).2.1 c).2.2.1 = some .boolean))
    | 20 => decide (dd pc = .ok (.putfield (rx_hd sw 0).1.toNat, 3)) && decide (nx = pc + 3) && decide (b < vwCl.length) && decide (c < (rx_cl b).2.2) && decide ((M.2.2.2.1, (rx_hd sw 0).1.toNat, b, c) ∈ nk_FL) && decide (((rx_cl b).2.1 c).2.2.2 = true) && decide ((parseFieldDescriptor ((rx_cl b).2.1 c).2.2.1).bind nk_ty = some false) && decide (((rx_cl b).2.1 c).1 = rx_cn M.2.2.2.1) && decide (M.2.2.2.1 < 12)
    | 21 => (if b = 0 then decide (dd pc = .ok (.iastore, 1)) else decide (dd pc = .ok (.castore, 1))) && decide (nx = pc + 1)
    | 33 => decide (dd pc = .ok (.new (rx_hd sw 0).1.toNat, 3)) && decide (nx = pc + 3) && decide (b < vwCl.length) && decide ((M.2.2.2.1, (rx_hd sw 0).1.toNat, b) ∈ nk_CL)
    | 34 => (match b with
      | 0 => decide (dd pc = .ok (.newarray .int, 2))
      | 1 => decide (dd pc = .ok (.newarray .boolean, 2))
      | 2 => decide (dd pc = .ok (.newarray .char, 2))
      | _ => false) && decide (nx = pc + 2)
    | 35 => decide (dd pc = .ok (.anewarray (rx_hd sw 0).1.toNat, 3)) && decide (nx = pc + 3) && decide (((M.2.2.2.1 = 10 ∧ (rx_hd sw 0).1.toNat = 70) ∧ b = 4) ∨ ((M.2.2.2.1 = 10 ∧ (rx_hd sw 0).1.toNat = 76) ∧ b = 5))
    | 36 => decide (dd pc = .ok (.multianewarray (rx_hd sw 0).1.toNat 2, 4)) && decide (nx = pc + 4) && decide ((M.2.2.2.1, (rx_hd sw 0).1.toNat) ∈ nk_XL)
    | 37 => decide (dd pc = .ok (.aastore, 1)) && decide (nx = pc + 1)
    | 38 => decide (dd pc = .ok (.invokespecial (rx_hd sw 0).1.toNat, 3)) && decide (nx = pc + 3) && decide ((M.2.2.2.1, (rx_hd sw 0).1.toNat) ∈ nk_OL)
    | 28 => decide (dd pc = .ok (.invokespecial (rx_hd sw 0).1.toNat, 3)) && decide (nx = pc + 3) && decide (b < 12) && (decide ((M.2.2.2.1, (rx_hd sw 0).1.toNat, b, 0) ∈ nk_IL) || decide ((M.2.2.2.1, (rx_hd sw 0).1.toNat, b, 1) ∈ nk_IL))
    | 30 => decide (dd pc = .ok (.return_, 1))
    | 39 => true
    | _ => false
theorem nk_okD_eq (M : nk_M) (pc : Nat) (i : rx_I) : nk_okD (rx_dd M.2.1) M pc i = nk_ok M pc i := by
  rw [show rx_dd M.2.1 = decode M.2.1 from funext (rx_dd_eq M.2.1)]
  rfl
set_option maxRecDepth 100000 in
theorem nk_okm_0 : nt_X0_init.all (fun q => nk_okD (rx_dd (nk_mi 0).2.1) (nk_mi 0) q.1 q.2) = true := by decide +kernel
set_option maxRecDepth 100000 in
theorem nk_okm_1 : nt_X1_init.all (fun q => nk_okD (rx_dd (nk_mi 1).2.1) (nk_mi 1) q.1 q.2) = true := by decide +kernel
set_option maxRecDepth 100000 in
theorem nk_okm_2 : nt_X2_init.all (fun q => nk_okD (rx_dd (nk_mi 2).2.1) (nk_mi 2) q.1 q.2) = true := by decide +kernel
set_option maxRecDepth 100000 in
theorem nk_okm_3 : nt_X3_init.all (fun q => nk_okD (rx_dd (nk_mi 3).2.1) (nk_mi 3) q.1 q.2) = true := by decide +kernel
set_option maxRecDepth 100000 in
theorem nk_okm_4 : nt_X4_init.all (fun q => nk_okD (rx_dd (nk_mi 4).2.1) (nk_mi 4) q.1 q.2) = true := by decide +kernel
set_option maxRecDepth 100000 in
theorem nk_okm_5 : nt_X5_init.all (fun q => nk_okD (rx_dd (nk_mi 5).2.1) (nk_mi 5) q.1 q.2) = true := by decide +kernel
set_option maxRecDepth 100000 in
theorem nk_okm_6 : nt_X6_init.all (fun q => nk_okD (rx_dd (nk_mi 6).2.1) (nk_mi 6) q.1 q.2) = true := by decide +kernel
set_option maxRecDepth 100000 in
theorem nk_okm_7 : nt_X7_init.all (fun q => nk_okD (rx_dd (nk_mi 7).2.1) (nk_mi 7) q.1 q.2) = true := by decide +kernel
set_option maxRecDepth 100000 in
theorem nk_okm_8 : nt_X8_init.all (fun q => nk_okD (rx_dd (nk_mi 8).2.1) (nk_mi 8) q.1 q.2) = true := by decide +kernel
set_option maxRecDepth 100000 in
theorem nk_okm_9 : nt_X9_init.all (fun q => nk_okD (rx_dd (nk_mi 9).2.1) (nk_mi 9) q.1 q.2) = true := by decide +kernel
set_option maxRecDepth 100000 in
theorem nk_okm_10 : nt_X10_init.all (fun q => nk_okD (rx_dd (nk_mi 10).2.1) (nk_mi 10) q.1 q.2) = true := by decide +kernel
set_option maxRecDepth 100000 in
theorem nk_okc_11_0 : nt_X11_init_0.all (fun q => nk_okD (rx_dd (nk_mi 11).2.1) (nk_mi 11) q.1 q.2) = true := by decide +kernel
set_option maxRecDepth 100000 in
theorem nk_okc_11_1 : nt_X11_init_1.all (fun q => nk_okD (rx_dd (nk_mi 11).2.1) (nk_mi 11) q.1 q.2) = true := by decide +kernel
set_option maxRecDepth 100000 in
theorem nk_okc_11_2 : nt_X11_init_2.all (fun q => nk_okD (rx_dd (nk_mi 11).2.1) (nk_mi 11) q.1 q.2) = true := by decide +kernel
set_option maxRecDepth 100000 in
theorem nk_okc_11_3 : nt_X11_init_3.all (fun q => nk_okD (rx_dd (nk_mi 11).2.1) (nk_mi 11) q.1 q.2) = true := by decide +kernel
set_option maxRecDepth 100000 in
theorem nk_okm_11 : nt_X11_init.all (fun q => nk_okD (rx_dd (nk_mi 11).2.1) (nk_mi 11) q.1 q.2) = true := by
  show (nt_X11_init_0 ++ (nt_X11_init_1 ++ (nt_X11_init_2 ++ (nt_X11_init_3)))).all _ = true
  simp only [List.all_append, Bool.and_eq_true]
  exact ⟨nk_okc_11_0, nk_okc_11_1, nk_okc_11_2, nk_okc_11_3⟩
set_option maxRecDepth 100000 in
theorem nk_okm_12 : nt_L_law.all (fun q => nk_okD (rx_dd (nk_mi 12).2.1) (nk_mi 12) q.1 q.2) = true := by decide +kernel
theorem nk_OK : ∀ m pc i, nk_ins m pc = some i → nk_ok (nk_mi m) pc i = true := by
  intro m pc i h
  unfold nk_ins at h
  rw [← nk_okD_eq]
  match m, h with
  | 0, h => exact List.all_eq_true.mp nk_okm_0 (pc, i) (rx_lookMem h)
  | 1, h => exact List.all_eq_true.mp nk_okm_1 (pc, i) (rx_lookMem h)
  | 2, h => exact List.all_eq_true.mp nk_okm_2 (pc, i) (rx_lookMem h)
  | 3, h => exact List.all_eq_true.mp nk_okm_3 (pc, i) (rx_lookMem h)
  | 4, h => exact List.all_eq_true.mp nk_okm_4 (pc, i) (rx_lookMem h)
  | 5, h => exact List.all_eq_true.mp nk_okm_5 (pc, i) (rx_lookMem h)
  | 6, h => exact List.all_eq_true.mp nk_okm_6 (pc, i) (rx_lookMem h)
  | 7, h => exact List.all_eq_true.mp nk_okm_7 (pc, i) (rx_lookMem h)
  | 8, h => exact List.all_eq_true.mp nk_okm_8 (pc, i) (rx_lookMem h)
  | 9, h => exact List.all_eq_true.mp nk_okm_9 (pc, i) (rx_lookMem h)
  | 10, h => exact List.all_eq_true.mp nk_okm_10 (pc, i) (rx_lookMem h)
  | 11, h => exact List.all_eq_true.mp nk_okm_11 (pc, i) (rx_lookMem h)
  | 12, h => exact List.all_eq_true.mp nk_okm_12 (pc, i) (rx_lookMem h)
  | n + 13, h =>
    rw [List.getD_eq_getElem?_getD, List.getElem?_eq_none (by show 13 ≤ n + 13; omega)] at h
    cases h
