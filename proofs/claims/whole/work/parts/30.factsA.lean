/-! what the tables hold of what the instructions name: by program, each word at its place -/
set_option maxRecDepth 100000 in
theorem rf_F0 : (Cond.fieldLink "RoadsCrossed$Costs" 12 "RoadsCrossed$Costs" "laws" "LRoadsCrossed$Laws;" : Cond) ∈ rx_all := rx_in1 (p := 183) rfl rfl
set_option maxRecDepth 100000 in
theorem rf_F1 : (Cond.fieldLink "RoadsCrossed$Costs" 27 "RoadsCrossed$Land" "texts" "I" : Cond) ∈ rx_all := rx_in1 (p := 73) rfl rfl
set_option maxRecDepth 100000 in
theorem rf_F2 : (Cond.fieldLink "RoadsCrossed$Costs" 37 "RoadsCrossed$Land" "weight" "[I" : Cond) ∈ rx_all := rx_in1 (p := 68) rfl rfl
set_option maxRecDepth 100000 in
theorem rf_F3 : (Cond.fieldLink "RoadsCrossed$Costs" 40 "RoadsCrossed$Land" "low" "[I" : Cond) ∈ rx_all := rx_in1 (p := 60) rfl rfl
set_option maxRecDepth 100000 in
theorem rf_F4 : (Cond.fieldLink "RoadsCrossed$Costs" 43 "RoadsCrossed$Land" "high" "[I" : Cond) ∈ rx_all := rx_in1 (p := 64) rfl rfl
set_option maxRecDepth 100000 in
theorem rf_F5 : (Cond.fieldLink "RoadsCrossed$Costs" 53 "RoadsCrossed$Land" "kind" "[I" : Cond) ∈ rx_all := rx_in1 (p := 57) rfl rfl
set_option maxRecDepth 100000 in
theorem rf_F6 : (Cond.fieldLink "RoadsCrossed$Costs" 60 "RoadsCrossed$Land" "roads" "I" : Cond) ∈ rx_all := rx_in1 (p := 54) rfl rfl
set_option maxRecDepth 100000 in
theorem rf_F7 : (Cond.fieldLink "RoadsCrossed$Costs" 18 "RoadsCrossed$Costs" "harms" "[I" : Cond) ∈ rx_all := rx_in1 (p := 186) rfl rfl
set_option maxRecDepth 100000 in
theorem rf_F8 : (Cond.fieldLink "RoadsCrossed$Costs" 24 "RoadsCrossed$Costs" "ofTwo" "[[I" : Cond) ∈ rx_all := rx_in1 (p := 187) rfl rfl
set_option maxRecDepth 100000 in
theorem rf_F9 : (Cond.fieldLink "RoadsCrossed$Land" 9 "RoadsCrossed$Land" "posts" "I" : Cond) ∈ rx_all := rx_in1 (p := 34) rfl rfl
set_option maxRecDepth 100000 in
theorem rf_F10 : (Cond.fieldLink "RoadsCrossed$Land" 15 "RoadsCrossed$Land" "x" "[I" : Cond) ∈ rx_all := rx_in1 (p := 39) rfl rfl
set_option maxRecDepth 100000 in
theorem rf_F11 : (Cond.fieldLink "RoadsCrossed$Land" 19 "RoadsCrossed$Land" "y" "[I" : Cond) ∈ rx_all := rx_in1 (p := 41) rfl rfl
set_option maxRecDepth 100000 in
theorem rf_F12 : (Cond.fieldLink "RoadsCrossed$Land" 22 "RoadsCrossed$Land" "layer" "[I" : Cond) ∈ rx_all := rx_in1 (p := 43) rfl rfl
set_option maxRecDepth 100000 in
theorem rf_F13 : (Cond.fieldLink "RoadsCrossed$Land" 25 "RoadsCrossed$Land" "line" "[I" : Cond) ∈ rx_all := rx_in1 (p := 46) rfl rfl
set_option maxRecDepth 100000 in
theorem rf_F14 : (Cond.fieldLink "RoadsCrossed$Land" 28 "RoadsCrossed$Land" "place" "[I" : Cond) ∈ rx_all := rx_in1 (p := 49) rfl rfl
set_option maxRecDepth 100000 in
theorem rf_F15 : (Cond.fieldLink "RoadsCrossed$Land" 31 "RoadsCrossed$Land" "roads" "I" : Cond) ∈ rx_all := rx_in1 (p := 51) rfl rfl
set_option maxRecDepth 100000 in
theorem rf_F16 : (Cond.fieldLink "RoadsCrossed$Land" 34 "RoadsCrossed$Land" "kind" "[I" : Cond) ∈ rx_all := rx_in1 (p := 56) rfl rfl
set_option maxRecDepth 100000 in
theorem rf_F17 : (Cond.fieldLink "RoadsCrossed$Land" 37 "RoadsCrossed$Land" "low" "[I" : Cond) ∈ rx_all := rx_in1 (p := 59) rfl rfl
set_option maxRecDepth 100000 in
theorem rf_F18 : (Cond.fieldLink "RoadsCrossed$Land" 40 "RoadsCrossed$Land" "high" "[I" : Cond) ∈ rx_all := rx_in1 (p := 63) rfl rfl
set_option maxRecDepth 100000 in
theorem rf_F19 : (Cond.fieldLink "RoadsCrossed$Land" 43 "RoadsCrossed$Land" "weight" "[I" : Cond) ∈ rx_all := rx_in1 (p := 67) rfl rfl
set_option maxRecDepth 100000 in
theorem rf_F20 : (Cond.fieldLink "RoadsCrossed$Land" 46 "RoadsCrossed$Land" "page" "[I" : Cond) ∈ rx_all := rx_in1 (p := 70) rfl rfl
set_option maxRecDepth 100000 in
theorem rf_F21 : (Cond.fieldLink "RoadsCrossed$Land" 49 "RoadsCrossed$Land" "texts" "I" : Cond) ∈ rx_all := rx_in1 (p := 72) rfl rfl
set_option maxRecDepth 100000 in
theorem rf_F22 : (Cond.fieldLink "RoadsCrossed$Land" 52 "RoadsCrossed$Land" "z" "I" : Cond) ∈ rx_all := rx_in1 (p := 76) rfl rfl
set_option maxRecDepth 100000 in
theorem rf_F23 : (Cond.fieldLink "RoadsCrossed$Laws" 9 "RoadsCrossed$Laws" "keys" "[I" : Cond) ∈ rx_all := rx_in1 (p := 164) rfl rfl
set_option maxRecDepth 100000 in
theorem rf_F24 : (Cond.fieldLink "RoadsCrossed$Laws" 29 "RoadsCrossed$Reader" "key" "I" : Cond) ∈ rx_all := rx_in1 (p := 117) rfl rfl
set_option maxRecDepth 100000 in
theorem rf_F25 : (Cond.fieldLink "RoadsCrossed$Laws" 15 "RoadsCrossed$Laws" "leaves" "[I" : Cond) ∈ rx_all := rx_in1 (p := 166) rfl rfl
set_option maxRecDepth 100000 in
theorem rf_F26 : (Cond.fieldLink "RoadsCrossed$Laws" 35 "RoadsCrossed$Reader" "leaves" "I" : Cond) ∈ rx_all := rx_in1 (p := 119) rfl rfl
set_option maxRecDepth 100000 in
theorem rf_F27 : (Cond.fieldLink "RoadsCrossed$Laws" 18 "RoadsCrossed$Laws" "lengths" "[I" : Cond) ∈ rx_all := rx_in1 (p := 168) rfl rfl
set_option maxRecDepth 100000 in
theorem rf_F28 : (Cond.fieldLink "RoadsCrossed$Laws" 37 "RoadsCrossed$Reader" "length" "I" : Cond) ∈ rx_all := rx_in1 (p := 121) rfl rfl
set_option maxRecDepth 100000 in
theorem rf_F29 : (Cond.fieldLink "RoadsCrossed$Laws" 40 "RoadsCrossed$Reader" "code" "[I" : Cond) ∈ rx_all := rx_in1 (p := 123) rfl rfl
set_option maxRecDepth 100000 in
theorem rf_F30 : (Cond.fieldLink "RoadsCrossed$Laws" 23 "RoadsCrossed$Laws" "codes" "[[I" : Cond) ∈ rx_all := rx_in1 (p := 169) rfl rfl
set_option maxRecDepth 100000 in
theorem rf_F31 : (Cond.fieldLink "RoadsCrossed$Laws" 26 "RoadsCrossed$Laws" "stack" "[I" : Cond) ∈ rx_all := rx_in1 (p := 170) rfl rfl
set_option maxRecDepth 100000 in
theorem rf_F32 : (Cond.fieldLink "RoadsCrossed$LineSearch" 33 "RoadsCrossed$Land" "posts" "I" : Cond) ∈ rx_all := rx_in1 (p := 35) rfl rfl
set_option maxRecDepth 100000 in
theorem rf_F33 : (Cond.fieldLink "RoadsCrossed$LineSearch" 25 "RoadsCrossed$LineSearch" "posts" "I" : Cond) ∈ rx_all := rx_in2 (p := 8) rfl rfl
set_option maxRecDepth 100000 in
theorem rf_F34 : (Cond.fieldLink "RoadsCrossed$LineSearch" 30 "RoadsCrossed$LineSearch" "between" "[[I" : Cond) ∈ rx_all := rx_in2 (p := 9) rfl rfl
set_option maxRecDepth 100000 in
theorem rf_F35 : (Cond.fieldLink "RoadsCrossed$LineSearch" 42 "RoadsCrossed$Land" "roads" "I" : Cond) ∈ rx_all := rx_in1 (p := 53) rfl rfl
set_option maxRecDepth 100000 in
theorem rf_F36 : (Cond.fieldLink "RoadsCrossed$LineSearch" 45 "RoadsCrossed$Land" "low" "[I" : Cond) ∈ rx_all := rx_in1 (p := 61) rfl rfl
set_option maxRecDepth 100000 in
theorem rf_F37 : (Cond.fieldLink "RoadsCrossed$LineSearch" 48 "RoadsCrossed$Land" "high" "[I" : Cond) ∈ rx_all := rx_in1 (p := 65) rfl rfl
set_option maxRecDepth 100000 in
theorem rf_F38 : (Cond.fieldLink "RoadsCrossed$LineSearch" 15 "RoadsCrossed$LineSearch" "least" "I" : Cond) ∈ rx_all := rx_in2 (p := 4) rfl rfl
set_option maxRecDepth 100000 in
theorem rf_F39 : (Cond.fieldLink "RoadsCrossed$LineSearch" 19 "RoadsCrossed$LineSearch" "row" "[I" : Cond) ∈ rx_all := rx_in2 (p := 6) rfl rfl
set_option maxRecDepth 100000 in
theorem rf_F40 : (Cond.fieldLink "RoadsCrossed$LineSearch" 22 "RoadsCrossed$LineSearch" "standing" "I" : Cond) ∈ rx_all := rx_in2 (p := 7) rfl rfl
set_option maxRecDepth 100000 in
theorem rf_F41 : (Cond.fieldLink "RoadsCrossed$LineSearch" 9 "RoadsCrossed$LineSearch" "found" "[I" : Cond) ∈ rx_all := rx_in2 (p := 2) rfl rfl
set_option maxRecDepth 100000 in
theorem rf_F42 : (Cond.fieldLink "RoadsCrossed$PageSearch" 25 "RoadsCrossed$Land" "roads" "I" : Cond) ∈ rx_all := rx_in1 (p := 52) rfl rfl
set_option maxRecDepth 100000 in
theorem rf_F43 : (Cond.fieldLink "RoadsCrossed$PageSearch" 21 "RoadsCrossed$PageSearch" "roads" "I" : Cond) ∈ rx_all := rx_in1 (p := 225) rfl rfl
set_option maxRecDepth 100000 in
theorem rf_F44 : (Cond.fieldLink "RoadsCrossed$PageSearch" 15 "RoadsCrossed$PageSearch" "clashes" "[I" : Cond) ∈ rx_all := rx_in1 (p := 223) rfl rfl
set_option maxRecDepth 100000 in
theorem rf_F45 : (Cond.fieldLink "RoadsCrossed$PageSearch" 18 "RoadsCrossed$PageSearch" "onPage" "[I" : Cond) ∈ rx_all := rx_in1 (p := 224) rfl rfl
set_option maxRecDepth 100000 in
theorem rf_F46 : (Cond.fieldLink "RoadsCrossed$PageSearch" 9 "RoadsCrossed$PageSearch" "found" "[I" : Cond) ∈ rx_all := rx_in1 (p := 221) rfl rfl
set_option maxRecDepth 100000 in
theorem rf_F47 : (Cond.fieldLink "RoadsCrossed$Reader" 9 "RoadsCrossed$Reader" "taped" "I" : Cond) ∈ rx_all := rx_in1 (p := 114) rfl rfl
set_option maxRecDepth 100000 in
theorem rf_F48 : (Cond.fieldLink "RoadsCrossed$Reader" 28 "RoadsCrossed$Reader" "tape" "[I" : Cond) ∈ rx_all := rx_in1 (p := 124) rfl rfl
set_option maxRecDepth 100000 in
theorem rf_F49 : (Cond.fieldLink "RoadsCrossed$Reader" 31 "RoadsCrossed$Reader" "token" "I" : Cond) ∈ rx_all := rx_in1 (p := 125) rfl rfl
set_option maxRecDepth 100000 in
theorem rf_F50 : (Cond.fieldLink "RoadsCrossed$Reader" 37 "RoadsCrossed$Reader" "to" "I" : Cond) ∈ rx_all := rx_in1 (p := 127) rfl rfl
set_option maxRecDepth 100000 in
theorem rf_F51 : (Cond.fieldLink "RoadsCrossed$Reader" 40 "RoadsCrossed$Reader" "fault" "I" : Cond) ∈ rx_all := rx_in1 (p := 128) rfl rfl
set_option maxRecDepth 100000 in
theorem rf_F52 : (Cond.fieldLink "RoadsCrossed$Reader" 18 "RoadsCrossed$Reader" "leaves" "I" : Cond) ∈ rx_all := rx_in1 (p := 118) rfl rfl
set_option maxRecDepth 100000 in
theorem rf_F53 : (Cond.fieldLink "RoadsCrossed$Reader" 21 "RoadsCrossed$Reader" "length" "I" : Cond) ∈ rx_all := rx_in1 (p := 120) rfl rfl
set_option maxRecDepth 100000 in
theorem rf_F54 : (Cond.fieldLink "RoadsCrossed$Reader" 15 "RoadsCrossed$Reader" "key" "I" : Cond) ∈ rx_all := rx_in1 (p := 116) rfl rfl
set_option maxRecDepth 100000 in
theorem rf_F55 : (Cond.fieldLink "RoadsCrossed$Reader" 34 "RoadsCrossed$Reader" "from" "I" : Cond) ∈ rx_all := rx_in1 (p := 126) rfl rfl
set_option maxRecDepth 100000 in
theorem rf_F56 : (Cond.fieldLink "RoadsCrossed$Reader" 24 "RoadsCrossed$Reader" "code" "[I" : Cond) ∈ rx_all := rx_in1 (p := 122) rfl rfl
set_option maxRecDepth 100000 in
theorem rf_F57 : (Cond.fieldLink "RoadsCrossed$RowSearch" 15 "RoadsCrossed$RowSearch" "least" "I" : Cond) ∈ rx_all := rx_in2 (p := 31) rfl rfl
set_option maxRecDepth 100000 in
theorem rf_F58 : (Cond.fieldLink "RoadsCrossed$RowSearch" 25 "RoadsCrossed$RowSearch" "size" "I" : Cond) ∈ rx_all := rx_in2 (p := 35) rfl rfl
set_option maxRecDepth 100000 in
theorem rf_F59 : (Cond.fieldLink "RoadsCrossed$RowSearch" 22 "RoadsCrossed$RowSearch" "places" "[I" : Cond) ∈ rx_all := rx_in2 (p := 34) rfl rfl
set_option maxRecDepth 100000 in
theorem rf_F60 : (Cond.fieldLink "RoadsCrossed$RowSearch" 19 "RoadsCrossed$RowSearch" "posts" "[I" : Cond) ∈ rx_all := rx_in2 (p := 33) rfl rfl
set_option maxRecDepth 100000 in
theorem rf_F61 : (Cond.fieldLink "RoadsCrossed$RowSearch" 9 "RoadsCrossed$RowSearch" "found" "[I" : Cond) ∈ rx_all := rx_in2 (p := 29) rfl rfl
set_option maxRecDepth 100000 in
theorem rf_F62 : (Cond.fieldLink "RoadsCrossed$RowSearch" 55 "RoadsCrossed$Land" "posts" "I" : Cond) ∈ rx_all := rx_in1 (p := 37) rfl rfl
set_option maxRecDepth 100000 in
theorem rf_F63 : (Cond.fieldLink "RoadsCrossed$RowSearch" 57 "RoadsCrossed$Land" "layer" "[I" : Cond) ∈ rx_all := rx_in1 (p := 44) rfl rfl
set_option maxRecDepth 100000 in
theorem rf_F64 : (Cond.fieldLink "RoadsCrossed$RowSearch" 60 "RoadsCrossed$Land" "line" "[I" : Cond) ∈ rx_all := rx_in1 (p := 47) rfl rfl
set_option maxRecDepth 100000 in
theorem rf_F65 : (Cond.fieldLink "RoadsCrossed$Sheet" 9 "RoadsCrossed$Sheet" "sort" "I" : Cond) ∈ rx_all := rx_in2 (p := 56) rfl rfl
set_option maxRecDepth 100000 in
theorem rf_F66 : (Cond.fieldLink "RoadsCrossed$Sheet" 15 "RoadsCrossed$Sheet" "size" "I" : Cond) ∈ rx_all := rx_in2 (p := 58) rfl rfl
set_option maxRecDepth 100000 in
theorem rf_F67 : (Cond.fieldLink "RoadsCrossed$Sheet" 18 "RoadsCrossed$Sheet" "values" "[I" : Cond) ∈ rx_all := rx_in2 (p := 60) rfl rfl
set_option maxRecDepth 100000 in
theorem rf_F68 : (Cond.fieldLink "RoadsCrossed$Slot" 9 "RoadsCrossed$Slot" "thing" "I" : Cond) ∈ rx_all := rx_in2 (p := 76) rfl rfl
set_option maxRecDepth 100000 in
theorem rf_F69 : (Cond.fieldLink "RoadsCrossed$SwapSearch" 21 "RoadsCrossed$Costs" "laws" "LRoadsCrossed$Laws;" : Cond) ∈ rx_all := rx_in1 (p := 184) rfl rfl
set_option maxRecDepth 100000 in
theorem rf_F70 : (Cond.fieldLink "RoadsCrossed$SwapSearch" 27 "RoadsCrossed$Land" "texts" "I" : Cond) ∈ rx_all := rx_in1 (p := 74) rfl rfl
set_option maxRecDepth 100000 in
theorem rf_F71 : (Cond.fieldLink "RoadsCrossed$SwapSearch" 18 "RoadsCrossed$SwapSearch" "least" "I" : Cond) ∈ rx_all := rx_in1 (p := 206) rfl rfl
set_option maxRecDepth 100000 in
theorem rf_F72 : (Cond.fieldLink "RoadsCrossed$SwapSearch" 43 "RoadsCrossed$Land" "posts" "I" : Cond) ∈ rx_all := rx_in1 (p := 36) rfl rfl
set_option maxRecDepth 100000 in
theorem rf_F73 : (Cond.fieldLink "RoadsCrossed$SwapSearch" 9 "RoadsCrossed$SwapSearch" "one" "I" : Cond) ∈ rx_all := rx_in1 (p := 202) rfl rfl
set_option maxRecDepth 100000 in
theorem rf_F74 : (Cond.fieldLink "RoadsCrossed$SwapSearch" 15 "RoadsCrossed$SwapSearch" "other" "I" : Cond) ∈ rx_all := rx_in1 (p := 204) rfl rfl
set_option maxRecDepth 100000 in
theorem rf_F75 : (Cond.fieldLink "RoadsCrossed" 12 "RoadsCrossed" "now" "LRoadsCrossed$Land;" : Cond) ∈ rx_all := rx_in2 (p := 97) rfl rfl
set_option maxRecDepth 100000 in
theorem rf_F76 : (Cond.fieldLink "RoadsCrossed" 104 "RoadsCrossed$Land" "x" "[I" : Cond) ∈ rx_all := rx_in1 (p := 40) rfl rfl
set_option maxRecDepth 100000 in
theorem rf_F77 : (Cond.fieldLink "RoadsCrossed" 107 "RoadsCrossed$Land" "y" "[I" : Cond) ∈ rx_all := rx_in1 (p := 42) rfl rfl
set_option maxRecDepth 100000 in
theorem rf_F78 : (Cond.fieldLink "RoadsCrossed" 110 "RoadsCrossed$Land" "layer" "[I" : Cond) ∈ rx_all := rx_in1 (p := 45) rfl rfl
set_option maxRecDepth 100000 in
theorem rf_F79 : (Cond.fieldLink "RoadsCrossed" 113 "RoadsCrossed$Land" "place" "[I" : Cond) ∈ rx_all := rx_in1 (p := 50) rfl rfl
set_option maxRecDepth 100000 in
theorem rf_F80 : (Cond.fieldLink "RoadsCrossed" 147 "RoadsCrossed$Land" "kind" "[I" : Cond) ∈ rx_all := rx_in1 (p := 58) rfl rfl
set_option maxRecDepth 100000 in
theorem rf_F81 : (Cond.fieldLink "RoadsCrossed" 150 "RoadsCrossed$Land" "low" "[I" : Cond) ∈ rx_all := rx_in1 (p := 62) rfl rfl
set_option maxRecDepth 100000 in
theorem rf_F82 : (Cond.fieldLink "RoadsCrossed" 153 "RoadsCrossed$Land" "high" "[I" : Cond) ∈ rx_all := rx_in1 (p := 66) rfl rfl
set_option maxRecDepth 100000 in
theorem rf_F83 : (Cond.fieldLink "RoadsCrossed" 156 "RoadsCrossed$Land" "weight" "[I" : Cond) ∈ rx_all := rx_in1 (p := 69) rfl rfl
set_option maxRecDepth 100000 in
theorem rf_F84 : (Cond.fieldLink "RoadsCrossed" 159 "RoadsCrossed$Land" "page" "[I" : Cond) ∈ rx_all := rx_in1 (p := 71) rfl rfl
set_option maxRecDepth 100000 in
theorem rf_F85 : (Cond.fieldLink "RoadsCrossed" 38 "RoadsCrossed" "costs" "LRoadsCrossed$Costs;" : Cond) ∈ rx_all := rx_in2 (p := 102) rfl rfl
set_option maxRecDepth 100000 in
theorem rf_F86 : (Cond.fieldLink "RoadsCrossed" 180 "RoadsCrossed$Land" "roads" "I" : Cond) ∈ rx_all := rx_in1 (p := 55) rfl rfl
set_option maxRecDepth 100000 in
theorem rf_F87 : (Cond.fieldLink "RoadsCrossed" 194 "RoadsCrossed$Land" "posts" "I" : Cond) ∈ rx_all := rx_in1 (p := 38) rfl rfl
set_option maxRecDepth 100000 in
theorem rf_F88 : (Cond.fieldLink "RoadsCrossed" 21 "RoadsCrossed" "trial" "LRoadsCrossed$Land;" : Cond) ∈ rx_all := rx_in2 (p := 99) rfl rfl
set_option maxRecDepth 100000 in
theorem rf_F89 : (Cond.fieldLink "RoadsCrossed" 45 "RoadsCrossed" "swapSearch" "LRoadsCrossed$SwapSearch;" : Cond) ∈ rx_all := rx_in2 (p := 103) rfl rfl
set_option maxRecDepth 100000 in
theorem rf_F90 : (Cond.fieldLink "RoadsCrossed" 230 "RoadsCrossed$SwapSearch" "least" "I" : Cond) ∈ rx_all := rx_in1 (p := 207) rfl rfl
set_option maxRecDepth 100000 in
theorem rf_F91 : (Cond.fieldLink "RoadsCrossed" 233 "RoadsCrossed$SwapSearch" "one" "I" : Cond) ∈ rx_all := rx_in1 (p := 203) rfl rfl
set_option maxRecDepth 100000 in
theorem rf_F92 : (Cond.fieldLink "RoadsCrossed" 236 "RoadsCrossed$SwapSearch" "other" "I" : Cond) ∈ rx_all := rx_in1 (p := 205) rfl rfl
set_option maxRecDepth 100000 in
theorem rf_F93 : (Cond.fieldLink "RoadsCrossed" 72 "RoadsCrossed" "sheets" "[LRoadsCrossed$Sheet;" : Cond) ∈ rx_all := rx_in2 (p := 107) rfl rfl
set_option maxRecDepth 100000 in
theorem rf_F94 : (Cond.fieldLink "RoadsCrossed" 246 "RoadsCrossed$Sheet" "size" "I" : Cond) ∈ rx_all := rx_in2 (p := 59) rfl rfl
set_option maxRecDepth 100000 in
theorem rf_F95 : (Cond.fieldLink "RoadsCrossed" 256 "RoadsCrossed$Sheet" "values" "[I" : Cond) ∈ rx_all := rx_in2 (p := 61) rfl rfl
set_option maxRecDepth 100000 in
theorem rf_F96 : (Cond.fieldLink "RoadsCrossed" 262 "RoadsCrossed$Land" "line" "[I" : Cond) ∈ rx_all := rx_in1 (p := 48) rfl rfl
set_option maxRecDepth 100000 in
theorem rf_F97 : (Cond.fieldLink "RoadsCrossed" 52 "RoadsCrossed" "pageSearch" "LRoadsCrossed$PageSearch;" : Cond) ∈ rx_all := rx_in2 (p := 104) rfl rfl
set_option maxRecDepth 100000 in
theorem rf_F98 : (Cond.fieldLink "RoadsCrossed" 268 "RoadsCrossed$PageSearch" "found" "[I" : Cond) ∈ rx_all := rx_in1 (p := 222) rfl rfl
set_option maxRecDepth 100000 in
theorem rf_F99 : (Cond.fieldLink "RoadsCrossed" 59 "RoadsCrossed" "lineSearch" "LRoadsCrossed$LineSearch;" : Cond) ∈ rx_all := rx_in2 (p := 105) rfl rfl
set_option maxRecDepth 100000 in
theorem rf_F100 : (Cond.fieldLink "RoadsCrossed" 271 "RoadsCrossed$Costs" "ofTwo" "[[I" : Cond) ∈ rx_all := rx_in1 (p := 188) rfl rfl
set_option maxRecDepth 100000 in
theorem rf_F101 : (Cond.fieldLink "RoadsCrossed" 278 "RoadsCrossed$LineSearch" "least" "I" : Cond) ∈ rx_all := rx_in2 (p := 5) rfl rfl
set_option maxRecDepth 100000 in
theorem rf_F102 : (Cond.fieldLink "RoadsCrossed" 279 "RoadsCrossed$LineSearch" "found" "[I" : Cond) ∈ rx_all := rx_in2 (p := 3) rfl rfl
set_option maxRecDepth 100000 in
theorem rf_F103 : (Cond.fieldLink "RoadsCrossed" 66 "RoadsCrossed" "rowSearch" "LRoadsCrossed$RowSearch;" : Cond) ∈ rx_all := rx_in2 (p := 106) rfl rfl
set_option maxRecDepth 100000 in
theorem rf_F104 : (Cond.fieldLink "RoadsCrossed" 286 "RoadsCrossed$RowSearch" "least" "I" : Cond) ∈ rx_all := rx_in2 (p := 32) rfl rfl
set_option maxRecDepth 100000 in
theorem rf_F105 : (Cond.fieldLink "RoadsCrossed" 287 "RoadsCrossed$RowSearch" "found" "[I" : Cond) ∈ rx_all := rx_in2 (p := 30) rfl rfl
set_option maxRecDepth 100000 in
theorem rf_F106 : (Cond.fieldLink "RoadsCrossed" 294 "RoadsCrossed$Land" "z" "I" : Cond) ∈ rx_all := rx_in1 (p := 77) rfl rfl
set_option maxRecDepth 100000 in
theorem rf_F107 : (Cond.fieldLink "RoadsCrossed" 31 "RoadsCrossed" "reader" "LRoadsCrossed$Reader;" : Cond) ∈ rx_all := rx_in2 (p := 101) rfl rfl
set_option maxRecDepth 100000 in
theorem rf_F108 : (Cond.fieldLink "RoadsCrossed" 297 "RoadsCrossed$Reader" "taped" "I" : Cond) ∈ rx_all := rx_in1 (p := 115) rfl rfl
set_option maxRecDepth 100000 in
theorem rf_F109 : (Cond.fieldLink "RoadsCrossed" 307 "RoadsCrossed$Land" "texts" "I" : Cond) ∈ rx_all := rx_in1 (p := 75) rfl rfl
set_option maxRecDepth 100000 in
theorem rf_F110 : (Cond.fieldLink "RoadsCrossed" 310 "RoadsCrossed$Costs" "laws" "LRoadsCrossed$Laws;" : Cond) ∈ rx_all := rx_in1 (p := 185) rfl rfl
set_option maxRecDepth 100000 in
theorem rf_F111 : (Cond.fieldLink "RoadsCrossed" 320 "RoadsCrossed$Laws" "keys" "[I" : Cond) ∈ rx_all := rx_in1 (p := 165) rfl rfl
set_option maxRecDepth 100000 in
theorem rf_F112 : (Cond.fieldLink "RoadsCrossed" 323 "RoadsCrossed$Laws" "leaves" "[I" : Cond) ∈ rx_all := rx_in1 (p := 167) rfl rfl
set_option maxRecDepth 100000 in
theorem rf_F113 : (Cond.fieldLink "RoadsCrossed" 336 "RoadsCrossed$Sheet" "sort" "I" : Cond) ∈ rx_all := rx_in2 (p := 57) rfl rfl
set_option maxRecDepth 100000 in
theorem rf_F114 : (Cond.fieldLink "RoadsCrossed" 78 "RoadsCrossed" "slots" "[LRoadsCrossed$Slot;" : Cond) ∈ rx_all := rx_in2 (p := 108) rfl rfl
set_option maxRecDepth 100000 in
theorem rf_F115 : (Cond.fieldLink "RoadsCrossed" 353 "RoadsCrossed$Slot" "thing" "I" : Cond) ∈ rx_all := rx_in2 (p := 77) rfl rfl
set_option maxRecDepth 100000 in
theorem rf_F116 : (Cond.fieldLink "RoadsCrossed" 356 "RoadsCrossed$Slot" "kind" "I" : Cond) ∈ rx_all := rx_in2 (p := 79) rfl rfl
set_option maxRecDepth 100000 in
theorem rf_F117 : (Cond.fieldLink "RoadsCrossed" 358 "RoadsCrossed$Slot" "weight" "I" : Cond) ∈ rx_all := rx_in2 (p := 81) rfl rfl
set_option maxRecDepth 100000 in
theorem rf_F118 : (Cond.fieldLink "RoadsCrossed" 360 "RoadsCrossed$Slot" "row" "LRoadsCrossed$Sheet;" : Cond) ∈ rx_all := rx_in2 (p := 83) rfl rfl
set_option maxRecDepth 100000 in
theorem rf_F119 : (Cond.fieldLink "RoadsCrossed" 367 "RoadsCrossed$Slot" "number" "I" : Cond) ∈ rx_all := rx_in2 (p := 85) rfl rfl
set_option maxRecDepth 100000 in
theorem rf_F120 : (Cond.fieldLink "RoadsCrossed" 86 "RoadsCrossed" "waits" "I" : Cond) ∈ rx_all := rx_in2 (p := 110) rfl rfl
set_option maxRecDepth 100000 in
theorem rf_F121 : (Cond.fieldLink "RoadsCrossed" 82 "RoadsCrossed" "waiting" "[I" : Cond) ∈ rx_all := rx_in2 (p := 109) rfl rfl
set_option maxRecDepth 100000 in
theorem rf_F122 : (Cond.fieldLink "RoadsCrossed" 24 "RoadsCrossed" "kept" "Z" : Cond) ∈ rx_all := rx_in2 (p := 100) rfl rfl
set_option maxRecDepth 100000 in
theorem rf_F123 : (Cond.fieldLink "RoadsCrossed" 18 "RoadsCrossed" "image" "LRoadsCrossed$Land;" : Cond) ∈ rx_all := rx_in2 (p := 98) rfl rfl
set_option maxRecDepth 100000 in
theorem rf_F124 : (Cond.fieldLink "RoadsCrossedModel" 9 "RoadsCrossedModel" "now" "[I" : Cond) ∈ rx_all := rx_in5 (p := 56) rfl rfl
set_option maxRecDepth 100000 in
theorem rf_F125 : (Cond.fieldLink "RoadsCrossedModel" 81 "RoadsCrossedModel" "facts" "[I" : Cond) ∈ rx_all := rx_in5 (p := 94) rfl rfl
set_option maxRecDepth 100000 in
theorem rf_F126 : (Cond.fieldLink "RoadsCrossedModel" 19 "RoadsCrossedModel" "harms" "[I" : Cond) ∈ rx_all := rx_in5 (p := 60) rfl rfl
set_option maxRecDepth 100000 in
theorem rf_F127 : (Cond.fieldLink "RoadsCrossedModel" 22 "RoadsCrossedModel" "pairs" "[I" : Cond) ∈ rx_all := rx_in5 (p := 61) rfl rfl
set_option maxRecDepth 100000 in
theorem rf_F128 : (Cond.fieldLink "RoadsCrossedModel" 25 "RoadsCrossedModel" "sides" "[I" : Cond) ∈ rx_all := rx_in5 (p := 62) rfl rfl
set_option maxRecDepth 100000 in
theorem rf_F129 : (Cond.fieldLink "RoadsCrossedModel" 234 "RoadsCrossedModel" "bestTwo" "I" : Cond) ∈ rx_all := rx_in5 (p := 63) rfl rfl
set_option maxRecDepth 100000 in
theorem rf_F130 : (Cond.fieldLink "RoadsCrossedModel" 238 "RoadsCrossedModel" "bestCost" "I" : Cond) ∈ rx_all := rx_in5 (p := 64) rfl rfl
set_option maxRecDepth 100000 in
theorem rf_F131 : (Cond.fieldLink "RoadsCrossedModel" 84 "RoadsCrossedModel" "sorts" "[I" : Cond) ∈ rx_all := rx_in5 (p := 95) rfl rfl
set_option maxRecDepth 100000 in
theorem rf_F132 : (Cond.fieldLink "RoadsCrossedModel" 87 "RoadsCrossedModel" "sizes" "[I" : Cond) ∈ rx_all := rx_in5 (p := 96) rfl rfl
set_option maxRecDepth 100000 in
theorem rf_F133 : (Cond.fieldLink "RoadsCrossedModel" 28 "RoadsCrossedModel" "met" "[Z" : Cond) ∈ rx_all := rx_in5 (p := 65) rfl rfl
set_option maxRecDepth 100000 in
theorem rf_F134 : (Cond.fieldLink "RoadsCrossedModel" 90 "RoadsCrossedModel" "cells" "[I" : Cond) ∈ rx_all := rx_in5 (p := 97) rfl rfl
set_option maxRecDepth 100000 in
theorem rf_F135 : (Cond.fieldLink "RoadsCrossedModel" 32 "RoadsCrossedModel" "places" "[I" : Cond) ∈ rx_all := rx_in5 (p := 66) rfl rfl
set_option maxRecDepth 100000 in
theorem rf_F136 : (Cond.fieldLink "RoadsCrossedModel" 35 "RoadsCrossedModel" "passes" "[I" : Cond) ∈ rx_all := rx_in5 (p := 67) rfl rfl
set_option maxRecDepth 100000 in
theorem rf_F137 : (Cond.fieldLink "RoadsCrossedModel" 38 "RoadsCrossedModel" "pageOf" "[I" : Cond) ∈ rx_all := rx_in5 (p := 68) rfl rfl
set_option maxRecDepth 100000 in
theorem rf_F138 : (Cond.fieldLink "RoadsCrossedModel" 280 "RoadsCrossedModel" "leastCost" "I" : Cond) ∈ rx_all := rx_in5 (p := 72) rfl rfl
set_option maxRecDepth 100000 in
theorem rf_F139 : (Cond.fieldLink "RoadsCrossedModel" 41 "RoadsCrossedModel" "tried" "[I" : Cond) ∈ rx_all := rx_in5 (p := 69) rfl rfl
set_option maxRecDepth 100000 in
theorem rf_F140 : (Cond.fieldLink "RoadsCrossedModel" 44 "RoadsCrossedModel" "costs" "[I" : Cond) ∈ rx_all := rx_in5 (p := 70) rfl rfl
set_option maxRecDepth 100000 in
theorem rf_F141 : (Cond.fieldLink "RoadsCrossedModel" 47 "RoadsCrossedModel" "bestOrder" "[I" : Cond) ∈ rx_all := rx_in5 (p := 71) rfl rfl
set_option maxRecDepth 100000 in
theorem rf_F142 : (Cond.fieldLink "RoadsCrossedModel" 299 "RoadsCrossedModel" "memberMany" "I" : Cond) ∈ rx_all := rx_in5 (p := 76) rfl rfl
set_option maxRecDepth 100000 in
theorem rf_F143 : (Cond.fieldLink "RoadsCrossedModel" 50 "RoadsCrossedModel" "members" "[I" : Cond) ∈ rx_all := rx_in5 (p := 73) rfl rfl
set_option maxRecDepth 100000 in
theorem rf_F144 : (Cond.fieldLink "RoadsCrossedModel" 53 "RoadsCrossedModel" "seats" "[I" : Cond) ∈ rx_all := rx_in5 (p := 74) rfl rfl
set_option maxRecDepth 100000 in
theorem rf_F145 : (Cond.fieldLink "RoadsCrossedModel" 56 "RoadsCrossedModel" "taken" "[I" : Cond) ∈ rx_all := rx_in5 (p := 75) rfl rfl
set_option maxRecDepth 100000 in
theorem rf_F146 : (Cond.fieldLink "RoadsCrossedModel" 319 "RoadsCrossedModel" "taped" "I" : Cond) ∈ rx_all := rx_in5 (p := 78) rfl rfl
set_option maxRecDepth 100000 in
theorem rf_F147 : (Cond.fieldLink "RoadsCrossedModel" 59 "RoadsCrossedModel" "tape" "[I" : Cond) ∈ rx_all := rx_in5 (p := 77) rfl rfl
set_option maxRecDepth 100000 in
theorem rf_F148 : (Cond.fieldLink "RoadsCrossedModel" 322 "RoadsCrossedModel" "next" "I" : Cond) ∈ rx_all := rx_in5 (p := 79) rfl rfl
set_option maxRecDepth 100000 in
theorem rf_F149 : (Cond.fieldLink "RoadsCrossedModel" 325 "RoadsCrossedModel" "from" "I" : Cond) ∈ rx_all := rx_in5 (p := 80) rfl rfl
set_option maxRecDepth 100000 in
theorem rf_F150 : (Cond.fieldLink "RoadsCrossedModel" 328 "RoadsCrossedModel" "ended" "I" : Cond) ∈ rx_all := rx_in5 (p := 83) rfl rfl
set_option maxRecDepth 100000 in
theorem rf_F151 : (Cond.fieldLink "RoadsCrossedModel" 331 "RoadsCrossedModel" "token" "I" : Cond) ∈ rx_all := rx_in5 (p := 81) rfl rfl
set_option maxRecDepth 100000 in
theorem rf_F152 : (Cond.fieldLink "RoadsCrossedModel" 337 "RoadsCrossedModel" "value" "I" : Cond) ∈ rx_all := rx_in5 (p := 82) rfl rfl
set_option maxRecDepth 100000 in
theorem rf_F153 : (Cond.fieldLink "RoadsCrossedModel" 66 "RoadsCrossedModel" "keyAt" "[I" : Cond) ∈ rx_all := rx_in5 (p := 86) rfl rfl
set_option maxRecDepth 100000 in
theorem rf_F154 : (Cond.fieldLink "RoadsCrossedModel" 62 "RoadsCrossedModel" "keys" "[C" : Cond) ∈ rx_all := rx_in5 (p := 85) rfl rfl
set_option maxRecDepth 100000 in
theorem rf_F155 : (Cond.fieldLink "RoadsCrossedModel" 343 "RoadsCrossedModel" "key" "I" : Cond) ∈ rx_all := rx_in5 (p := 84) rfl rfl
set_option maxRecDepth 100000 in
theorem rf_F156 : (Cond.fieldLink "RoadsCrossedModel" 349 "RoadsCrossedModel" "held" "I" : Cond) ∈ rx_all := rx_in5 (p := 91) rfl rfl
set_option maxRecDepth 100000 in
theorem rf_F157 : (Cond.fieldLink "RoadsCrossedModel" 72 "RoadsCrossedModel" "waits" "[I" : Cond) ∈ rx_all := rx_in5 (p := 90) rfl rfl
set_option maxRecDepth 100000 in
theorem rf_F158 : (Cond.fieldLink "RoadsCrossedModel" 69 "RoadsCrossedModel" "code" "[I" : Cond) ∈ rx_all := rx_in5 (p := 87) rfl rfl
set_option maxRecDepth 100000 in
theorem rf_F159 : (Cond.fieldLink "RoadsCrossedModel" 355 "RoadsCrossedModel" "codes" "I" : Cond) ∈ rx_all := rx_in5 (p := 88) rfl rfl
set_option maxRecDepth 100000 in
theorem rf_F160 : (Cond.fieldLink "RoadsCrossedModel" 361 "RoadsCrossedModel" "atoms" "I" : Cond) ∈ rx_all := rx_in5 (p := 89) rfl rfl
set_option maxRecDepth 100000 in
theorem rf_F161 : (Cond.fieldLink "RoadsCrossedModel" 75 "RoadsCrossedModel" "tested" "[Z" : Cond) ∈ rx_all := rx_in5 (p := 92) rfl rfl
set_option maxRecDepth 100000 in
theorem rf_F162 : (Cond.fieldLink "RoadsCrossedModel" 78 "RoadsCrossedModel" "stack" "[I" : Cond) ∈ rx_all := rx_in5 (p := 93) rfl rfl
set_option maxRecDepth 100000 in
theorem rf_F163 : (Cond.fieldLink "RoadsCrossedModel" 105 "RoadsCrossedModel" "moved" "[I" : Cond) ∈ rx_all := rx_in5 (p := 102) rfl rfl
set_option maxRecDepth 100000 in
theorem rf_F164 : (Cond.fieldLink "RoadsCrossedModel" 93 "RoadsCrossedModel" "holds" "[I" : Cond) ∈ rx_all := rx_in5 (p := 98) rfl rfl
set_option maxRecDepth 100000 in
theorem rf_F165 : (Cond.fieldLink "RoadsCrossedModel" 96 "RoadsCrossedModel" "holdsA" "[I" : Cond) ∈ rx_all := rx_in5 (p := 99) rfl rfl
set_option maxRecDepth 100000 in
theorem rf_F166 : (Cond.fieldLink "RoadsCrossedModel" 99 "RoadsCrossedModel" "holdsB" "[I" : Cond) ∈ rx_all := rx_in5 (p := 100) rfl rfl
set_option maxRecDepth 100000 in
theorem rf_F167 : (Cond.fieldLink "RoadsCrossedModel" 102 "RoadsCrossedModel" "heldCells" "[I" : Cond) ∈ rx_all := rx_in5 (p := 101) rfl rfl
set_option maxRecDepth 100000 in
theorem rf_F168 : (Cond.fieldLink "RoadsCrossedModel" 391 "RoadsCrossedModel" "waiting" "I" : Cond) ∈ rx_all := rx_in5 (p := 104) rfl rfl
set_option maxRecDepth 100000 in
theorem rf_F169 : (Cond.fieldLink "RoadsCrossedModel" 108 "RoadsCrossedModel" "tells" "[I" : Cond) ∈ rx_all := rx_in5 (p := 103) rfl rfl
set_option maxRecDepth 100000 in
theorem rf_F170 : (Cond.fieldLink "RoadsCrossedModel" 394 "RoadsCrossedModel" "hasImage" "Z" : Cond) ∈ rx_all := rx_in5 (p := 59) rfl rfl
set_option maxRecDepth 100000 in
theorem rf_F171 : (Cond.fieldLink "RoadsCrossedModel" 16 "RoadsCrossedModel" "aside" "[I" : Cond) ∈ rx_all := rx_in5 (p := 58) rfl rfl
set_option maxRecDepth 100000 in
theorem rf_F172 : (Cond.fieldLink "RoadsCrossedModel" 13 "RoadsCrossedModel" "image" "[I" : Cond) ∈ rx_all := rx_in5 (p := 57) rfl rfl
set_option maxRecDepth 100000 in
theorem rf_FL : ∀ q ∈ rx_FL, Cond.fieldLink (rx_cn q.1) q.2.1 ((rx_cl q.2.2.1).2.1 q.2.2.2).1 ((rx_cl q.2.2.1).2.1 q.2.2.2).2.1 ((rx_cl q.2.2.1).2.1 q.2.2.2).2.2.1 ∈ rx_all := by
  unfold rx_FL
  exact List.forall_mem_cons.mpr ⟨rf_F0, List.forall_mem_cons.mpr ⟨rf_F1, List.forall_mem_cons.mpr ⟨rf_F2, List.forall_mem_cons.mpr ⟨rf_F3, List.forall_mem_cons.mpr ⟨rf_F4, List.forall_mem_cons.mpr ⟨rf_F5, List.forall_mem_cons.mpr ⟨rf_F6, List.forall_mem_cons.mpr ⟨rf_F7, List.forall_mem_cons.mpr ⟨rf_F8, List.forall_mem_cons.mpr ⟨rf_F9, List.forall_mem_cons.mpr ⟨rf_F10, List.forall_mem_cons.mpr ⟨rf_F11, List.forall_mem_cons.mpr ⟨rf_F12, List.forall_mem_cons.mpr ⟨rf_F13, List.forall_mem_cons.mpr ⟨rf_F14, List.forall_mem_cons.mpr ⟨rf_F15, List.forall_mem_cons.mpr ⟨rf_F16, List.forall_mem_cons.mpr ⟨rf_F17, List.forall_mem_cons.mpr ⟨rf_F18, List.forall_mem_cons.mpr ⟨rf_F19, List.forall_mem_cons.mpr ⟨rf_F20, List.forall_mem_cons.mpr ⟨rf_F21, List.forall_mem_cons.mpr ⟨rf_F22, List.forall_mem_cons.mpr ⟨rf_F23, List.forall_mem_cons.mpr ⟨rf_F24, List.forall_mem_cons.mpr ⟨rf_F25, List.forall_mem_cons.mpr ⟨rf_F26, List.forall_mem_cons.mpr ⟨rf_F27, List.forall_mem_cons.mpr ⟨rf_F28, List.forall_mem_cons.mpr ⟨rf_F29, List.forall_mem_cons.mpr ⟨rf_F30, List.forall_mem_cons.mpr ⟨rf_F31, List.forall_mem_cons.mpr ⟨rf_F32, List.forall_mem_cons.mpr ⟨rf_F33, List.forall_mem_cons.mpr ⟨rf_F34, List.forall_mem_cons.mpr ⟨rf_F35, List.forall_mem_cons.mpr ⟨rf_F36, List.forall_mem_cons.mpr ⟨rf_F37, List.forall_mem_cons.mpr ⟨rf_F38, List.forall_mem_cons.mpr ⟨rf_F39, List.forall_mem_cons.mpr ⟨rf_F40, List.forall_mem_cons.mpr ⟨rf_F41, List.forall_mem_cons.mpr ⟨rf_F42, List.forall_mem_cons.mpr ⟨rf_F43, List.forall_mem_cons.mpr ⟨rf_F44, List.forall_mem_cons.mpr ⟨rf_F45, List.forall_mem_cons.mpr ⟨rf_F46, List.forall_mem_cons.mpr ⟨rf_F47, List.forall_mem_cons.mpr ⟨rf_F48, List.forall_mem_cons.mpr ⟨rf_F49, List.forall_mem_cons.mpr ⟨rf_F50, List.forall_mem_cons.mpr ⟨rf_F51, List.forall_mem_cons.mpr ⟨rf_F52, List.forall_mem_cons.mpr ⟨rf_F53, List.forall_mem_cons.mpr ⟨rf_F54, List.forall_mem_cons.mpr ⟨rf_F55, List.forall_mem_cons.mpr ⟨rf_F56, List.forall_mem_cons.mpr ⟨rf_F57, List.forall_mem_cons.mpr ⟨rf_F58, List.forall_mem_cons.mpr ⟨rf_F59, List.forall_mem_cons.mpr ⟨rf_F60, List.forall_mem_cons.mpr ⟨rf_F61, List.forall_mem_cons.mpr ⟨rf_F62, List.forall_mem_cons.mpr ⟨rf_F63, List.forall_mem_cons.mpr ⟨rf_F64, List.forall_mem_cons.mpr ⟨rf_F65, List.forall_mem_cons.mpr ⟨rf_F66, List.forall_mem_cons.mpr ⟨rf_F67, List.forall_mem_cons.mpr ⟨rf_F68, List.forall_mem_cons.mpr ⟨rf_F69, List.forall_mem_cons.mpr ⟨rf_F70, List.forall_mem_cons.mpr ⟨rf_F71, List.forall_mem_cons.mpr ⟨rf_F72, List.forall_mem_cons.mpr ⟨rf_F73, List.forall_mem_cons.mpr ⟨rf_F74, List.forall_mem_cons.mpr ⟨rf_F75, List.forall_mem_cons.mpr ⟨rf_F76, List.forall_mem_cons.mpr ⟨rf_F77, List.forall_mem_cons.mpr ⟨rf_F78, List.forall_mem_cons.mpr ⟨rf_F79, List.forall_mem_cons.mpr ⟨rf_F80, List.forall_mem_cons.mpr ⟨rf_F81, List.forall_mem_cons.mpr ⟨rf_F82, List.forall_mem_cons.mpr ⟨rf_F83, List.forall_mem_cons.mpr ⟨rf_F84, List.forall_mem_cons.mpr ⟨rf_F85, List.forall_mem_cons.mpr ⟨rf_F86, List.forall_mem_cons.mpr ⟨rf_F87, List.forall_mem_cons.mpr ⟨rf_F88, List.forall_mem_cons.mpr ⟨rf_F89, List.forall_mem_cons.mpr ⟨rf_F90, List.forall_mem_cons.mpr ⟨rf_F91, List.forall_mem_cons.mpr ⟨rf_F92, List.forall_mem_cons.mpr ⟨rf_F93, List.forall_mem_cons.mpr ⟨rf_F94, List.forall_mem_cons.mpr ⟨rf_F95, List.forall_mem_cons.mpr ⟨rf_F96, List.forall_mem_cons.mpr ⟨rf_F97, List.forall_mem_cons.mpr ⟨rf_F98, List.forall_mem_cons.mpr ⟨rf_F99, List.forall_mem_cons.mpr ⟨rf_F100, List.forall_mem_cons.mpr ⟨rf_F101, List.forall_mem_cons.mpr ⟨rf_F102, List.forall_mem_cons.mpr ⟨rf_F103, List.forall_mem_cons.mpr ⟨rf_F104, List.forall_mem_cons.mpr ⟨rf_F105, List.forall_mem_cons.mpr ⟨rf_F106, List.forall_mem_cons.mpr ⟨rf_F107, List.forall_mem_cons.mpr ⟨rf_F108, List.forall_mem_cons.mpr ⟨rf_F109, List.forall_mem_cons.mpr ⟨rf_F110, List.forall_mem_cons.mpr ⟨rf_F111, List.forall_mem_cons.mpr ⟨rf_F112, List.forall_mem_cons.mpr ⟨rf_F113, List.forall_mem_cons.mpr ⟨rf_F114, List.forall_mem_cons.mpr ⟨rf_F115, List.forall_mem_cons.mpr ⟨rf_F116, List.forall_mem_cons.mpr ⟨rf_F117, List.forall_mem_cons.mpr ⟨rf_F118, List.forall_mem_cons.mpr ⟨rf_F119, List.forall_mem_cons.mpr ⟨rf_F120, List.forall_mem_cons.mpr ⟨rf_F121, List.forall_mem_cons.mpr ⟨rf_F122, List.forall_mem_cons.mpr ⟨rf_F123, List.forall_mem_cons.mpr ⟨rf_F124, List.forall_mem_cons.mpr ⟨rf_F125, List.forall_mem_cons.mpr ⟨rf_F126, List.forall_mem_cons.mpr ⟨rf_F127, List.forall_mem_cons.mpr ⟨rf_F128, List.forall_mem_cons.mpr ⟨rf_F129, List.forall_mem_cons.mpr ⟨rf_F130, List.forall_mem_cons.mpr ⟨rf_F131, List.forall_mem_cons.mpr ⟨rf_F132, List.forall_mem_cons.mpr ⟨rf_F133, List.forall_mem_cons.mpr ⟨rf_F134, List.forall_mem_cons.mpr ⟨rf_F135, List.forall_mem_cons.mpr ⟨rf_F136, List.forall_mem_cons.mpr ⟨rf_F137, List.forall_mem_cons.mpr ⟨rf_F138, List.forall_mem_cons.mpr ⟨rf_F139, List.forall_mem_cons.mpr ⟨rf_F140, List.forall_mem_cons.mpr ⟨rf_F141, List.forall_mem_cons.mpr ⟨rf_F142, List.forall_mem_cons.mpr ⟨rf_F143, List.forall_mem_cons.mpr ⟨rf_F144, List.forall_mem_cons.mpr ⟨rf_F145, List.forall_mem_cons.mpr ⟨rf_F146, List.forall_mem_cons.mpr ⟨rf_F147, List.forall_mem_cons.mpr ⟨rf_F148, List.forall_mem_cons.mpr ⟨rf_F149, List.forall_mem_cons.mpr ⟨rf_F150, List.forall_mem_cons.mpr ⟨rf_F151, List.forall_mem_cons.mpr ⟨rf_F152, List.forall_mem_cons.mpr ⟨rf_F153, List.forall_mem_cons.mpr ⟨rf_F154, List.forall_mem_cons.mpr ⟨rf_F155, List.forall_mem_cons.mpr ⟨rf_F156, List.forall_mem_cons.mpr ⟨rf_F157, List.forall_mem_cons.mpr ⟨rf_F158, List.forall_mem_cons.mpr ⟨rf_F159, List.forall_mem_cons.mpr ⟨rf_F160, List.forall_mem_cons.mpr ⟨rf_F161, List.forall_mem_cons.mpr ⟨rf_F162, List.forall_mem_cons.mpr ⟨rf_F163, List.forall_mem_cons.mpr ⟨rf_F164, List.forall_mem_cons.mpr ⟨rf_F165, List.forall_mem_cons.mpr ⟨rf_F166, List.forall_mem_cons.mpr ⟨rf_F167, List.forall_mem_cons.mpr ⟨rf_F168, List.forall_mem_cons.mpr ⟨rf_F169, List.forall_mem_cons.mpr ⟨rf_F170, List.forall_mem_cons.mpr ⟨rf_F171, List.forall_mem_cons.mpr ⟨rf_F172, fun q h => absurd h List.not_mem_nil⟩⟩⟩⟩⟩⟩⟩⟩⟩⟩⟩⟩⟩⟩⟩⟩⟩⟩⟩⟩⟩⟩⟩⟩⟩⟩⟩⟩⟩⟩⟩⟩⟩⟩⟩⟩⟩⟩⟩⟩⟩⟩⟩⟩⟩⟩⟩⟩⟩⟩⟩⟩⟩⟩⟩⟩⟩⟩⟩⟩⟩⟩⟩⟩⟩⟩⟩⟩⟩⟩⟩⟩⟩⟩⟩⟩⟩⟩⟩⟩⟩⟩⟩⟩⟩⟩⟩⟩⟩⟩⟩⟩⟩⟩⟩⟩⟩⟩⟩⟩⟩⟩⟩⟩⟩⟩⟩⟩⟩⟩⟩⟩⟩⟩⟩⟩⟩⟩⟩⟩⟩⟩⟩⟩⟩⟩⟩⟩⟩⟩⟩⟩⟩⟩⟩⟩⟩⟩⟩⟩⟩⟩⟩⟩⟩⟩⟩⟩⟩⟩⟩⟩⟩⟩⟩⟩⟩⟩⟩⟩⟩⟩⟩⟩⟩⟩⟩⟩⟩⟩⟩⟩⟩
set_option maxRecDepth 100000 in
theorem rf_K0 : (Cond.constant "RoadsCrossed$Land" 75 (Int32.ofInt (-1000000001)) : Cond) ∈ rx_all := rx_in2 (p := 151) rfl rfl
set_option maxRecDepth 100000 in
theorem rf_K1 : (Cond.constant "RoadsCrossed$Land" 79 (Int32.ofInt (-1000000002)) : Cond) ∈ rx_all := rx_in2 (p := 156) rfl rfl
set_option maxRecDepth 100000 in
theorem rf_K2 : (Cond.constant "RoadsCrossed$Land" 80 (Int32.ofInt (-1000000003)) : Cond) ∈ rx_all := rx_in2 (p := 157) rfl rfl
set_option maxRecDepth 100000 in
theorem rf_K3 : (Cond.constant "RoadsCrossed$Land" 95 (Int32.ofInt (1103515245)) : Cond) ∈ rx_all := rx_in4 (p := 53) rfl rfl
set_option maxRecDepth 100000 in
theorem rf_K4 : (Cond.constant "RoadsCrossed$LineSearch" 51 (Int32.ofInt (2147483647)) : Cond) ∈ rx_all := rx_in3 (p := 236) rfl rfl
set_option maxRecDepth 100000 in
theorem rf_K5 : (Cond.constant "RoadsCrossed$RowSearch" 32 (Int32.ofInt (2147483647)) : Cond) ∈ rx_all := rx_in4 (p := 29) rfl rfl
set_option maxRecDepth 100000 in
theorem rf_K6 : (Cond.constant "RoadsCrossed$Sheet" 34 (Int32.ofInt (-1000000005)) : Cond) ∈ rx_all := rx_in3 (p := 192) rfl rfl
set_option maxRecDepth 100000 in
theorem rf_K7 : (Cond.constant "RoadsCrossed$Slot" 31 (Int32.ofInt (-1000000011)) : Cond) ∈ rx_all := rx_in5 (p := 16) rfl rfl
set_option maxRecDepth 100000 in
theorem rf_K8 : (Cond.constant "RoadsCrossed$Slot" 32 (Int32.ofInt (-1000000012)) : Cond) ∈ rx_all := rx_in5 (p := 17) rfl rfl
set_option maxRecDepth 100000 in
theorem rf_K9 : (Cond.constant "RoadsCrossed$SwapSearch" 38 (Int32.ofInt (2147483647)) : Cond) ∈ rx_all := rx_in3 (p := 163) rfl rfl
set_option maxRecDepth 100000 in
theorem rf_K10 : (Cond.constant "RoadsCrossed" 103 (Int32.ofInt (-1000000001)) : Cond) ∈ rx_all := rx_in2 (p := 174) rfl rfl
set_option maxRecDepth 100000 in
theorem rf_K11 : (Cond.constant "RoadsCrossed" 127 (Int32.ofInt (-1000000002)) : Cond) ∈ rx_all := rx_in2 (p := 185) rfl rfl
set_option maxRecDepth 100000 in
theorem rf_K12 : (Cond.constant "RoadsCrossed" 172 (Int32.ofInt (-1000000012)) : Cond) ∈ rx_all := rx_in3 (p := 29) rfl rfl
set_option maxRecDepth 100000 in
theorem rf_K13 : (Cond.constant "RoadsCrossed" 217 (Int32.ofInt (2147483647)) : Cond) ∈ rx_all := rx_in3 (p := 119) rfl rfl
set_option maxRecDepth 100000 in
theorem rf_K14 : (Cond.constant "RoadsCrossed" 226 (Int32.ofInt (-1000000005)) : Cond) ∈ rx_all := rx_in3 (p := 104) rfl rfl
set_option maxRecDepth 100000 in
theorem rf_K15 : (Cond.constant "RoadsCrossed" 245 (Int32.ofInt (-1000000011)) : Cond) ∈ rx_all := rx_in3 (p := 186) rfl rfl
set_option maxRecDepth 100000 in
theorem rf_K16 : (Cond.constant "RoadsCrossed" 249 (Int32.ofInt (-1000000014)) : Cond) ∈ rx_all := rx_in3 (p := 187) rfl rfl
set_option maxRecDepth 100000 in
theorem rf_K17 : (Cond.constant "RoadsCrossed" 300 (Int32.ofInt (-1000000003)) : Cond) ∈ rx_all := rx_in4 (p := 70) rfl rfl
set_option maxRecDepth 100000 in
theorem rf_K18 : (Cond.constant "RoadsCrossed" 335 (Int32.ofInt (-1000000013)) : Cond) ∈ rx_all := rx_in4 (p := 220) rfl rfl
set_option maxRecDepth 100000 in
theorem rf_K19 : (Cond.constant "RoadsCrossed" 339 (Int32.ofInt (-99999)) : Cond) ∈ rx_all := rx_in4 (p := 221) rfl rfl
set_option maxRecDepth 100000 in
theorem rf_K20 : (Cond.constant "RoadsCrossed" 340 (Int32.ofInt (99999)) : Cond) ∈ rx_all := rx_in4 (p := 222) rfl rfl
set_option maxRecDepth 100000 in
theorem rf_K21 : (Cond.constant "RoadsCrossedModel" 130 (Int32.ofInt (-1000000001)) : Cond) ∈ rx_all := rx_in5 (p := 216) rfl rfl
set_option maxRecDepth 100000 in
theorem rf_K22 : (Cond.constant "RoadsCrossedModel" 134 (Int32.ofInt (-1000000002)) : Cond) ∈ rx_all := rx_in5 (p := 229) rfl rfl
set_option maxRecDepth 100000 in
theorem rf_K23 : (Cond.constant "RoadsCrossedModel" 135 (Int32.ofInt (-1000000003)) : Cond) ∈ rx_all := rx_in5 (p := 230) rfl rfl
set_option maxRecDepth 100000 in
theorem rf_K24 : (Cond.constant "RoadsCrossedModel" 187 (Int32.ofInt (-1000000012)) : Cond) ∈ rx_all := rx_in6 (p := 83) rfl rfl
set_option maxRecDepth 100000 in
theorem rf_K25 : (Cond.constant "RoadsCrossedModel" 222 (Int32.ofInt (-1000000005)) : Cond) ∈ rx_all := rx_in6 (p := 137) rfl rfl
set_option maxRecDepth 100000 in
theorem rf_K26 : (Cond.constant "RoadsCrossedModel" 250 (Int32.ofInt (-1000000011)) : Cond) ∈ rx_all := rx_in6 (p := 181) rfl rfl
set_option maxRecDepth 100000 in
theorem rf_K27 : (Cond.constant "RoadsCrossedModel" 251 (Int32.ofInt (-1000000014)) : Cond) ∈ rx_all := rx_in6 (p := 182) rfl rfl
set_option maxRecDepth 100000 in
theorem rf_K28 : (Cond.constant "RoadsCrossedModel" 309 (Int32.ofInt (1103515245)) : Cond) ∈ rx_all := rx_in7 (p := 43) rfl rfl
set_option maxRecDepth 100000 in
theorem rf_K29 : (Cond.constant "RoadsCrossedModel" 385 (Int32.ofInt (-1000000013)) : Cond) ∈ rx_all := rx_in7 (p := 123) rfl rfl
set_option maxRecDepth 100000 in
theorem rf_K30 : (Cond.constant "RoadsCrossedModel" 386 (Int32.ofInt (-99999)) : Cond) ∈ rx_all := rx_in7 (p := 124) rfl rfl
set_option maxRecDepth 100000 in
theorem rf_K31 : (Cond.constant "RoadsCrossedModel" 387 (Int32.ofInt (99999)) : Cond) ∈ rx_all := rx_in7 (p := 125) rfl rfl
set_option maxRecDepth 100000 in
theorem rf_KL : ∀ q ∈ rx_KL, Cond.constant (rx_cn q.1) q.2.1 (Int32.ofInt q.2.2) ∈ rx_all := by
  unfold rx_KL
  exact List.forall_mem_cons.mpr ⟨rf_K0, List.forall_mem_cons.mpr ⟨rf_K1, List.forall_mem_cons.mpr ⟨rf_K2, List.forall_mem_cons.mpr ⟨rf_K3, List.forall_mem_cons.mpr ⟨rf_K4, List.forall_mem_cons.mpr ⟨rf_K5, List.forall_mem_cons.mpr ⟨rf_K6, List.forall_mem_cons.mpr ⟨rf_K7, List.forall_mem_cons.mpr ⟨rf_K8, List.forall_mem_cons.mpr ⟨rf_K9, List.forall_mem_cons.mpr ⟨rf_K10, List.forall_mem_cons.mpr ⟨rf_K11, List.forall_mem_cons.mpr ⟨rf_K12, List.forall_mem_cons.mpr ⟨rf_K13, List.forall_mem_cons.mpr ⟨rf_K14, List.forall_mem_cons.mpr ⟨rf_K15, List.forall_mem_cons.mpr ⟨rf_K16, List.forall_mem_cons.mpr ⟨rf_K17, List.forall_mem_cons.mpr ⟨rf_K18, List.forall_mem_cons.mpr ⟨rf_K19, List.forall_mem_cons.mpr ⟨rf_K20, List.forall_mem_cons.mpr ⟨rf_K21, List.forall_mem_cons.mpr ⟨rf_K22, List.forall_mem_cons.mpr ⟨rf_K23, List.forall_mem_cons.mpr ⟨rf_K24, List.forall_mem_cons.mpr ⟨rf_K25, List.forall_mem_cons.mpr ⟨rf_K26, List.forall_mem_cons.mpr ⟨rf_K27, List.forall_mem_cons.mpr ⟨rf_K28, List.forall_mem_cons.mpr ⟨rf_K29, List.forall_mem_cons.mpr ⟨rf_K30, List.forall_mem_cons.mpr ⟨rf_K31, fun q h => absurd h List.not_mem_nil⟩⟩⟩⟩⟩⟩⟩⟩⟩⟩⟩⟩⟩⟩⟩⟩⟩⟩⟩⟩⟩⟩⟩⟩⟩⟩⟩⟩⟩⟩⟩⟩
set_option maxRecDepth 100000 in
theorem rf_M0 : (Cond.methodLink "RoadsCrossedLaw" 13 ⟨"RoadsCrossed", "post", "(II)I"⟩ : Cond) ∈ rx_all := rx_in2 (p := 140) rfl rfl
set_option maxRecDepth 100000 in
theorem rf_M1 : (Cond.methodLink "RoadsCrossedLaw" 17 ⟨"RoadsCrossedModel", "post", "(II)I"⟩ : Cond) ∈ rx_all := rx_in5 (p := 206) rfl rfl
set_option maxRecDepth 100000 in
theorem rf_M2 : (Cond.methodLink "RoadsCrossedLaw" 18 ⟨"RoadsCrossed", "postTold", "(II)I"⟩ : Cond) ∈ rx_all := rx_in2 (p := 166) rfl rfl
set_option maxRecDepth 100000 in
theorem rf_M3 : (Cond.methodLink "RoadsCrossedLaw" 21 ⟨"RoadsCrossedModel", "postTold", "(II)I"⟩ : Cond) ∈ rx_all := rx_in5 (p := 235) rfl rfl
set_option maxRecDepth 100000 in
theorem rf_M4 : (Cond.methodLink "RoadsCrossedLaw" 22 ⟨"RoadsCrossed", "move", "(III)I"⟩ : Cond) ∈ rx_all := rx_in2 (p := 179) rfl rfl
set_option maxRecDepth 100000 in
theorem rf_M5 : (Cond.methodLink "RoadsCrossedLaw" 26 ⟨"RoadsCrossedModel", "move", "(III)I"⟩ : Cond) ∈ rx_all := rx_in6 (p := 23) rfl rfl
set_option maxRecDepth 100000 in
theorem rf_M6 : (Cond.methodLink "RoadsCrossedLaw" 27 ⟨"RoadsCrossed", "layer", "(II)I"⟩ : Cond) ∈ rx_all := rx_in2 (p := 186) rfl rfl
set_option maxRecDepth 100000 in
theorem rf_M7 : (Cond.methodLink "RoadsCrossedLaw" 30 ⟨"RoadsCrossedModel", "layer", "(II)I"⟩ : Cond) ∈ rx_all := rx_in6 (p := 27) rfl rfl
set_option maxRecDepth 100000 in
theorem rf_M8 : (Cond.methodLink "RoadsCrossedLaw" 31 ⟨"RoadsCrossed", "road", "(III)I"⟩ : Cond) ∈ rx_all := rx_in2 (p := 193) rfl rfl
set_option maxRecDepth 100000 in
theorem rf_M9 : (Cond.methodLink "RoadsCrossedLaw" 34 ⟨"RoadsCrossedModel", "road", "(III)I"⟩ : Cond) ∈ rx_all := rx_in6 (p := 35) rfl rfl
set_option maxRecDepth 100000 in
theorem rf_M10 : (Cond.methodLink "RoadsCrossedLaw" 35 ⟨"RoadsCrossed", "told", "(II)I"⟩ : Cond) ∈ rx_all := rx_in2 (p := 222) rfl rfl
set_option maxRecDepth 100000 in
theorem rf_M11 : (Cond.methodLink "RoadsCrossedLaw" 38 ⟨"RoadsCrossedModel", "told", "(II)I"⟩ : Cond) ∈ rx_all := rx_in6 (p := 47) rfl rfl
set_option maxRecDepth 100000 in
theorem rf_M12 : (Cond.methodLink "RoadsCrossedLaw" 39 ⟨"RoadsCrossed", "as", "(II)I"⟩ : Cond) ∈ rx_all := rx_in3 (p := 20) rfl rfl
set_option maxRecDepth 100000 in
theorem rf_M13 : (Cond.methodLink "RoadsCrossedLaw" 42 ⟨"RoadsCrossedModel", "as", "(II)I"⟩ : Cond) ∈ rx_all := rx_in6 (p := 76) rfl rfl
set_option maxRecDepth 100000 in
theorem rf_M14 : (Cond.methodLink "RoadsCrossedLaw" 43 ⟨"RoadsCrossed", "turns", "(II)I"⟩ : Cond) ∈ rx_all := rx_in3 (p := 30) rfl rfl
set_option maxRecDepth 100000 in
theorem rf_M15 : (Cond.methodLink "RoadsCrossedLaw" 46 ⟨"RoadsCrossedModel", "turns", "(II)I"⟩ : Cond) ∈ rx_all := rx_in6 (p := 84) rfl rfl
set_option maxRecDepth 100000 in
theorem rf_M16 : (Cond.methodLink "RoadsCrossedLaw" 47 ⟨"RoadsCrossed", "set", "(III)I"⟩ : Cond) ∈ rx_all := rx_in3 (p := 34) rfl rfl
set_option maxRecDepth 100000 in
theorem rf_M17 : (Cond.methodLink "RoadsCrossedLaw" 50 ⟨"RoadsCrossedModel", "set", "(III)I"⟩ : Cond) ∈ rx_all := rx_in6 (p := 92) rfl rfl
set_option maxRecDepth 100000 in
theorem rf_M18 : (Cond.methodLink "RoadsCrossedLaw" 51 ⟨"RoadsCrossed", "drop", "(I)I"⟩ : Cond) ∈ rx_all := rx_in3 (p := 41) rfl rfl
set_option maxRecDepth 100000 in
theorem rf_M19 : (Cond.methodLink "RoadsCrossedLaw" 55 ⟨"RoadsCrossedModel", "drop", "(I)I"⟩ : Cond) ∈ rx_all := rx_in6 (p := 96) rfl rfl
set_option maxRecDepth 100000 in
theorem rf_M20 : (Cond.methodLink "RoadsCrossedLaw" 56 ⟨"RoadsCrossed", "cross", "(II)I"⟩ : Cond) ∈ rx_all := rx_in3 (p := 49) rfl rfl
set_option maxRecDepth 100000 in
theorem rf_M21 : (Cond.methodLink "RoadsCrossedLaw" 59 ⟨"RoadsCrossedModel", "cross", "(II)I"⟩ : Cond) ∈ rx_all := rx_in6 (p := 100) rfl rfl
set_option maxRecDepth 100000 in
theorem rf_M22 : (Cond.methodLink "RoadsCrossedLaw" 60 ⟨"RoadsCrossed", "straight", "(I)I"⟩ : Cond) ∈ rx_all := rx_in3 (p := 91) rfl rfl
set_option maxRecDepth 100000 in
theorem rf_M23 : (Cond.methodLink "RoadsCrossedLaw" 63 ⟨"RoadsCrossedModel", "straight", "(I)I"⟩ : Cond) ∈ rx_all := rx_in6 (p := 125) rfl rfl
set_option maxRecDepth 100000 in
theorem rf_M24 : (Cond.methodLink "RoadsCrossedLaw" 64 ⟨"RoadsCrossed", "bound", "()I"⟩ : Cond) ∈ rx_all := rx_in3 (p := 124) rfl rfl
set_option maxRecDepth 100000 in
theorem rf_M25 : (Cond.methodLink "RoadsCrossedLaw" 68 ⟨"RoadsCrossedModel", "bound", "()I"⟩ : Cond) ∈ rx_all := rx_in6 (p := 138) rfl rfl
set_option maxRecDepth 100000 in
theorem rf_M26 : (Cond.methodLink "RoadsCrossedLaw" 69 ⟨"RoadsCrossed", "would", "(II)I"⟩ : Cond) ∈ rx_all := rx_in3 (p := 136) rfl rfl
set_option maxRecDepth 100000 in
theorem rf_M27 : (Cond.methodLink "RoadsCrossedLaw" 72 ⟨"RoadsCrossedModel", "would", "(II)I"⟩ : Cond) ∈ rx_all := rx_in6 (p := 146) rfl rfl
set_option maxRecDepth 100000 in
theorem rf_M28 : (Cond.methodLink "RoadsCrossedLaw" 73 ⟨"RoadsCrossed", "best", "(I)I"⟩ : Cond) ∈ rx_all := rx_in3 (p := 154) rfl rfl
set_option maxRecDepth 100000 in
theorem rf_M29 : (Cond.methodLink "RoadsCrossedLaw" 76 ⟨"RoadsCrossedModel", "best", "(I)I"⟩ : Cond) ∈ rx_all := rx_in6 (p := 158) rfl rfl
set_option maxRecDepth 100000 in
theorem rf_M30 : (Cond.methodLink "RoadsCrossedLaw" 77 ⟨"RoadsCrossed", "swaps", "(I)I"⟩ : Cond) ∈ rx_all := rx_in3 (p := 171) rfl rfl
set_option maxRecDepth 100000 in
theorem rf_M31 : (Cond.methodLink "RoadsCrossedLaw" 80 ⟨"RoadsCrossedModel", "swaps", "(I)I"⟩ : Cond) ∈ rx_all := rx_in6 (p := 170) rfl rfl
set_option maxRecDepth 100000 in
theorem rf_M32 : (Cond.methodLink "RoadsCrossedLaw" 81 ⟨"RoadsCrossed", "line", "(I)I"⟩ : Cond) ∈ rx_all := rx_in3 (p := 175) rfl rfl
set_option maxRecDepth 100000 in
theorem rf_M33 : (Cond.methodLink "RoadsCrossedLaw" 84 ⟨"RoadsCrossedModel", "line", "(I)I"⟩ : Cond) ∈ rx_all := rx_in6 (p := 174) rfl rfl
set_option maxRecDepth 100000 in
theorem rf_M34 : (Cond.methodLink "RoadsCrossedLaw" 85 ⟨"RoadsCrossed", "at", "(I)I"⟩ : Cond) ∈ rx_all := rx_in3 (p := 198) rfl rfl
set_option maxRecDepth 100000 in
theorem rf_M35 : (Cond.methodLink "RoadsCrossedLaw" 88 ⟨"RoadsCrossedModel", "at", "(I)I"⟩ : Cond) ∈ rx_all := rx_in6 (p := 183) rfl rfl
set_option maxRecDepth 100000 in
theorem rf_M36 : (Cond.methodLink "RoadsCrossedLaw" 89 ⟨"RoadsCrossed", "book", "(I)I"⟩ : Cond) ∈ rx_all := rx_in3 (p := 202) rfl rfl
set_option maxRecDepth 100000 in
theorem rf_M37 : (Cond.methodLink "RoadsCrossedLaw" 92 ⟨"RoadsCrossedModel", "book", "(I)I"⟩ : Cond) ∈ rx_all := rx_in6 (p := 187) rfl rfl
set_option maxRecDepth 100000 in
theorem rf_M38 : (Cond.methodLink "RoadsCrossedLaw" 93 ⟨"RoadsCrossed", "pages", "(I)I"⟩ : Cond) ∈ rx_all := rx_in3 (p := 206) rfl rfl
set_option maxRecDepth 100000 in
theorem rf_M39 : (Cond.methodLink "RoadsCrossedLaw" 96 ⟨"RoadsCrossedModel", "pages", "(I)I"⟩ : Cond) ∈ rx_all := rx_in6 (p := 203) rfl rfl
set_option maxRecDepth 100000 in
theorem rf_M40 : (Cond.methodLink "RoadsCrossedLaw" 97 ⟨"RoadsCrossed", "bestLine", "(I)I"⟩ : Cond) ∈ rx_all := rx_in3 (p := 227) rfl rfl
set_option maxRecDepth 100000 in
theorem rf_M41 : (Cond.methodLink "RoadsCrossedLaw" 100 ⟨"RoadsCrossedModel", "bestLine", "(I)I"⟩ : Cond) ∈ rx_all := rx_in6 (p := 231) rfl rfl
set_option maxRecDepth 100000 in
theorem rf_M42 : (Cond.methodLink "RoadsCrossedLaw" 101 ⟨"RoadsCrossed", "layers", "(I)I"⟩ : Cond) ∈ rx_all := rx_in4 (p := 9) rfl rfl
set_option maxRecDepth 100000 in
theorem rf_M43 : (Cond.methodLink "RoadsCrossedLaw" 104 ⟨"RoadsCrossedModel", "layers", "(I)I"⟩ : Cond) ∈ rx_all := rx_in7 (p := 3) rfl rfl
set_option maxRecDepth 100000 in
theorem rf_M44 : (Cond.methodLink "RoadsCrossedLaw" 105 ⟨"RoadsCrossed", "bestRow", "(II)I"⟩ : Cond) ∈ rx_all := rx_in4 (p := 13) rfl rfl
set_option maxRecDepth 100000 in
theorem rf_M45 : (Cond.methodLink "RoadsCrossedLaw" 108 ⟨"RoadsCrossedModel", "bestRow", "(II)I"⟩ : Cond) ∈ rx_all := rx_in7 (p := 19) rfl rfl
set_option maxRecDepth 100000 in
theorem rf_M46 : (Cond.methodLink "RoadsCrossedLaw" 109 ⟨"RoadsCrossed", "deal", "(II)I"⟩ : Cond) ∈ rx_all := rx_in4 (p := 41) rfl rfl
set_option maxRecDepth 100000 in
theorem rf_M47 : (Cond.methodLink "RoadsCrossedLaw" 112 ⟨"RoadsCrossedModel", "deal", "(II)I"⟩ : Cond) ∈ rx_all := rx_in7 (p := 31) rfl rfl
set_option maxRecDepth 100000 in
theorem rf_M48 : (Cond.methodLink "RoadsCrossedLaw" 113 ⟨"RoadsCrossed", "seed", "(I)I"⟩ : Cond) ∈ rx_all := rx_in4 (p := 62) rfl rfl
set_option maxRecDepth 100000 in
theorem rf_M49 : (Cond.methodLink "RoadsCrossedLaw" 116 ⟨"RoadsCrossedModel", "seed", "(I)I"⟩ : Cond) ∈ rx_all := rx_in7 (p := 48) rfl rfl
set_option maxRecDepth 100000 in
theorem rf_M50 : (Cond.methodLink "RoadsCrossedLaw" 117 ⟨"RoadsCrossed", "feed", "(III)I"⟩ : Cond) ∈ rx_all := rx_in4 (p := 66) rfl rfl
set_option maxRecDepth 100000 in
theorem rf_M51 : (Cond.methodLink "RoadsCrossedLaw" 120 ⟨"RoadsCrossedModel", "feed", "(III)I"⟩ : Cond) ∈ rx_all := rx_in7 (p := 52) rfl rfl
set_option maxRecDepth 100000 in
theorem rf_M52 : (Cond.methodLink "RoadsCrossedLaw" 121 ⟨"RoadsCrossed", "trim", "(I)I"⟩ : Cond) ∈ rx_all := rx_in4 (p := 75) rfl rfl
set_option maxRecDepth 100000 in
theorem rf_M53 : (Cond.methodLink "RoadsCrossedLaw" 124 ⟨"RoadsCrossedModel", "trim", "(I)I"⟩ : Cond) ∈ rx_all := rx_in7 (p := 56) rfl rfl
set_option maxRecDepth 100000 in
theorem rf_M54 : (Cond.methodLink "RoadsCrossedLaw" 125 ⟨"RoadsCrossed", "text", "()I"⟩ : Cond) ∈ rx_all := rx_in4 (p := 79) rfl rfl
set_option maxRecDepth 100000 in
theorem rf_M55 : (Cond.methodLink "RoadsCrossedLaw" 128 ⟨"RoadsCrossedModel", "text", "()I"⟩ : Cond) ∈ rx_all := rx_in7 (p := 60) rfl rfl
set_option maxRecDepth 100000 in
theorem rf_M56 : (Cond.methodLink "RoadsCrossedLaw" 129 ⟨"RoadsCrossed", "textTold", "(II)I"⟩ : Cond) ∈ rx_all := rx_in4 (p := 194) rfl rfl
set_option maxRecDepth 100000 in
theorem rf_M57 : (Cond.methodLink "RoadsCrossedLaw" 132 ⟨"RoadsCrossedModel", "textTold", "(II)I"⟩ : Cond) ∈ rx_all := rx_in7 (p := 107) rfl rfl
set_option maxRecDepth 100000 in
theorem rf_M58 : (Cond.methodLink "RoadsCrossedLaw" 133 ⟨"RoadsCrossed", "why", "(I)I"⟩ : Cond) ∈ rx_all := rx_in4 (p := 198) rfl rfl
set_option maxRecDepth 100000 in
theorem rf_M59 : (Cond.methodLink "RoadsCrossedLaw" 136 ⟨"RoadsCrossedModel", "why", "(I)I"⟩ : Cond) ∈ rx_all := rx_in7 (p := 111) rfl rfl
set_option maxRecDepth 100000 in
theorem rf_M60 : (Cond.methodLink "RoadsCrossedLaw" 137 ⟨"RoadsCrossed", "sheet", "(III)I"⟩ : Cond) ∈ rx_all := rx_in4 (p := 203) rfl rfl
set_option maxRecDepth 100000 in
theorem rf_M61 : (Cond.methodLink "RoadsCrossedLaw" 140 ⟨"RoadsCrossedModel", "sheet", "(III)I"⟩ : Cond) ∈ rx_all := rx_in7 (p := 115) rfl rfl
set_option maxRecDepth 100000 in
theorem rf_M62 : (Cond.methodLink "RoadsCrossedLaw" 141 ⟨"RoadsCrossed", "mark", "(III)I"⟩ : Cond) ∈ rx_all := rx_in4 (p := 212) rfl rfl
set_option maxRecDepth 100000 in
theorem rf_M63 : (Cond.methodLink "RoadsCrossedLaw" 144 ⟨"RoadsCrossedModel", "mark", "(III)I"⟩ : Cond) ∈ rx_all := rx_in7 (p := 119) rfl rfl
set_option maxRecDepth 100000 in
theorem rf_M64 : (Cond.methodLink "RoadsCrossedLaw" 145 ⟨"RoadsCrossed", "pour", "(I)I"⟩ : Cond) ∈ rx_all := rx_in4 (p := 223) rfl rfl
set_option maxRecDepth 100000 in
theorem rf_M65 : (Cond.methodLink "RoadsCrossedLaw" 148 ⟨"RoadsCrossedModel", "pour", "(I)I"⟩ : Cond) ∈ rx_all := rx_in7 (p := 126) rfl rfl
set_option maxRecDepth 100000 in
theorem rf_M66 : (Cond.methodLink "RoadsCrossedLaw" 149 ⟨"RoadsCrossed", "copy", "(IIIII)I"⟩ : Cond) ∈ rx_all := rx_in4 (p := 227) rfl rfl
set_option maxRecDepth 100000 in
theorem rf_M67 : (Cond.methodLink "RoadsCrossedLaw" 153 ⟨"RoadsCrossedModel", "copy", "(IIIII)I"⟩ : Cond) ∈ rx_all := rx_in7 (p := 130) rfl rfl
set_option maxRecDepth 100000 in
theorem rf_M68 : (Cond.methodLink "RoadsCrossedLaw" 154 ⟨"RoadsCrossed", "lay", "(III)I"⟩ : Cond) ∈ rx_all := rx_in4 (p := 236) rfl rfl
set_option maxRecDepth 100000 in
theorem rf_M69 : (Cond.methodLink "RoadsCrossedLaw" 157 ⟨"RoadsCrossedModel", "lay", "(III)I"⟩ : Cond) ∈ rx_all := rx_in7 (p := 134) rfl rfl
set_option maxRecDepth 100000 in
theorem rf_M70 : (Cond.methodLink "RoadsCrossedLaw" 158 ⟨"RoadsCrossed", "ask", "(II)I"⟩ : Cond) ∈ rx_all := rx_in5 (p := 8) rfl rfl
set_option maxRecDepth 100000 in
theorem rf_M71 : (Cond.methodLink "RoadsCrossedLaw" 161 ⟨"RoadsCrossedModel", "ask", "(II)I"⟩ : Cond) ∈ rx_all := rx_in7 (p := 141) rfl rfl
set_option maxRecDepth 100000 in
theorem rf_M72 : (Cond.methodLink "RoadsCrossedLaw" 162 ⟨"RoadsCrossed", "item", "(II)I"⟩ : Cond) ∈ rx_all := rx_in5 (p := 18) rfl rfl
set_option maxRecDepth 100000 in
theorem rf_M73 : (Cond.methodLink "RoadsCrossedLaw" 165 ⟨"RoadsCrossedModel", "item", "(II)I"⟩ : Cond) ∈ rx_all := rx_in7 (p := 145) rfl rfl
set_option maxRecDepth 100000 in
theorem rf_M74 : (Cond.methodLink "RoadsCrossedLaw" 166 ⟨"RoadsCrossed", "rest", "(II)I"⟩ : Cond) ∈ rx_all := rx_in5 (p := 22) rfl rfl
set_option maxRecDepth 100000 in
theorem rf_M75 : (Cond.methodLink "RoadsCrossedLaw" 169 ⟨"RoadsCrossedModel", "rest", "(II)I"⟩ : Cond) ∈ rx_all := rx_in7 (p := 149) rfl rfl
set_option maxRecDepth 100000 in
theorem rf_M76 : (Cond.methodLink "RoadsCrossedLaw" 170 ⟨"RoadsCrossed", "tell", "(I)I"⟩ : Cond) ∈ rx_all := rx_in5 (p := 26) rfl rfl
set_option maxRecDepth 100000 in
theorem rf_M77 : (Cond.methodLink "RoadsCrossedLaw" 173 ⟨"RoadsCrossedModel", "tell", "(I)I"⟩ : Cond) ∈ rx_all := rx_in7 (p := 153) rfl rfl
set_option maxRecDepth 100000 in
theorem rf_M78 : (Cond.methodLink "RoadsCrossedLaw" 174 ⟨"RoadsCrossed", "check", "(I)I"⟩ : Cond) ∈ rx_all := rx_in5 (p := 30) rfl rfl
set_option maxRecDepth 100000 in
theorem rf_M79 : (Cond.methodLink "RoadsCrossedLaw" 177 ⟨"RoadsCrossedModel", "check", "(I)I"⟩ : Cond) ∈ rx_all := rx_in7 (p := 157) rfl rfl
set_option maxRecDepth 100000 in
theorem rf_M80 : (Cond.methodLink "RoadsCrossedLaw" 178 ⟨"RoadsCrossed", "keep", "()I"⟩ : Cond) ∈ rx_all := rx_in5 (p := 38) rfl rfl
set_option maxRecDepth 100000 in
theorem rf_M81 : (Cond.methodLink "RoadsCrossedLaw" 181 ⟨"RoadsCrossedModel", "keep", "()I"⟩ : Cond) ∈ rx_all := rx_in7 (p := 168) rfl rfl
set_option maxRecDepth 100000 in
theorem rf_M82 : (Cond.methodLink "RoadsCrossedLaw" 182 ⟨"RoadsCrossed", "back", "()I"⟩ : Cond) ∈ rx_all := rx_in5 (p := 42) rfl rfl
set_option maxRecDepth 100000 in
theorem rf_M83 : (Cond.methodLink "RoadsCrossedLaw" 185 ⟨"RoadsCrossedModel", "back", "()I"⟩ : Cond) ∈ rx_all := rx_in7 (p := 172) rfl rfl
set_option maxRecDepth 100000 in
theorem rf_M84 : (Cond.methodLink "RoadsCrossedLaw" 186 ⟨"RoadsCrossed", "count", "(I)I"⟩ : Cond) ∈ rx_all := rx_in5 (p := 46) rfl rfl
set_option maxRecDepth 100000 in
theorem rf_M85 : (Cond.methodLink "RoadsCrossedLaw" 189 ⟨"RoadsCrossedModel", "count", "(I)I"⟩ : Cond) ∈ rx_all := rx_in7 (p := 176) rfl rfl
set_option maxRecDepth 100000 in
theorem rf_M86 : (Cond.methodLink "RoadsCrossed$Costs" 33 ⟨"RoadsCrossed$Laws", "lastOf", "(II)I"⟩ : Cond) ∈ rx_all := rx_in2 (p := 234) rfl rfl
set_option maxRecDepth 100000 in
theorem rf_M87 : (Cond.methodLink "RoadsCrossed$Costs" 46 ⟨"RoadsCrossed$Laws", "answer", "(IIII)I"⟩ : Cond) ∈ rx_all := rx_in2 (p := 239) rfl rfl
set_option maxRecDepth 100000 in
theorem rf_M90 : (Cond.methodLink "RoadsCrossed$Costs" 63 ⟨"RoadsCrossed$Costs", "harmOf", "(LRoadsCrossed$Land;I)I"⟩ : Cond) ∈ rx_all := rx_in3 (p := 109) rfl rfl
set_option maxRecDepth 100000 in
theorem rf_M91 : (Cond.methodLink "RoadsCrossed$Costs" 67 ⟨"RoadsCrossed$Land", "meet", "(III)Z"⟩ : Cond) ∈ rx_all := rx_in3 (p := 114) rfl rfl
set_option maxRecDepth 100000 in
theorem rf_M92 : (Cond.methodLink "RoadsCrossed$Land" 55 ⟨"RoadsCrossed$Land", "takeRow", "([I[I)V"⟩ : Cond) ∈ rx_all := rx_in3 (p := 144) rfl rfl
set_option maxRecDepth 100000 in
theorem rf_M94 : (Cond.methodLink "RoadsCrossed$Land" 76 ⟨"RoadsCrossed$Land", "postAt", "(II)I"⟩ : Cond) ∈ rx_all := rx_in2 (p := 152) rfl rfl
set_option maxRecDepth 100000 in
theorem rf_M95 : (Cond.methodLink "RoadsCrossed$Land" 81 ⟨"RoadsCrossed$Land", "putInLine", "(II)V"⟩ : Cond) ∈ rx_all := rx_in2 (p := 162) rfl rfl
set_option maxRecDepth 100000 in
theorem rf_M96 : (Cond.methodLink "RoadsCrossed$Land" 88 ⟨"RoadsCrossed$Land", "isPost", "(I)Z"⟩ : Cond) ∈ rx_all := rx_in2 (p := 207) rfl rfl
set_option maxRecDepth 100000 in
theorem rf_M97 : (Cond.methodLink "RoadsCrossed$Land" 92 ⟨"RoadsCrossed$Land", "hasRoad", "(II)Z"⟩ : Cond) ∈ rx_all := rx_in2 (p := 208) rfl rfl
set_option maxRecDepth 100000 in
theorem rf_M98 : (Cond.methodLink "RoadsCrossed$Land" 96 ⟨"RoadsCrossed$Land", "draw", "(I)I"⟩ : Cond) ∈ rx_all := rx_in4 (p := 49) rfl rfl
set_option maxRecDepth 100000 in
theorem rf_M99 : (Cond.methodLink "RoadsCrossed$Land" 100 ⟨"RoadsCrossed$Land", "postRefusal", "(II)I"⟩ : Cond) ∈ rx_all := rx_in4 (p := 54) rfl rfl
set_option maxRecDepth 100000 in
theorem rf_M100 : (Cond.methodLink "RoadsCrossed$Land" 103 ⟨"RoadsCrossed$Land", "addPost", "(II)I"⟩ : Cond) ∈ rx_all := rx_in4 (p := 55) rfl rfl
set_option maxRecDepth 100000 in
theorem rf_M101 : (Cond.methodLink "RoadsCrossed$Land" 106 ⟨"RoadsCrossed$Land", "roadRefusal", "(II)I"⟩ : Cond) ∈ rx_all := rx_in4 (p := 60) rfl rfl
set_option maxRecDepth 100000 in
theorem rf_M102 : (Cond.methodLink "RoadsCrossed$Land" 109 ⟨"RoadsCrossed$Land", "addRoad", "(IIII)I"⟩ : Cond) ∈ rx_all := rx_in4 (p := 61) rfl rfl
set_option maxRecDepth 100000 in
theorem rf_M103 : (Cond.methodLink "RoadsCrossed$Land" 113 ⟨"RoadsCrossed$Land", "isParted", "(I)Z"⟩ : Cond) ∈ rx_all := rx_in3 (p := 132) rfl rfl
set_option maxRecDepth 100000 in
theorem rf_M104 : (Cond.methodLink "RoadsCrossed$Land" 116 ⟨"RoadsCrossed$Land", "meet", "(III)Z"⟩ : Cond) ∈ rx_all := rx_in3 (p := 103) rfl rfl
set_option maxRecDepth 100000 in
theorem rf_M105 : (Cond.methodLink "RoadsCrossed$Land" 120 ⟨"RoadsCrossed$Land", "shareEnd", "(II)Z"⟩ : Cond) ∈ rx_all := rx_in3 (p := 57) rfl rfl
set_option maxRecDepth 100000 in
theorem rf_M106 : (Cond.methodLink "RoadsCrossed$Land" 123 ⟨"RoadsCrossed$Land", "meetStraight", "(IIII)Z"⟩ : Cond) ∈ rx_all := rx_in3 (p := 61) rfl rfl
set_option maxRecDepth 100000 in
theorem rf_M107 : (Cond.methodLink "RoadsCrossed$Land" 127 ⟨"RoadsCrossed$Land", "meetInLine", "(II)Z"⟩ : Cond) ∈ rx_all := rx_in3 (p := 72) rfl rfl
set_option maxRecDepth 100000 in
theorem rf_M108 : (Cond.methodLink "RoadsCrossed$Land" 130 ⟨"RoadsCrossed$Land", "meetInLayers", "(II)Z"⟩ : Cond) ∈ rx_all := rx_in3 (p := 76) rfl rfl
set_option maxRecDepth 100000 in
theorem rf_M109 : (Cond.methodLink "RoadsCrossed$Land" 133 ⟨"RoadsCrossed$Land", "areApart", "(IIII)Z"⟩ : Cond) ∈ rx_all := rx_in3 (p := 65) rfl rfl
set_option maxRecDepth 100000 in
theorem rf_M110 : (Cond.methodLink "RoadsCrossed$Land" 136 ⟨"RoadsCrossed$Land", "side", "(III)I"⟩ : Cond) ∈ rx_all := rx_in3 (p := 68) rfl rfl
set_option maxRecDepth 100000 in
theorem rf_M111 : (Cond.methodLink "RoadsCrossed$Land" 140 ⟨"RoadsCrossed$Land", "upperLayer", "(I)I"⟩ : Cond) ∈ rx_all := rx_in3 (p := 80) rfl rfl
set_option maxRecDepth 100000 in
theorem rf_M112 : (Cond.methodLink "RoadsCrossed$Land" 143 ⟨"RoadsCrossed$Land", "endIn", "(II)I"⟩ : Cond) ∈ rx_all := rx_in3 (p := 87) rfl rfl
set_option maxRecDepth 100000 in
theorem rf_M113 : (Cond.methodLink "RoadsCrossed$Laws" 55 ⟨"RoadsCrossed$Laws", "valueOf", "(IIII)I"⟩ : Cond) ∈ rx_all := rx_in3 (p := 3) rfl rfl
set_option maxRecDepth 100000 in
theorem rf_M114 : (Cond.methodLink "RoadsCrossed$Laws" 59 ⟨"RoadsCrossed$Laws", "apply", "(III)I"⟩ : Cond) ∈ rx_all := rx_in3 (p := 6) rfl rfl
set_option maxRecDepth 100000 in
theorem rf_M115 : (Cond.methodLink "RoadsCrossed$LineSearch" 36 ⟨"java/util/Arrays", "fill", "([II)V"⟩ : Cond) ∈ rx_all := rx_in3 (p := 235) rfl rfl
set_option maxRecDepth 100000 in
theorem rf_M116 : (Cond.methodLink "RoadsCrossed$LineSearch" 52 ⟨"RoadsCrossed$LineSearch", "extend", "(LRoadsCrossed$LineSearch;[[III)V"⟩ : Cond) ∈ rx_all := rx_in3 (p := 237) rfl rfl
set_option maxRecDepth 100000 in
theorem rf_M117 : (Cond.methodLink "RoadsCrossed$LineSearch" 62 ⟨"RoadsCrossed$LineSearch", "costOfNext", "([[III)I"⟩ : Cond) ∈ rx_all := rx_in4 (p := 1) rfl rfl
set_option maxRecDepth 100000 in
theorem rf_M118 : (Cond.methodLink "RoadsCrossed$LineSearch" 66 ⟨"RoadsCrossed$LineSearch", "costOfOpen", "([III)I"⟩ : Cond) ∈ rx_all := rx_in4 (p := 5) rfl rfl
set_option maxRecDepth 100000 in
theorem rf_M119 : (Cond.methodLink "RoadsCrossed$PageSearch" 28 ⟨"RoadsCrossed$PageSearch", "clashesOf", "(LRoadsCrossed$Land;I)I"⟩ : Cond) ∈ rx_all := rx_in3 (p := 214) rfl rfl
set_option maxRecDepth 100000 in
theorem rf_M120 : (Cond.methodLink "RoadsCrossed$PageSearch" 32 ⟨"java/util/Arrays", "fill", "([II)V"⟩ : Cond) ∈ rx_all := rx_in3 (p := 219) rfl rfl
set_option maxRecDepth 100000 in
theorem rf_M121 : (Cond.methodLink "RoadsCrossed$PageSearch" 38 ⟨"RoadsCrossed$PageSearch", "paint", "(LRoadsCrossed$PageSearch;III)Z"⟩ : Cond) ∈ rx_all := rx_in3 (p := 222) rfl rfl
set_option maxRecDepth 100000 in
theorem rf_M122 : (Cond.methodLink "RoadsCrossed$PageSearch" 42 ⟨"RoadsCrossed$Land", "shareEnd", "(II)Z"⟩ : Cond) ∈ rx_all := rx_in3 (p := 217) rfl rfl
set_option maxRecDepth 100000 in
theorem rf_M123 : (Cond.methodLink "RoadsCrossed$PageSearch" 46 ⟨"RoadsCrossed$Land", "meetInLine", "(II)Z"⟩ : Cond) ∈ rx_all := rx_in3 (p := 218) rfl rfl
set_option maxRecDepth 100000 in
theorem rf_M124 : (Cond.methodLink "RoadsCrossed$Reader" 43 ⟨"RoadsCrossed$Reader", "next", "()V"⟩ : Cond) ∈ rx_all := rx_in4 (p := 87) rfl rfl
set_option maxRecDepth 100000 in
theorem rf_M125 : (Cond.methodLink "RoadsCrossed$Reader" 46 ⟨"RoadsCrossed$Reader", "keyHere", "()I"⟩ : Cond) ∈ rx_all := rx_in4 (p := 98) rfl rfl
set_option maxRecDepth 100000 in
theorem rf_M126 : (Cond.methodLink "RoadsCrossed$Reader" 50 ⟨"RoadsCrossed$Reader", "fail", "()V"⟩ : Cond) ∈ rx_all := rx_in4 (p := 157) rfl rfl
set_option maxRecDepth 100000 in
theorem rf_M127 : (Cond.methodLink "RoadsCrossed$Reader" 53 ⟨"RoadsCrossed$Reader", "chain", "(III)V"⟩ : Cond) ∈ rx_all := rx_in4 (p := 161) rfl rfl
set_option maxRecDepth 100000 in
theorem rf_M128 : (Cond.methodLink "RoadsCrossed$Reader" 57 ⟨"RoadsCrossed$Reader", "behindRow", "(III)I"⟩ : Cond) ∈ rx_all := rx_in4 (p := 91) rfl rfl
set_option maxRecDepth 100000 in
theorem rf_M129 : (Cond.methodLink "RoadsCrossed$Reader" 61 ⟨"RoadsCrossed$Reader", "isWithin", "(III)Z"⟩ : Cond) ∈ rx_all := rx_in4 (p := 95) rfl rfl
set_option maxRecDepth 100000 in
theorem rf_M130 : (Cond.methodLink "RoadsCrossed$Reader" 75 ⟨"RoadsCrossed$Reader", "isHere", "(Ljava/lang/String;)Z"⟩ : Cond) ∈ rx_all := rx_in4 (p := 103) rfl rfl
set_option maxRecDepth 100000 in
theorem rf_M131 : (Cond.methodLink "RoadsCrossed$Reader" 83 ⟨"RoadsCrossed$Reader", "piece", "(II)V"⟩ : Cond) ∈ rx_all := rx_in4 (p := 165) rfl rfl
set_option maxRecDepth 100000 in
theorem rf_M132 : (Cond.methodLink "RoadsCrossed$Reader" 87 ⟨"RoadsCrossed$Reader", "levelOf", "(I)I"⟩ : Cond) ∈ rx_all := rx_in4 (p := 185) rfl rfl
set_option maxRecDepth 100000 in
theorem rf_M133 : (Cond.methodLink "RoadsCrossed$Reader" 91 ⟨"RoadsCrossed$Reader", "write", "(I)V"⟩ : Cond) ∈ rx_all := rx_in4 (p := 177) rfl rfl
set_option maxRecDepth 100000 in
theorem rf_M134 : (Cond.methodLink "RoadsCrossed$Reader" 95 ⟨"RoadsCrossed$Reader", "numberHere", "()I"⟩ : Cond) ∈ rx_all := rx_in4 (p := 169) rfl rfl
set_option maxRecDepth 100000 in
theorem rf_M135 : (Cond.methodLink "RoadsCrossed$Reader" 98 ⟨"RoadsCrossed$Reader", "writeLeaf", "(I)V"⟩ : Cond) ∈ rx_all := rx_in4 (p := 173) rfl rfl
set_option maxRecDepth 100000 in
theorem rf_M136 : (Cond.methodLink "RoadsCrossed$Reader" 101 ⟨"RoadsCrossed$Reader", "nameHere", "()I"⟩ : Cond) ∈ rx_all := rx_in4 (p := 181) rfl rfl
set_option maxRecDepth 100000 in
theorem rf_M137 : (Cond.methodLink "RoadsCrossed$RowSearch" 28 ⟨"RoadsCrossed$RowSearch", "collect", "(LRoadsCrossed$Land;I)V"⟩ : Cond) ∈ rx_all := rx_in4 (p := 25) rfl rfl
set_option maxRecDepth 100000 in
theorem rf_M138 : (Cond.methodLink "RoadsCrossed$RowSearch" 33 ⟨"RoadsCrossed$Land", "putInLine", "(II)V"⟩ : Cond) ∈ rx_all := rx_in4 (p := 30) rfl rfl
set_option maxRecDepth 100000 in
theorem rf_M139 : (Cond.methodLink "RoadsCrossed$RowSearch" 39 ⟨"RoadsCrossed$Costs", "sum", "(LRoadsCrossed$Land;II)I"⟩ : Cond) ∈ rx_all := rx_in4 (p := 31) rfl rfl
set_option maxRecDepth 100000 in
theorem rf_M140 : (Cond.methodLink "RoadsCrossed$RowSearch" 51 ⟨"RoadsCrossed$RowSearch", "nextOrder", "()Z"⟩ : Cond) ∈ rx_all := rx_in4 (p := 33) rfl rfl
set_option maxRecDepth 100000 in
theorem rf_M141 : (Cond.methodLink "RoadsCrossed$RowSearch" 63 ⟨"RoadsCrossed$RowSearch", "exchange", "(II)V"⟩ : Cond) ∈ rx_all := rx_in4 (p := 37) rfl rfl
set_option maxRecDepth 100000 in
theorem rf_M142 : (Cond.methodLink "RoadsCrossed$Sheet" 22 ⟨"java/util/Arrays", "fill", "([II)V"⟩ : Cond) ∈ rx_all := rx_in4 (p := 211) rfl rfl
set_option maxRecDepth 100000 in
theorem rf_M143 : (Cond.methodLink "RoadsCrossed$SwapSearch" 32 ⟨"RoadsCrossed$Laws", "lastOf", "(II)I"⟩ : Cond) ∈ rx_all := rx_in3 (p := 162) rfl rfl
set_option maxRecDepth 100000 in
theorem rf_M144 : (Cond.methodLink "RoadsCrossed$SwapSearch" 39 ⟨"RoadsCrossed$Costs", "sum", "(LRoadsCrossed$Land;II)I"⟩ : Cond) ∈ rx_all := rx_in3 (p := 164) rfl rfl
set_option maxRecDepth 100000 in
theorem rf_M145 : (Cond.methodLink "RoadsCrossed$SwapSearch" 46 ⟨"RoadsCrossed$Laws", "answer", "(IIII)I"⟩ : Cond) ∈ rx_all := rx_in3 (p := 165) rfl rfl
set_option maxRecDepth 100000 in
theorem rf_M146 : (Cond.methodLink "RoadsCrossed$SwapSearch" 50 ⟨"RoadsCrossed$Land", "swapPosts", "(II)V"⟩ : Cond) ∈ rx_all := rx_in3 (p := 166) rfl rfl
set_option maxRecDepth 100000 in
theorem rf_M147 : (Cond.methodLink "RoadsCrossed" 92 ⟨"RoadsCrossed$Land", "postRefusal", "(II)I"⟩ : Cond) ∈ rx_all := rx_in2 (p := 144) rfl rfl
set_option maxRecDepth 100000 in
theorem rf_M148 : (Cond.methodLink "RoadsCrossed" 96 ⟨"RoadsCrossed$Land", "addPost", "(II)I"⟩ : Cond) ∈ rx_all := rx_in2 (p := 158) rfl rfl
set_option maxRecDepth 100000 in
theorem rf_M149 : (Cond.methodLink "RoadsCrossed" 99 ⟨"RoadsCrossed$Land", "isPost", "(I)Z"⟩ : Cond) ∈ rx_all := rx_in2 (p := 170) rfl rfl
set_option maxRecDepth 100000 in
theorem rf_M150 : (Cond.methodLink "RoadsCrossed" 116 ⟨"RoadsCrossed$Land", "roadsFrom", "(I)I"⟩ : Cond) ∈ rx_all := rx_in2 (p := 175) rfl rfl
set_option maxRecDepth 100000 in
theorem rf_M151 : (Cond.methodLink "RoadsCrossed" 120 ⟨"RoadsCrossed", "isPlace", "(II)Z"⟩ : Cond) ∈ rx_all := rx_in2 (p := 183) rfl rfl
set_option maxRecDepth 100000 in
theorem rf_M152 : (Cond.methodLink "RoadsCrossed" 124 ⟨"RoadsCrossed$Land", "postAt", "(II)I"⟩ : Cond) ∈ rx_all := rx_in2 (p := 184) rfl rfl
set_option maxRecDepth 100000 in
theorem rf_M153 : (Cond.methodLink "RoadsCrossed" 128 ⟨"RoadsCrossed", "isLayer", "(I)Z"⟩ : Cond) ∈ rx_all := rx_in2 (p := 190) rfl rfl
set_option maxRecDepth 100000 in
theorem rf_M154 : (Cond.methodLink "RoadsCrossed" 131 ⟨"RoadsCrossed", "isKind", "(I)Z"⟩ : Cond) ∈ rx_all := rx_in2 (p := 197) rfl rfl
set_option maxRecDepth 100000 in
theorem rf_M155 : (Cond.methodLink "RoadsCrossed" 134 ⟨"RoadsCrossed", "isWeight", "(I)Z"⟩ : Cond) ∈ rx_all := rx_in2 (p := 200) rfl rfl
set_option maxRecDepth 100000 in
theorem rf_M156 : (Cond.methodLink "RoadsCrossed" 137 ⟨"RoadsCrossed$Land", "roadRefusal", "(II)I"⟩ : Cond) ∈ rx_all := rx_in2 (p := 203) rfl rfl
set_option maxRecDepth 100000 in
theorem rf_M157 : (Cond.methodLink "RoadsCrossed" 140 ⟨"RoadsCrossed$Land", "addRoad", "(IIII)I"⟩ : Cond) ∈ rx_all := rx_in2 (p := 218) rfl rfl
set_option maxRecDepth 100000 in
theorem rf_M158 : (Cond.methodLink "RoadsCrossed" 144 ⟨"RoadsCrossed$Land", "isRoad", "(I)Z"⟩ : Cond) ∈ rx_all := rx_in2 (p := 226) rfl rfl
set_option maxRecDepth 100000 in
theorem rf_M159 : (Cond.methodLink "RoadsCrossed" 162 ⟨"RoadsCrossed$Costs", "harmOf", "(LRoadsCrossed$Land;I)I"⟩ : Cond) ∈ rx_all := rx_in2 (p := 230) rfl rfl
set_option maxRecDepth 100000 in
theorem rf_M160 : (Cond.methodLink "RoadsCrossed" 166 ⟨"RoadsCrossed", "worthOf", "(II)I"⟩ : Cond) ∈ rx_all := rx_in3 (p := 17) rfl rfl
set_option maxRecDepth 100000 in
theorem rf_M161 : (Cond.methodLink "RoadsCrossed" 169 ⟨"RoadsCrossed", "isUnder", "(II)Z"⟩ : Cond) ∈ rx_all := rx_in3 (p := 24) rfl rfl
set_option maxRecDepth 100000 in
theorem rf_M162 : (Cond.methodLink "RoadsCrossed" 173 ⟨"RoadsCrossed", "isPage", "(I)Z"⟩ : Cond) ∈ rx_all := rx_in3 (p := 38) rfl rfl
set_option maxRecDepth 100000 in
theorem rf_M163 : (Cond.methodLink "RoadsCrossed" 176 ⟨"RoadsCrossed$Land", "dropRoad", "(I)V"⟩ : Cond) ∈ rx_all := rx_in3 (p := 45) rfl rfl
set_option maxRecDepth 100000 in
theorem rf_M164 : (Cond.methodLink "RoadsCrossed" 183 ⟨"RoadsCrossed$Land", "meet", "(III)Z"⟩ : Cond) ∈ rx_all := rx_in3 (p := 53) rfl rfl
set_option maxRecDepth 100000 in
theorem rf_M165 : (Cond.methodLink "RoadsCrossed" 187 ⟨"RoadsCrossed", "dearestRoad", "()I"⟩ : Cond) ∈ rx_all := rx_in3 (p := 95) rfl rfl
set_option maxRecDepth 100000 in
theorem rf_M166 : (Cond.methodLink "RoadsCrossed" 191 ⟨"RoadsCrossed", "crossingsTold", "(II)I"⟩ : Cond) ∈ rx_all := rx_in3 (p := 115) rfl rfl
set_option maxRecDepth 100000 in
theorem rf_M167 : (Cond.methodLink "RoadsCrossed" 202 ⟨"RoadsCrossed$Land", "isTwoSided", "()Z"⟩ : Cond) ∈ rx_all := rx_in3 (p := 128) rfl rfl
set_option maxRecDepth 100000 in
theorem rf_M168 : (Cond.methodLink "RoadsCrossed" 206 ⟨"RoadsCrossed$Costs", "reckon", "(LRoadsCrossed$Land;)V"⟩ : Cond) ∈ rx_all := rx_in3 (p := 105) rfl rfl
set_option maxRecDepth 100000 in
theorem rf_M169 : (Cond.methodLink "RoadsCrossed" 210 ⟨"RoadsCrossed$Land", "takeFrom", "(LRoadsCrossed$Land;)V"⟩ : Cond) ∈ rx_all := rx_in3 (p := 140) rfl rfl
set_option maxRecDepth 100000 in
theorem rf_M170 : (Cond.methodLink "RoadsCrossed" 213 ⟨"RoadsCrossed$Land", "swapPosts", "(II)V"⟩ : Cond) ∈ rx_all := rx_in3 (p := 150) rfl rfl
set_option maxRecDepth 100000 in
theorem rf_M171 : (Cond.methodLink "RoadsCrossed" 218 ⟨"RoadsCrossed$Costs", "sum", "(LRoadsCrossed$Land;II)I"⟩ : Cond) ∈ rx_all := rx_in3 (p := 120) rfl rfl
set_option maxRecDepth 100000 in
theorem rf_M172 : (Cond.methodLink "RoadsCrossed" 222 ⟨"RoadsCrossed$SwapSearch", "search", "(LRoadsCrossed$Land;LRoadsCrossed$Costs;)Z"⟩ : Cond) ∈ rx_all := rx_in3 (p := 158) rfl rfl
set_option maxRecDepth 100000 in
theorem rf_M173 : (Cond.methodLink "RoadsCrossed" 227 ⟨"RoadsCrossed$SwapSearch", "pair", "()I"⟩ : Cond) ∈ rx_all := rx_in3 (p := 167) rfl rfl
set_option maxRecDepth 100000 in
theorem rf_M174 : (Cond.methodLink "RoadsCrossed" 239 ⟨"RoadsCrossed", "isSheet", "(I)Z"⟩ : Cond) ∈ rx_all := rx_in3 (p := 179) rfl rfl
set_option maxRecDepth 100000 in
theorem rf_M175 : (Cond.methodLink "RoadsCrossed" 242 ⟨"RoadsCrossed$Sheet", "isMissing", "()Z"⟩ : Cond) ∈ rx_all := rx_in3 (p := 182) rfl rfl
set_option maxRecDepth 100000 in
theorem rf_M176 : (Cond.methodLink "RoadsCrossed" 250 ⟨"RoadsCrossed$Sheet", "hasNoNumber", "()Z"⟩ : Cond) ∈ rx_all := rx_in3 (p := 188) rfl rfl
set_option maxRecDepth 100000 in
theorem rf_M177 : (Cond.methodLink "RoadsCrossed" 253 ⟨"RoadsCrossed$Sheet", "isOrderOf", "(I)Z"⟩ : Cond) ∈ rx_all := rx_in3 (p := 193) rfl rfl
set_option maxRecDepth 100000 in
theorem rf_M178 : (Cond.methodLink "RoadsCrossed" 259 ⟨"RoadsCrossed$Land", "putInLine", "(II)V"⟩ : Cond) ∈ rx_all := rx_in3 (p := 197) rfl rfl
set_option maxRecDepth 100000 in
theorem rf_M179 : (Cond.methodLink "RoadsCrossed" 265 ⟨"RoadsCrossed$PageSearch", "search", "(LRoadsCrossed$Land;)I"⟩ : Cond) ∈ rx_all := rx_in3 (p := 210) rfl rfl
set_option maxRecDepth 100000 in
theorem rf_M180 : (Cond.methodLink "RoadsCrossed" 275 ⟨"RoadsCrossed$LineSearch", "search", "(LRoadsCrossed$Land;[[I)V"⟩ : Cond) ∈ rx_all := rx_in3 (p := 231) rfl rfl
set_option maxRecDepth 100000 in
theorem rf_M181 : (Cond.methodLink "RoadsCrossed" 280 ⟨"RoadsCrossed$Land", "postsOf", "(I)I"⟩ : Cond) ∈ rx_all := rx_in4 (p := 17) rfl rfl
set_option maxRecDepth 100000 in
theorem rf_M182 : (Cond.methodLink "RoadsCrossed" 283 ⟨"RoadsCrossed$RowSearch", "search", "(LRoadsCrossed$Land;ILRoadsCrossed$Costs;)V"⟩ : Cond) ∈ rx_all := rx_in4 (p := 21) rfl rfl
set_option maxRecDepth 100000 in
theorem rf_M183 : (Cond.methodLink "RoadsCrossed" 288 ⟨"RoadsCrossed$Land", "drawPost", "()Z"⟩ : Cond) ∈ rx_all := rx_in4 (p := 45) rfl rfl
set_option maxRecDepth 100000 in
theorem rf_M184 : (Cond.methodLink "RoadsCrossed" 291 ⟨"RoadsCrossed$Land", "drawRoad", "()Z"⟩ : Cond) ∈ rx_all := rx_in4 (p := 56) rfl rfl
set_option maxRecDepth 100000 in
theorem rf_M185 : (Cond.methodLink "RoadsCrossed" 301 ⟨"RoadsCrossed$Reader", "feedNumber", "(I)V"⟩ : Cond) ∈ rx_all := rx_in4 (p := 71) rfl rfl
set_option maxRecDepth 100000 in
theorem rf_M186 : (Cond.methodLink "RoadsCrossed" 304 ⟨"RoadsCrossed$Reader", "read", "()I"⟩ : Cond) ∈ rx_all := rx_in4 (p := 83) rfl rfl
set_option maxRecDepth 100000 in
theorem rf_M187 : (Cond.methodLink "RoadsCrossed" 314 ⟨"RoadsCrossed$Laws", "put", "(ILRoadsCrossed$Reader;)V"⟩ : Cond) ∈ rx_all := rx_in4 (p := 188) rfl rfl
set_option maxRecDepth 100000 in
theorem rf_M188 : (Cond.methodLink "RoadsCrossed" 326 ⟨"RoadsCrossed$Laws", "lastOf", "(II)I"⟩ : Cond) ∈ rx_all := rx_in4 (p := 202) rfl rfl
set_option maxRecDepth 100000 in
theorem rf_M189 : (Cond.methodLink "RoadsCrossed" 329 ⟨"RoadsCrossed$Sheet", "become", "(II)V"⟩ : Cond) ∈ rx_all := rx_in4 (p := 207) rfl rfl
set_option maxRecDepth 100000 in
theorem rf_M190 : (Cond.methodLink "RoadsCrossed" 332 ⟨"RoadsCrossed$Sheet", "hasPlace", "(I)Z"⟩ : Cond) ∈ rx_all := rx_in4 (p := 216) rfl rfl
set_option maxRecDepth 100000 in
theorem rf_M191 : (Cond.methodLink "RoadsCrossed" 341 ⟨"RoadsCrossed$Sheet", "hasPlaces", "(II)Z"⟩ : Cond) ∈ rx_all := rx_in4 (p := 231) rfl rfl
set_option maxRecDepth 100000 in
theorem rf_M192 : (Cond.methodLink "RoadsCrossed" 350 ⟨"RoadsCrossed", "isSlot", "(I)Z"⟩ : Cond) ∈ rx_all := rx_in5 (p := 0) rfl rfl
set_option maxRecDepth 100000 in
theorem rf_M193 : (Cond.methodLink "RoadsCrossed" 364 ⟨"RoadsCrossed$Sheet", "takeFrom", "(LRoadsCrossed$Sheet;)V"⟩ : Cond) ∈ rx_all := rx_in5 (p := 3) rfl rfl
set_option maxRecDepth 100000 in
theorem rf_M194 : (Cond.methodLink "RoadsCrossed" 370 ⟨"RoadsCrossed$Slot", "refusalAs", "(I)I"⟩ : Cond) ∈ rx_all := rx_in5 (p := 12) rfl rfl
set_option maxRecDepth 100000 in
theorem rf_M195 : (Cond.methodLink "RoadsCrossed" 373 ⟨"RoadsCrossed", "checkSwapsTold", "(II)I"⟩ : Cond) ∈ rx_all := rx_in5 (p := 34) rfl rfl
set_option maxRecDepth 100000 in
theorem rf_M196 : (Cond.methodLink "RoadsCrossed" 376 ⟨"RoadsCrossed$Land", "pairsThatMeet", "(I)I"⟩ : Cond) ∈ rx_all := rx_in3 (p := 99) rfl rfl
set_option maxRecDepth 100000 in
theorem rf_M197 : (Cond.methodLink "RoadsCrossed" 379 ⟨"RoadsCrossed$Costs", "straightSumOf", "(LRoadsCrossed$Land;I)I"⟩ : Cond) ∈ rx_all := rx_in3 (p := 110) rfl rfl
set_option maxRecDepth 100000 in
theorem rf_M198 : (Cond.methodLink "RoadsCrossedModel" 111 ⟨"RoadsCrossedModel", "in", "(III)Z"⟩ : Cond) ∈ rx_all := rx_in5 (p := 213) rfl rfl
set_option maxRecDepth 100000 in
theorem rf_M199 : (Cond.methodLink "RoadsCrossedModel" 115 ⟨"RoadsCrossedModel", "of", "(II)I"⟩ : Cond) ∈ rx_all := rx_in6 (p := 15) rfl rfl
set_option maxRecDepth 100000 in
theorem rf_M200 : (Cond.methodLink "RoadsCrossedModel" 119 ⟨"RoadsCrossedModel", "xOf", "(I)I"⟩ : Cond) ∈ rx_all := rx_in5 (p := 221) rfl rfl
set_option maxRecDepth 100000 in
theorem rf_M201 : (Cond.methodLink "RoadsCrossedModel" 123 ⟨"RoadsCrossedModel", "yOf", "(I)I"⟩ : Cond) ∈ rx_all := rx_in5 (p := 225) rfl rfl
set_option maxRecDepth 100000 in
theorem rf_M202 : (Cond.methodLink "RoadsCrossedModel" 126 ⟨"RoadsCrossedModel", "isPlace", "(II)Z"⟩ : Cond) ∈ rx_all := rx_in5 (p := 210) rfl rfl
set_option maxRecDepth 100000 in
theorem rf_M203 : (Cond.methodLink "RoadsCrossedModel" 131 ⟨"RoadsCrossedModel", "postAt", "(II)I"⟩ : Cond) ∈ rx_all := rx_in5 (p := 217) rfl rfl
set_option maxRecDepth 100000 in
theorem rf_M204 : (Cond.methodLink "RoadsCrossedModel" 136 ⟨"RoadsCrossedModel", "comes", "(II)I"⟩ : Cond) ∈ rx_all := rx_in5 (p := 231) rfl rfl
set_option maxRecDepth 100000 in
theorem rf_M205 : (Cond.methodLink "RoadsCrossedModel" 139 ⟨"RoadsCrossedModel", "lesser", "(I)I"⟩ : Cond) ∈ rx_all := rx_in6 (p := 11) rfl rfl
set_option maxRecDepth 100000 in
theorem rf_M206 : (Cond.methodLink "RoadsCrossedModel" 142 ⟨"RoadsCrossedModel", "greater", "(I)I"⟩ : Cond) ∈ rx_all := rx_in6 (p := 19) rfl rfl
set_option maxRecDepth 100000 in
theorem rf_M207 : (Cond.methodLink "RoadsCrossedModel" 145 ⟨"RoadsCrossedModel", "isPost", "(I)Z"⟩ : Cond) ∈ rx_all := rx_in5 (p := 239) rfl rfl
set_option maxRecDepth 100000 in
theorem rf_M208 : (Cond.methodLink "RoadsCrossedModel" 149 ⟨"RoadsCrossedModel", "placeOf", "(I)I"⟩ : Cond) ∈ rx_all := rx_in6 (p := 3) rfl rfl
set_option maxRecDepth 100000 in
theorem rf_M209 : (Cond.methodLink "RoadsCrossedModel" 152 ⟨"RoadsCrossedModel", "isFrom", "(II)Z"⟩ : Cond) ∈ rx_all := rx_in6 (p := 7) rfl rfl
set_option maxRecDepth 100000 in
theorem rf_M210 : (Cond.methodLink "RoadsCrossedModel" 155 ⟨"RoadsCrossedModel", "layerOf", "(I)I"⟩ : Cond) ∈ rx_all := rx_in6 (p := 31) rfl rfl
set_option maxRecDepth 100000 in
theorem rf_M211 : (Cond.methodLink "RoadsCrossedModel" 158 ⟨"RoadsCrossedModel", "isBetween", "(II)Z"⟩ : Cond) ∈ rx_all := rx_in6 (p := 39) rfl rfl
set_option maxRecDepth 100000 in
theorem rf_M212 : (Cond.methodLink "RoadsCrossedModel" 161 ⟨"RoadsCrossedModel", "goes", "(IIII)I"⟩ : Cond) ∈ rx_all := rx_in6 (p := 43) rfl rfl
set_option maxRecDepth 100000 in
theorem rf_M213 : (Cond.methodLink "RoadsCrossedModel" 165 ⟨"RoadsCrossedModel", "counts", "(I)I"⟩ : Cond) ∈ rx_all := rx_in6 (p := 59) rfl rfl
set_option maxRecDepth 100000 in
theorem rf_M214 : (Cond.methodLink "RoadsCrossedModel" 168 ⟨"RoadsCrossedModel", "worksOut", "(I)I"⟩ : Cond) ∈ rx_all := rx_in6 (p := 63) rfl rfl
set_option maxRecDepth 100000 in
theorem rf_M215 : (Cond.methodLink "RoadsCrossedModel" 171 ⟨"RoadsCrossedModel", "within", "(III)I"⟩ : Cond) ∈ rx_all := rx_in6 (p := 70) rfl rfl
set_option maxRecDepth 100000 in
theorem rf_M216 : (Cond.methodLink "RoadsCrossedModel" 175 ⟨"RoadsCrossedModel", "isRoad", "(I)Z"⟩ : Cond) ∈ rx_all := rx_in6 (p := 51) rfl rfl
set_option maxRecDepth 100000 in
theorem rf_M217 : (Cond.methodLink "RoadsCrossedModel" 178 ⟨"RoadsCrossedModel", "harmOf", "(I)I"⟩ : Cond) ∈ rx_all := rx_in6 (p := 55) rfl rfl
set_option maxRecDepth 100000 in
theorem rf_M218 : (Cond.methodLink "RoadsCrossedModel" 181 ⟨"RoadsCrossedModel", "worthBy", "(II)I"⟩ : Cond) ∈ rx_all := rx_in6 (p := 73) rfl rfl
set_option maxRecDepth 100000 in
theorem rf_M219 : (Cond.methodLink "RoadsCrossedModel" 184 ⟨"RoadsCrossedModel", "isUnder", "(II)Z"⟩ : Cond) ∈ rx_all := rx_in6 (p := 80) rfl rfl
set_option maxRecDepth 100000 in
theorem rf_M220 : (Cond.methodLink "RoadsCrossedModel" 188 ⟨"RoadsCrossedModel", "becomes", "(III)I"⟩ : Cond) ∈ rx_all := rx_in6 (p := 88) rfl rfl
set_option maxRecDepth 100000 in
theorem rf_M221 : (Cond.methodLink "RoadsCrossedModel" 199 ⟨"RoadsCrossedModel", "side", "(IIIIII)I"⟩ : Cond) ∈ rx_all := rx_in6 (p := 116) rfl rfl
set_option maxRecDepth 100000 in
theorem rf_M222 : (Cond.methodLink "RoadsCrossedModel" 203 ⟨"RoadsCrossedModel", "areApart", "(II)Z"⟩ : Cond) ∈ rx_all := rx_in6 (p := 108) rfl rfl
set_option maxRecDepth 100000 in
theorem rf_M223 : (Cond.methodLink "RoadsCrossedModel" 206 ⟨"RoadsCrossedModel", "sideOf", "(III)I"⟩ : Cond) ∈ rx_all := rx_in6 (p := 112) rfl rfl
set_option maxRecDepth 100000 in
theorem rf_M224 : (Cond.methodLink "RoadsCrossedModel" 209 ⟨"RoadsCrossedModel", "isOn", "(III)Z"⟩ : Cond) ∈ rx_all := rx_in6 (p := 119) rfl rfl
set_option maxRecDepth 100000 in
theorem rf_M225 : (Cond.methodLink "RoadsCrossedModel" 212 ⟨"RoadsCrossedModel", "doCross", "(II)Z"⟩ : Cond) ∈ rx_all := rx_in6 (p := 104) rfl rfl
set_option maxRecDepth 100000 in
theorem rf_M226 : (Cond.methodLink "RoadsCrossedModel" 215 ⟨"RoadsCrossedModel", "findPairs", "()V"⟩ : Cond) ∈ rx_all := rx_in6 (p := 129) rfl rfl
set_option maxRecDepth 100000 in
theorem rf_M227 : (Cond.methodLink "RoadsCrossedModel" 218 ⟨"RoadsCrossedModel", "straightly", "(ZI)I"⟩ : Cond) ∈ rx_all := rx_in6 (p := 133) rfl rfl
set_option maxRecDepth 100000 in
theorem rf_M228 : (Cond.methodLink "RoadsCrossedModel" 223 ⟨"RoadsCrossedModel", "isParted", "()Z"⟩ : Cond) ∈ rx_all := rx_in6 (p := 142) rfl rfl
set_option maxRecDepth 100000 in
theorem rf_M229 : (Cond.methodLink "RoadsCrossedModel" 227 ⟨"RoadsCrossedModel", "swap", "(II)V"⟩ : Cond) ∈ rx_all := rx_in6 (p := 154) rfl rfl
set_option maxRecDepth 100000 in
theorem rf_M230 : (Cond.methodLink "RoadsCrossedModel" 231 ⟨"RoadsCrossedModel", "costBehind", "(II)I"⟩ : Cond) ∈ rx_all := rx_in6 (p := 150) rfl rfl
set_option maxRecDepth 100000 in
theorem rf_M231 : (Cond.methodLink "RoadsCrossedModel" 241 ⟨"RoadsCrossedModel", "maySwap", "(II)Z"⟩ : Cond) ∈ rx_all := rx_in6 (p := 166) rfl rfl
set_option maxRecDepth 100000 in
theorem rf_M232 : (Cond.methodLink "RoadsCrossedModel" 244 ⟨"RoadsCrossedModel", "findSwap", "()V"⟩ : Cond) ∈ rx_all := rx_in6 (p := 162) rfl rfl
set_option maxRecDepth 100000 in
theorem rf_M233 : (Cond.methodLink "RoadsCrossedModel" 247 ⟨"RoadsCrossedModel", "isSheet", "(I)Z"⟩ : Cond) ∈ rx_all := rx_in6 (p := 178) rfl rfl
set_option maxRecDepth 100000 in
theorem rf_M234 : (Cond.methodLink "RoadsCrossedModel" 252 ⟨"RoadsCrossedModel", "isWithin", "(III)Z"⟩ : Cond) ∈ rx_all := rx_in6 (p := 199) rfl rfl
set_option maxRecDepth 100000 in
theorem rf_M235 : (Cond.methodLink "RoadsCrossedModel" 255 ⟨"RoadsCrossedModel", "findPlaces", "()V"⟩ : Cond) ∈ rx_all := rx_in6 (p := 191) rfl rfl
set_option maxRecDepth 100000 in
theorem rf_M236 : (Cond.methodLink "RoadsCrossedModel" 258 ⟨"RoadsCrossedModel", "doPass", "(II)Z"⟩ : Cond) ∈ rx_all := rx_in6 (p := 195) rfl rfl
set_option maxRecDepth 100000 in
theorem rf_M237 : (Cond.methodLink "RoadsCrossedModel" 261 ⟨"RoadsCrossedModel", "hasTwo", "(I)Z"⟩ : Cond) ∈ rx_all := rx_in6 (p := 215) rfl rfl
set_option maxRecDepth 100000 in
theorem rf_M238 : (Cond.methodLink "RoadsCrossedModel" 264 ⟨"RoadsCrossedModel", "lastPage", "(I)I"⟩ : Cond) ∈ rx_all := rx_in6 (p := 223) rfl rfl
set_option maxRecDepth 100000 in
theorem rf_M239 : (Cond.methodLink "RoadsCrossedModel" 267 ⟨"RoadsCrossedModel", "fitsPage", "(I)Z"⟩ : Cond) ∈ rx_all := rx_in6 (p := 227) rfl rfl
set_option maxRecDepth 100000 in
theorem rf_M240 : (Cond.methodLink "RoadsCrossedModel" 270 ⟨"RoadsCrossedModel", "findPasses", "()V"⟩ : Cond) ∈ rx_all := rx_in6 (p := 207) rfl rfl
set_option maxRecDepth 100000 in
theorem rf_M241 : (Cond.methodLink "RoadsCrossedModel" 273 ⟨"RoadsCrossedModel", "mutual", "()I"⟩ : Cond) ∈ rx_all := rx_in6 (p := 211) rfl rfl
set_option maxRecDepth 100000 in
theorem rf_M242 : (Cond.methodLink "RoadsCrossedModel" 277 ⟨"RoadsCrossedModel", "fillsPages", "(I)Z"⟩ : Cond) ∈ rx_all := rx_in6 (p := 219) rfl rfl
set_option maxRecDepth 100000 in
theorem rf_M243 : (Cond.methodLink "RoadsCrossedModel" 283 ⟨"RoadsCrossedModel", "closes", "(II)I"⟩ : Cond) ∈ rx_all := rx_in6 (p := 239) rfl rfl
set_option maxRecDepth 100000 in
theorem rf_M244 : (Cond.methodLink "RoadsCrossedModel" 286 ⟨"RoadsCrossedModel", "findBestLine", "()V"⟩ : Cond) ∈ rx_all := rx_in6 (p := 235) rfl rfl
set_option maxRecDepth 100000 in
theorem rf_M245 : (Cond.methodLink "RoadsCrossedModel" 289 ⟨"RoadsCrossedModel", "layerFrom", "(I)I"⟩ : Cond) ∈ rx_all := rx_in7 (p := 11) rfl rfl
set_option maxRecDepth 100000 in
theorem rf_M246 : (Cond.methodLink "RoadsCrossedModel" 292 ⟨"RoadsCrossedModel", "endIn", "(II)I"⟩ : Cond) ∈ rx_all := rx_in7 (p := 15) rfl rfl
set_option maxRecDepth 100000 in
theorem rf_M247 : (Cond.methodLink "RoadsCrossedModel" 295 ⟨"RoadsCrossedModel", "layered", "(Z)I"⟩ : Cond) ∈ rx_all := rx_in7 (p := 7) rfl rfl
set_option maxRecDepth 100000 in
theorem rf_M248 : (Cond.methodLink "RoadsCrossedModel" 302 ⟨"RoadsCrossedModel", "findMembers", "(I)V"⟩ : Cond) ∈ rx_all := rx_in7 (p := 23) rfl rfl
set_option maxRecDepth 100000 in
theorem rf_M249 : (Cond.methodLink "RoadsCrossedModel" 306 ⟨"RoadsCrossedModel", "sits", "(II)V"⟩ : Cond) ∈ rx_all := rx_in7 (p := 27) rfl rfl
set_option maxRecDepth 100000 in
theorem rf_M250 : (Cond.methodLink "RoadsCrossedModel" 310 ⟨"RoadsCrossedModel", "draw", "()I"⟩ : Cond) ∈ rx_all := rx_in7 (p := 39) rfl rfl
set_option maxRecDepth 100000 in
theorem rf_M251 : (Cond.methodLink "RoadsCrossedModel" 313 ⟨"RoadsCrossedModel", "drawsPost", "()I"⟩ : Cond) ∈ rx_all := rx_in7 (p := 35) rfl rfl
set_option maxRecDepth 100000 in
theorem rf_M252 : (Cond.methodLink "RoadsCrossedModel" 316 ⟨"RoadsCrossedModel", "drawsRoad", "()I"⟩ : Cond) ∈ rx_all := rx_in7 (p := 44) rfl rfl
set_option maxRecDepth 100000 in
theorem rf_M253 : (Cond.methodLink "RoadsCrossedModel" 334 ⟨"RoadsCrossedModel", "isLetter", "(I)Z"⟩ : Cond) ∈ rx_all := rx_in7 (p := 68) rfl rfl
set_option maxRecDepth 100000 in
theorem rf_M254 : (Cond.methodLink "RoadsCrossedModel" 340 ⟨"RoadsCrossedModel", "isFigure", "(I)Z"⟩ : Cond) ∈ rx_all := rx_in7 (p := 72) rfl rfl
set_option maxRecDepth 100000 in
theorem rf_M255 : (Cond.methodLink "RoadsCrossedModel" 346 ⟨"RoadsCrossedModel", "go", "()V"⟩ : Cond) ∈ rx_all := rx_in7 (p := 64) rfl rfl
set_option maxRecDepth 100000 in
theorem rf_M256 : (Cond.methodLink "RoadsCrossedModel" 352 ⟨"RoadsCrossedModel", "rank", "(I)I"⟩ : Cond) ∈ rx_all := rx_in7 (p := 96) rfl rfl
set_option maxRecDepth 100000 in
theorem rf_M257 : (Cond.methodLink "RoadsCrossedModel" 358 ⟨"RoadsCrossedModel", "nameOf", "(I)I"⟩ : Cond) ∈ rx_all := rx_in7 (p := 88) rfl rfl
set_option maxRecDepth 100000 in
theorem rf_M258 : (Cond.methodLink "RoadsCrossedModel" 364 ⟨"RoadsCrossedModel", "settle", "(I)V"⟩ : Cond) ∈ rx_all := rx_in7 (p := 92) rfl rfl
set_option maxRecDepth 100000 in
theorem rf_M259 : (Cond.methodLink "RoadsCrossedModel" 367 ⟨"RoadsCrossedModel", "takesPart", "()Z"⟩ : Cond) ∈ rx_all := rx_in7 (p := 84) rfl rfl
set_option maxRecDepth 100000 in
theorem rf_M260 : (Cond.methodLink "RoadsCrossedModel" 370 ⟨"RoadsCrossedModel", "notsOpen", "()I"⟩ : Cond) ∈ rx_all := rx_in7 (p := 99) rfl rfl
set_option maxRecDepth 100000 in
theorem rf_M261 : (Cond.methodLink "RoadsCrossedModel" 373 ⟨"RoadsCrossedModel", "signHere", "()I"⟩ : Cond) ∈ rx_all := rx_in7 (p := 103) rfl rfl
set_option maxRecDepth 100000 in
theorem rf_M262 : (Cond.methodLink "RoadsCrossedModel" 376 ⟨"RoadsCrossedModel", "takesKey", "()Z"⟩ : Cond) ∈ rx_all := rx_in7 (p := 76) rfl rfl
set_option maxRecDepth 100000 in
theorem rf_M263 : (Cond.methodLink "RoadsCrossedModel" 379 ⟨"RoadsCrossedModel", "takesE", "()Z"⟩ : Cond) ∈ rx_all := rx_in7 (p := 80) rfl rfl
set_option maxRecDepth 100000 in
theorem rf_M264 : (Cond.methodLink "RoadsCrossedModel" 382 ⟨"RoadsCrossedModel", "two", "(III)I"⟩ : Cond) ∈ rx_all := rx_in6 (p := 67) rfl rfl
set_option maxRecDepth 100000 in
theorem rf_M265 : (Cond.methodLink "RoadsCrossedModel" 388 ⟨"RoadsCrossedModel", "isSlot", "(I)Z"⟩ : Cond) ∈ rx_all := rx_in7 (p := 138) rfl rfl
set_option maxRecDepth 100000 in
theorem rf_M266 : (Cond.methodLink "RoadsCrossedModel" 398 ⟨"RoadsCrossedModel", "copyAll", "([I[I)V"⟩ : Cond) ∈ rx_all := rx_in7 (p := 161) rfl rfl
set_option maxRecDepth 100000 in
theorem rf_M267 : (Cond.methodLink "RoadsCrossedModel" 402 ⟨"RoadsCrossedModel", "rightSwaps", "(II)I"⟩ : Cond) ∈ rx_all := rx_in7 (p := 164) rfl rfl
set_option maxRecDepth 100000 in
theorem rf_ML : ∀ q ∈ rx_ML, (q.2.2.2 = 1 → Cond.methodLinkNest (rx_cn q.1) q.2.1 (rx_mi q.2.2.1).1 "RoadsCrossed" ∈ rx_nest) ∧ (q.2.2.2 ≠ 1 → Cond.methodLink (rx_cn q.1) q.2.1 (rx_mi q.2.2.1).1 ∈ rx_all) := by
  unfold rx_ML
  exact List.forall_mem_cons.mpr ⟨⟨fun h => (by cases h), fun _ => rf_M0⟩, List.forall_mem_cons.mpr ⟨⟨fun h => (by cases h), fun _ => rf_M1⟩, List.forall_mem_cons.mpr ⟨⟨fun h => (by cases h), fun _ => rf_M2⟩, List.forall_mem_cons.mpr ⟨⟨fun h => (by cases h), fun _ => rf_M3⟩, List.forall_mem_cons.mpr ⟨⟨fun h => (by cases h), fun _ => rf_M4⟩, List.forall_mem_cons.mpr ⟨⟨fun h => (by cases h), fun _ => rf_M5⟩, List.forall_mem_cons.mpr ⟨⟨fun h => (by cases h), fun _ => rf_M6⟩, List.forall_mem_cons.mpr ⟨⟨fun h => (by cases h), fun _ => rf_M7⟩, List.forall_mem_cons.mpr ⟨⟨fun h => (by cases h), fun _ => rf_M8⟩, List.forall_mem_cons.mpr ⟨⟨fun h => (by cases h), fun _ => rf_M9⟩, List.forall_mem_cons.mpr ⟨⟨fun h => (by cases h), fun _ => rf_M10⟩, List.forall_mem_cons.mpr ⟨⟨fun h => (by cases h), fun _ => rf_M11⟩, List.forall_mem_cons.mpr ⟨⟨fun h => (by cases h), fun _ => rf_M12⟩, List.forall_mem_cons.mpr ⟨⟨fun h => (by cases h), fun _ => rf_M13⟩, List.forall_mem_cons.mpr ⟨⟨fun h => (by cases h), fun _ => rf_M14⟩, List.forall_mem_cons.mpr ⟨⟨fun h => (by cases h), fun _ => rf_M15⟩, List.forall_mem_cons.mpr ⟨⟨fun h => (by cases h), fun _ => rf_M16⟩, List.forall_mem_cons.mpr ⟨⟨fun h => (by cases h), fun _ => rf_M17⟩, List.forall_mem_cons.mpr ⟨⟨fun h => (by cases h), fun _ => rf_M18⟩, List.forall_mem_cons.mpr ⟨⟨fun h => (by cases h), fun _ => rf_M19⟩, List.forall_mem_cons.mpr ⟨⟨fun h => (by cases h), fun _ => rf_M20⟩, List.forall_mem_cons.mpr ⟨⟨fun h => (by cases h), fun _ => rf_M21⟩, List.forall_mem_cons.mpr ⟨⟨fun h => (by cases h), fun _ => rf_M22⟩, List.forall_mem_cons.mpr ⟨⟨fun h => (by cases h), fun _ => rf_M23⟩, List.forall_mem_cons.mpr ⟨⟨fun h => (by cases h), fun _ => rf_M24⟩, List.forall_mem_cons.mpr ⟨⟨fun h => (by cases h), fun _ => rf_M25⟩, List.forall_mem_cons.mpr ⟨⟨fun h => (by cases h), fun _ => rf_M26⟩, List.forall_mem_cons.mpr ⟨⟨fun h => (by cases h), fun _ => rf_M27⟩, List.forall_mem_cons.mpr ⟨⟨fun h => (by cases h), fun _ => rf_M28⟩, List.forall_mem_cons.mpr ⟨⟨fun h => (by cases h), fun _ => rf_M29⟩, List.forall_mem_cons.mpr ⟨⟨fun h => (by cases h), fun _ => rf_M30⟩, List.forall_mem_cons.mpr ⟨⟨fun h => (by cases h), fun _ => rf_M31⟩, List.forall_mem_cons.mpr ⟨⟨fun h => (by cases h), fun _ => rf_M32⟩, List.forall_mem_cons.mpr ⟨⟨fun h => (by cases h), fun _ => rf_M33⟩, List.forall_mem_cons.mpr ⟨⟨fun h => (by cases h), fun _ => rf_M34⟩, List.forall_mem_cons.mpr ⟨⟨fun h => (by cases h), fun _ => rf_M35⟩, List.forall_mem_cons.mpr ⟨⟨fun h => (by cases h), fun _ => rf_M36⟩, List.forall_mem_cons.mpr ⟨⟨fun h => (by cases h), fun _ => rf_M37⟩, List.forall_mem_cons.mpr ⟨⟨fun h => (by cases h), fun _ => rf_M38⟩, List.forall_mem_cons.mpr ⟨⟨fun h => (by cases h), fun _ => rf_M39⟩, List.forall_mem_cons.mpr ⟨⟨fun h => (by cases h), fun _ => rf_M40⟩, List.forall_mem_cons.mpr ⟨⟨fun h => (by cases h), fun _ => rf_M41⟩, List.forall_mem_cons.mpr ⟨⟨fun h => (by cases h), fun _ => rf_M42⟩, List.forall_mem_cons.mpr ⟨⟨fun h => (by cases h), fun _ => rf_M43⟩, List.forall_mem_cons.mpr ⟨⟨fun h => (by cases h), fun _ => rf_M44⟩, List.forall_mem_cons.mpr ⟨⟨fun h => (by cases h), fun _ => rf_M45⟩, List.forall_mem_cons.mpr ⟨⟨fun h => (by cases h), fun _ => rf_M46⟩, List.forall_mem_cons.mpr ⟨⟨fun h => (by cases h), fun _ => rf_M47⟩, List.forall_mem_cons.mpr ⟨⟨fun h => (by cases h), fun _ => rf_M48⟩, List.forall_mem_cons.mpr ⟨⟨fun h => (by cases h), fun _ => rf_M49⟩, List.forall_mem_cons.mpr ⟨⟨fun h => (by cases h), fun _ => rf_M50⟩, List.forall_mem_cons.mpr ⟨⟨fun h => (by cases h), fun _ => rf_M51⟩, List.forall_mem_cons.mpr ⟨⟨fun h => (by cases h), fun _ => rf_M52⟩, List.forall_mem_cons.mpr ⟨⟨fun h => (by cases h), fun _ => rf_M53⟩, List.forall_mem_cons.mpr ⟨⟨fun h => (by cases h), fun _ => rf_M54⟩, List.forall_mem_cons.mpr ⟨⟨fun h => (by cases h), fun _ => rf_M55⟩, List.forall_mem_cons.mpr ⟨⟨fun h => (by cases h), fun _ => rf_M56⟩, List.forall_mem_cons.mpr ⟨⟨fun h => (by cases h), fun _ => rf_M57⟩, List.forall_mem_cons.mpr ⟨⟨fun h => (by cases h), fun _ => rf_M58⟩, List.forall_mem_cons.mpr ⟨⟨fun h => (by cases h), fun _ => rf_M59⟩, List.forall_mem_cons.mpr ⟨⟨fun h => (by cases h), fun _ => rf_M60⟩, List.forall_mem_cons.mpr ⟨⟨fun h => (by cases h), fun _ => rf_M61⟩, List.forall_mem_cons.mpr ⟨⟨fun h => (by cases h), fun _ => rf_M62⟩, List.forall_mem_cons.mpr ⟨⟨fun h => (by cases h), fun _ => rf_M63⟩, List.forall_mem_cons.mpr ⟨⟨fun h => (by cases h), fun _ => rf_M64⟩, List.forall_mem_cons.mpr ⟨⟨fun h => (by cases h), fun _ => rf_M65⟩, List.forall_mem_cons.mpr ⟨⟨fun h => (by cases h), fun _ => rf_M66⟩, List.forall_mem_cons.mpr ⟨⟨fun h => (by cases h), fun _ => rf_M67⟩, List.forall_mem_cons.mpr ⟨⟨fun h => (by cases h), fun _ => rf_M68⟩, List.forall_mem_cons.mpr ⟨⟨fun h => (by cases h), fun _ => rf_M69⟩, List.forall_mem_cons.mpr ⟨⟨fun h => (by cases h), fun _ => rf_M70⟩, List.forall_mem_cons.mpr ⟨⟨fun h => (by cases h), fun _ => rf_M71⟩, List.forall_mem_cons.mpr ⟨⟨fun h => (by cases h), fun _ => rf_M72⟩, List.forall_mem_cons.mpr ⟨⟨fun h => (by cases h), fun _ => rf_M73⟩, List.forall_mem_cons.mpr ⟨⟨fun h => (by cases h), fun _ => rf_M74⟩, List.forall_mem_cons.mpr ⟨⟨fun h => (by cases h), fun _ => rf_M75⟩, List.forall_mem_cons.mpr ⟨⟨fun h => (by cases h), fun _ => rf_M76⟩, List.forall_mem_cons.mpr ⟨⟨fun h => (by cases h), fun _ => rf_M77⟩, List.forall_mem_cons.mpr ⟨⟨fun h => (by cases h), fun _ => rf_M78⟩, List.forall_mem_cons.mpr ⟨⟨fun h => (by cases h), fun _ => rf_M79⟩, List.forall_mem_cons.mpr ⟨⟨fun h => (by cases h), fun _ => rf_M80⟩, List.forall_mem_cons.mpr ⟨⟨fun h => (by cases h), fun _ => rf_M81⟩, List.forall_mem_cons.mpr ⟨⟨fun h => (by cases h), fun _ => rf_M82⟩, List.forall_mem_cons.mpr ⟨⟨fun h => (by cases h), fun _ => rf_M83⟩, List.forall_mem_cons.mpr ⟨⟨fun h => (by cases h), fun _ => rf_M84⟩, List.forall_mem_cons.mpr ⟨⟨fun h => (by cases h), fun _ => rf_M85⟩, List.forall_mem_cons.mpr ⟨⟨fun h => (by cases h), fun _ => rf_M86⟩, List.forall_mem_cons.mpr ⟨⟨fun h => (by cases h), fun _ => rf_M87⟩, List.forall_mem_cons.mpr ⟨⟨fun _ => by decide +kernel, fun h => absurd rfl h⟩, List.forall_mem_cons.mpr ⟨⟨fun _ => by decide +kernel, fun h => absurd rfl h⟩, List.forall_mem_cons.mpr ⟨⟨fun h => (by cases h), fun _ => rf_M90⟩, List.forall_mem_cons.mpr ⟨⟨fun h => (by cases h), fun _ => rf_M91⟩, List.forall_mem_cons.mpr ⟨⟨fun h => (by cases h), fun _ => rf_M92⟩, List.forall_mem_cons.mpr ⟨⟨fun _ => by decide +kernel, fun h => absurd rfl h⟩, List.forall_mem_cons.mpr ⟨⟨fun h => (by cases h), fun _ => rf_M94⟩, List.forall_mem_cons.mpr ⟨⟨fun h => (by cases h), fun _ => rf_M95⟩, List.forall_mem_cons.mpr ⟨⟨fun h => (by cases h), fun _ => rf_M96⟩, List.forall_mem_cons.mpr ⟨⟨fun h => (by cases h), fun _ => rf_M97⟩, List.forall_mem_cons.mpr ⟨⟨fun h => (by cases h), fun _ => rf_M98⟩, List.forall_mem_cons.mpr ⟨⟨fun h => (by cases h), fun _ => rf_M99⟩, List.forall_mem_cons.mpr ⟨⟨fun h => (by cases h), fun _ => rf_M100⟩, List.forall_mem_cons.mpr ⟨⟨fun h => (by cases h), fun _ => rf_M101⟩, List.forall_mem_cons.mpr ⟨⟨fun h => (by cases h), fun _ => rf_M102⟩, List.forall_mem_cons.mpr ⟨⟨fun h => (by cases h), fun _ => rf_M103⟩, List.forall_mem_cons.mpr ⟨⟨fun h => (by cases h), fun _ => rf_M104⟩, List.forall_mem_cons.mpr ⟨⟨fun h => (by cases h), fun _ => rf_M105⟩, List.forall_mem_cons.mpr ⟨⟨fun h => (by cases h), fun _ => rf_M106⟩, List.forall_mem_cons.mpr ⟨⟨fun h => (by cases h), fun _ => rf_M107⟩, List.forall_mem_cons.mpr ⟨⟨fun h => (by cases h), fun _ => rf_M108⟩, List.forall_mem_cons.mpr ⟨⟨fun h => (by cases h), fun _ => rf_M109⟩, List.forall_mem_cons.mpr ⟨⟨fun h => (by cases h), fun _ => rf_M110⟩, List.forall_mem_cons.mpr ⟨⟨fun h => (by cases h), fun _ => rf_M111⟩, List.forall_mem_cons.mpr ⟨⟨fun h => (by cases h), fun _ => rf_M112⟩, List.forall_mem_cons.mpr ⟨⟨fun h => (by cases h), fun _ => rf_M113⟩, List.forall_mem_cons.mpr ⟨⟨fun h => (by cases h), fun _ => rf_M114⟩, List.forall_mem_cons.mpr ⟨⟨fun h => (by cases h), fun _ => rf_M115⟩, List.forall_mem_cons.mpr ⟨⟨fun h => (by cases h), fun _ => rf_M116⟩, List.forall_mem_cons.mpr ⟨⟨fun h => (by cases h), fun _ => rf_M117⟩, List.forall_mem_cons.mpr ⟨⟨fun h => (by cases h), fun _ => rf_M118⟩, List.forall_mem_cons.mpr ⟨⟨fun h => (by cases h), fun _ => rf_M119⟩, List.forall_mem_cons.mpr ⟨⟨fun h => (by cases h), fun _ => rf_M120⟩, List.forall_mem_cons.mpr ⟨⟨fun h => (by cases h), fun _ => rf_M121⟩, List.forall_mem_cons.mpr ⟨⟨fun h => (by cases h), fun _ => rf_M122⟩, List.forall_mem_cons.mpr ⟨⟨fun h => (by cases h), fun _ => rf_M123⟩, List.forall_mem_cons.mpr ⟨⟨fun h => (by cases h), fun _ => rf_M124⟩, List.forall_mem_cons.mpr ⟨⟨fun h => (by cases h), fun _ => rf_M125⟩, List.forall_mem_cons.mpr ⟨⟨fun h => (by cases h), fun _ => rf_M126⟩, List.forall_mem_cons.mpr ⟨⟨fun h => (by cases h), fun _ => rf_M127⟩, List.forall_mem_cons.mpr ⟨⟨fun h => (by cases h), fun _ => rf_M128⟩, List.forall_mem_cons.mpr ⟨⟨fun h => (by cases h), fun _ => rf_M129⟩, List.forall_mem_cons.mpr ⟨⟨fun h => (by cases h), fun _ => rf_M130⟩, List.forall_mem_cons.mpr ⟨⟨fun h => (by cases h), fun _ => rf_M131⟩, List.forall_mem_cons.mpr ⟨⟨fun h => (by cases h), fun _ => rf_M132⟩, List.forall_mem_cons.mpr ⟨⟨fun h => (by cases h), fun _ => rf_M133⟩, List.forall_mem_cons.mpr ⟨⟨fun h => (by cases h), fun _ => rf_M134⟩, List.forall_mem_cons.mpr ⟨⟨fun h => (by cases h), fun _ => rf_M135⟩, List.forall_mem_cons.mpr ⟨⟨fun h => (by cases h), fun _ => rf_M136⟩, List.forall_mem_cons.mpr ⟨⟨fun h => (by cases h), fun _ => rf_M137⟩, List.forall_mem_cons.mpr ⟨⟨fun h => (by cases h), fun _ => rf_M138⟩, List.forall_mem_cons.mpr ⟨⟨fun h => (by cases h), fun _ => rf_M139⟩, List.forall_mem_cons.mpr ⟨⟨fun h => (by cases h), fun _ => rf_M140⟩, List.forall_mem_cons.mpr ⟨⟨fun h => (by cases h), fun _ => rf_M141⟩, List.forall_mem_cons.mpr ⟨⟨fun h => (by cases h), fun _ => rf_M142⟩, List.forall_mem_cons.mpr ⟨⟨fun h => (by cases h), fun _ => rf_M143⟩, List.forall_mem_cons.mpr ⟨⟨fun h => (by cases h), fun _ => rf_M144⟩, List.forall_mem_cons.mpr ⟨⟨fun h => (by cases h), fun _ => rf_M145⟩, List.forall_mem_cons.mpr ⟨⟨fun h => (by cases h), fun _ => rf_M146⟩, List.forall_mem_cons.mpr ⟨⟨fun h => (by cases h), fun _ => rf_M147⟩, List.forall_mem_cons.mpr ⟨⟨fun h => (by cases h), fun _ => rf_M148⟩, List.forall_mem_cons.mpr ⟨⟨fun h => (by cases h), fun _ => rf_M149⟩, List.forall_mem_cons.mpr ⟨⟨fun h => (by cases h), fun _ => rf_M150⟩, List.forall_mem_cons.mpr ⟨⟨fun h => (by cases h), fun _ => rf_M151⟩, List.forall_mem_cons.mpr ⟨⟨fun h => (by cases h), fun _ => rf_M152⟩, List.forall_mem_cons.mpr ⟨⟨fun h => (by cases h), fun _ => rf_M153⟩, List.forall_mem_cons.mpr ⟨⟨fun h => (by cases h), fun _ => rf_M154⟩, List.forall_mem_cons.mpr ⟨⟨fun h => (by cases h), fun _ => rf_M155⟩, List.forall_mem_cons.mpr ⟨⟨fun h => (by cases h), fun _ => rf_M156⟩, List.forall_mem_cons.mpr ⟨⟨fun h => (by cases h), fun _ => rf_M157⟩, List.forall_mem_cons.mpr ⟨⟨fun h => (by cases h), fun _ => rf_M158⟩, List.forall_mem_cons.mpr ⟨⟨fun h => (by cases h), fun _ => rf_M159⟩, List.forall_mem_cons.mpr ⟨⟨fun h => (by cases h), fun _ => rf_M160⟩, List.forall_mem_cons.mpr ⟨⟨fun h => (by cases h), fun _ => rf_M161⟩, List.forall_mem_cons.mpr ⟨⟨fun h => (by cases h), fun _ => rf_M162⟩, List.forall_mem_cons.mpr ⟨⟨fun h => (by cases h), fun _ => rf_M163⟩, List.forall_mem_cons.mpr ⟨⟨fun h => (by cases h), fun _ => rf_M164⟩, List.forall_mem_cons.mpr ⟨⟨fun h => (by cases h), fun _ => rf_M165⟩, List.forall_mem_cons.mpr ⟨⟨fun h => (by cases h), fun _ => rf_M166⟩, List.forall_mem_cons.mpr ⟨⟨fun h => (by cases h), fun _ => rf_M167⟩, List.forall_mem_cons.mpr ⟨⟨fun h => (by cases h), fun _ => rf_M168⟩, List.forall_mem_cons.mpr ⟨⟨fun h => (by cases h), fun _ => rf_M169⟩, List.forall_mem_cons.mpr ⟨⟨fun h => (by cases h), fun _ => rf_M170⟩, List.forall_mem_cons.mpr ⟨⟨fun h => (by cases h), fun _ => rf_M171⟩, List.forall_mem_cons.mpr ⟨⟨fun h => (by cases h), fun _ => rf_M172⟩, List.forall_mem_cons.mpr ⟨⟨fun h => (by cases h), fun _ => rf_M173⟩, List.forall_mem_cons.mpr ⟨⟨fun h => (by cases h), fun _ => rf_M174⟩, List.forall_mem_cons.mpr ⟨⟨fun h => (by cases h), fun _ => rf_M175⟩, List.forall_mem_cons.mpr ⟨⟨fun h => (by cases h), fun _ => rf_M176⟩, List.forall_mem_cons.mpr ⟨⟨fun h => (by cases h), fun _ => rf_M177⟩, List.forall_mem_cons.mpr ⟨⟨fun h => (by cases h), fun _ => rf_M178⟩, List.forall_mem_cons.mpr ⟨⟨fun h => (by cases h), fun _ => rf_M179⟩, List.forall_mem_cons.mpr ⟨⟨fun h => (by cases h), fun _ => rf_M180⟩, List.forall_mem_cons.mpr ⟨⟨fun h => (by cases h), fun _ => rf_M181⟩, List.forall_mem_cons.mpr ⟨⟨fun h => (by cases h), fun _ => rf_M182⟩, List.forall_mem_cons.mpr ⟨⟨fun h => (by cases h), fun _ => rf_M183⟩, List.forall_mem_cons.mpr ⟨⟨fun h => (by cases h), fun _ => rf_M184⟩, List.forall_mem_cons.mpr ⟨⟨fun h => (by cases h), fun _ => rf_M185⟩, List.forall_mem_cons.mpr ⟨⟨fun h => (by cases h), fun _ => rf_M186⟩, List.forall_mem_cons.mpr ⟨⟨fun h => (by cases h), fun _ => rf_M187⟩, List.forall_mem_cons.mpr ⟨⟨fun h => (by cases h), fun _ => rf_M188⟩, List.forall_mem_cons.mpr ⟨⟨fun h => (by cases h), fun _ => rf_M189⟩, List.forall_mem_cons.mpr ⟨⟨fun h => (by cases h), fun _ => rf_M190⟩, List.forall_mem_cons.mpr ⟨⟨fun h => (by cases h), fun _ => rf_M191⟩, List.forall_mem_cons.mpr ⟨⟨fun h => (by cases h), fun _ => rf_M192⟩, List.forall_mem_cons.mpr ⟨⟨fun h => (by cases h), fun _ => rf_M193⟩, List.forall_mem_cons.mpr ⟨⟨fun h => (by cases h), fun _ => rf_M194⟩, List.forall_mem_cons.mpr ⟨⟨fun h => (by cases h), fun _ => rf_M195⟩, List.forall_mem_cons.mpr ⟨⟨fun h => (by cases h), fun _ => rf_M196⟩, List.forall_mem_cons.mpr ⟨⟨fun h => (by cases h), fun _ => rf_M197⟩, List.forall_mem_cons.mpr ⟨⟨fun h => (by cases h), fun _ => rf_M198⟩, List.forall_mem_cons.mpr ⟨⟨fun h => (by cases h), fun _ => rf_M199⟩, List.forall_mem_cons.mpr ⟨⟨fun h => (by cases h), fun _ => rf_M200⟩, List.forall_mem_cons.mpr ⟨⟨fun h => (by cases h), fun _ => rf_M201⟩, List.forall_mem_cons.mpr ⟨⟨fun h => (by cases h), fun _ => rf_M202⟩, List.forall_mem_cons.mpr ⟨⟨fun h => (by cases h), fun _ => rf_M203⟩, List.forall_mem_cons.mpr ⟨⟨fun h => (by cases h), fun _ => rf_M204⟩, List.forall_mem_cons.mpr ⟨⟨fun h => (by cases h), fun _ => rf_M205⟩, List.forall_mem_cons.mpr ⟨⟨fun h => (by cases h), fun _ => rf_M206⟩, List.forall_mem_cons.mpr ⟨⟨fun h => (by cases h), fun _ => rf_M207⟩, List.forall_mem_cons.mpr ⟨⟨fun h => (by cases h), fun _ => rf_M208⟩, List.forall_mem_cons.mpr ⟨⟨fun h => (by cases h), fun _ => rf_M209⟩, List.forall_mem_cons.mpr ⟨⟨fun h => (by cases h), fun _ => rf_M210⟩, List.forall_mem_cons.mpr ⟨⟨fun h => (by cases h), fun _ => rf_M211⟩, List.forall_mem_cons.mpr ⟨⟨fun h => (by cases h), fun _ => rf_M212⟩, List.forall_mem_cons.mpr ⟨⟨fun h => (by cases h), fun _ => rf_M213⟩, List.forall_mem_cons.mpr ⟨⟨fun h => (by cases h), fun _ => rf_M214⟩, List.forall_mem_cons.mpr ⟨⟨fun h => (by cases h), fun _ => rf_M215⟩, List.forall_mem_cons.mpr ⟨⟨fun h => (by cases h), fun _ => rf_M216⟩, List.forall_mem_cons.mpr ⟨⟨fun h => (by cases h), fun _ => rf_M217⟩, List.forall_mem_cons.mpr ⟨⟨fun h => (by cases h), fun _ => rf_M218⟩, List.forall_mem_cons.mpr ⟨⟨fun h => (by cases h), fun _ => rf_M219⟩, List.forall_mem_cons.mpr ⟨⟨fun h => (by cases h), fun _ => rf_M220⟩, List.forall_mem_cons.mpr ⟨⟨fun h => (by cases h), fun _ => rf_M221⟩, List.forall_mem_cons.mpr ⟨⟨fun h => (by cases h), fun _ => rf_M222⟩, List.forall_mem_cons.mpr ⟨⟨fun h => (by cases h), fun _ => rf_M223⟩, List.forall_mem_cons.mpr ⟨⟨fun h => (by cases h), fun _ => rf_M224⟩, List.forall_mem_cons.mpr ⟨⟨fun h => (by cases h), fun _ => rf_M225⟩, List.forall_mem_cons.mpr ⟨⟨fun h => (by cases h), fun _ => rf_M226⟩, List.forall_mem_cons.mpr ⟨⟨fun h => (by cases h), fun _ => rf_M227⟩, List.forall_mem_cons.mpr ⟨⟨fun h => (by cases h), fun _ => rf_M228⟩, List.forall_mem_cons.mpr ⟨⟨fun h => (by cases h), fun _ => rf_M229⟩, List.forall_mem_cons.mpr ⟨⟨fun h => (by cases h), fun _ => rf_M230⟩, List.forall_mem_cons.mpr ⟨⟨fun h => (by cases h), fun _ => rf_M231⟩, List.forall_mem_cons.mpr ⟨⟨fun h => (by cases h), fun _ => rf_M232⟩, List.forall_mem_cons.mpr ⟨⟨fun h => (by cases h), fun _ => rf_M233⟩, List.forall_mem_cons.mpr ⟨⟨fun h => (by cases h), fun _ => rf_M234⟩, List.forall_mem_cons.mpr ⟨⟨fun h => (by cases h), fun _ => rf_M235⟩, List.forall_mem_cons.mpr ⟨⟨fun h => (by cases h), fun _ => rf_M236⟩, List.forall_mem_cons.mpr ⟨⟨fun h => (by cases h), fun _ => rf_M237⟩, List.forall_mem_cons.mpr ⟨⟨fun h => (by cases h), fun _ => rf_M238⟩, List.forall_mem_cons.mpr ⟨⟨fun h => (by cases h), fun _ => rf_M239⟩, List.forall_mem_cons.mpr ⟨⟨fun h => (by cases h), fun _ => rf_M240⟩, List.forall_mem_cons.mpr ⟨⟨fun h => (by cases h), fun _ => rf_M241⟩, List.forall_mem_cons.mpr ⟨⟨fun h => (by cases h), fun _ => rf_M242⟩, List.forall_mem_cons.mpr ⟨⟨fun h => (by cases h), fun _ => rf_M243⟩, List.forall_mem_cons.mpr ⟨⟨fun h => (by cases h), fun _ => rf_M244⟩, List.forall_mem_cons.mpr ⟨⟨fun h => (by cases h), fun _ => rf_M245⟩, List.forall_mem_cons.mpr ⟨⟨fun h => (by cases h), fun _ => rf_M246⟩, List.forall_mem_cons.mpr ⟨⟨fun h => (by cases h), fun _ => rf_M247⟩, List.forall_mem_cons.mpr ⟨⟨fun h => (by cases h), fun _ => rf_M248⟩, List.forall_mem_cons.mpr ⟨⟨fun h => (by cases h), fun _ => rf_M249⟩, List.forall_mem_cons.mpr ⟨⟨fun h => (by cases h), fun _ => rf_M250⟩, List.forall_mem_cons.mpr ⟨⟨fun h => (by cases h), fun _ => rf_M251⟩, List.forall_mem_cons.mpr ⟨⟨fun h => (by cases h), fun _ => rf_M252⟩, List.forall_mem_cons.mpr ⟨⟨fun h => (by cases h), fun _ => rf_M253⟩, List.forall_mem_cons.mpr ⟨⟨fun h => (by cases h), fun _ => rf_M254⟩, List.forall_mem_cons.mpr ⟨⟨fun h => (by cases h), fun _ => rf_M255⟩, List.forall_mem_cons.mpr ⟨⟨fun h => (by cases h), fun _ => rf_M256⟩, List.forall_mem_cons.mpr ⟨⟨fun h => (by cases h), fun _ => rf_M257⟩, List.forall_mem_cons.mpr ⟨⟨fun h => (by cases h), fun _ => rf_M258⟩, List.forall_mem_cons.mpr ⟨⟨fun h => (by cases h), fun _ => rf_M259⟩, List.forall_mem_cons.mpr ⟨⟨fun h => (by cases h), fun _ => rf_M260⟩, List.forall_mem_cons.mpr ⟨⟨fun h => (by cases h), fun _ => rf_M261⟩, List.forall_mem_cons.mpr ⟨⟨fun h => (by cases h), fun _ => rf_M262⟩, List.forall_mem_cons.mpr ⟨⟨fun h => (by cases h), fun _ => rf_M263⟩, List.forall_mem_cons.mpr ⟨⟨fun h => (by cases h), fun _ => rf_M264⟩, List.forall_mem_cons.mpr ⟨⟨fun h => (by cases h), fun _ => rf_M265⟩, List.forall_mem_cons.mpr ⟨⟨fun h => (by cases h), fun _ => rf_M266⟩, List.forall_mem_cons.mpr ⟨⟨fun h => (by cases h), fun _ => rf_M267⟩, fun q h => absurd h List.not_mem_nil⟩⟩⟩⟩⟩⟩⟩⟩⟩⟩⟩⟩⟩⟩⟩⟩⟩⟩⟩⟩⟩⟩⟩⟩⟩⟩⟩⟩⟩⟩⟩⟩⟩⟩⟩⟩⟩⟩⟩⟩⟩⟩⟩⟩⟩⟩⟩⟩⟩⟩⟩⟩⟩⟩⟩⟩⟩⟩⟩⟩⟩⟩⟩⟩⟩⟩⟩⟩⟩⟩⟩⟩⟩⟩⟩⟩⟩⟩⟩⟩⟩⟩⟩⟩⟩⟩⟩⟩⟩⟩⟩⟩⟩⟩⟩⟩⟩⟩⟩⟩⟩⟩⟩⟩⟩⟩⟩⟩⟩⟩⟩⟩⟩⟩⟩⟩⟩⟩⟩⟩⟩⟩⟩⟩⟩⟩⟩⟩⟩⟩⟩⟩⟩⟩⟩⟩⟩⟩⟩⟩⟩⟩⟩⟩⟩⟩⟩⟩⟩⟩⟩⟩⟩⟩⟩⟩⟩⟩⟩⟩⟩⟩⟩⟩⟩⟩⟩⟩⟩⟩⟩⟩⟩⟩⟩⟩⟩⟩⟩⟩⟩⟩⟩⟩⟩⟩⟩⟩⟩⟩⟩⟩⟩⟩⟩⟩⟩⟩⟩⟩⟩⟩⟩⟩⟩⟩⟩⟩⟩⟩⟩⟩⟩⟩⟩⟩⟩⟩⟩⟩⟩⟩⟩⟩⟩⟩⟩⟩⟩⟩⟩⟩⟩⟩⟩⟩⟩⟩⟩⟩⟩⟩⟩⟩⟩⟩⟩⟩⟩⟩⟩⟩⟩⟩⟩⟩⟩⟩⟩⟩⟩⟩⟩⟩⟩⟩⟩⟩
set_option maxRecDepth 100000 in
theorem rf_A0 : (Cond.methodLink "RoadsCrossed$Land" 65 ⟨"java/lang/System", "arraycopy", "(Ljava/lang/Object;ILjava/lang/Object;II)V"⟩ : Cond) ∈ rx_all := rx_in3 (p := 147) rfl rfl
set_option maxRecDepth 100000 in
theorem rf_A1 : (Cond.methodLink "RoadsCrossed$Laws" 43 ⟨"java/lang/System", "arraycopy", "(Ljava/lang/Object;ILjava/lang/Object;II)V"⟩ : Cond) ∈ rx_all := rx_in4 (p := 192) rfl rfl
set_option maxRecDepth 100000 in
theorem rf_A2 : (Cond.methodLink "RoadsCrossed$LineSearch" 56 ⟨"java/lang/System", "arraycopy", "(Ljava/lang/Object;ILjava/lang/Object;II)V"⟩ : Cond) ∈ rx_all := rx_in4 (p := 0) rfl rfl
set_option maxRecDepth 100000 in
theorem rf_A3 : (Cond.methodLink "RoadsCrossed$RowSearch" 45 ⟨"java/lang/System", "arraycopy", "(Ljava/lang/Object;ILjava/lang/Object;II)V"⟩ : Cond) ∈ rx_all := rx_in4 (p := 32) rfl rfl
set_option maxRecDepth 100000 in
theorem rf_A4 : (Cond.methodLink "RoadsCrossed$Sheet" 28 ⟨"java/lang/System", "arraycopy", "(Ljava/lang/Object;ILjava/lang/Object;II)V"⟩ : Cond) ∈ rx_all := rx_in5 (p := 7) rfl rfl
set_option maxRecDepth 100000 in
theorem rf_A5 : (Cond.methodLink "RoadsCrossed" 344 ⟨"java/lang/System", "arraycopy", "(Ljava/lang/Object;ILjava/lang/Object;II)V"⟩ : Cond) ∈ rx_all := rx_in4 (p := 235) rfl rfl
set_option maxRecDepth 100000 in
theorem rf_AL : ∀ q ∈ rx_AL, Cond.methodLink (rx_cn q.1) q.2 arraycopyName ∈ rx_all := by
  unfold rx_AL
  exact List.forall_mem_cons.mpr ⟨rf_A0, List.forall_mem_cons.mpr ⟨rf_A1, List.forall_mem_cons.mpr ⟨rf_A2, List.forall_mem_cons.mpr ⟨rf_A3, List.forall_mem_cons.mpr ⟨rf_A4, List.forall_mem_cons.mpr ⟨rf_A5, fun q h => absurd h List.not_mem_nil⟩⟩⟩⟩⟩⟩
set_option maxRecDepth 100000 in
theorem rf_N : Cond.native arraycopyName ∈ rx_all ∧ Cond.static arraycopyName ∈ rx_all ∧ Cond.initialized "java/lang/System" ∈ rx_all ∧ Cond.fieldLink (rx_cn 10) 385 "RoadsCrossed" "ABOVE" "[I" ∈ rx_all :=
  ⟨rx_in3 (p := 149) rfl rfl, rx_in3 (p := 148) rfl rfl, rx_in1 (p := 14) rfl rfl, rx_in3 (p := 27) rfl rfl⟩
set_option maxRecDepth 100000 in
theorem rf_H0 : (Cond.methodLink "RoadsCrossed$Land" 59 ⟨"java/lang/Math", "min", "(II)I"⟩ : Cond) ∈ rx_all := rx_in2 (p := 212) rfl rfl
set_option maxRecDepth 100000 in
theorem rf_H1 : (Cond.methodLink "RoadsCrossed$Land" 85 ⟨"java/lang/Math", "max", "(II)I"⟩ : Cond) ∈ rx_all := rx_in2 (p := 215) rfl rfl
set_option maxRecDepth 100000 in
theorem rf_H2 : (Cond.methodLink "RoadsCrossed$Land" 146 ⟨"java/lang/Math", "abs", "(I)I"⟩ : Cond) ∈ rx_all := rx_in3 (p := 84) rfl rfl
set_option maxRecDepth 100000 in
theorem rf_H3 : (Cond.methodLink "RoadsCrossed$Laws" 49 ⟨"java/lang/Math", "min", "(II)I"⟩ : Cond) ∈ rx_all := rx_in2 (p := 238) rfl rfl
set_option maxRecDepth 100000 in
theorem rf_H4 : (Cond.methodLink "RoadsCrossed$PageSearch" 49 ⟨"java/lang/Math", "min", "(II)I"⟩ : Cond) ∈ rx_all := rx_in3 (p := 225) rfl rfl
set_option maxRecDepth 100000 in
theorem rf_H5 : (Cond.methodLink "RoadsCrossed$PageSearch" 55 ⟨"java/lang/Math", "max", "(II)I"⟩ : Cond) ∈ rx_all := rx_in3 (p := 226) rfl rfl
set_option maxRecDepth 100000 in
theorem rf_H6 : (Cond.methodLink "RoadsCrossed" 197 ⟨"java/lang/Math", "max", "(II)I"⟩ : Cond) ∈ rx_all := rx_in3 (p := 13) rfl rfl
set_option maxRecDepth 100000 in
theorem rf_H7 : (Cond.methodLink "RoadsCrossed" 382 ⟨"java/lang/Math", "min", "(II)I"⟩ : Cond) ∈ rx_all := rx_in3 (p := 12) rfl rfl
set_option maxRecDepth 100000 in
theorem rf_H8 : (Cond.methodLink "RoadsCrossedModel" 191 ⟨"java/lang/Math", "min", "(II)I"⟩ : Cond) ∈ rx_all := rx_in6 (p := 123) rfl rfl
set_option maxRecDepth 100000 in
theorem rf_H9 : (Cond.methodLink "RoadsCrossedModel" 196 ⟨"java/lang/Math", "max", "(II)I"⟩ : Cond) ∈ rx_all := rx_in6 (p := 124) rfl rfl
set_option maxRecDepth 100000 in
theorem rf_HL : ∀ q ∈ rx_HL, Cond.methodLink (rx_cn q.1) q.2.1 (rx_hn q.2.2) ∈ rx_all := by
  unfold rx_HL
  exact List.forall_mem_cons.mpr ⟨rf_H0, List.forall_mem_cons.mpr ⟨rf_H1, List.forall_mem_cons.mpr ⟨rf_H2, List.forall_mem_cons.mpr ⟨rf_H3, List.forall_mem_cons.mpr ⟨rf_H4, List.forall_mem_cons.mpr ⟨rf_H5, List.forall_mem_cons.mpr ⟨rf_H6, List.forall_mem_cons.mpr ⟨rf_H7, List.forall_mem_cons.mpr ⟨rf_H8, List.forall_mem_cons.mpr ⟨rf_H9, fun q h => absurd h List.not_mem_nil⟩⟩⟩⟩⟩⟩⟩⟩⟩⟩
set_option maxRecDepth 100000 in
theorem rf_Hc0 : Cond.code Lib.Math.max.name Lib.Math.max.code 2 (some .int) ∈ rx_all := by
  have e : Lib.Math.max.code = prog_14_method_65_code := by decide +kernel
  rw [e]
  exact rx_in2 (p := 217) rfl rfl
set_option maxRecDepth 100000 in
theorem rf_Hc1 : Cond.code Lib.Math.min.name Lib.Math.min.code 2 (some .int) ∈ rx_all := by
  have e : Lib.Math.min.code = prog_14_method_69_code := by decide +kernel
  rw [e]
  exact rx_in2 (p := 214) rfl rfl
set_option maxRecDepth 100000 in
theorem rf_Hc2 : Cond.code Lib.Math.abs.name Lib.Math.abs.code 1 (some .int) ∈ rx_all := by
  have e : Lib.Math.abs.code = prog_14_method_59_code := by decide +kernel
  rw [e]
  exact rx_in3 (p := 86) rfl rfl
set_option maxRecDepth 100000 in
theorem rf_H : (∀ q ∈ rx_HL, Cond.methodLink (rx_cn q.1) q.2.1 (rx_hn q.2.2) ∈ rx_all) ∧ (∀ k, k < 3 → Cond.static (rx_hn k) ∈ rx_all) ∧ Cond.initialized "java/lang/Math" ∈ rx_all ∧ Cond.code Lib.Math.max.name Lib.Math.max.code 2 (some .int) ∈ rx_all ∧ Cond.code Lib.Math.min.name Lib.Math.min.code 2 (some .int) ∈ rx_all ∧ Cond.code Lib.Math.abs.name Lib.Math.abs.code 1 (some .int) ∈ rx_all := by
  refine ⟨rf_HL, fun k h => ?_, rx_in1 (p := 13) rfl rfl, rf_Hc0, rf_Hc1, rf_Hc2⟩
  match k, h with
  | 0, _ => exact rx_in2 (p := 216) rfl rfl
  | 1, _ => exact rx_in2 (p := 213) rfl rfl
  | 2, _ => exact rx_in3 (p := 85) rfl rfl
  | n + 3, h => exact absurd h (by omega)
set_option maxRecDepth 100000 in
theorem rf_C0 : ∀ w ∈ u_ws RX0 TX0 3, w ∈ rx_all := by
  show ∀ w ∈ [u_lay RX0 TX0 0, u_lay RX0 TX0 1, u_lay RX0 TX0 2], w ∈ rx_all
  exact List.forall_mem_cons.mpr ⟨rx_in1 (p := 189) rfl rfl, List.forall_mem_cons.mpr ⟨rx_in1 (p := 191) rfl rfl, List.forall_mem_cons.mpr ⟨rx_in1 (p := 193) rfl rfl, fun q h => absurd h List.not_mem_nil⟩⟩⟩
set_option maxRecDepth 100000 in
theorem rf_C1 : ∀ w ∈ u_ws RX1 TX1 14, w ∈ rx_all := by
  show ∀ w ∈ [u_lay RX1 TX1 0, u_lay RX1 TX1 1, u_lay RX1 TX1 2, u_lay RX1 TX1 3, u_lay RX1 TX1 4, u_lay RX1 TX1 5, u_lay RX1 TX1 6, u_lay RX1 TX1 7, u_lay RX1 TX1 8, u_lay RX1 TX1 9, u_lay RX1 TX1 10, u_lay RX1 TX1 11, u_lay RX1 TX1 12, u_lay RX1 TX1 13], w ∈ rx_all
  exact List.forall_mem_cons.mpr ⟨rx_in1 (p := 78) rfl rfl, List.forall_mem_cons.mpr ⟨rx_in1 (p := 80) rfl rfl, List.forall_mem_cons.mpr ⟨rx_in1 (p := 82) rfl rfl, List.forall_mem_cons.mpr ⟨rx_in1 (p := 84) rfl rfl, List.forall_mem_cons.mpr ⟨rx_in1 (p := 86) rfl rfl, List.forall_mem_cons.mpr ⟨rx_in1 (p := 88) rfl rfl, List.forall_mem_cons.mpr ⟨rx_in1 (p := 90) rfl rfl, List.forall_mem_cons.mpr ⟨rx_in1 (p := 92) rfl rfl, List.forall_mem_cons.mpr ⟨rx_in1 (p := 94) rfl rfl, List.forall_mem_cons.mpr ⟨rx_in1 (p := 96) rfl rfl, List.forall_mem_cons.mpr ⟨rx_in1 (p := 98) rfl rfl, List.forall_mem_cons.mpr ⟨rx_in1 (p := 100) rfl rfl, List.forall_mem_cons.mpr ⟨rx_in1 (p := 102) rfl rfl, List.forall_mem_cons.mpr ⟨rx_in1 (p := 104) rfl rfl, fun q h => absurd h List.not_mem_nil⟩⟩⟩⟩⟩⟩⟩⟩⟩⟩⟩⟩⟩⟩
set_option maxRecDepth 100000 in
theorem rf_C2 : ∀ w ∈ u_ws RX2 TX2 5, w ∈ rx_all := by
  show ∀ w ∈ [u_lay RX2 TX2 0, u_lay RX2 TX2 1, u_lay RX2 TX2 2, u_lay RX2 TX2 3, u_lay RX2 TX2 4], w ∈ rx_all
  exact List.forall_mem_cons.mpr ⟨rx_in1 (p := 171) rfl rfl, List.forall_mem_cons.mpr ⟨rx_in1 (p := 173) rfl rfl, List.forall_mem_cons.mpr ⟨rx_in1 (p := 175) rfl rfl, List.forall_mem_cons.mpr ⟨rx_in1 (p := 177) rfl rfl, List.forall_mem_cons.mpr ⟨rx_in1 (p := 179) rfl rfl, fun q h => absurd h List.not_mem_nil⟩⟩⟩⟩⟩
set_option maxRecDepth 100000 in
theorem rf_C3 : ∀ w ∈ u_ws RX3 TX3 6, w ∈ rx_all := by
  show ∀ w ∈ [u_lay RX3 TX3 0, u_lay RX3 TX3 1, u_lay RX3 TX3 2, u_lay RX3 TX3 3, u_lay RX3 TX3 4, u_lay RX3 TX3 5], w ∈ rx_all
  exact List.forall_mem_cons.mpr ⟨rx_in2 (p := 10) rfl rfl, List.forall_mem_cons.mpr ⟨rx_in2 (p := 12) rfl rfl, List.forall_mem_cons.mpr ⟨rx_in2 (p := 14) rfl rfl, List.forall_mem_cons.mpr ⟨rx_in2 (p := 16) rfl rfl, List.forall_mem_cons.mpr ⟨rx_in2 (p := 18) rfl rfl, List.forall_mem_cons.mpr ⟨rx_in2 (p := 20) rfl rfl, fun q h => absurd h List.not_mem_nil⟩⟩⟩⟩⟩⟩
set_option maxRecDepth 100000 in
theorem rf_C4 : ∀ w ∈ u_ws RX4 TX4 4, w ∈ rx_all := by
  show ∀ w ∈ [u_lay RX4 TX4 0, u_lay RX4 TX4 1, u_lay RX4 TX4 2, u_lay RX4 TX4 3], w ∈ rx_all
  exact List.forall_mem_cons.mpr ⟨rx_in1 (p := 226) rfl rfl, List.forall_mem_cons.mpr ⟨rx_in1 (p := 228) rfl rfl, List.forall_mem_cons.mpr ⟨rx_in1 (p := 230) rfl rfl, List.forall_mem_cons.mpr ⟨rx_in1 (p := 232) rfl rfl, fun q h => absurd h List.not_mem_nil⟩⟩⟩⟩
set_option maxRecDepth 100000 in
theorem rf_C5 : ∀ w ∈ u_ws RX5 TX5 10, w ∈ rx_all := by
  show ∀ w ∈ [u_lay RX5 TX5 0, u_lay RX5 TX5 1, u_lay RX5 TX5 2, u_lay RX5 TX5 3, u_lay RX5 TX5 4, u_lay RX5 TX5 5, u_lay RX5 TX5 6, u_lay RX5 TX5 7, u_lay RX5 TX5 8, u_lay RX5 TX5 9], w ∈ rx_all
  exact List.forall_mem_cons.mpr ⟨rx_in1 (p := 129) rfl rfl, List.forall_mem_cons.mpr ⟨rx_in1 (p := 131) rfl rfl, List.forall_mem_cons.mpr ⟨rx_in1 (p := 133) rfl rfl, List.forall_mem_cons.mpr ⟨rx_in1 (p := 135) rfl rfl, List.forall_mem_cons.mpr ⟨rx_in1 (p := 137) rfl rfl, List.forall_mem_cons.mpr ⟨rx_in1 (p := 139) rfl rfl, List.forall_mem_cons.mpr ⟨rx_in1 (p := 141) rfl rfl, List.forall_mem_cons.mpr ⟨rx_in1 (p := 143) rfl rfl, List.forall_mem_cons.mpr ⟨rx_in1 (p := 145) rfl rfl, List.forall_mem_cons.mpr ⟨rx_in1 (p := 147) rfl rfl, fun q h => absurd h List.not_mem_nil⟩⟩⟩⟩⟩⟩⟩⟩⟩⟩
set_option maxRecDepth 100000 in
theorem rf_C6 : ∀ w ∈ u_ws RX6 TX6 5, w ∈ rx_all := by
  show ∀ w ∈ [u_lay RX6 TX6 0, u_lay RX6 TX6 1, u_lay RX6 TX6 2, u_lay RX6 TX6 3, u_lay RX6 TX6 4], w ∈ rx_all
  exact List.forall_mem_cons.mpr ⟨rx_in2 (p := 36) rfl rfl, List.forall_mem_cons.mpr ⟨rx_in2 (p := 38) rfl rfl, List.forall_mem_cons.mpr ⟨rx_in2 (p := 40) rfl rfl, List.forall_mem_cons.mpr ⟨rx_in2 (p := 42) rfl rfl, List.forall_mem_cons.mpr ⟨rx_in2 (p := 44) rfl rfl, fun q h => absurd h List.not_mem_nil⟩⟩⟩⟩⟩
set_option maxRecDepth 100000 in
theorem rf_C7 : ∀ w ∈ u_ws RX7 TX7 3, w ∈ rx_all := by
  show ∀ w ∈ [u_lay RX7 TX7 0, u_lay RX7 TX7 1, u_lay RX7 TX7 2], w ∈ rx_all
  exact List.forall_mem_cons.mpr ⟨rx_in2 (p := 62) rfl rfl, List.forall_mem_cons.mpr ⟨rx_in2 (p := 64) rfl rfl, List.forall_mem_cons.mpr ⟨rx_in2 (p := 66) rfl rfl, fun q h => absurd h List.not_mem_nil⟩⟩⟩
set_option maxRecDepth 100000 in
theorem rf_C8 : ∀ w ∈ u_ws RX8 TX8 5, w ∈ rx_all := by
  show ∀ w ∈ [u_lay RX8 TX8 0, u_lay RX8 TX8 1, u_lay RX8 TX8 2, u_lay RX8 TX8 3, u_lay RX8 TX8 4], w ∈ rx_all
  exact List.forall_mem_cons.mpr ⟨rx_in2 (p := 86) rfl rfl, List.forall_mem_cons.mpr ⟨rx_in2 (p := 88) rfl rfl, List.forall_mem_cons.mpr ⟨rx_in2 (p := 90) rfl rfl, List.forall_mem_cons.mpr ⟨rx_in2 (p := 92) rfl rfl, List.forall_mem_cons.mpr ⟨rx_in2 (p := 94) rfl rfl, fun q h => absurd h List.not_mem_nil⟩⟩⟩⟩⟩
set_option maxRecDepth 100000 in
theorem rf_C9 : ∀ w ∈ u_ws RX9 TX9 3, w ∈ rx_all := by
  show ∀ w ∈ [u_lay RX9 TX9 0, u_lay RX9 TX9 1, u_lay RX9 TX9 2], w ∈ rx_all
  exact List.forall_mem_cons.mpr ⟨rx_in1 (p := 208) rfl rfl, List.forall_mem_cons.mpr ⟨rx_in1 (p := 210) rfl rfl, List.forall_mem_cons.mpr ⟨rx_in1 (p := 212) rfl rfl, fun q h => absurd h List.not_mem_nil⟩⟩⟩
set_option maxRecDepth 100000 in
theorem rf_C10 : ∀ w ∈ u_ws RX10 TX10 14, w ∈ rx_all := by
  show ∀ w ∈ [u_lay RX10 TX10 0, u_lay RX10 TX10 1, u_lay RX10 TX10 2, u_lay RX10 TX10 3, u_lay RX10 TX10 4, u_lay RX10 TX10 5, u_lay RX10 TX10 6, u_lay RX10 TX10 7, u_lay RX10 TX10 8, u_lay RX10 TX10 9, u_lay RX10 TX10 10, u_lay RX10 TX10 11, u_lay RX10 TX10 12, u_lay RX10 TX10 13], w ∈ rx_all
  exact List.forall_mem_cons.mpr ⟨rx_in2 (p := 111) rfl rfl, List.forall_mem_cons.mpr ⟨rx_in2 (p := 113) rfl rfl, List.forall_mem_cons.mpr ⟨rx_in2 (p := 115) rfl rfl, List.forall_mem_cons.mpr ⟨rx_in2 (p := 117) rfl rfl, List.forall_mem_cons.mpr ⟨rx_in2 (p := 119) rfl rfl, List.forall_mem_cons.mpr ⟨rx_in2 (p := 121) rfl rfl, List.forall_mem_cons.mpr ⟨rx_in2 (p := 123) rfl rfl, List.forall_mem_cons.mpr ⟨rx_in2 (p := 125) rfl rfl, List.forall_mem_cons.mpr ⟨rx_in2 (p := 127) rfl rfl, List.forall_mem_cons.mpr ⟨rx_in2 (p := 129) rfl rfl, List.forall_mem_cons.mpr ⟨rx_in2 (p := 131) rfl rfl, List.forall_mem_cons.mpr ⟨rx_in2 (p := 133) rfl rfl, List.forall_mem_cons.mpr ⟨rx_in2 (p := 135) rfl rfl, List.forall_mem_cons.mpr ⟨rx_in2 (p := 137) rfl rfl, fun q h => absurd h List.not_mem_nil⟩⟩⟩⟩⟩⟩⟩⟩⟩⟩⟩⟩⟩⟩
set_option maxRecDepth 100000 in
theorem rf_C11 : ∀ w ∈ u_ws RX11 TX11 49, w ∈ rx_all := by
  show ∀ w ∈ [u_lay RX11 TX11 0, u_lay RX11 TX11 1, u_lay RX11 TX11 2, u_lay RX11 TX11 3, u_lay RX11 TX11 4, u_lay RX11 TX11 5, u_lay RX11 TX11 6, u_lay RX11 TX11 7, u_lay RX11 TX11 8, u_lay RX11 TX11 9, u_lay RX11 TX11 10, u_lay RX11 TX11 11, u_lay RX11 TX11 12, u_lay RX11 TX11 13, u_lay RX11 TX11 14, u_lay RX11 TX11 15, u_lay RX11 TX11 16, u_lay RX11 TX11 17, u_lay RX11 TX11 18, u_lay RX11 TX11 19, u_lay RX11 TX11 20, u_lay RX11 TX11 21, u_lay RX11 TX11 22, u_lay RX11 TX11 23, u_lay RX11 TX11 24, u_lay RX11 TX11 25, u_lay RX11 TX11 26, u_lay RX11 TX11 27, u_lay RX11 TX11 28, u_lay RX11 TX11 29, u_lay RX11 TX11 30, u_lay RX11 TX11 31, u_lay RX11 TX11 32, u_lay RX11 TX11 33, u_lay RX11 TX11 34, u_lay RX11 TX11 35, u_lay RX11 TX11 36, u_lay RX11 TX11 37, u_lay RX11 TX11 38, u_lay RX11 TX11 39, u_lay RX11 TX11 40, u_lay RX11 TX11 41, u_lay RX11 TX11 42, u_lay RX11 TX11 43, u_lay RX11 TX11 44, u_lay RX11 TX11 45, u_lay RX11 TX11 46, u_lay RX11 TX11 47, u_lay RX11 TX11 48], w ∈ rx_all
  exact List.forall_mem_cons.mpr ⟨rx_in5 (p := 105) rfl rfl, List.forall_mem_cons.mpr ⟨rx_in5 (p := 107) rfl rfl, List.forall_mem_cons.mpr ⟨rx_in5 (p := 109) rfl rfl, List.forall_mem_cons.mpr ⟨rx_in5 (p := 111) rfl rfl, List.forall_mem_cons.mpr ⟨rx_in5 (p := 113) rfl rfl, List.forall_mem_cons.mpr ⟨rx_in5 (p := 115) rfl rfl, List.forall_mem_cons.mpr ⟨rx_in5 (p := 117) rfl rfl, List.forall_mem_cons.mpr ⟨rx_in5 (p := 119) rfl rfl, List.forall_mem_cons.mpr ⟨rx_in5 (p := 121) rfl rfl, List.forall_mem_cons.mpr ⟨rx_in5 (p := 123) rfl rfl, List.forall_mem_cons.mpr ⟨rx_in5 (p := 125) rfl rfl, List.forall_mem_cons.mpr ⟨rx_in5 (p := 127) rfl rfl, List.forall_mem_cons.mpr ⟨rx_in5 (p := 129) rfl rfl, List.forall_mem_cons.mpr ⟨rx_in5 (p := 131) rfl rfl, List.forall_mem_cons.mpr ⟨rx_in5 (p := 133) rfl rfl, List.forall_mem_cons.mpr ⟨rx_in5 (p := 135) rfl rfl, List.forall_mem_cons.mpr ⟨rx_in5 (p := 137) rfl rfl, List.forall_mem_cons.mpr ⟨rx_in5 (p := 139) rfl rfl, List.forall_mem_cons.mpr ⟨rx_in5 (p := 141) rfl rfl, List.forall_mem_cons.mpr ⟨rx_in5 (p := 143) rfl rfl, List.forall_mem_cons.mpr ⟨rx_in5 (p := 145) rfl rfl, List.forall_mem_cons.mpr ⟨rx_in5 (p := 147) rfl rfl, List.forall_mem_cons.mpr ⟨rx_in5 (p := 149) rfl rfl, List.forall_mem_cons.mpr ⟨rx_in5 (p := 151) rfl rfl, List.forall_mem_cons.mpr ⟨rx_in5 (p := 153) rfl rfl, List.forall_mem_cons.mpr ⟨rx_in5 (p := 155) rfl rfl, List.forall_mem_cons.mpr ⟨rx_in5 (p := 157) rfl rfl, List.forall_mem_cons.mpr ⟨rx_in5 (p := 159) rfl rfl, List.forall_mem_cons.mpr ⟨rx_in5 (p := 161) rfl rfl, List.forall_mem_cons.mpr ⟨rx_in5 (p := 163) rfl rfl, List.forall_mem_cons.mpr ⟨rx_in5 (p := 165) rfl rfl, List.forall_mem_cons.mpr ⟨rx_in5 (p := 167) rfl rfl, List.forall_mem_cons.mpr ⟨rx_in5 (p := 169) rfl rfl, List.forall_mem_cons.mpr ⟨rx_in5 (p := 171) rfl rfl, List.forall_mem_cons.mpr ⟨rx_in5 (p := 173) rfl rfl, List.forall_mem_cons.mpr ⟨rx_in5 (p := 175) rfl rfl, List.forall_mem_cons.mpr ⟨rx_in5 (p := 177) rfl rfl, List.forall_mem_cons.mpr ⟨rx_in5 (p := 179) rfl rfl, List.forall_mem_cons.mpr ⟨rx_in5 (p := 181) rfl rfl, List.forall_mem_cons.mpr ⟨rx_in5 (p := 183) rfl rfl, List.forall_mem_cons.mpr ⟨rx_in5 (p := 185) rfl rfl, List.forall_mem_cons.mpr ⟨rx_in5 (p := 187) rfl rfl, List.forall_mem_cons.mpr ⟨rx_in5 (p := 189) rfl rfl, List.forall_mem_cons.mpr ⟨rx_in5 (p := 191) rfl rfl, List.forall_mem_cons.mpr ⟨rx_in5 (p := 193) rfl rfl, List.forall_mem_cons.mpr ⟨rx_in5 (p := 195) rfl rfl, List.forall_mem_cons.mpr ⟨rx_in5 (p := 197) rfl rfl, List.forall_mem_cons.mpr ⟨rx_in5 (p := 199) rfl rfl, List.forall_mem_cons.mpr ⟨rx_in5 (p := 201) rfl rfl, fun q h => absurd h List.not_mem_nil⟩⟩⟩⟩⟩⟩⟩⟩⟩⟩⟩⟩⟩⟩⟩⟩⟩⟩⟩⟩⟩⟩⟩⟩⟩⟩⟩⟩⟩⟩⟩⟩⟩⟩⟩⟩⟩⟩⟩⟩⟩⟩⟩⟩⟩⟩⟩⟩⟩
set_option maxRecDepth 100000 in
theorem rf_CL : ∀ ci, ci < 12 → (∀ w ∈ u_ws (rx_cl ci).1 (rx_cl ci).2.1 (rx_cl ci).2.2, w ∈ rx_all) ∧ (∃ ty0 : Nat → FieldType, ∀ k, k < (rx_cl ci).2.2 → parseFieldDescriptor ((rx_cl ci).2.1 k).2.2.1 = some (ty0 k)) ∧ ∀ a, a < (rx_cl ci).2.2 → ∀ b, b < (rx_cl ci).2.2 → a ≠ b → ((rx_cl ci).2.1 a).2.1 ≠ ((rx_cl ci).2.1 b).2.1 := by
  intro ci h
  match ci, h with
  | 0, _ => exact ⟨rf_C0, ⟨tyX0, tyX0_ok⟩, nmX0⟩
  | 1, _ => exact ⟨rf_C1, ⟨tyX1, tyX1_ok⟩, nmX1⟩
  | 2, _ => exact ⟨rf_C2, ⟨tyX2, tyX2_ok⟩, nmX2⟩
  | 3, _ => exact ⟨rf_C3, ⟨tyX3, tyX3_ok⟩, nmX3⟩
  | 4, _ => exact ⟨rf_C4, ⟨tyX4, tyX4_ok⟩, nmX4⟩
  | 5, _ => exact ⟨rf_C5, ⟨tyX5, tyX5_ok⟩, nmX5⟩
  | 6, _ => exact ⟨rf_C6, ⟨tyX6, tyX6_ok⟩, nmX6⟩
  | 7, _ => exact ⟨rf_C7, ⟨tyX7, tyX7_ok⟩, nmX7⟩
  | 8, _ => exact ⟨rf_C8, ⟨tyX8, tyX8_ok⟩, nmX8⟩
  | 9, _ => exact ⟨rf_C9, ⟨tyX9, tyX9_ok⟩, nmX9⟩
  | 10, _ => exact ⟨rf_C10, ⟨tyX10, tyX10_ok⟩, nmX10⟩
  | 11, _ => exact ⟨rf_C11, ⟨tyX11, tyX11_ok⟩, nmX11⟩
  | n + 12, h => exact absurd h (by omega)
set_option maxRecDepth 100000 in
theorem rf_wI : ∀ q ∈ rx_wI, parseFieldDescriptor ((rx_cl q.1).2.1 q.2).2.2.1 = some .int ∧ ((rx_cl q.1).2.1 q.2).2.2.2 = false := by decide +kernel
set_option maxRecDepth 100000 in
theorem rf_wZ : ∀ q ∈ rx_wZ, parseFieldDescriptor ((rx_cl q.1).2.1 q.2).2.2.1 = some .boolean ∧ ((rx_cl q.1).2.1 q.2).2.2.2 = false := by decide +kernel
