def rf_P (y : Nat) : Prop := plainName (rx_mi y).1.cls = true ∧ (rx_mi y).1.cls ≠ "java/lang/invoke/MethodHandle" ∧ (rx_mi y).1.cls ≠ "java/lang/invoke/VarHandle" ∧ Cond.code (rx_mi y).1 (rx_mi y).2.1 (rx_mi y).2.2.1 (rx_mi y).2.2.2.1 ∈ rx_all ∧ (rx_mi y).2.2.1 ≤ 40 ∧ Cond.initialized (rx_mi y).1.cls ∈ rx_all ∧ (rx_mi y).1.cls = rx_cn (rx_mi y).2.2.2.2 ∧
    (∀ n, rx_np[y]? = some (n, true) → Cond.static (rx_mi y).1 ∈ rx_all ∧ (parseMethodDescriptor (rx_mi y).1.desc).map (fun d => d.parameters.length) = some n ∧ n ≤ (rx_mi y).2.2.1) ∧
    (∀ n, rx_np[y]? = some (n, false) → Cond.instanceMethod (rx_mi y).1 ∈ rx_all ∧ Cond.selects (rx_mi y).1.cls (rx_mi y).1 (rx_mi y).1 ∈ rx_all ∧ (parseMethodDescriptor (rx_mi y).1.desc).map (fun d => d.parameters.length + 1) = some n ∧ n ≤ (rx_mi y).2.2.1 ∧ (rx_mi y).2.2.2.2 < 12 ∧ (rx_cl (rx_mi y).2.2.2.2).1 = (rx_mi y).1.cls)
set_option maxRecDepth 100000 in
theorem rf_Y1 : rf_P 1 := ⟨by decide +kernel, by decide +kernel, by decide +kernel, rx_in2 (p := 233) rfl rfl, by decide, rx_in1 (p := 4) rfl rfl, rfl, ⟨(fun n h => by cases h), (fun n h => by cases h; exact ⟨rx_in2 (p := 231) rfl rfl, rx_in2 (p := 232) rfl rfl, by decide +kernel, by decide, by decide, rfl⟩)⟩⟩
set_option maxRecDepth 100000 in
theorem rf_Y2 : rf_P 2 := ⟨by decide +kernel, by decide +kernel, by decide +kernel, rx_in3 (p := 108) rfl rfl, by decide, rx_in1 (p := 4) rfl rfl, rfl, ⟨(fun n h => by cases h), (fun n h => by cases h; exact ⟨rx_in3 (p := 106) rfl rfl, rx_in3 (p := 107) rfl rfl, by decide +kernel, by decide, by decide, rfl⟩)⟩⟩
set_option maxRecDepth 100000 in
theorem rf_Y3 : rf_P 3 := ⟨by decide +kernel, by decide +kernel, by decide +kernel, rx_in3 (p := 123) rfl rfl, by decide, rx_in1 (p := 4) rfl rfl, rfl, ⟨(fun n h => by cases h), (fun n h => by cases h; exact ⟨rx_in3 (p := 121) rfl rfl, rx_in3 (p := 122) rfl rfl, by decide +kernel, by decide, by decide, rfl⟩)⟩⟩
set_option maxRecDepth 100000 in
theorem rf_Y4 : rf_P 4 := ⟨by decide +kernel, by decide +kernel, by decide +kernel, rx_in3 (p := 113) rfl rfl, by decide, rx_in1 (p := 4) rfl rfl, rfl, ⟨(fun n h => by cases h), (fun n h => by cases h; exact ⟨rx_in3 (p := 111) rfl rfl, rx_in3 (p := 112) rfl rfl, by decide +kernel, by decide, by decide, rfl⟩)⟩⟩
set_option maxRecDepth 100000 in
theorem rf_Y5 : rf_P 5 := ⟨by decide +kernel, by decide +kernel, by decide +kernel, rx_in3 (p := 143) rfl rfl, by decide, rx_in1 (p := 2) rfl rfl, rfl, ⟨(fun n h => by cases h), (fun n h => by cases h; exact ⟨rx_in3 (p := 141) rfl rfl, rx_in3 (p := 142) rfl rfl, by decide +kernel, by decide, by decide, rfl⟩)⟩⟩
set_option maxRecDepth 100000 in
theorem rf_Y6 : rf_P 6 := ⟨by decide +kernel, by decide +kernel, by decide +kernel, rx_in3 (p := 146) rfl rfl, by decide, rx_in1 (p := 2) rfl rfl, rfl, ⟨(fun n h => by cases h; exact ⟨rx_in3 (p := 145) rfl rfl, by decide +kernel, by decide⟩), (fun n h => by cases h)⟩⟩
set_option maxRecDepth 100000 in
theorem rf_Y7 : rf_P 7 := ⟨by decide +kernel, by decide +kernel, by decide +kernel, rx_in2 (p := 173) rfl rfl, by decide, rx_in1 (p := 2) rfl rfl, rfl, ⟨(fun n h => by cases h), (fun n h => by cases h; exact ⟨rx_in2 (p := 171) rfl rfl, rx_in2 (p := 172) rfl rfl, by decide +kernel, by decide, by decide, rfl⟩)⟩⟩
set_option maxRecDepth 100000 in
theorem rf_Y8 : rf_P 8 := ⟨by decide +kernel, by decide +kernel, by decide +kernel, rx_in2 (p := 229) rfl rfl, by decide, rx_in1 (p := 2) rfl rfl, rfl, ⟨(fun n h => by cases h), (fun n h => by cases h; exact ⟨rx_in2 (p := 227) rfl rfl, rx_in2 (p := 228) rfl rfl, by decide +kernel, by decide, by decide, rfl⟩)⟩⟩
set_option maxRecDepth 100000 in
theorem rf_Y9 : rf_P 9 := ⟨by decide +kernel, by decide +kernel, by decide +kernel, rx_in2 (p := 155) rfl rfl, by decide, rx_in1 (p := 2) rfl rfl, rfl, ⟨(fun n h => by cases h), (fun n h => by cases h; exact ⟨rx_in2 (p := 153) rfl rfl, rx_in2 (p := 154) rfl rfl, by decide +kernel, by decide, by decide, rfl⟩)⟩⟩
set_option maxRecDepth 100000 in
theorem rf_Y10 : rf_P 10 := ⟨by decide +kernel, by decide +kernel, by decide +kernel, rx_in2 (p := 147) rfl rfl, by decide, rx_in1 (p := 2) rfl rfl, rfl, ⟨(fun n h => by cases h), (fun n h => by cases h; exact ⟨rx_in2 (p := 145) rfl rfl, rx_in2 (p := 146) rfl rfl, by decide +kernel, by decide, by decide, rfl⟩)⟩⟩
set_option maxRecDepth 100000 in
theorem rf_Y11 : rf_P 11 := ⟨by decide +kernel, by decide +kernel, by decide +kernel, rx_in2 (p := 161) rfl rfl, by decide, rx_in1 (p := 2) rfl rfl, rfl, ⟨(fun n h => by cases h), (fun n h => by cases h; exact ⟨rx_in2 (p := 159) rfl rfl, rx_in2 (p := 160) rfl rfl, by decide +kernel, by decide, by decide, rfl⟩)⟩⟩
set_option maxRecDepth 100000 in
theorem rf_Y12 : rf_P 12 := ⟨by decide +kernel, by decide +kernel, by decide +kernel, rx_in2 (p := 165) rfl rfl, by decide, rx_in1 (p := 2) rfl rfl, rfl, ⟨(fun n h => by cases h), (fun n h => by cases h; exact ⟨rx_in2 (p := 163) rfl rfl, rx_in2 (p := 164) rfl rfl, by decide +kernel, by decide, by decide, rfl⟩)⟩⟩
set_option maxRecDepth 100000 in
theorem rf_Y13 : rf_P 13 := ⟨by decide +kernel, by decide +kernel, by decide +kernel, rx_in3 (p := 153) rfl rfl, by decide, rx_in1 (p := 2) rfl rfl, rfl, ⟨(fun n h => by cases h), (fun n h => by cases h; exact ⟨rx_in3 (p := 151) rfl rfl, rx_in3 (p := 152) rfl rfl, by decide +kernel, by decide, by decide, rfl⟩)⟩⟩
set_option maxRecDepth 100000 in
theorem rf_Y14 : rf_P 14 := ⟨by decide +kernel, by decide +kernel, by decide +kernel, rx_in4 (p := 20) rfl rfl, by decide, rx_in1 (p := 2) rfl rfl, rfl, ⟨(fun n h => by cases h), (fun n h => by cases h; exact ⟨rx_in4 (p := 18) rfl rfl, rx_in4 (p := 19) rfl rfl, by decide +kernel, by decide, by decide, rfl⟩)⟩⟩
set_option maxRecDepth 100000 in
theorem rf_Y15 : rf_P 15 := ⟨by decide +kernel, by decide +kernel, by decide +kernel, rx_in2 (p := 178) rfl rfl, by decide, rx_in1 (p := 2) rfl rfl, rfl, ⟨(fun n h => by cases h), (fun n h => by cases h; exact ⟨rx_in2 (p := 176) rfl rfl, rx_in2 (p := 177) rfl rfl, by decide +kernel, by decide, by decide, rfl⟩)⟩⟩
set_option maxRecDepth 100000 in
theorem rf_Y16 : rf_P 16 := ⟨by decide +kernel, by decide +kernel, by decide +kernel, rx_in2 (p := 211) rfl rfl, by decide, rx_in1 (p := 2) rfl rfl, rfl, ⟨(fun n h => by cases h), (fun n h => by cases h; exact ⟨rx_in2 (p := 210) rfl rfl, rx_in0 (p := 0) rfl rfl, by decide +kernel, by decide, by decide, rfl⟩)⟩⟩
set_option maxRecDepth 100000 in
theorem rf_Y17 : rf_P 17 := ⟨by decide +kernel, by decide +kernel, by decide +kernel, rx_in2 (p := 206) rfl rfl, by decide, rx_in1 (p := 2) rfl rfl, rfl, ⟨(fun n h => by cases h), (fun n h => by cases h; exact ⟨rx_in2 (p := 204) rfl rfl, rx_in2 (p := 205) rfl rfl, by decide +kernel, by decide, by decide, rfl⟩)⟩⟩
set_option maxRecDepth 100000 in
theorem rf_Y18 : rf_P 18 := ⟨by decide +kernel, by decide +kernel, by decide +kernel, rx_in2 (p := 221) rfl rfl, by decide, rx_in1 (p := 2) rfl rfl, rfl, ⟨(fun n h => by cases h), (fun n h => by cases h; exact ⟨rx_in2 (p := 219) rfl rfl, rx_in2 (p := 220) rfl rfl, by decide +kernel, by decide, by decide, rfl⟩)⟩⟩
set_option maxRecDepth 100000 in
theorem rf_Y19 : rf_P 19 := ⟨by decide +kernel, by decide +kernel, by decide +kernel, rx_in3 (p := 48) rfl rfl, by decide, rx_in1 (p := 2) rfl rfl, rfl, ⟨(fun n h => by cases h), (fun n h => by cases h; exact ⟨rx_in3 (p := 46) rfl rfl, rx_in3 (p := 47) rfl rfl, by decide +kernel, by decide, by decide, rfl⟩)⟩⟩
set_option maxRecDepth 100000 in
theorem rf_Y20 : rf_P 20 := ⟨by decide +kernel, by decide +kernel, by decide +kernel, rx_in4 (p := 52) rfl rfl, by decide, rx_in1 (p := 2) rfl rfl, rfl, ⟨(fun n h => by cases h), (fun n h => by cases h; exact ⟨rx_in4 (p := 51) rfl rfl, rx_in0 (p := 14) rfl rfl, by decide +kernel, by decide, by decide, rfl⟩)⟩⟩
set_option maxRecDepth 100000 in
theorem rf_Y21 : rf_P 21 := ⟨by decide +kernel, by decide +kernel, by decide +kernel, rx_in4 (p := 48) rfl rfl, by decide, rx_in1 (p := 2) rfl rfl, rfl, ⟨(fun n h => by cases h), (fun n h => by cases h; exact ⟨rx_in4 (p := 46) rfl rfl, rx_in4 (p := 47) rfl rfl, by decide +kernel, by decide, by decide, rfl⟩)⟩⟩
set_option maxRecDepth 100000 in
theorem rf_Y22 : rf_P 22 := ⟨by decide +kernel, by decide +kernel, by decide +kernel, rx_in4 (p := 59) rfl rfl, by decide, rx_in1 (p := 2) rfl rfl, rfl, ⟨(fun n h => by cases h), (fun n h => by cases h; exact ⟨rx_in4 (p := 57) rfl rfl, rx_in4 (p := 58) rfl rfl, by decide +kernel, by decide, by decide, rfl⟩)⟩⟩
set_option maxRecDepth 100000 in
theorem rf_Y23 : rf_P 23 := ⟨by decide +kernel, by decide +kernel, by decide +kernel, rx_in3 (p := 131) rfl rfl, by decide, rx_in1 (p := 2) rfl rfl, rfl, ⟨(fun n h => by cases h), (fun n h => by cases h; exact ⟨rx_in3 (p := 129) rfl rfl, rx_in3 (p := 130) rfl rfl, by decide +kernel, by decide, by decide, rfl⟩)⟩⟩
set_option maxRecDepth 100000 in
theorem rf_Y24 : rf_P 24 := ⟨by decide +kernel, by decide +kernel, by decide +kernel, rx_in3 (p := 135) rfl rfl, by decide, rx_in1 (p := 2) rfl rfl, rfl, ⟨(fun n h => by cases h), (fun n h => by cases h; exact ⟨rx_in3 (p := 134) rfl rfl, rx_in0 (p := 8) rfl rfl, by decide +kernel, by decide, by decide, rfl⟩)⟩⟩
set_option maxRecDepth 100000 in
theorem rf_Y25 : rf_P 25 := ⟨by decide +kernel, by decide +kernel, by decide +kernel, rx_in3 (p := 102) rfl rfl, by decide, rx_in1 (p := 2) rfl rfl, rfl, ⟨(fun n h => by cases h), (fun n h => by cases h; exact ⟨rx_in3 (p := 100) rfl rfl, rx_in3 (p := 101) rfl rfl, by decide +kernel, by decide, by decide, rfl⟩)⟩⟩
set_option maxRecDepth 100000 in
theorem rf_Y26 : rf_P 26 := ⟨by decide +kernel, by decide +kernel, by decide +kernel, rx_in3 (p := 56) rfl rfl, by decide, rx_in1 (p := 2) rfl rfl, rfl, ⟨(fun n h => by cases h), (fun n h => by cases h; exact ⟨rx_in3 (p := 54) rfl rfl, rx_in3 (p := 55) rfl rfl, by decide +kernel, by decide, by decide, rfl⟩)⟩⟩
set_option maxRecDepth 100000 in
theorem rf_Y27 : rf_P 27 := ⟨by decide +kernel, by decide +kernel, by decide +kernel, rx_in3 (p := 60) rfl rfl, by decide, rx_in1 (p := 2) rfl rfl, rfl, ⟨(fun n h => by cases h), (fun n h => by cases h; exact ⟨rx_in3 (p := 58) rfl rfl, rx_in3 (p := 59) rfl rfl, by decide +kernel, by decide, by decide, rfl⟩)⟩⟩
set_option maxRecDepth 100000 in
theorem rf_Y28 : rf_P 28 := ⟨by decide +kernel, by decide +kernel, by decide +kernel, rx_in3 (p := 64) rfl rfl, by decide, rx_in1 (p := 2) rfl rfl, rfl, ⟨(fun n h => by cases h), (fun n h => by cases h; exact ⟨rx_in3 (p := 63) rfl rfl, rx_in0 (p := 1) rfl rfl, by decide +kernel, by decide, by decide, rfl⟩)⟩⟩
set_option maxRecDepth 100000 in
theorem rf_Y29 : rf_P 29 := ⟨by decide +kernel, by decide +kernel, by decide +kernel, rx_in3 (p := 67) rfl rfl, by decide, rx_in1 (p := 2) rfl rfl, rfl, ⟨(fun n h => by cases h; exact ⟨rx_in3 (p := 66) rfl rfl, by decide +kernel, by decide⟩), (fun n h => by cases h)⟩⟩
set_option maxRecDepth 100000 in
theorem rf_Y30 : rf_P 30 := ⟨by decide +kernel, by decide +kernel, by decide +kernel, rx_in3 (p := 71) rfl rfl, by decide, rx_in1 (p := 2) rfl rfl, rfl, ⟨(fun n h => by cases h), (fun n h => by cases h; exact ⟨rx_in3 (p := 70) rfl rfl, rx_in0 (p := 2) rfl rfl, by decide +kernel, by decide, by decide, rfl⟩)⟩⟩
set_option maxRecDepth 100000 in
theorem rf_Y31 : rf_P 31 := ⟨by decide +kernel, by decide +kernel, by decide +kernel, rx_in3 (p := 75) rfl rfl, by decide, rx_in1 (p := 2) rfl rfl, rfl, ⟨(fun n h => by cases h), (fun n h => by cases h; exact ⟨rx_in3 (p := 73) rfl rfl, rx_in3 (p := 74) rfl rfl, by decide +kernel, by decide, by decide, rfl⟩)⟩⟩
set_option maxRecDepth 100000 in
theorem rf_Y32 : rf_P 32 := ⟨by decide +kernel, by decide +kernel, by decide +kernel, rx_in3 (p := 79) rfl rfl, by decide, rx_in1 (p := 2) rfl rfl, rfl, ⟨(fun n h => by cases h), (fun n h => by cases h; exact ⟨rx_in3 (p := 78) rfl rfl, rx_in0 (p := 3) rfl rfl, by decide +kernel, by decide, by decide, rfl⟩)⟩⟩
set_option maxRecDepth 100000 in
theorem rf_Y33 : rf_P 33 := ⟨by decide +kernel, by decide +kernel, by decide +kernel, rx_in3 (p := 83) rfl rfl, by decide, rx_in1 (p := 2) rfl rfl, rfl, ⟨(fun n h => by cases h), (fun n h => by cases h; exact ⟨rx_in3 (p := 82) rfl rfl, rx_in0 (p := 4) rfl rfl, by decide +kernel, by decide, by decide, rfl⟩)⟩⟩
set_option maxRecDepth 100000 in
theorem rf_Y34 : rf_P 34 := ⟨by decide +kernel, by decide +kernel, by decide +kernel, rx_in3 (p := 90) rfl rfl, by decide, rx_in1 (p := 2) rfl rfl, rfl, ⟨(fun n h => by cases h), (fun n h => by cases h; exact ⟨rx_in3 (p := 89) rfl rfl, rx_in0 (p := 5) rfl rfl, by decide +kernel, by decide, by decide, rfl⟩)⟩⟩
set_option maxRecDepth 100000 in
theorem rf_Y35 : rf_P 35 := ⟨by decide +kernel, by decide +kernel, by decide +kernel, rx_in4 (p := 191) rfl rfl, by decide, rx_in1 (p := 5) rfl rfl, rfl, ⟨(fun n h => by cases h), (fun n h => by cases h; exact ⟨rx_in4 (p := 189) rfl rfl, rx_in4 (p := 190) rfl rfl, by decide +kernel, by decide, by decide, rfl⟩)⟩⟩
set_option maxRecDepth 100000 in
theorem rf_Y36 : rf_P 36 := ⟨by decide +kernel, by decide +kernel, by decide +kernel, rx_in2 (p := 237) rfl rfl, by decide, rx_in1 (p := 5) rfl rfl, rfl, ⟨(fun n h => by cases h), (fun n h => by cases h; exact ⟨rx_in2 (p := 235) rfl rfl, rx_in2 (p := 236) rfl rfl, by decide +kernel, by decide, by decide, rfl⟩)⟩⟩
set_option maxRecDepth 100000 in
theorem rf_Y37 : rf_P 37 := ⟨by decide +kernel, by decide +kernel, by decide +kernel, rx_in3 (p := 2) rfl rfl, by decide, rx_in1 (p := 5) rfl rfl, rfl, ⟨(fun n h => by cases h), (fun n h => by cases h; exact ⟨rx_in3 (p := 0) rfl rfl, rx_in3 (p := 1) rfl rfl, by decide +kernel, by decide, by decide, rfl⟩)⟩⟩
set_option maxRecDepth 100000 in
theorem rf_Y38 : rf_P 38 := ⟨by decide +kernel, by decide +kernel, by decide +kernel, rx_in3 (p := 5) rfl rfl, by decide, rx_in1 (p := 5) rfl rfl, rfl, ⟨(fun n h => by cases h; exact ⟨rx_in3 (p := 4) rfl rfl, by decide +kernel, by decide⟩), (fun n h => by cases h)⟩⟩
set_option maxRecDepth 100000 in
theorem rf_Y39 : rf_P 39 := ⟨by decide +kernel, by decide +kernel, by decide +kernel, rx_in3 (p := 8) rfl rfl, by decide, rx_in1 (p := 5) rfl rfl, rfl, ⟨(fun n h => by cases h; exact ⟨rx_in3 (p := 7) rfl rfl, by decide +kernel, by decide⟩), (fun n h => by cases h)⟩⟩
set_option maxRecDepth 100000 in
theorem rf_Y40 : rf_P 40 := ⟨by decide +kernel, by decide +kernel, by decide +kernel, rx_in3 (p := 234) rfl rfl, by decide, rx_in1 (p := 8) rfl rfl, rfl, ⟨(fun n h => by cases h), (fun n h => by cases h; exact ⟨rx_in3 (p := 232) rfl rfl, rx_in3 (p := 233) rfl rfl, by decide +kernel, by decide, by decide, rfl⟩)⟩⟩
set_option maxRecDepth 100000 in
theorem rf_Y41 : rf_P 41 := ⟨by decide +kernel, by decide +kernel, by decide +kernel, rx_in3 (p := 239) rfl rfl, by decide, rx_in1 (p := 8) rfl rfl, rfl, ⟨(fun n h => by cases h; exact ⟨rx_in3 (p := 238) rfl rfl, by decide +kernel, by decide⟩), (fun n h => by cases h)⟩⟩
set_option maxRecDepth 100000 in
theorem rf_Y42 : rf_P 42 := ⟨by decide +kernel, by decide +kernel, by decide +kernel, rx_in4 (p := 4) rfl rfl, by decide, rx_in1 (p := 8) rfl rfl, rfl, ⟨(fun n h => by cases h), (fun n h => by cases h; exact ⟨rx_in4 (p := 3) rfl rfl, rx_in0 (p := 9) rfl rfl, by decide +kernel, by decide, by decide, rfl⟩)⟩⟩
set_option maxRecDepth 100000 in
theorem rf_Y43 : rf_P 43 := ⟨by decide +kernel, by decide +kernel, by decide +kernel, rx_in4 (p := 8) rfl rfl, by decide, rx_in1 (p := 8) rfl rfl, rfl, ⟨(fun n h => by cases h), (fun n h => by cases h; exact ⟨rx_in4 (p := 7) rfl rfl, rx_in0 (p := 10) rfl rfl, by decide +kernel, by decide, by decide, rfl⟩)⟩⟩
set_option maxRecDepth 100000 in
theorem rf_Y44 : rf_P 44 := ⟨by decide +kernel, by decide +kernel, by decide +kernel, rx_in3 (p := 213) rfl rfl, by decide, rx_in1 (p := 7) rfl rfl, rfl, ⟨(fun n h => by cases h), (fun n h => by cases h; exact ⟨rx_in3 (p := 211) rfl rfl, rx_in3 (p := 212) rfl rfl, by decide +kernel, by decide, by decide, rfl⟩)⟩⟩
set_option maxRecDepth 100000 in
theorem rf_Y45 : rf_P 45 := ⟨by decide +kernel, by decide +kernel, by decide +kernel, rx_in3 (p := 216) rfl rfl, by decide, rx_in1 (p := 7) rfl rfl, rfl, ⟨(fun n h => by cases h; exact ⟨rx_in3 (p := 215) rfl rfl, by decide +kernel, by decide⟩), (fun n h => by cases h)⟩⟩
set_option maxRecDepth 100000 in
theorem rf_Y46 : rf_P 46 := ⟨by decide +kernel, by decide +kernel, by decide +kernel, rx_in3 (p := 224) rfl rfl, by decide, rx_in1 (p := 7) rfl rfl, rfl, ⟨(fun n h => by cases h; exact ⟨rx_in3 (p := 223) rfl rfl, by decide +kernel, by decide⟩), (fun n h => by cases h)⟩⟩
set_option maxRecDepth 100000 in
theorem rf_Y47 : rf_P 47 := ⟨by decide +kernel, by decide +kernel, by decide +kernel, rx_in4 (p := 74) rfl rfl, by decide, rx_in1 (p := 3) rfl rfl, rfl, ⟨(fun n h => by cases h), (fun n h => by cases h; exact ⟨rx_in4 (p := 72) rfl rfl, rx_in4 (p := 73) rfl rfl, by decide +kernel, by decide, by decide, rfl⟩)⟩⟩
set_option maxRecDepth 100000 in
theorem rf_Y48 : rf_P 48 := ⟨by decide +kernel, by decide +kernel, by decide +kernel, rx_in4 (p := 86) rfl rfl, by decide, rx_in1 (p := 3) rfl rfl, rfl, ⟨(fun n h => by cases h), (fun n h => by cases h; exact ⟨rx_in4 (p := 84) rfl rfl, rx_in4 (p := 85) rfl rfl, by decide +kernel, by decide, by decide, rfl⟩)⟩⟩
set_option maxRecDepth 100000 in
theorem rf_Y49 : rf_P 49 := ⟨by decide +kernel, by decide +kernel, by decide +kernel, rx_in4 (p := 160) rfl rfl, by decide, rx_in1 (p := 3) rfl rfl, rfl, ⟨(fun n h => by cases h), (fun n h => by cases h; exact ⟨rx_in4 (p := 159) rfl rfl, rx_in0 (p := 19) rfl rfl, by decide +kernel, by decide, by decide, rfl⟩)⟩⟩
set_option maxRecDepth 100000 in
theorem rf_Y50 : rf_P 50 := ⟨by decide +kernel, by decide +kernel, by decide +kernel, rx_in4 (p := 90) rfl rfl, by decide, rx_in1 (p := 3) rfl rfl, rfl, ⟨(fun n h => by cases h), (fun n h => by cases h; exact ⟨rx_in4 (p := 89) rfl rfl, rx_in0 (p := 15) rfl rfl, by decide +kernel, by decide, by decide, rfl⟩)⟩⟩
set_option maxRecDepth 100000 in
theorem rf_Y51 : rf_P 51 := ⟨by decide +kernel, by decide +kernel, by decide +kernel, rx_in4 (p := 97) rfl rfl, by decide, rx_in1 (p := 3) rfl rfl, rfl, ⟨(fun n h => by cases h; exact ⟨rx_in4 (p := 96) rfl rfl, by decide +kernel, by decide⟩), (fun n h => by cases h)⟩⟩
set_option maxRecDepth 100000 in
theorem rf_Y52 : rf_P 52 := ⟨by decide +kernel, by decide +kernel, by decide +kernel, rx_in4 (p := 94) rfl rfl, by decide, rx_in1 (p := 3) rfl rfl, rfl, ⟨(fun n h => by cases h), (fun n h => by cases h; exact ⟨rx_in4 (p := 93) rfl rfl, rx_in0 (p := 16) rfl rfl, by decide +kernel, by decide, by decide, rfl⟩)⟩⟩
set_option maxRecDepth 100000 in
theorem rf_Y53 : rf_P 53 := ⟨by decide +kernel, by decide +kernel, by decide +kernel, rx_in4 (p := 106) rfl rfl, by decide, rx_in1 (p := 3) rfl rfl, rfl, ⟨(fun n h => by cases h), (fun n h => by cases h; exact ⟨rx_in4 (p := 105) rfl rfl, rx_in0 (p := 18) rfl rfl, by decide +kernel, by decide, by decide, rfl⟩)⟩⟩
set_option maxRecDepth 100000 in
theorem rf_Y54 : rf_P 54 := ⟨by decide +kernel, by decide +kernel, by decide +kernel, rx_in4 (p := 101) rfl rfl, by decide, rx_in1 (p := 3) rfl rfl, rfl, ⟨(fun n h => by cases h), (fun n h => by cases h; exact ⟨rx_in4 (p := 100) rfl rfl, rx_in0 (p := 17) rfl rfl, by decide +kernel, by decide, by decide, rfl⟩)⟩⟩
set_option maxRecDepth 100000 in
theorem rf_Y55 : rf_P 55 := ⟨by decide +kernel, by decide +kernel, by decide +kernel, rx_in4 (p := 164) rfl rfl, by decide, rx_in1 (p := 3) rfl rfl, rfl, ⟨(fun n h => by cases h), (fun n h => by cases h; exact ⟨rx_in4 (p := 163) rfl rfl, rx_in0 (p := 20) rfl rfl, by decide +kernel, by decide, by decide, rfl⟩)⟩⟩
set_option maxRecDepth 100000 in
theorem rf_Y56 : rf_P 56 := ⟨by decide +kernel, by decide +kernel, by decide +kernel, rx_in4 (p := 187) rfl rfl, by decide, rx_in1 (p := 3) rfl rfl, rfl, ⟨(fun n h => by cases h; exact ⟨rx_in4 (p := 186) rfl rfl, by decide +kernel, by decide⟩), (fun n h => by cases h)⟩⟩
set_option maxRecDepth 100000 in
theorem rf_Y57 : rf_P 57 := ⟨by decide +kernel, by decide +kernel, by decide +kernel, rx_in4 (p := 168) rfl rfl, by decide, rx_in1 (p := 3) rfl rfl, rfl, ⟨(fun n h => by cases h), (fun n h => by cases h; exact ⟨rx_in4 (p := 167) rfl rfl, rx_in0 (p := 21) rfl rfl, by decide +kernel, by decide, by decide, rfl⟩)⟩⟩
set_option maxRecDepth 100000 in
theorem rf_Y58 : rf_P 58 := ⟨by decide +kernel, by decide +kernel, by decide +kernel, rx_in4 (p := 172) rfl rfl, by decide, rx_in1 (p := 3) rfl rfl, rfl, ⟨(fun n h => by cases h), (fun n h => by cases h; exact ⟨rx_in4 (p := 171) rfl rfl, rx_in0 (p := 22) rfl rfl, by decide +kernel, by decide, by decide, rfl⟩)⟩⟩
set_option maxRecDepth 100000 in
theorem rf_Y59 : rf_P 59 := ⟨by decide +kernel, by decide +kernel, by decide +kernel, rx_in4 (p := 184) rfl rfl, by decide, rx_in1 (p := 3) rfl rfl, rfl, ⟨(fun n h => by cases h), (fun n h => by cases h; exact ⟨rx_in4 (p := 183) rfl rfl, rx_in0 (p := 25) rfl rfl, by decide +kernel, by decide, by decide, rfl⟩)⟩⟩
set_option maxRecDepth 100000 in
theorem rf_Y60 : rf_P 60 := ⟨by decide +kernel, by decide +kernel, by decide +kernel, rx_in4 (p := 176) rfl rfl, by decide, rx_in1 (p := 3) rfl rfl, rfl, ⟨(fun n h => by cases h), (fun n h => by cases h; exact ⟨rx_in4 (p := 175) rfl rfl, rx_in0 (p := 23) rfl rfl, by decide +kernel, by decide, by decide, rfl⟩)⟩⟩
set_option maxRecDepth 100000 in
theorem rf_Y61 : rf_P 61 := ⟨by decide +kernel, by decide +kernel, by decide +kernel, rx_in4 (p := 180) rfl rfl, by decide, rx_in1 (p := 3) rfl rfl, rfl, ⟨(fun n h => by cases h), (fun n h => by cases h; exact ⟨rx_in4 (p := 179) rfl rfl, rx_in0 (p := 24) rfl rfl, by decide +kernel, by decide, by decide, rfl⟩)⟩⟩
set_option maxRecDepth 100000 in
theorem rf_Y62 : rf_P 62 := ⟨by decide +kernel, by decide +kernel, by decide +kernel, rx_in4 (p := 24) rfl rfl, by decide, rx_in1 (p := 9) rfl rfl, rfl, ⟨(fun n h => by cases h), (fun n h => by cases h; exact ⟨rx_in4 (p := 22) rfl rfl, rx_in4 (p := 23) rfl rfl, by decide +kernel, by decide, by decide, rfl⟩)⟩⟩
set_option maxRecDepth 100000 in
theorem rf_Y63 : rf_P 63 := ⟨by decide +kernel, by decide +kernel, by decide +kernel, rx_in4 (p := 28) rfl rfl, by decide, rx_in1 (p := 9) rfl rfl, rfl, ⟨(fun n h => by cases h), (fun n h => by cases h; exact ⟨rx_in4 (p := 27) rfl rfl, rx_in0 (p := 11) rfl rfl, by decide +kernel, by decide, by decide, rfl⟩)⟩⟩
set_option maxRecDepth 100000 in
theorem rf_Y64 : rf_P 64 := ⟨by decide +kernel, by decide +kernel, by decide +kernel, rx_in4 (p := 36) rfl rfl, by decide, rx_in1 (p := 9) rfl rfl, rfl, ⟨(fun n h => by cases h), (fun n h => by cases h; exact ⟨rx_in4 (p := 35) rfl rfl, rx_in0 (p := 12) rfl rfl, by decide +kernel, by decide, by decide, rfl⟩)⟩⟩
set_option maxRecDepth 100000 in
theorem rf_Y65 : rf_P 65 := ⟨by decide +kernel, by decide +kernel, by decide +kernel, rx_in4 (p := 40) rfl rfl, by decide, rx_in1 (p := 9) rfl rfl, rfl, ⟨(fun n h => by cases h), (fun n h => by cases h; exact ⟨rx_in4 (p := 39) rfl rfl, rx_in0 (p := 13) rfl rfl, by decide +kernel, by decide, by decide, rfl⟩)⟩⟩
set_option maxRecDepth 100000 in
theorem rf_Y66 : rf_P 66 := ⟨by decide +kernel, by decide +kernel, by decide +kernel, rx_in4 (p := 210) rfl rfl, by decide, rx_in1 (p := 10) rfl rfl, rfl, ⟨(fun n h => by cases h), (fun n h => by cases h; exact ⟨rx_in4 (p := 208) rfl rfl, rx_in4 (p := 209) rfl rfl, by decide +kernel, by decide, by decide, rfl⟩)⟩⟩
set_option maxRecDepth 100000 in
theorem rf_Y67 : rf_P 67 := ⟨by decide +kernel, by decide +kernel, by decide +kernel, rx_in5 (p := 6) rfl rfl, by decide, rx_in1 (p := 10) rfl rfl, rfl, ⟨(fun n h => by cases h), (fun n h => by cases h; exact ⟨rx_in5 (p := 4) rfl rfl, rx_in5 (p := 5) rfl rfl, by decide +kernel, by decide, by decide, rfl⟩)⟩⟩
set_option maxRecDepth 100000 in
theorem rf_Y68 : rf_P 68 := ⟨by decide +kernel, by decide +kernel, by decide +kernel, rx_in3 (p := 185) rfl rfl, by decide, rx_in1 (p := 10) rfl rfl, rfl, ⟨(fun n h => by cases h), (fun n h => by cases h; exact ⟨rx_in3 (p := 183) rfl rfl, rx_in3 (p := 184) rfl rfl, by decide +kernel, by decide, by decide, rfl⟩)⟩⟩
set_option maxRecDepth 100000 in
theorem rf_Y69 : rf_P 69 := ⟨by decide +kernel, by decide +kernel, by decide +kernel, rx_in4 (p := 219) rfl rfl, by decide, rx_in1 (p := 10) rfl rfl, rfl, ⟨(fun n h => by cases h), (fun n h => by cases h; exact ⟨rx_in4 (p := 217) rfl rfl, rx_in4 (p := 218) rfl rfl, by decide +kernel, by decide, by decide, rfl⟩)⟩⟩
set_option maxRecDepth 100000 in
theorem rf_Y70 : rf_P 70 := ⟨by decide +kernel, by decide +kernel, by decide +kernel, rx_in4 (p := 234) rfl rfl, by decide, rx_in1 (p := 10) rfl rfl, rfl, ⟨(fun n h => by cases h), (fun n h => by cases h; exact ⟨rx_in4 (p := 232) rfl rfl, rx_in4 (p := 233) rfl rfl, by decide +kernel, by decide, by decide, rfl⟩)⟩⟩
set_option maxRecDepth 100000 in
theorem rf_Y71 : rf_P 71 := ⟨by decide +kernel, by decide +kernel, by decide +kernel, rx_in3 (p := 191) rfl rfl, by decide, rx_in1 (p := 10) rfl rfl, rfl, ⟨(fun n h => by cases h), (fun n h => by cases h; exact ⟨rx_in3 (p := 189) rfl rfl, rx_in3 (p := 190) rfl rfl, by decide +kernel, by decide, by decide, rfl⟩)⟩⟩
set_option maxRecDepth 100000 in
theorem rf_Y72 : rf_P 72 := ⟨by decide +kernel, by decide +kernel, by decide +kernel, rx_in3 (p := 196) rfl rfl, by decide, rx_in1 (p := 10) rfl rfl, rfl, ⟨(fun n h => by cases h), (fun n h => by cases h; exact ⟨rx_in3 (p := 194) rfl rfl, rx_in3 (p := 195) rfl rfl, by decide +kernel, by decide, by decide, rfl⟩)⟩⟩
set_option maxRecDepth 100000 in
theorem rf_Y73 : rf_P 73 := ⟨by decide +kernel, by decide +kernel, by decide +kernel, rx_in5 (p := 15) rfl rfl, by decide, rx_in1 (p := 11) rfl rfl, rfl, ⟨(fun n h => by cases h), (fun n h => by cases h; exact ⟨rx_in5 (p := 13) rfl rfl, rx_in5 (p := 14) rfl rfl, by decide +kernel, by decide, by decide, rfl⟩)⟩⟩
set_option maxRecDepth 100000 in
theorem rf_Y74 : rf_P 74 := ⟨by decide +kernel, by decide +kernel, by decide +kernel, rx_in3 (p := 161) rfl rfl, by decide, rx_in1 (p := 6) rfl rfl, rfl, ⟨(fun n h => by cases h), (fun n h => by cases h; exact ⟨rx_in3 (p := 159) rfl rfl, rx_in3 (p := 160) rfl rfl, by decide +kernel, by decide, by decide, rfl⟩)⟩⟩
set_option maxRecDepth 100000 in
theorem rf_Y75 : rf_P 75 := ⟨by decide +kernel, by decide +kernel, by decide +kernel, rx_in3 (p := 170) rfl rfl, by decide, rx_in1 (p := 6) rfl rfl, rfl, ⟨(fun n h => by cases h), (fun n h => by cases h; exact ⟨rx_in3 (p := 168) rfl rfl, rx_in3 (p := 169) rfl rfl, by decide +kernel, by decide, by decide, rfl⟩)⟩⟩
set_option maxRecDepth 100000 in
theorem rf_Y76 : rf_P 76 := ⟨by decide +kernel, by decide +kernel, by decide +kernel, rx_in2 (p := 143) rfl rfl, by decide, rx_in1 (p := 1) rfl rfl, rfl, ⟨(fun n h => by cases h), (fun n h => by cases h; exact ⟨rx_in2 (p := 141) rfl rfl, rx_in2 (p := 142) rfl rfl, by decide +kernel, by decide, by decide, rfl⟩)⟩⟩
set_option maxRecDepth 100000 in
theorem rf_Y77 : rf_P 77 := ⟨by decide +kernel, by decide +kernel, by decide +kernel, rx_in2 (p := 169) rfl rfl, by decide, rx_in1 (p := 1) rfl rfl, rfl, ⟨(fun n h => by cases h), (fun n h => by cases h; exact ⟨rx_in2 (p := 167) rfl rfl, rx_in2 (p := 168) rfl rfl, by decide +kernel, by decide, by decide, rfl⟩)⟩⟩
set_option maxRecDepth 100000 in
theorem rf_Y78 : rf_P 78 := ⟨by decide +kernel, by decide +kernel, by decide +kernel, rx_in2 (p := 182) rfl rfl, by decide, rx_in1 (p := 1) rfl rfl, rfl, ⟨(fun n h => by cases h), (fun n h => by cases h; exact ⟨rx_in2 (p := 180) rfl rfl, rx_in2 (p := 181) rfl rfl, by decide +kernel, by decide, by decide, rfl⟩)⟩⟩
set_option maxRecDepth 100000 in
theorem rf_Y79 : rf_P 79 := ⟨by decide +kernel, by decide +kernel, by decide +kernel, rx_in2 (p := 189) rfl rfl, by decide, rx_in1 (p := 1) rfl rfl, rfl, ⟨(fun n h => by cases h), (fun n h => by cases h; exact ⟨rx_in2 (p := 187) rfl rfl, rx_in2 (p := 188) rfl rfl, by decide +kernel, by decide, by decide, rfl⟩)⟩⟩
set_option maxRecDepth 100000 in
theorem rf_Y80 : rf_P 80 := ⟨by decide +kernel, by decide +kernel, by decide +kernel, rx_in2 (p := 196) rfl rfl, by decide, rx_in1 (p := 1) rfl rfl, rfl, ⟨(fun n h => by cases h), (fun n h => by cases h; exact ⟨rx_in2 (p := 194) rfl rfl, rx_in2 (p := 195) rfl rfl, by decide +kernel, by decide, by decide, rfl⟩)⟩⟩
set_option maxRecDepth 100000 in
theorem rf_Y81 : rf_P 81 := ⟨by decide +kernel, by decide +kernel, by decide +kernel, rx_in2 (p := 225) rfl rfl, by decide, rx_in1 (p := 1) rfl rfl, rfl, ⟨(fun n h => by cases h), (fun n h => by cases h; exact ⟨rx_in2 (p := 223) rfl rfl, rx_in2 (p := 224) rfl rfl, by decide +kernel, by decide, by decide, rfl⟩)⟩⟩
set_option maxRecDepth 100000 in
theorem rf_Y82 : rf_P 82 := ⟨by decide +kernel, by decide +kernel, by decide +kernel, rx_in3 (p := 23) rfl rfl, by decide, rx_in1 (p := 1) rfl rfl, rfl, ⟨(fun n h => by cases h), (fun n h => by cases h; exact ⟨rx_in3 (p := 21) rfl rfl, rx_in3 (p := 22) rfl rfl, by decide +kernel, by decide, by decide, rfl⟩)⟩⟩
set_option maxRecDepth 100000 in
theorem rf_Y83 : rf_P 83 := ⟨by decide +kernel, by decide +kernel, by decide +kernel, rx_in3 (p := 33) rfl rfl, by decide, rx_in1 (p := 1) rfl rfl, rfl, ⟨(fun n h => by cases h), (fun n h => by cases h; exact ⟨rx_in3 (p := 31) rfl rfl, rx_in3 (p := 32) rfl rfl, by decide +kernel, by decide, by decide, rfl⟩)⟩⟩
set_option maxRecDepth 100000 in
theorem rf_Y84 : rf_P 84 := ⟨by decide +kernel, by decide +kernel, by decide +kernel, rx_in3 (p := 37) rfl rfl, by decide, rx_in1 (p := 1) rfl rfl, rfl, ⟨(fun n h => by cases h), (fun n h => by cases h; exact ⟨rx_in3 (p := 35) rfl rfl, rx_in3 (p := 36) rfl rfl, by decide +kernel, by decide, by decide, rfl⟩)⟩⟩
set_option maxRecDepth 100000 in
theorem rf_Y85 : rf_P 85 := ⟨by decide +kernel, by decide +kernel, by decide +kernel, rx_in3 (p := 44) rfl rfl, by decide, rx_in1 (p := 1) rfl rfl, rfl, ⟨(fun n h => by cases h), (fun n h => by cases h; exact ⟨rx_in3 (p := 42) rfl rfl, rx_in3 (p := 43) rfl rfl, by decide +kernel, by decide, by decide, rfl⟩)⟩⟩
set_option maxRecDepth 100000 in
theorem rf_Y86 : rf_P 86 := ⟨by decide +kernel, by decide +kernel, by decide +kernel, rx_in3 (p := 52) rfl rfl, by decide, rx_in1 (p := 1) rfl rfl, rfl, ⟨(fun n h => by cases h), (fun n h => by cases h; exact ⟨rx_in3 (p := 50) rfl rfl, rx_in3 (p := 51) rfl rfl, by decide +kernel, by decide, by decide, rfl⟩)⟩⟩
set_option maxRecDepth 100000 in
theorem rf_Y87 : rf_P 87 := ⟨by decide +kernel, by decide +kernel, by decide +kernel, rx_in3 (p := 94) rfl rfl, by decide, rx_in1 (p := 1) rfl rfl, rfl, ⟨(fun n h => by cases h), (fun n h => by cases h; exact ⟨rx_in3 (p := 92) rfl rfl, rx_in3 (p := 93) rfl rfl, by decide +kernel, by decide, by decide, rfl⟩)⟩⟩
set_option maxRecDepth 100000 in
theorem rf_Y88 : rf_P 88 := ⟨by decide +kernel, by decide +kernel, by decide +kernel, rx_in3 (p := 127) rfl rfl, by decide, rx_in1 (p := 1) rfl rfl, rfl, ⟨(fun n h => by cases h), (fun n h => by cases h; exact ⟨rx_in3 (p := 125) rfl rfl, rx_in3 (p := 126) rfl rfl, by decide +kernel, by decide, by decide, rfl⟩)⟩⟩
set_option maxRecDepth 100000 in
theorem rf_Y89 : rf_P 89 := ⟨by decide +kernel, by decide +kernel, by decide +kernel, rx_in3 (p := 139) rfl rfl, by decide, rx_in1 (p := 1) rfl rfl, rfl, ⟨(fun n h => by cases h), (fun n h => by cases h; exact ⟨rx_in3 (p := 137) rfl rfl, rx_in3 (p := 138) rfl rfl, by decide +kernel, by decide, by decide, rfl⟩)⟩⟩
set_option maxRecDepth 100000 in
theorem rf_Y90 : rf_P 90 := ⟨by decide +kernel, by decide +kernel, by decide +kernel, rx_in3 (p := 157) rfl rfl, by decide, rx_in1 (p := 1) rfl rfl, rfl, ⟨(fun n h => by cases h), (fun n h => by cases h; exact ⟨rx_in3 (p := 155) rfl rfl, rx_in3 (p := 156) rfl rfl, by decide +kernel, by decide, by decide, rfl⟩)⟩⟩
set_option maxRecDepth 100000 in
theorem rf_Y91 : rf_P 91 := ⟨by decide +kernel, by decide +kernel, by decide +kernel, rx_in3 (p := 174) rfl rfl, by decide, rx_in1 (p := 1) rfl rfl, rfl, ⟨(fun n h => by cases h), (fun n h => by cases h; exact ⟨rx_in3 (p := 172) rfl rfl, rx_in3 (p := 173) rfl rfl, by decide +kernel, by decide, by decide, rfl⟩)⟩⟩
set_option maxRecDepth 100000 in
theorem rf_Y92 : rf_P 92 := ⟨by decide +kernel, by decide +kernel, by decide +kernel, rx_in3 (p := 178) rfl rfl, by decide, rx_in1 (p := 1) rfl rfl, rfl, ⟨(fun n h => by cases h), (fun n h => by cases h; exact ⟨rx_in3 (p := 176) rfl rfl, rx_in3 (p := 177) rfl rfl, by decide +kernel, by decide, by decide, rfl⟩)⟩⟩
set_option maxRecDepth 100000 in
theorem rf_Y93 : rf_P 93 := ⟨by decide +kernel, by decide +kernel, by decide +kernel, rx_in3 (p := 201) rfl rfl, by decide, rx_in1 (p := 1) rfl rfl, rfl, ⟨(fun n h => by cases h), (fun n h => by cases h; exact ⟨rx_in3 (p := 199) rfl rfl, rx_in3 (p := 200) rfl rfl, by decide +kernel, by decide, by decide, rfl⟩)⟩⟩
set_option maxRecDepth 100000 in
theorem rf_Y94 : rf_P 94 := ⟨by decide +kernel, by decide +kernel, by decide +kernel, rx_in3 (p := 205) rfl rfl, by decide, rx_in1 (p := 1) rfl rfl, rfl, ⟨(fun n h => by cases h), (fun n h => by cases h; exact ⟨rx_in3 (p := 203) rfl rfl, rx_in3 (p := 204) rfl rfl, by decide +kernel, by decide, by decide, rfl⟩)⟩⟩
set_option maxRecDepth 100000 in
theorem rf_Y95 : rf_P 95 := ⟨by decide +kernel, by decide +kernel, by decide +kernel, rx_in3 (p := 209) rfl rfl, by decide, rx_in1 (p := 1) rfl rfl, rfl, ⟨(fun n h => by cases h), (fun n h => by cases h; exact ⟨rx_in3 (p := 207) rfl rfl, rx_in3 (p := 208) rfl rfl, by decide +kernel, by decide, by decide, rfl⟩)⟩⟩
set_option maxRecDepth 100000 in
theorem rf_Y96 : rf_P 96 := ⟨by decide +kernel, by decide +kernel, by decide +kernel, rx_in3 (p := 230) rfl rfl, by decide, rx_in1 (p := 1) rfl rfl, rfl, ⟨(fun n h => by cases h), (fun n h => by cases h; exact ⟨rx_in3 (p := 228) rfl rfl, rx_in3 (p := 229) rfl rfl, by decide +kernel, by decide, by decide, rfl⟩)⟩⟩
set_option maxRecDepth 100000 in
theorem rf_Y97 : rf_P 97 := ⟨by decide +kernel, by decide +kernel, by decide +kernel, rx_in4 (p := 12) rfl rfl, by decide, rx_in1 (p := 1) rfl rfl, rfl, ⟨(fun n h => by cases h), (fun n h => by cases h; exact ⟨rx_in4 (p := 10) rfl rfl, rx_in4 (p := 11) rfl rfl, by decide +kernel, by decide, by decide, rfl⟩)⟩⟩
set_option maxRecDepth 100000 in
theorem rf_Y98 : rf_P 98 := ⟨by decide +kernel, by decide +kernel, by decide +kernel, rx_in4 (p := 16) rfl rfl, by decide, rx_in1 (p := 1) rfl rfl, rfl, ⟨(fun n h => by cases h), (fun n h => by cases h; exact ⟨rx_in4 (p := 14) rfl rfl, rx_in4 (p := 15) rfl rfl, by decide +kernel, by decide, by decide, rfl⟩)⟩⟩
set_option maxRecDepth 100000 in
theorem rf_Y99 : rf_P 99 := ⟨by decide +kernel, by decide +kernel, by decide +kernel, rx_in4 (p := 44) rfl rfl, by decide, rx_in1 (p := 1) rfl rfl, rfl, ⟨(fun n h => by cases h), (fun n h => by cases h; exact ⟨rx_in4 (p := 42) rfl rfl, rx_in4 (p := 43) rfl rfl, by decide +kernel, by decide, by decide, rfl⟩)⟩⟩
set_option maxRecDepth 100000 in
theorem rf_Y100 : rf_P 100 := ⟨by decide +kernel, by decide +kernel, by decide +kernel, rx_in4 (p := 65) rfl rfl, by decide, rx_in1 (p := 1) rfl rfl, rfl, ⟨(fun n h => by cases h), (fun n h => by cases h; exact ⟨rx_in4 (p := 63) rfl rfl, rx_in4 (p := 64) rfl rfl, by decide +kernel, by decide, by decide, rfl⟩)⟩⟩
set_option maxRecDepth 100000 in
theorem rf_Y101 : rf_P 101 := ⟨by decide +kernel, by decide +kernel, by decide +kernel, rx_in4 (p := 69) rfl rfl, by decide, rx_in1 (p := 1) rfl rfl, rfl, ⟨(fun n h => by cases h), (fun n h => by cases h; exact ⟨rx_in4 (p := 67) rfl rfl, rx_in4 (p := 68) rfl rfl, by decide +kernel, by decide, by decide, rfl⟩)⟩⟩
set_option maxRecDepth 100000 in
theorem rf_Y102 : rf_P 102 := ⟨by decide +kernel, by decide +kernel, by decide +kernel, rx_in4 (p := 78) rfl rfl, by decide, rx_in1 (p := 1) rfl rfl, rfl, ⟨(fun n h => by cases h), (fun n h => by cases h; exact ⟨rx_in4 (p := 76) rfl rfl, rx_in4 (p := 77) rfl rfl, by decide +kernel, by decide, by decide, rfl⟩)⟩⟩
set_option maxRecDepth 100000 in
theorem rf_Y103 : rf_P 103 := ⟨by decide +kernel, by decide +kernel, by decide +kernel, rx_in4 (p := 82) rfl rfl, by decide, rx_in1 (p := 1) rfl rfl, rfl, ⟨(fun n h => by cases h), (fun n h => by cases h; exact ⟨rx_in4 (p := 80) rfl rfl, rx_in4 (p := 81) rfl rfl, by decide +kernel, by decide, by decide, rfl⟩)⟩⟩
set_option maxRecDepth 100000 in
theorem rf_Y104 : rf_P 104 := ⟨by decide +kernel, by decide +kernel, by decide +kernel, rx_in4 (p := 197) rfl rfl, by decide, rx_in1 (p := 1) rfl rfl, rfl, ⟨(fun n h => by cases h), (fun n h => by cases h; exact ⟨rx_in4 (p := 195) rfl rfl, rx_in4 (p := 196) rfl rfl, by decide +kernel, by decide, by decide, rfl⟩)⟩⟩
set_option maxRecDepth 100000 in
theorem rf_Y105 : rf_P 105 := ⟨by decide +kernel, by decide +kernel, by decide +kernel, rx_in4 (p := 201) rfl rfl, by decide, rx_in1 (p := 1) rfl rfl, rfl, ⟨(fun n h => by cases h), (fun n h => by cases h; exact ⟨rx_in4 (p := 199) rfl rfl, rx_in4 (p := 200) rfl rfl, by decide +kernel, by decide, by decide, rfl⟩)⟩⟩
set_option maxRecDepth 100000 in
theorem rf_Y106 : rf_P 106 := ⟨by decide +kernel, by decide +kernel, by decide +kernel, rx_in4 (p := 206) rfl rfl, by decide, rx_in1 (p := 1) rfl rfl, rfl, ⟨(fun n h => by cases h), (fun n h => by cases h; exact ⟨rx_in4 (p := 204) rfl rfl, rx_in4 (p := 205) rfl rfl, by decide +kernel, by decide, by decide, rfl⟩)⟩⟩
set_option maxRecDepth 100000 in
theorem rf_Y107 : rf_P 107 := ⟨by decide +kernel, by decide +kernel, by decide +kernel, rx_in4 (p := 215) rfl rfl, by decide, rx_in1 (p := 1) rfl rfl, rfl, ⟨(fun n h => by cases h), (fun n h => by cases h; exact ⟨rx_in4 (p := 213) rfl rfl, rx_in4 (p := 214) rfl rfl, by decide +kernel, by decide, by decide, rfl⟩)⟩⟩
set_option maxRecDepth 100000 in
theorem rf_Y108 : rf_P 108 := ⟨by decide +kernel, by decide +kernel, by decide +kernel, rx_in4 (p := 226) rfl rfl, by decide, rx_in1 (p := 1) rfl rfl, rfl, ⟨(fun n h => by cases h), (fun n h => by cases h; exact ⟨rx_in4 (p := 224) rfl rfl, rx_in4 (p := 225) rfl rfl, by decide +kernel, by decide, by decide, rfl⟩)⟩⟩
set_option maxRecDepth 100000 in
theorem rf_Y109 : rf_P 109 := ⟨by decide +kernel, by decide +kernel, by decide +kernel, rx_in4 (p := 230) rfl rfl, by decide, rx_in1 (p := 1) rfl rfl, rfl, ⟨(fun n h => by cases h), (fun n h => by cases h; exact ⟨rx_in4 (p := 228) rfl rfl, rx_in4 (p := 229) rfl rfl, by decide +kernel, by decide, by decide, rfl⟩)⟩⟩
set_option maxRecDepth 100000 in
theorem rf_Y110 : rf_P 110 := ⟨by decide +kernel, by decide +kernel, by decide +kernel, rx_in4 (p := 239) rfl rfl, by decide, rx_in1 (p := 1) rfl rfl, rfl, ⟨(fun n h => by cases h), (fun n h => by cases h; exact ⟨rx_in4 (p := 237) rfl rfl, rx_in4 (p := 238) rfl rfl, by decide +kernel, by decide, by decide, rfl⟩)⟩⟩
set_option maxRecDepth 100000 in
theorem rf_Y111 : rf_P 111 := ⟨by decide +kernel, by decide +kernel, by decide +kernel, rx_in5 (p := 11) rfl rfl, by decide, rx_in1 (p := 1) rfl rfl, rfl, ⟨(fun n h => by cases h), (fun n h => by cases h; exact ⟨rx_in5 (p := 9) rfl rfl, rx_in5 (p := 10) rfl rfl, by decide +kernel, by decide, by decide, rfl⟩)⟩⟩
set_option maxRecDepth 100000 in
theorem rf_Y112 : rf_P 112 := ⟨by decide +kernel, by decide +kernel, by decide +kernel, rx_in5 (p := 21) rfl rfl, by decide, rx_in1 (p := 1) rfl rfl, rfl, ⟨(fun n h => by cases h), (fun n h => by cases h; exact ⟨rx_in5 (p := 19) rfl rfl, rx_in5 (p := 20) rfl rfl, by decide +kernel, by decide, by decide, rfl⟩)⟩⟩
set_option maxRecDepth 100000 in
theorem rf_Y113 : rf_P 113 := ⟨by decide +kernel, by decide +kernel, by decide +kernel, rx_in5 (p := 25) rfl rfl, by decide, rx_in1 (p := 1) rfl rfl, rfl, ⟨(fun n h => by cases h), (fun n h => by cases h; exact ⟨rx_in5 (p := 23) rfl rfl, rx_in5 (p := 24) rfl rfl, by decide +kernel, by decide, by decide, rfl⟩)⟩⟩
set_option maxRecDepth 100000 in
theorem rf_Y114 : rf_P 114 := ⟨by decide +kernel, by decide +kernel, by decide +kernel, rx_in5 (p := 29) rfl rfl, by decide, rx_in1 (p := 1) rfl rfl, rfl, ⟨(fun n h => by cases h), (fun n h => by cases h; exact ⟨rx_in5 (p := 27) rfl rfl, rx_in5 (p := 28) rfl rfl, by decide +kernel, by decide, by decide, rfl⟩)⟩⟩
set_option maxRecDepth 100000 in
theorem rf_Y115 : rf_P 115 := ⟨by decide +kernel, by decide +kernel, by decide +kernel, rx_in5 (p := 33) rfl rfl, by decide, rx_in1 (p := 1) rfl rfl, rfl, ⟨(fun n h => by cases h), (fun n h => by cases h; exact ⟨rx_in5 (p := 31) rfl rfl, rx_in5 (p := 32) rfl rfl, by decide +kernel, by decide, by decide, rfl⟩)⟩⟩
set_option maxRecDepth 100000 in
theorem rf_Y116 : rf_P 116 := ⟨by decide +kernel, by decide +kernel, by decide +kernel, rx_in5 (p := 41) rfl rfl, by decide, rx_in1 (p := 1) rfl rfl, rfl, ⟨(fun n h => by cases h), (fun n h => by cases h; exact ⟨rx_in5 (p := 39) rfl rfl, rx_in5 (p := 40) rfl rfl, by decide +kernel, by decide, by decide, rfl⟩)⟩⟩
set_option maxRecDepth 100000 in
theorem rf_Y117 : rf_P 117 := ⟨by decide +kernel, by decide +kernel, by decide +kernel, rx_in5 (p := 45) rfl rfl, by decide, rx_in1 (p := 1) rfl rfl, rfl, ⟨(fun n h => by cases h), (fun n h => by cases h; exact ⟨rx_in5 (p := 43) rfl rfl, rx_in5 (p := 44) rfl rfl, by decide +kernel, by decide, by decide, rfl⟩)⟩⟩
set_option maxRecDepth 100000 in
theorem rf_Y118 : rf_P 118 := ⟨by decide +kernel, by decide +kernel, by decide +kernel, rx_in5 (p := 49) rfl rfl, by decide, rx_in1 (p := 1) rfl rfl, rfl, ⟨(fun n h => by cases h), (fun n h => by cases h; exact ⟨rx_in5 (p := 47) rfl rfl, rx_in5 (p := 48) rfl rfl, by decide +kernel, by decide, by decide, rfl⟩)⟩⟩
set_option maxRecDepth 100000 in
theorem rf_Y119 : rf_P 119 := ⟨by decide +kernel, by decide +kernel, by decide +kernel, rx_in3 (p := 118) rfl rfl, by decide, rx_in1 (p := 1) rfl rfl, rfl, ⟨(fun n h => by cases h), (fun n h => by cases h; exact ⟨rx_in3 (p := 117) rfl rfl, rx_in0 (p := 7) rfl rfl, by decide +kernel, by decide, by decide, rfl⟩)⟩⟩
set_option maxRecDepth 100000 in
theorem rf_Y120 : rf_P 120 := ⟨by decide +kernel, by decide +kernel, by decide +kernel, rx_in3 (p := 98) rfl rfl, by decide, rx_in1 (p := 1) rfl rfl, rfl, ⟨(fun n h => by cases h), (fun n h => by cases h; exact ⟨rx_in3 (p := 97) rfl rfl, rx_in0 (p := 6) rfl rfl, by decide +kernel, by decide, by decide, rfl⟩)⟩⟩
set_option maxRecDepth 100000 in
theorem rf_Y121 : rf_P 121 := ⟨by decide +kernel, by decide +kernel, by decide +kernel, rx_in5 (p := 37) rfl rfl, by decide, rx_in1 (p := 1) rfl rfl, rfl, ⟨(fun n h => by cases h), (fun n h => by cases h; exact ⟨rx_in5 (p := 36) rfl rfl, rx_in0 (p := 26) rfl rfl, by decide +kernel, by decide, by decide, rfl⟩)⟩⟩
set_option maxRecDepth 100000 in
theorem rf_Y122 : rf_P 122 := ⟨by decide +kernel, by decide +kernel, by decide +kernel, rx_in2 (p := 150) rfl rfl, by decide, rx_in1 (p := 1) rfl rfl, rfl, ⟨(fun n h => by cases h; exact ⟨rx_in2 (p := 149) rfl rfl, by decide +kernel, by decide⟩), (fun n h => by cases h)⟩⟩
set_option maxRecDepth 100000 in
theorem rf_Y123 : rf_P 123 := ⟨by decide +kernel, by decide +kernel, by decide +kernel, rx_in2 (p := 192) rfl rfl, by decide, rx_in1 (p := 1) rfl rfl, rfl, ⟨(fun n h => by cases h; exact ⟨rx_in2 (p := 191) rfl rfl, by decide +kernel, by decide⟩), (fun n h => by cases h)⟩⟩
set_option maxRecDepth 100000 in
theorem rf_Y124 : rf_P 124 := ⟨by decide +kernel, by decide +kernel, by decide +kernel, rx_in3 (p := 40) rfl rfl, by decide, rx_in1 (p := 1) rfl rfl, rfl, ⟨(fun n h => by cases h; exact ⟨rx_in3 (p := 39) rfl rfl, by decide +kernel, by decide⟩), (fun n h => by cases h)⟩⟩
set_option maxRecDepth 100000 in
theorem rf_Y125 : rf_P 125 := ⟨by decide +kernel, by decide +kernel, by decide +kernel, rx_in2 (p := 199) rfl rfl, by decide, rx_in1 (p := 1) rfl rfl, rfl, ⟨(fun n h => by cases h; exact ⟨rx_in2 (p := 198) rfl rfl, by decide +kernel, by decide⟩), (fun n h => by cases h)⟩⟩
set_option maxRecDepth 100000 in
theorem rf_Y126 : rf_P 126 := ⟨by decide +kernel, by decide +kernel, by decide +kernel, rx_in2 (p := 202) rfl rfl, by decide, rx_in1 (p := 1) rfl rfl, rfl, ⟨(fun n h => by cases h; exact ⟨rx_in2 (p := 201) rfl rfl, by decide +kernel, by decide⟩), (fun n h => by cases h)⟩⟩
set_option maxRecDepth 100000 in
theorem rf_Y127 : rf_P 127 := ⟨by decide +kernel, by decide +kernel, by decide +kernel, rx_in3 (p := 181) rfl rfl, by decide, rx_in1 (p := 1) rfl rfl, rfl, ⟨(fun n h => by cases h; exact ⟨rx_in3 (p := 180) rfl rfl, by decide +kernel, by decide⟩), (fun n h => by cases h)⟩⟩
set_option maxRecDepth 100000 in
theorem rf_Y128 : rf_P 128 := ⟨by decide +kernel, by decide +kernel, by decide +kernel, rx_in5 (p := 2) rfl rfl, by decide, rx_in1 (p := 1) rfl rfl, rfl, ⟨(fun n h => by cases h; exact ⟨rx_in5 (p := 1) rfl rfl, by decide +kernel, by decide⟩), (fun n h => by cases h)⟩⟩
set_option maxRecDepth 100000 in
theorem rf_Y129 : rf_P 129 := ⟨by decide +kernel, by decide +kernel, by decide +kernel, rx_in3 (p := 11) rfl rfl, by decide, rx_in1 (p := 1) rfl rfl, rfl, ⟨(fun n h => by cases h; exact ⟨rx_in3 (p := 10) rfl rfl, by decide +kernel, by decide⟩), (fun n h => by cases h)⟩⟩
set_option maxRecDepth 100000 in
theorem rf_Y130 : rf_P 130 := ⟨by decide +kernel, by decide +kernel, by decide +kernel, rx_in3 (p := 26) rfl rfl, by decide, rx_in1 (p := 1) rfl rfl, rfl, ⟨(fun n h => by cases h; exact ⟨rx_in3 (p := 25) rfl rfl, by decide +kernel, by decide⟩), (fun n h => by cases h)⟩⟩
set_option maxRecDepth 100000 in
theorem rf_Y131 : rf_P 131 := ⟨by decide +kernel, by decide +kernel, by decide +kernel, rx_in3 (p := 16) rfl rfl, by decide, rx_in1 (p := 1) rfl rfl, rfl, ⟨(fun n h => by cases h; exact ⟨rx_in3 (p := 15) rfl rfl, by decide +kernel, by decide⟩), (fun n h => by cases h)⟩⟩
set_option maxRecDepth 100000 in
theorem rf_Y132 : rf_P 132 := ⟨by decide +kernel, by decide +kernel, by decide +kernel, rx_in3 (p := 19) rfl rfl, by decide, rx_in1 (p := 1) rfl rfl, rfl, ⟨(fun n h => by cases h; exact ⟨rx_in3 (p := 18) rfl rfl, by decide +kernel, by decide⟩), (fun n h => by cases h)⟩⟩
set_option maxRecDepth 100000 in
theorem rf_Y133 : rf_P 133 := ⟨by decide +kernel, by decide +kernel, by decide +kernel, rx_in5 (p := 215) rfl rfl, by decide, rx_in1 (p := 12) rfl rfl, rfl, ⟨(fun n h => by cases h; exact ⟨rx_in5 (p := 214) rfl rfl, by decide +kernel, by decide⟩), (fun n h => by cases h)⟩⟩
set_option maxRecDepth 100000 in
theorem rf_Y134 : rf_P 134 := ⟨by decide +kernel, by decide +kernel, by decide +kernel, rx_in6 (p := 72) rfl rfl, by decide, rx_in1 (p := 12) rfl rfl, rfl, ⟨(fun n h => by cases h; exact ⟨rx_in6 (p := 71) rfl rfl, by decide +kernel, by decide⟩), (fun n h => by cases h)⟩⟩
set_option maxRecDepth 100000 in
theorem rf_Y135 : rf_P 135 := ⟨by decide +kernel, by decide +kernel, by decide +kernel, rx_in7 (p := 163) rfl rfl, by decide, rx_in1 (p := 12) rfl rfl, rfl, ⟨(fun n h => by cases h; exact ⟨rx_in7 (p := 162) rfl rfl, by decide +kernel, by decide⟩), (fun n h => by cases h)⟩⟩
set_option maxRecDepth 100000 in
theorem rf_Y136 : rf_P 136 := ⟨by decide +kernel, by decide +kernel, by decide +kernel, rx_in6 (p := 2) rfl rfl, by decide, rx_in1 (p := 12) rfl rfl, rfl, ⟨(fun n h => by cases h), (fun n h => by cases h; exact ⟨rx_in6 (p := 1) rfl rfl, rx_in0 (p := 31) rfl rfl, by decide +kernel, by decide, by decide, rfl⟩)⟩⟩
set_option maxRecDepth 100000 in
theorem rf_Y137 : rf_P 137 := ⟨by decide +kernel, by decide +kernel, by decide +kernel, rx_in6 (p := 54) rfl rfl, by decide, rx_in1 (p := 12) rfl rfl, rfl, ⟨(fun n h => by cases h), (fun n h => by cases h; exact ⟨rx_in6 (p := 53) rfl rfl, rx_in0 (p := 40) rfl rfl, by decide +kernel, by decide, by decide, rfl⟩)⟩⟩
set_option maxRecDepth 100000 in
theorem rf_Y138 : rf_P 138 := ⟨by decide +kernel, by decide +kernel, by decide +kernel, rx_in5 (p := 224) rfl rfl, by decide, rx_in1 (p := 12) rfl rfl, rfl, ⟨(fun n h => by cases h), (fun n h => by cases h; exact ⟨rx_in5 (p := 223) rfl rfl, rx_in0 (p := 28) rfl rfl, by decide +kernel, by decide, by decide, rfl⟩)⟩⟩
set_option maxRecDepth 100000 in
theorem rf_Y139 : rf_P 139 := ⟨by decide +kernel, by decide +kernel, by decide +kernel, rx_in5 (p := 228) rfl rfl, by decide, rx_in1 (p := 12) rfl rfl, rfl, ⟨(fun n h => by cases h), (fun n h => by cases h; exact ⟨rx_in5 (p := 227) rfl rfl, rx_in0 (p := 29) rfl rfl, by decide +kernel, by decide, by decide, rfl⟩)⟩⟩
set_option maxRecDepth 100000 in
theorem rf_Y140 : rf_P 140 := ⟨by decide +kernel, by decide +kernel, by decide +kernel, rx_in6 (p := 34) rfl rfl, by decide, rx_in1 (p := 12) rfl rfl, rfl, ⟨(fun n h => by cases h), (fun n h => by cases h; exact ⟨rx_in6 (p := 33) rfl rfl, rx_in0 (p := 37) rfl rfl, by decide +kernel, by decide, by decide, rfl⟩)⟩⟩
set_option maxRecDepth 100000 in
theorem rf_Y141 : rf_P 141 := ⟨by decide +kernel, by decide +kernel, by decide +kernel, rx_in6 (p := 18) rfl rfl, by decide, rx_in1 (p := 12) rfl rfl, rfl, ⟨(fun n h => by cases h), (fun n h => by cases h; exact ⟨rx_in6 (p := 17) rfl rfl, rx_in0 (p := 35) rfl rfl, by decide +kernel, by decide, by decide, rfl⟩)⟩⟩
set_option maxRecDepth 100000 in
theorem rf_Y142 : rf_P 142 := ⟨by decide +kernel, by decide +kernel, by decide +kernel, rx_in6 (p := 14) rfl rfl, by decide, rx_in1 (p := 12) rfl rfl, rfl, ⟨(fun n h => by cases h), (fun n h => by cases h; exact ⟨rx_in6 (p := 13) rfl rfl, rx_in0 (p := 34) rfl rfl, by decide +kernel, by decide, by decide, rfl⟩)⟩⟩
set_option maxRecDepth 100000 in
theorem rf_Y143 : rf_P 143 := ⟨by decide +kernel, by decide +kernel, by decide +kernel, rx_in6 (p := 22) rfl rfl, by decide, rx_in1 (p := 12) rfl rfl, rfl, ⟨(fun n h => by cases h), (fun n h => by cases h; exact ⟨rx_in6 (p := 21) rfl rfl, rx_in0 (p := 36) rfl rfl, by decide +kernel, by decide, by decide, rfl⟩)⟩⟩
set_option maxRecDepth 100000 in
theorem rf_Y144 : rf_P 144 := ⟨by decide +kernel, by decide +kernel, by decide +kernel, rx_in5 (p := 220) rfl rfl, by decide, rx_in1 (p := 12) rfl rfl, rfl, ⟨(fun n h => by cases h), (fun n h => by cases h; exact ⟨rx_in5 (p := 219) rfl rfl, rx_in0 (p := 27) rfl rfl, by decide +kernel, by decide, by decide, rfl⟩)⟩⟩
set_option maxRecDepth 100000 in
theorem rf_Y145 : rf_P 145 := ⟨by decide +kernel, by decide +kernel, by decide +kernel, rx_in5 (p := 212) rfl rfl, by decide, rx_in1 (p := 12) rfl rfl, rfl, ⟨(fun n h => by cases h; exact ⟨rx_in5 (p := 211) rfl rfl, by decide +kernel, by decide⟩), (fun n h => by cases h)⟩⟩
set_option maxRecDepth 100000 in
theorem rf_Y146 : rf_P 146 := ⟨by decide +kernel, by decide +kernel, by decide +kernel, rx_in5 (p := 234) rfl rfl, by decide, rx_in1 (p := 12) rfl rfl, rfl, ⟨(fun n h => by cases h), (fun n h => by cases h; exact ⟨rx_in5 (p := 233) rfl rfl, rx_in0 (p := 30) rfl rfl, by decide +kernel, by decide, by decide, rfl⟩)⟩⟩
set_option maxRecDepth 100000 in
theorem rf_Y147 : rf_P 147 := ⟨by decide +kernel, by decide +kernel, by decide +kernel, rx_in5 (p := 209) rfl rfl, by decide, rx_in1 (p := 12) rfl rfl, rfl, ⟨(fun n h => by cases h), (fun n h => by cases h; exact ⟨rx_in5 (p := 207) rfl rfl, rx_in5 (p := 208) rfl rfl, by decide +kernel, by decide, by decide, rfl⟩)⟩⟩
set_option maxRecDepth 100000 in
theorem rf_Y148 : rf_P 148 := ⟨by decide +kernel, by decide +kernel, by decide +kernel, rx_in6 (p := 6) rfl rfl, by decide, rx_in1 (p := 12) rfl rfl, rfl, ⟨(fun n h => by cases h), (fun n h => by cases h; exact ⟨rx_in6 (p := 5) rfl rfl, rx_in0 (p := 32) rfl rfl, by decide +kernel, by decide, by decide, rfl⟩)⟩⟩
set_option maxRecDepth 100000 in
theorem rf_Y149 : rf_P 149 := ⟨by decide +kernel, by decide +kernel, by decide +kernel, rx_in6 (p := 10) rfl rfl, by decide, rx_in1 (p := 12) rfl rfl, rfl, ⟨(fun n h => by cases h), (fun n h => by cases h; exact ⟨rx_in6 (p := 9) rfl rfl, rx_in0 (p := 33) rfl rfl, by decide +kernel, by decide, by decide, rfl⟩)⟩⟩
set_option maxRecDepth 100000 in
theorem rf_Y150 : rf_P 150 := ⟨by decide +kernel, by decide +kernel, by decide +kernel, rx_in5 (p := 238) rfl rfl, by decide, rx_in1 (p := 12) rfl rfl, rfl, ⟨(fun n h => by cases h), (fun n h => by cases h; exact ⟨rx_in5 (p := 236) rfl rfl, rx_in5 (p := 237) rfl rfl, by decide +kernel, by decide, by decide, rfl⟩)⟩⟩
set_option maxRecDepth 100000 in
theorem rf_Y151 : rf_P 151 := ⟨by decide +kernel, by decide +kernel, by decide +kernel, rx_in6 (p := 26) rfl rfl, by decide, rx_in1 (p := 12) rfl rfl, rfl, ⟨(fun n h => by cases h), (fun n h => by cases h; exact ⟨rx_in6 (p := 24) rfl rfl, rx_in6 (p := 25) rfl rfl, by decide +kernel, by decide, by decide, rfl⟩)⟩⟩
set_option maxRecDepth 100000 in
theorem rf_Y152 : rf_P 152 := ⟨by decide +kernel, by decide +kernel, by decide +kernel, rx_in6 (p := 30) rfl rfl, by decide, rx_in1 (p := 12) rfl rfl, rfl, ⟨(fun n h => by cases h), (fun n h => by cases h; exact ⟨rx_in6 (p := 28) rfl rfl, rx_in6 (p := 29) rfl rfl, by decide +kernel, by decide, by decide, rfl⟩)⟩⟩
set_option maxRecDepth 100000 in
theorem rf_Y153 : rf_P 153 := ⟨by decide +kernel, by decide +kernel, by decide +kernel, rx_in6 (p := 42) rfl rfl, by decide, rx_in1 (p := 12) rfl rfl, rfl, ⟨(fun n h => by cases h), (fun n h => by cases h; exact ⟨rx_in6 (p := 41) rfl rfl, rx_in0 (p := 38) rfl rfl, by decide +kernel, by decide, by decide, rfl⟩)⟩⟩
set_option maxRecDepth 100000 in
theorem rf_Y154 : rf_P 154 := ⟨by decide +kernel, by decide +kernel, by decide +kernel, rx_in6 (p := 46) rfl rfl, by decide, rx_in1 (p := 12) rfl rfl, rfl, ⟨(fun n h => by cases h), (fun n h => by cases h; exact ⟨rx_in6 (p := 45) rfl rfl, rx_in0 (p := 39) rfl rfl, by decide +kernel, by decide, by decide, rfl⟩)⟩⟩
set_option maxRecDepth 100000 in
theorem rf_Y155 : rf_P 155 := ⟨by decide +kernel, by decide +kernel, by decide +kernel, rx_in6 (p := 38) rfl rfl, by decide, rx_in1 (p := 12) rfl rfl, rfl, ⟨(fun n h => by cases h), (fun n h => by cases h; exact ⟨rx_in6 (p := 36) rfl rfl, rx_in6 (p := 37) rfl rfl, by decide +kernel, by decide, by decide, rfl⟩)⟩⟩
set_option maxRecDepth 100000 in
theorem rf_Y156 : rf_P 156 := ⟨by decide +kernel, by decide +kernel, by decide +kernel, rx_in6 (p := 58) rfl rfl, by decide, rx_in1 (p := 12) rfl rfl, rfl, ⟨(fun n h => by cases h), (fun n h => by cases h; exact ⟨rx_in6 (p := 57) rfl rfl, rx_in0 (p := 41) rfl rfl, by decide +kernel, by decide, by decide, rfl⟩)⟩⟩
set_option maxRecDepth 100000 in
theorem rf_Y157 : rf_P 157 := ⟨by decide +kernel, by decide +kernel, by decide +kernel, rx_in6 (p := 75) rfl rfl, by decide, rx_in1 (p := 12) rfl rfl, rfl, ⟨(fun n h => by cases h; exact ⟨rx_in6 (p := 74) rfl rfl, by decide +kernel, by decide⟩), (fun n h => by cases h)⟩⟩
set_option maxRecDepth 100000 in
theorem rf_Y158 : rf_P 158 := ⟨by decide +kernel, by decide +kernel, by decide +kernel, rx_in6 (p := 50) rfl rfl, by decide, rx_in1 (p := 12) rfl rfl, rfl, ⟨(fun n h => by cases h), (fun n h => by cases h; exact ⟨rx_in6 (p := 48) rfl rfl, rx_in6 (p := 49) rfl rfl, by decide +kernel, by decide, by decide, rfl⟩)⟩⟩
set_option maxRecDepth 100000 in
theorem rf_Y159 : rf_P 159 := ⟨by decide +kernel, by decide +kernel, by decide +kernel, rx_in6 (p := 82) rfl rfl, by decide, rx_in1 (p := 12) rfl rfl, rfl, ⟨(fun n h => by cases h; exact ⟨rx_in6 (p := 81) rfl rfl, by decide +kernel, by decide⟩), (fun n h => by cases h)⟩⟩
set_option maxRecDepth 100000 in
theorem rf_Y160 : rf_P 160 := ⟨by decide +kernel, by decide +kernel, by decide +kernel, rx_in6 (p := 79) rfl rfl, by decide, rx_in1 (p := 12) rfl rfl, rfl, ⟨(fun n h => by cases h), (fun n h => by cases h; exact ⟨rx_in6 (p := 77) rfl rfl, rx_in6 (p := 78) rfl rfl, by decide +kernel, by decide, by decide, rfl⟩)⟩⟩
set_option maxRecDepth 100000 in
theorem rf_Y161 : rf_P 161 := ⟨by decide +kernel, by decide +kernel, by decide +kernel, rx_in6 (p := 91) rfl rfl, by decide, rx_in1 (p := 12) rfl rfl, rfl, ⟨(fun n h => by cases h), (fun n h => by cases h; exact ⟨rx_in6 (p := 90) rfl rfl, rx_in0 (p := 44) rfl rfl, by decide +kernel, by decide, by decide, rfl⟩)⟩⟩
set_option maxRecDepth 100000 in
theorem rf_Y162 : rf_P 162 := ⟨by decide +kernel, by decide +kernel, by decide +kernel, rx_in6 (p := 87) rfl rfl, by decide, rx_in1 (p := 12) rfl rfl, rfl, ⟨(fun n h => by cases h), (fun n h => by cases h; exact ⟨rx_in6 (p := 85) rfl rfl, rx_in6 (p := 86) rfl rfl, by decide +kernel, by decide, by decide, rfl⟩)⟩⟩
set_option maxRecDepth 100000 in
theorem rf_Y163 : rf_P 163 := ⟨by decide +kernel, by decide +kernel, by decide +kernel, rx_in6 (p := 95) rfl rfl, by decide, rx_in1 (p := 12) rfl rfl, rfl, ⟨(fun n h => by cases h), (fun n h => by cases h; exact ⟨rx_in6 (p := 93) rfl rfl, rx_in6 (p := 94) rfl rfl, by decide +kernel, by decide, by decide, rfl⟩)⟩⟩
set_option maxRecDepth 100000 in
theorem rf_Y164 : rf_P 164 := ⟨by decide +kernel, by decide +kernel, by decide +kernel, rx_in6 (p := 99) rfl rfl, by decide, rx_in1 (p := 12) rfl rfl, rfl, ⟨(fun n h => by cases h), (fun n h => by cases h; exact ⟨rx_in6 (p := 97) rfl rfl, rx_in6 (p := 98) rfl rfl, by decide +kernel, by decide, by decide, rfl⟩)⟩⟩
set_option maxRecDepth 100000 in
theorem rf_Y165 : rf_P 165 := ⟨by decide +kernel, by decide +kernel, by decide +kernel, rx_in6 (p := 111) rfl rfl, by decide, rx_in1 (p := 12) rfl rfl, rfl, ⟨(fun n h => by cases h), (fun n h => by cases h; exact ⟨rx_in6 (p := 110) rfl rfl, rx_in0 (p := 46) rfl rfl, by decide +kernel, by decide, by decide, rfl⟩)⟩⟩
set_option maxRecDepth 100000 in
theorem rf_Y166 : rf_P 166 := ⟨by decide +kernel, by decide +kernel, by decide +kernel, rx_in6 (p := 132) rfl rfl, by decide, rx_in1 (p := 12) rfl rfl, rfl, ⟨(fun n h => by cases h), (fun n h => by cases h; exact ⟨rx_in6 (p := 131) rfl rfl, rx_in0 (p := 49) rfl rfl, by decide +kernel, by decide, by decide, rfl⟩)⟩⟩
set_option maxRecDepth 100000 in
theorem rf_Y167 : rf_P 167 := ⟨by decide +kernel, by decide +kernel, by decide +kernel, rx_in6 (p := 118) rfl rfl, by decide, rx_in1 (p := 12) rfl rfl, rfl, ⟨(fun n h => by cases h; exact ⟨rx_in6 (p := 117) rfl rfl, by decide +kernel, by decide⟩), (fun n h => by cases h)⟩⟩
set_option maxRecDepth 100000 in
theorem rf_Y168 : rf_P 168 := ⟨by decide +kernel, by decide +kernel, by decide +kernel, rx_in6 (p := 122) rfl rfl, by decide, rx_in1 (p := 12) rfl rfl, rfl, ⟨(fun n h => by cases h), (fun n h => by cases h; exact ⟨rx_in6 (p := 121) rfl rfl, rx_in0 (p := 48) rfl rfl, by decide +kernel, by decide, by decide, rfl⟩)⟩⟩
set_option maxRecDepth 100000 in
theorem rf_Y169 : rf_P 169 := ⟨by decide +kernel, by decide +kernel, by decide +kernel, rx_in6 (p := 115) rfl rfl, by decide, rx_in1 (p := 12) rfl rfl, rfl, ⟨(fun n h => by cases h), (fun n h => by cases h; exact ⟨rx_in6 (p := 114) rfl rfl, rx_in0 (p := 47) rfl rfl, by decide +kernel, by decide, by decide, rfl⟩)⟩⟩
set_option maxRecDepth 100000 in
theorem rf_Y170 : rf_P 170 := ⟨by decide +kernel, by decide +kernel, by decide +kernel, rx_in6 (p := 107) rfl rfl, by decide, rx_in1 (p := 12) rfl rfl, rfl, ⟨(fun n h => by cases h), (fun n h => by cases h; exact ⟨rx_in6 (p := 106) rfl rfl, rx_in0 (p := 45) rfl rfl, by decide +kernel, by decide, by decide, rfl⟩)⟩⟩
set_option maxRecDepth 100000 in
theorem rf_Y171 : rf_P 171 := ⟨by decide +kernel, by decide +kernel, by decide +kernel, rx_in6 (p := 103) rfl rfl, by decide, rx_in1 (p := 12) rfl rfl, rfl, ⟨(fun n h => by cases h), (fun n h => by cases h; exact ⟨rx_in6 (p := 101) rfl rfl, rx_in6 (p := 102) rfl rfl, by decide +kernel, by decide, by decide, rfl⟩)⟩⟩
set_option maxRecDepth 100000 in
theorem rf_Y172 : rf_P 172 := ⟨by decide +kernel, by decide +kernel, by decide +kernel, rx_in6 (p := 136) rfl rfl, by decide, rx_in1 (p := 12) rfl rfl, rfl, ⟨(fun n h => by cases h), (fun n h => by cases h; exact ⟨rx_in6 (p := 135) rfl rfl, rx_in0 (p := 50) rfl rfl, by decide +kernel, by decide, by decide, rfl⟩)⟩⟩
set_option maxRecDepth 100000 in
theorem rf_Y173 : rf_P 173 := ⟨by decide +kernel, by decide +kernel, by decide +kernel, rx_in6 (p := 128) rfl rfl, by decide, rx_in1 (p := 12) rfl rfl, rfl, ⟨(fun n h => by cases h), (fun n h => by cases h; exact ⟨rx_in6 (p := 126) rfl rfl, rx_in6 (p := 127) rfl rfl, by decide +kernel, by decide, by decide, rfl⟩)⟩⟩
set_option maxRecDepth 100000 in
theorem rf_Y174 : rf_P 174 := ⟨by decide +kernel, by decide +kernel, by decide +kernel, rx_in6 (p := 145) rfl rfl, by decide, rx_in1 (p := 12) rfl rfl, rfl, ⟨(fun n h => by cases h), (fun n h => by cases h; exact ⟨rx_in6 (p := 144) rfl rfl, rx_in0 (p := 51) rfl rfl, by decide +kernel, by decide, by decide, rfl⟩)⟩⟩
set_option maxRecDepth 100000 in
theorem rf_Y175 : rf_P 175 := ⟨by decide +kernel, by decide +kernel, by decide +kernel, rx_in6 (p := 141) rfl rfl, by decide, rx_in1 (p := 12) rfl rfl, rfl, ⟨(fun n h => by cases h), (fun n h => by cases h; exact ⟨rx_in6 (p := 139) rfl rfl, rx_in6 (p := 140) rfl rfl, by decide +kernel, by decide, by decide, rfl⟩)⟩⟩
set_option maxRecDepth 100000 in
theorem rf_Y176 : rf_P 176 := ⟨by decide +kernel, by decide +kernel, by decide +kernel, rx_in6 (p := 157) rfl rfl, by decide, rx_in1 (p := 12) rfl rfl, rfl, ⟨(fun n h => by cases h), (fun n h => by cases h; exact ⟨rx_in6 (p := 156) rfl rfl, rx_in0 (p := 53) rfl rfl, by decide +kernel, by decide, by decide, rfl⟩)⟩⟩
set_option maxRecDepth 100000 in
theorem rf_Y177 : rf_P 177 := ⟨by decide +kernel, by decide +kernel, by decide +kernel, rx_in6 (p := 153) rfl rfl, by decide, rx_in1 (p := 12) rfl rfl, rfl, ⟨(fun n h => by cases h), (fun n h => by cases h; exact ⟨rx_in6 (p := 152) rfl rfl, rx_in0 (p := 52) rfl rfl, by decide +kernel, by decide, by decide, rfl⟩)⟩⟩
set_option maxRecDepth 100000 in
theorem rf_Y178 : rf_P 178 := ⟨by decide +kernel, by decide +kernel, by decide +kernel, rx_in6 (p := 149) rfl rfl, by decide, rx_in1 (p := 12) rfl rfl, rfl, ⟨(fun n h => by cases h), (fun n h => by cases h; exact ⟨rx_in6 (p := 147) rfl rfl, rx_in6 (p := 148) rfl rfl, by decide +kernel, by decide, by decide, rfl⟩)⟩⟩
set_option maxRecDepth 100000 in
theorem rf_Y179 : rf_P 179 := ⟨by decide +kernel, by decide +kernel, by decide +kernel, rx_in6 (p := 169) rfl rfl, by decide, rx_in1 (p := 12) rfl rfl, rfl, ⟨(fun n h => by cases h), (fun n h => by cases h; exact ⟨rx_in6 (p := 168) rfl rfl, rx_in0 (p := 55) rfl rfl, by decide +kernel, by decide, by decide, rfl⟩)⟩⟩
set_option maxRecDepth 100000 in
theorem rf_Y180 : rf_P 180 := ⟨by decide +kernel, by decide +kernel, by decide +kernel, rx_in6 (p := 165) rfl rfl, by decide, rx_in1 (p := 12) rfl rfl, rfl, ⟨(fun n h => by cases h), (fun n h => by cases h; exact ⟨rx_in6 (p := 164) rfl rfl, rx_in0 (p := 54) rfl rfl, by decide +kernel, by decide, by decide, rfl⟩)⟩⟩
set_option maxRecDepth 100000 in
theorem rf_Y181 : rf_P 181 := ⟨by decide +kernel, by decide +kernel, by decide +kernel, rx_in6 (p := 161) rfl rfl, by decide, rx_in1 (p := 12) rfl rfl, rfl, ⟨(fun n h => by cases h), (fun n h => by cases h; exact ⟨rx_in6 (p := 159) rfl rfl, rx_in6 (p := 160) rfl rfl, by decide +kernel, by decide, by decide, rfl⟩)⟩⟩
set_option maxRecDepth 100000 in
theorem rf_Y182 : rf_P 182 := ⟨by decide +kernel, by decide +kernel, by decide +kernel, rx_in6 (p := 173) rfl rfl, by decide, rx_in1 (p := 12) rfl rfl, rfl, ⟨(fun n h => by cases h), (fun n h => by cases h; exact ⟨rx_in6 (p := 171) rfl rfl, rx_in6 (p := 172) rfl rfl, by decide +kernel, by decide, by decide, rfl⟩)⟩⟩
set_option maxRecDepth 100000 in
theorem rf_Y183 : rf_P 183 := ⟨by decide +kernel, by decide +kernel, by decide +kernel, rx_in6 (p := 177) rfl rfl, by decide, rx_in1 (p := 12) rfl rfl, rfl, ⟨(fun n h => by cases h), (fun n h => by cases h; exact ⟨rx_in6 (p := 175) rfl rfl, rx_in6 (p := 176) rfl rfl, by decide +kernel, by decide, by decide, rfl⟩)⟩⟩
set_option maxRecDepth 100000 in
theorem rf_Y184 : rf_P 184 := ⟨by decide +kernel, by decide +kernel, by decide +kernel, rx_in6 (p := 186) rfl rfl, by decide, rx_in1 (p := 12) rfl rfl, rfl, ⟨(fun n h => by cases h), (fun n h => by cases h; exact ⟨rx_in6 (p := 184) rfl rfl, rx_in6 (p := 185) rfl rfl, by decide +kernel, by decide, by decide, rfl⟩)⟩⟩
set_option maxRecDepth 100000 in
theorem rf_Y185 : rf_P 185 := ⟨by decide +kernel, by decide +kernel, by decide +kernel, rx_in6 (p := 194) rfl rfl, by decide, rx_in1 (p := 12) rfl rfl, rfl, ⟨(fun n h => by cases h), (fun n h => by cases h; exact ⟨rx_in6 (p := 193) rfl rfl, rx_in0 (p := 56) rfl rfl, by decide +kernel, by decide, by decide, rfl⟩)⟩⟩
set_option maxRecDepth 100000 in
theorem rf_Y186 : rf_P 186 := ⟨by decide +kernel, by decide +kernel, by decide +kernel, rx_in6 (p := 202) rfl rfl, by decide, rx_in1 (p := 12) rfl rfl, rfl, ⟨(fun n h => by cases h), (fun n h => by cases h; exact ⟨rx_in6 (p := 201) rfl rfl, rx_in0 (p := 58) rfl rfl, by decide +kernel, by decide, by decide, rfl⟩)⟩⟩
set_option maxRecDepth 100000 in
theorem rf_Y187 : rf_P 187 := ⟨by decide +kernel, by decide +kernel, by decide +kernel, rx_in6 (p := 198) rfl rfl, by decide, rx_in1 (p := 12) rfl rfl, rfl, ⟨(fun n h => by cases h), (fun n h => by cases h; exact ⟨rx_in6 (p := 197) rfl rfl, rx_in0 (p := 57) rfl rfl, by decide +kernel, by decide, by decide, rfl⟩)⟩⟩
set_option maxRecDepth 100000 in
theorem rf_Y188 : rf_P 188 := ⟨by decide +kernel, by decide +kernel, by decide +kernel, rx_in6 (p := 190) rfl rfl, by decide, rx_in1 (p := 12) rfl rfl, rfl, ⟨(fun n h => by cases h), (fun n h => by cases h; exact ⟨rx_in6 (p := 188) rfl rfl, rx_in6 (p := 189) rfl rfl, by decide +kernel, by decide, by decide, rfl⟩)⟩⟩
set_option maxRecDepth 100000 in
theorem rf_Y189 : rf_P 189 := ⟨by decide +kernel, by decide +kernel, by decide +kernel, rx_in6 (p := 210) rfl rfl, by decide, rx_in1 (p := 12) rfl rfl, rfl, ⟨(fun n h => by cases h), (fun n h => by cases h; exact ⟨rx_in6 (p := 209) rfl rfl, rx_in0 (p := 59) rfl rfl, by decide +kernel, by decide, by decide, rfl⟩)⟩⟩
set_option maxRecDepth 100000 in
theorem rf_Y190 : rf_P 190 := ⟨by decide +kernel, by decide +kernel, by decide +kernel, rx_in6 (p := 218) rfl rfl, by decide, rx_in1 (p := 12) rfl rfl, rfl, ⟨(fun n h => by cases h), (fun n h => by cases h; exact ⟨rx_in6 (p := 217) rfl rfl, rx_in0 (p := 61) rfl rfl, by decide +kernel, by decide, by decide, rfl⟩)⟩⟩
set_option maxRecDepth 100000 in
theorem rf_Y191 : rf_P 191 := ⟨by decide +kernel, by decide +kernel, by decide +kernel, rx_in6 (p := 214) rfl rfl, by decide, rx_in1 (p := 12) rfl rfl, rfl, ⟨(fun n h => by cases h), (fun n h => by cases h; exact ⟨rx_in6 (p := 213) rfl rfl, rx_in0 (p := 60) rfl rfl, by decide +kernel, by decide, by decide, rfl⟩)⟩⟩
set_option maxRecDepth 100000 in
theorem rf_Y192 : rf_P 192 := ⟨by decide +kernel, by decide +kernel, by decide +kernel, rx_in6 (p := 230) rfl rfl, by decide, rx_in1 (p := 12) rfl rfl, rfl, ⟨(fun n h => by cases h), (fun n h => by cases h; exact ⟨rx_in6 (p := 229) rfl rfl, rx_in0 (p := 64) rfl rfl, by decide +kernel, by decide, by decide, rfl⟩)⟩⟩
set_option maxRecDepth 100000 in
theorem rf_Y193 : rf_P 193 := ⟨by decide +kernel, by decide +kernel, by decide +kernel, rx_in6 (p := 226) rfl rfl, by decide, rx_in1 (p := 12) rfl rfl, rfl, ⟨(fun n h => by cases h), (fun n h => by cases h; exact ⟨rx_in6 (p := 225) rfl rfl, rx_in0 (p := 63) rfl rfl, by decide +kernel, by decide, by decide, rfl⟩)⟩⟩
set_option maxRecDepth 100000 in
theorem rf_Y194 : rf_P 194 := ⟨by decide +kernel, by decide +kernel, by decide +kernel, rx_in6 (p := 222) rfl rfl, by decide, rx_in1 (p := 12) rfl rfl, rfl, ⟨(fun n h => by cases h), (fun n h => by cases h; exact ⟨rx_in6 (p := 221) rfl rfl, rx_in0 (p := 62) rfl rfl, by decide +kernel, by decide, by decide, rfl⟩)⟩⟩
set_option maxRecDepth 100000 in
theorem rf_Y195 : rf_P 195 := ⟨by decide +kernel, by decide +kernel, by decide +kernel, rx_in6 (p := 206) rfl rfl, by decide, rx_in1 (p := 12) rfl rfl, rfl, ⟨(fun n h => by cases h), (fun n h => by cases h; exact ⟨rx_in6 (p := 204) rfl rfl, rx_in6 (p := 205) rfl rfl, by decide +kernel, by decide, by decide, rfl⟩)⟩⟩
set_option maxRecDepth 100000 in
theorem rf_Y196 : rf_P 196 := ⟨by decide +kernel, by decide +kernel, by decide +kernel, rx_in7 (p := 2) rfl rfl, by decide, rx_in1 (p := 12) rfl rfl, rfl, ⟨(fun n h => by cases h), (fun n h => by cases h; exact ⟨rx_in7 (p := 1) rfl rfl, rx_in0 (p := 66) rfl rfl, by decide +kernel, by decide, by decide, rfl⟩)⟩⟩
set_option maxRecDepth 100000 in
theorem rf_Y197 : rf_P 197 := ⟨by decide +kernel, by decide +kernel, by decide +kernel, rx_in6 (p := 238) rfl rfl, by decide, rx_in1 (p := 12) rfl rfl, rfl, ⟨(fun n h => by cases h), (fun n h => by cases h; exact ⟨rx_in6 (p := 237) rfl rfl, rx_in0 (p := 65) rfl rfl, by decide +kernel, by decide, by decide, rfl⟩)⟩⟩
set_option maxRecDepth 100000 in
theorem rf_Y198 : rf_P 198 := ⟨by decide +kernel, by decide +kernel, by decide +kernel, rx_in6 (p := 234) rfl rfl, by decide, rx_in1 (p := 12) rfl rfl, rfl, ⟨(fun n h => by cases h), (fun n h => by cases h; exact ⟨rx_in6 (p := 232) rfl rfl, rx_in6 (p := 233) rfl rfl, by decide +kernel, by decide, by decide, rfl⟩)⟩⟩
set_option maxRecDepth 100000 in
theorem rf_Y199 : rf_P 199 := ⟨by decide +kernel, by decide +kernel, by decide +kernel, rx_in7 (p := 14) rfl rfl, by decide, rx_in1 (p := 12) rfl rfl, rfl, ⟨(fun n h => by cases h), (fun n h => by cases h; exact ⟨rx_in7 (p := 13) rfl rfl, rx_in0 (p := 68) rfl rfl, by decide +kernel, by decide, by decide, rfl⟩)⟩⟩
set_option maxRecDepth 100000 in
theorem rf_Y200 : rf_P 200 := ⟨by decide +kernel, by decide +kernel, by decide +kernel, rx_in7 (p := 18) rfl rfl, by decide, rx_in1 (p := 12) rfl rfl, rfl, ⟨(fun n h => by cases h), (fun n h => by cases h; exact ⟨rx_in7 (p := 17) rfl rfl, rx_in0 (p := 69) rfl rfl, by decide +kernel, by decide, by decide, rfl⟩)⟩⟩
set_option maxRecDepth 100000 in
theorem rf_Y201 : rf_P 201 := ⟨by decide +kernel, by decide +kernel, by decide +kernel, rx_in7 (p := 10) rfl rfl, by decide, rx_in1 (p := 12) rfl rfl, rfl, ⟨(fun n h => by cases h), (fun n h => by cases h; exact ⟨rx_in7 (p := 9) rfl rfl, rx_in0 (p := 67) rfl rfl, by decide +kernel, by decide, by decide, rfl⟩)⟩⟩
set_option maxRecDepth 100000 in
theorem rf_Y202 : rf_P 202 := ⟨by decide +kernel, by decide +kernel, by decide +kernel, rx_in7 (p := 6) rfl rfl, by decide, rx_in1 (p := 12) rfl rfl, rfl, ⟨(fun n h => by cases h), (fun n h => by cases h; exact ⟨rx_in7 (p := 4) rfl rfl, rx_in7 (p := 5) rfl rfl, by decide +kernel, by decide, by decide, rfl⟩)⟩⟩
set_option maxRecDepth 100000 in
theorem rf_Y203 : rf_P 203 := ⟨by decide +kernel, by decide +kernel, by decide +kernel, rx_in7 (p := 26) rfl rfl, by decide, rx_in1 (p := 12) rfl rfl, rfl, ⟨(fun n h => by cases h), (fun n h => by cases h; exact ⟨rx_in7 (p := 25) rfl rfl, rx_in0 (p := 70) rfl rfl, by decide +kernel, by decide, by decide, rfl⟩)⟩⟩
set_option maxRecDepth 100000 in
theorem rf_Y204 : rf_P 204 := ⟨by decide +kernel, by decide +kernel, by decide +kernel, rx_in7 (p := 30) rfl rfl, by decide, rx_in1 (p := 12) rfl rfl, rfl, ⟨(fun n h => by cases h), (fun n h => by cases h; exact ⟨rx_in7 (p := 29) rfl rfl, rx_in0 (p := 71) rfl rfl, by decide +kernel, by decide, by decide, rfl⟩)⟩⟩
set_option maxRecDepth 100000 in
theorem rf_Y205 : rf_P 205 := ⟨by decide +kernel, by decide +kernel, by decide +kernel, rx_in7 (p := 22) rfl rfl, by decide, rx_in1 (p := 12) rfl rfl, rfl, ⟨(fun n h => by cases h), (fun n h => by cases h; exact ⟨rx_in7 (p := 20) rfl rfl, rx_in7 (p := 21) rfl rfl, by decide +kernel, by decide, by decide, rfl⟩)⟩⟩
set_option maxRecDepth 100000 in
theorem rf_Y206 : rf_P 206 := ⟨by decide +kernel, by decide +kernel, by decide +kernel, rx_in7 (p := 42) rfl rfl, by decide, rx_in1 (p := 12) rfl rfl, rfl, ⟨(fun n h => by cases h), (fun n h => by cases h; exact ⟨rx_in7 (p := 41) rfl rfl, rx_in0 (p := 73) rfl rfl, by decide +kernel, by decide, by decide, rfl⟩)⟩⟩
set_option maxRecDepth 100000 in
theorem rf_Y207 : rf_P 207 := ⟨by decide +kernel, by decide +kernel, by decide +kernel, rx_in7 (p := 38) rfl rfl, by decide, rx_in1 (p := 12) rfl rfl, rfl, ⟨(fun n h => by cases h), (fun n h => by cases h; exact ⟨rx_in7 (p := 37) rfl rfl, rx_in0 (p := 72) rfl rfl, by decide +kernel, by decide, by decide, rfl⟩)⟩⟩
set_option maxRecDepth 100000 in
theorem rf_Y208 : rf_P 208 := ⟨by decide +kernel, by decide +kernel, by decide +kernel, rx_in7 (p := 47) rfl rfl, by decide, rx_in1 (p := 12) rfl rfl, rfl, ⟨(fun n h => by cases h), (fun n h => by cases h; exact ⟨rx_in7 (p := 46) rfl rfl, rx_in0 (p := 74) rfl rfl, by decide +kernel, by decide, by decide, rfl⟩)⟩⟩
set_option maxRecDepth 100000 in
theorem rf_Y209 : rf_P 209 := ⟨by decide +kernel, by decide +kernel, by decide +kernel, rx_in7 (p := 34) rfl rfl, by decide, rx_in1 (p := 12) rfl rfl, rfl, ⟨(fun n h => by cases h), (fun n h => by cases h; exact ⟨rx_in7 (p := 32) rfl rfl, rx_in7 (p := 33) rfl rfl, by decide +kernel, by decide, by decide, rfl⟩)⟩⟩
set_option maxRecDepth 100000 in
theorem rf_Y210 : rf_P 210 := ⟨by decide +kernel, by decide +kernel, by decide +kernel, rx_in7 (p := 51) rfl rfl, by decide, rx_in1 (p := 12) rfl rfl, rfl, ⟨(fun n h => by cases h), (fun n h => by cases h; exact ⟨rx_in7 (p := 49) rfl rfl, rx_in7 (p := 50) rfl rfl, by decide +kernel, by decide, by decide, rfl⟩)⟩⟩
set_option maxRecDepth 100000 in
theorem rf_Y211 : rf_P 211 := ⟨by decide +kernel, by decide +kernel, by decide +kernel, rx_in7 (p := 55) rfl rfl, by decide, rx_in1 (p := 12) rfl rfl, rfl, ⟨(fun n h => by cases h), (fun n h => by cases h; exact ⟨rx_in7 (p := 53) rfl rfl, rx_in7 (p := 54) rfl rfl, by decide +kernel, by decide, by decide, rfl⟩)⟩⟩
set_option maxRecDepth 100000 in
theorem rf_Y212 : rf_P 212 := ⟨by decide +kernel, by decide +kernel, by decide +kernel, rx_in7 (p := 59) rfl rfl, by decide, rx_in1 (p := 12) rfl rfl, rfl, ⟨(fun n h => by cases h), (fun n h => by cases h; exact ⟨rx_in7 (p := 57) rfl rfl, rx_in7 (p := 58) rfl rfl, by decide +kernel, by decide, by decide, rfl⟩)⟩⟩
set_option maxRecDepth 100000 in
theorem rf_Y213 : rf_P 213 := ⟨by decide +kernel, by decide +kernel, by decide +kernel, rx_in7 (p := 71) rfl rfl, by decide, rx_in1 (p := 12) rfl rfl, rfl, ⟨(fun n h => by cases h), (fun n h => by cases h; exact ⟨rx_in7 (p := 70) rfl rfl, rx_in0 (p := 76) rfl rfl, by decide +kernel, by decide, by decide, rfl⟩)⟩⟩
set_option maxRecDepth 100000 in
theorem rf_Y214 : rf_P 214 := ⟨by decide +kernel, by decide +kernel, by decide +kernel, rx_in7 (p := 75) rfl rfl, by decide, rx_in1 (p := 12) rfl rfl, rfl, ⟨(fun n h => by cases h), (fun n h => by cases h; exact ⟨rx_in7 (p := 74) rfl rfl, rx_in0 (p := 77) rfl rfl, by decide +kernel, by decide, by decide, rfl⟩)⟩⟩
set_option maxRecDepth 100000 in
theorem rf_Y215 : rf_P 215 := ⟨by decide +kernel, by decide +kernel, by decide +kernel, rx_in7 (p := 67) rfl rfl, by decide, rx_in1 (p := 12) rfl rfl, rfl, ⟨(fun n h => by cases h), (fun n h => by cases h; exact ⟨rx_in7 (p := 66) rfl rfl, rx_in0 (p := 75) rfl rfl, by decide +kernel, by decide, by decide, rfl⟩)⟩⟩
set_option maxRecDepth 100000 in
theorem rf_Y216 : rf_P 216 := ⟨by decide +kernel, by decide +kernel, by decide +kernel, rx_in7 (p := 79) rfl rfl, by decide, rx_in1 (p := 12) rfl rfl, rfl, ⟨(fun n h => by cases h), (fun n h => by cases h; exact ⟨rx_in7 (p := 78) rfl rfl, rx_in0 (p := 78) rfl rfl, by decide +kernel, by decide, by decide, rfl⟩)⟩⟩
set_option maxRecDepth 100000 in
theorem rf_Y217 : rf_P 217 := ⟨by decide +kernel, by decide +kernel, by decide +kernel, rx_in7 (p := 91) rfl rfl, by decide, rx_in1 (p := 12) rfl rfl, rfl, ⟨(fun n h => by cases h), (fun n h => by cases h; exact ⟨rx_in7 (p := 90) rfl rfl, rx_in0 (p := 81) rfl rfl, by decide +kernel, by decide, by decide, rfl⟩)⟩⟩
set_option maxRecDepth 100000 in
theorem rf_Y218 : rf_P 218 := ⟨by decide +kernel, by decide +kernel, by decide +kernel, rx_in7 (p := 98) rfl rfl, by decide, rx_in1 (p := 12) rfl rfl, rfl, ⟨(fun n h => by cases h; exact ⟨rx_in7 (p := 97) rfl rfl, by decide +kernel, by decide⟩), (fun n h => by cases h)⟩⟩
set_option maxRecDepth 100000 in
theorem rf_Y219 : rf_P 219 := ⟨by decide +kernel, by decide +kernel, by decide +kernel, rx_in7 (p := 95) rfl rfl, by decide, rx_in1 (p := 12) rfl rfl, rfl, ⟨(fun n h => by cases h), (fun n h => by cases h; exact ⟨rx_in7 (p := 94) rfl rfl, rx_in0 (p := 82) rfl rfl, by decide +kernel, by decide, by decide, rfl⟩)⟩⟩
set_option maxRecDepth 100000 in
theorem rf_Y220 : rf_P 220 := ⟨by decide +kernel, by decide +kernel, by decide +kernel, rx_in7 (p := 106) rfl rfl, by decide, rx_in1 (p := 12) rfl rfl, rfl, ⟨(fun n h => by cases h), (fun n h => by cases h; exact ⟨rx_in7 (p := 105) rfl rfl, rx_in0 (p := 84) rfl rfl, by decide +kernel, by decide, by decide, rfl⟩)⟩⟩
set_option maxRecDepth 100000 in
theorem rf_Y221 : rf_P 221 := ⟨by decide +kernel, by decide +kernel, by decide +kernel, rx_in7 (p := 87) rfl rfl, by decide, rx_in1 (p := 12) rfl rfl, rfl, ⟨(fun n h => by cases h), (fun n h => by cases h; exact ⟨rx_in7 (p := 86) rfl rfl, rx_in0 (p := 80) rfl rfl, by decide +kernel, by decide, by decide, rfl⟩)⟩⟩
set_option maxRecDepth 100000 in
theorem rf_Y222 : rf_P 222 := ⟨by decide +kernel, by decide +kernel, by decide +kernel, rx_in7 (p := 83) rfl rfl, by decide, rx_in1 (p := 12) rfl rfl, rfl, ⟨(fun n h => by cases h), (fun n h => by cases h; exact ⟨rx_in7 (p := 82) rfl rfl, rx_in0 (p := 79) rfl rfl, by decide +kernel, by decide, by decide, rfl⟩)⟩⟩
set_option maxRecDepth 100000 in
theorem rf_Y223 : rf_P 223 := ⟨by decide +kernel, by decide +kernel, by decide +kernel, rx_in7 (p := 102) rfl rfl, by decide, rx_in1 (p := 12) rfl rfl, rfl, ⟨(fun n h => by cases h), (fun n h => by cases h; exact ⟨rx_in7 (p := 101) rfl rfl, rx_in0 (p := 83) rfl rfl, by decide +kernel, by decide, by decide, rfl⟩)⟩⟩
set_option maxRecDepth 100000 in
theorem rf_Y224 : rf_P 224 := ⟨by decide +kernel, by decide +kernel, by decide +kernel, rx_in7 (p := 63) rfl rfl, by decide, rx_in1 (p := 12) rfl rfl, rfl, ⟨(fun n h => by cases h), (fun n h => by cases h; exact ⟨rx_in7 (p := 61) rfl rfl, rx_in7 (p := 62) rfl rfl, by decide +kernel, by decide, by decide, rfl⟩)⟩⟩
set_option maxRecDepth 100000 in
theorem rf_Y225 : rf_P 225 := ⟨by decide +kernel, by decide +kernel, by decide +kernel, rx_in7 (p := 110) rfl rfl, by decide, rx_in1 (p := 12) rfl rfl, rfl, ⟨(fun n h => by cases h), (fun n h => by cases h; exact ⟨rx_in7 (p := 108) rfl rfl, rx_in7 (p := 109) rfl rfl, by decide +kernel, by decide, by decide, rfl⟩)⟩⟩
set_option maxRecDepth 100000 in
theorem rf_Y226 : rf_P 226 := ⟨by decide +kernel, by decide +kernel, by decide +kernel, rx_in6 (p := 62) rfl rfl, by decide, rx_in1 (p := 12) rfl rfl, rfl, ⟨(fun n h => by cases h), (fun n h => by cases h; exact ⟨rx_in6 (p := 61) rfl rfl, rx_in0 (p := 42) rfl rfl, by decide +kernel, by decide, by decide, rfl⟩)⟩⟩
set_option maxRecDepth 100000 in
theorem rf_Y227 : rf_P 227 := ⟨by decide +kernel, by decide +kernel, by decide +kernel, rx_in7 (p := 114) rfl rfl, by decide, rx_in1 (p := 12) rfl rfl, rfl, ⟨(fun n h => by cases h), (fun n h => by cases h; exact ⟨rx_in7 (p := 112) rfl rfl, rx_in7 (p := 113) rfl rfl, by decide +kernel, by decide, by decide, rfl⟩)⟩⟩
set_option maxRecDepth 100000 in
theorem rf_Y228 : rf_P 228 := ⟨by decide +kernel, by decide +kernel, by decide +kernel, rx_in6 (p := 69) rfl rfl, by decide, rx_in1 (p := 12) rfl rfl, rfl, ⟨(fun n h => by cases h; exact ⟨rx_in6 (p := 68) rfl rfl, by decide +kernel, by decide⟩), (fun n h => by cases h)⟩⟩
set_option maxRecDepth 100000 in
theorem rf_Y229 : rf_P 229 := ⟨by decide +kernel, by decide +kernel, by decide +kernel, rx_in6 (p := 66) rfl rfl, by decide, rx_in1 (p := 12) rfl rfl, rfl, ⟨(fun n h => by cases h), (fun n h => by cases h; exact ⟨rx_in6 (p := 65) rfl rfl, rx_in0 (p := 43) rfl rfl, by decide +kernel, by decide, by decide, rfl⟩)⟩⟩
set_option maxRecDepth 100000 in
theorem rf_Y230 : rf_P 230 := ⟨by decide +kernel, by decide +kernel, by decide +kernel, rx_in6 (p := 180) rfl rfl, by decide, rx_in1 (p := 12) rfl rfl, rfl, ⟨(fun n h => by cases h; exact ⟨rx_in6 (p := 179) rfl rfl, by decide +kernel, by decide⟩), (fun n h => by cases h)⟩⟩
set_option maxRecDepth 100000 in
theorem rf_Y231 : rf_P 231 := ⟨by decide +kernel, by decide +kernel, by decide +kernel, rx_in7 (p := 140) rfl rfl, by decide, rx_in1 (p := 12) rfl rfl, rfl, ⟨(fun n h => by cases h; exact ⟨rx_in7 (p := 139) rfl rfl, by decide +kernel, by decide⟩), (fun n h => by cases h)⟩⟩
set_option maxRecDepth 100000 in
theorem rf_Y232 : rf_P 232 := ⟨by decide +kernel, by decide +kernel, by decide +kernel, rx_in7 (p := 118) rfl rfl, by decide, rx_in1 (p := 12) rfl rfl, rfl, ⟨(fun n h => by cases h), (fun n h => by cases h; exact ⟨rx_in7 (p := 116) rfl rfl, rx_in7 (p := 117) rfl rfl, by decide +kernel, by decide, by decide, rfl⟩)⟩⟩
set_option maxRecDepth 100000 in
theorem rf_Y233 : rf_P 233 := ⟨by decide +kernel, by decide +kernel, by decide +kernel, rx_in7 (p := 122) rfl rfl, by decide, rx_in1 (p := 12) rfl rfl, rfl, ⟨(fun n h => by cases h), (fun n h => by cases h; exact ⟨rx_in7 (p := 120) rfl rfl, rx_in7 (p := 121) rfl rfl, by decide +kernel, by decide, by decide, rfl⟩)⟩⟩
set_option maxRecDepth 100000 in
theorem rf_Y234 : rf_P 234 := ⟨by decide +kernel, by decide +kernel, by decide +kernel, rx_in7 (p := 129) rfl rfl, by decide, rx_in1 (p := 12) rfl rfl, rfl, ⟨(fun n h => by cases h), (fun n h => by cases h; exact ⟨rx_in7 (p := 127) rfl rfl, rx_in7 (p := 128) rfl rfl, by decide +kernel, by decide, by decide, rfl⟩)⟩⟩
set_option maxRecDepth 100000 in
theorem rf_Y235 : rf_P 235 := ⟨by decide +kernel, by decide +kernel, by decide +kernel, rx_in7 (p := 133) rfl rfl, by decide, rx_in1 (p := 12) rfl rfl, rfl, ⟨(fun n h => by cases h), (fun n h => by cases h; exact ⟨rx_in7 (p := 131) rfl rfl, rx_in7 (p := 132) rfl rfl, by decide +kernel, by decide, by decide, rfl⟩)⟩⟩
set_option maxRecDepth 100000 in
theorem rf_Y236 : rf_P 236 := ⟨by decide +kernel, by decide +kernel, by decide +kernel, rx_in7 (p := 137) rfl rfl, by decide, rx_in1 (p := 12) rfl rfl, rfl, ⟨(fun n h => by cases h), (fun n h => by cases h; exact ⟨rx_in7 (p := 135) rfl rfl, rx_in7 (p := 136) rfl rfl, by decide +kernel, by decide, by decide, rfl⟩)⟩⟩
set_option maxRecDepth 100000 in
theorem rf_Y237 : rf_P 237 := ⟨by decide +kernel, by decide +kernel, by decide +kernel, rx_in7 (p := 144) rfl rfl, by decide, rx_in1 (p := 12) rfl rfl, rfl, ⟨(fun n h => by cases h), (fun n h => by cases h; exact ⟨rx_in7 (p := 142) rfl rfl, rx_in7 (p := 143) rfl rfl, by decide +kernel, by decide, by decide, rfl⟩)⟩⟩
set_option maxRecDepth 100000 in
theorem rf_Y238 : rf_P 238 := ⟨by decide +kernel, by decide +kernel, by decide +kernel, rx_in7 (p := 148) rfl rfl, by decide, rx_in1 (p := 12) rfl rfl, rfl, ⟨(fun n h => by cases h), (fun n h => by cases h; exact ⟨rx_in7 (p := 146) rfl rfl, rx_in7 (p := 147) rfl rfl, by decide +kernel, by decide, by decide, rfl⟩)⟩⟩
set_option maxRecDepth 100000 in
theorem rf_Y239 : rf_P 239 := ⟨by decide +kernel, by decide +kernel, by decide +kernel, rx_in7 (p := 152) rfl rfl, by decide, rx_in1 (p := 12) rfl rfl, rfl, ⟨(fun n h => by cases h), (fun n h => by cases h; exact ⟨rx_in7 (p := 150) rfl rfl, rx_in7 (p := 151) rfl rfl, by decide +kernel, by decide, by decide, rfl⟩)⟩⟩
set_option maxRecDepth 100000 in
theorem rf_Y240 : rf_P 240 := ⟨by decide +kernel, by decide +kernel, by decide +kernel, rx_in7 (p := 156) rfl rfl, by decide, rx_in1 (p := 12) rfl rfl, rfl, ⟨(fun n h => by cases h), (fun n h => by cases h; exact ⟨rx_in7 (p := 154) rfl rfl, rx_in7 (p := 155) rfl rfl, by decide +kernel, by decide, by decide, rfl⟩)⟩⟩
set_option maxRecDepth 100000 in
theorem rf_Y241 : rf_P 241 := ⟨by decide +kernel, by decide +kernel, by decide +kernel, rx_in7 (p := 167) rfl rfl, by decide, rx_in1 (p := 12) rfl rfl, rfl, ⟨(fun n h => by cases h), (fun n h => by cases h; exact ⟨rx_in7 (p := 166) rfl rfl, rx_in0 (p := 85) rfl rfl, by decide +kernel, by decide, by decide, rfl⟩)⟩⟩
set_option maxRecDepth 100000 in
theorem rf_Y242 : rf_P 242 := ⟨by decide +kernel, by decide +kernel, by decide +kernel, rx_in7 (p := 160) rfl rfl, by decide, rx_in1 (p := 12) rfl rfl, rfl, ⟨(fun n h => by cases h), (fun n h => by cases h; exact ⟨rx_in7 (p := 158) rfl rfl, rx_in7 (p := 159) rfl rfl, by decide +kernel, by decide, by decide, rfl⟩)⟩⟩
set_option maxRecDepth 100000 in
theorem rf_Y243 : rf_P 243 := ⟨by decide +kernel, by decide +kernel, by decide +kernel, rx_in7 (p := 171) rfl rfl, by decide, rx_in1 (p := 12) rfl rfl, rfl, ⟨(fun n h => by cases h), (fun n h => by cases h; exact ⟨rx_in7 (p := 169) rfl rfl, rx_in7 (p := 170) rfl rfl, by decide +kernel, by decide, by decide, rfl⟩)⟩⟩
set_option maxRecDepth 100000 in
theorem rf_Y244 : rf_P 244 := ⟨by decide +kernel, by decide +kernel, by decide +kernel, rx_in7 (p := 175) rfl rfl, by decide, rx_in1 (p := 12) rfl rfl, rfl, ⟨(fun n h => by cases h), (fun n h => by cases h; exact ⟨rx_in7 (p := 173) rfl rfl, rx_in7 (p := 174) rfl rfl, by decide +kernel, by decide, by decide, rfl⟩)⟩⟩
set_option maxRecDepth 100000 in
theorem rf_Y245 : rf_P 245 := ⟨by decide +kernel, by decide +kernel, by decide +kernel, rx_in7 (p := 179) rfl rfl, by decide, rx_in1 (p := 12) rfl rfl, rfl, ⟨(fun n h => by cases h), (fun n h => by cases h; exact ⟨rx_in7 (p := 177) rfl rfl, rx_in7 (p := 178) rfl rfl, by decide +kernel, by decide, by decide, rfl⟩)⟩⟩
set_option maxRecDepth 100000 in
theorem rf_Y246 : rf_P 246 := ⟨by decide +kernel, by decide +kernel, by decide +kernel, rx_in3 (p := 221) rfl rfl, by decide, rx_in1 (p := 15) rfl rfl, rfl, ⟨(fun n h => by cases h; exact ⟨rx_in3 (p := 220) rfl rfl, by decide +kernel, by decide⟩), (fun n h => by cases h)⟩⟩
set_option maxRecDepth 100000 in
theorem rf_Y : ∀ y ∈ List.range' 1 246, rf_P y := by
  show ∀ y ∈ [1, 2, 3, 4, 5, 6, 7, 8, 9, 10, 11, 12, 13, 14, 15, 16, 17, 18, 19, 20, 21, 22, 23, 24, 25, 26, 27, 28, 29, 30, 31, 32, 33, 34, 35, 36, 37, 38, 39, 40, 41, 42, 43, 44, 45, 46, 47, 48, 49, 50, 51, 52, 53, 54, 55, 56, 57, 58, 59, 60, 61, 62, 63, 64, 65, 66, 67, 68, 69, 70, 71, 72, 73, 74, 75, 76, 77, 78, 79, 80, 81, 82, 83, 84, 85, 86, 87, 88, 89, 90, 91, 92, 93, 94, 95, 96, 97, 98, 99, 100, 101, 102, 103, 104, 105, 106, 107, 108, 109, 110, 111, 112, 113, 114, 115, 116, 117, 118, 119, 120, 121, 122, 123, 124, 125, 126, 127, 128, 129, 130, 131, 132, 133, 134, 135, 136, 137, 138, 139, 140, 141, 142, 143, 144, 145, 146, 147, 148, 149, 150, 151, 152, 153, 154, 155, 156, 157, 158, 159, 160, 161, 162, 163, 164, 165, 166, 167, 168, 169, 170, 171, 172, 173, 174, 175, 176, 177, 178, 179, 180, 181, 182, 183, 184, 185, 186, 187, 188, 189, 190, 191, 192, 193, 194, 195, 196, 197, 198, 199, 200, 201, 202, 203, 204, 205, 206, 207, 208, 209, 210, 211, 212, 213, 214, 215, 216, 217, 218, 219, 220, 221, 222, 223, 224, 225, 226, 227, 228, 229, 230, 231, 232, 233, 234, 235, 236, 237, 238, 239, 240, 241, 242, 243, 244, 245, 246], rf_P y
  exact List.forall_mem_cons.mpr ⟨rf_Y1, List.forall_mem_cons.mpr ⟨rf_Y2, List.forall_mem_cons.mpr ⟨rf_Y3, List.forall_mem_cons.mpr ⟨rf_Y4, List.forall_mem_cons.mpr ⟨rf_Y5, List.forall_mem_cons.mpr ⟨rf_Y6, List.forall_mem_cons.mpr ⟨rf_Y7, List.forall_mem_cons.mpr ⟨rf_Y8, List.forall_mem_cons.mpr ⟨rf_Y9, List.forall_mem_cons.mpr ⟨rf_Y10, List.forall_mem_cons.mpr ⟨rf_Y11, List.forall_mem_cons.mpr ⟨rf_Y12, List.forall_mem_cons.mpr ⟨rf_Y13, List.forall_mem_cons.mpr ⟨rf_Y14, List.forall_mem_cons.mpr ⟨rf_Y15, List.forall_mem_cons.mpr ⟨rf_Y16, List.forall_mem_cons.mpr ⟨rf_Y17, List.forall_mem_cons.mpr ⟨rf_Y18, List.forall_mem_cons.mpr ⟨rf_Y19, List.forall_mem_cons.mpr ⟨rf_Y20, List.forall_mem_cons.mpr ⟨rf_Y21, List.forall_mem_cons.mpr ⟨rf_Y22, List.forall_mem_cons.mpr ⟨rf_Y23, List.forall_mem_cons.mpr ⟨rf_Y24, List.forall_mem_cons.mpr ⟨rf_Y25, List.forall_mem_cons.mpr ⟨rf_Y26, List.forall_mem_cons.mpr ⟨rf_Y27, List.forall_mem_cons.mpr ⟨rf_Y28, List.forall_mem_cons.mpr ⟨rf_Y29, List.forall_mem_cons.mpr ⟨rf_Y30, List.forall_mem_cons.mpr ⟨rf_Y31, List.forall_mem_cons.mpr ⟨rf_Y32, List.forall_mem_cons.mpr ⟨rf_Y33, List.forall_mem_cons.mpr ⟨rf_Y34, List.forall_mem_cons.mpr ⟨rf_Y35, List.forall_mem_cons.mpr ⟨rf_Y36, List.forall_mem_cons.mpr ⟨rf_Y37, List.forall_mem_cons.mpr ⟨rf_Y38, List.forall_mem_cons.mpr ⟨rf_Y39, List.forall_mem_cons.mpr ⟨rf_Y40, List.forall_mem_cons.mpr ⟨rf_Y41, List.forall_mem_cons.mpr ⟨rf_Y42, List.forall_mem_cons.mpr ⟨rf_Y43, List.forall_mem_cons.mpr ⟨rf_Y44, List.forall_mem_cons.mpr ⟨rf_Y45, List.forall_mem_cons.mpr ⟨rf_Y46, List.forall_mem_cons.mpr ⟨rf_Y47, List.forall_mem_cons.mpr ⟨rf_Y48, List.forall_mem_cons.mpr ⟨rf_Y49, List.forall_mem_cons.mpr ⟨rf_Y50, List.forall_mem_cons.mpr ⟨rf_Y51, List.forall_mem_cons.mpr ⟨rf_Y52, List.forall_mem_cons.mpr ⟨rf_Y53, List.forall_mem_cons.mpr ⟨rf_Y54, List.forall_mem_cons.mpr ⟨rf_Y55, List.forall_mem_cons.mpr ⟨rf_Y56, List.forall_mem_cons.mpr ⟨rf_Y57, List.forall_mem_cons.mpr ⟨rf_Y58, List.forall_mem_cons.mpr ⟨rf_Y59, List.forall_mem_cons.mpr ⟨rf_Y60, List.forall_mem_cons.mpr ⟨rf_Y61, List.forall_mem_cons.mpr ⟨rf_Y62, List.forall_mem_cons.mpr ⟨rf_Y63, List.forall_mem_cons.mpr ⟨rf_Y64, List.forall_mem_cons.mpr ⟨rf_Y65, List.forall_mem_cons.mpr ⟨rf_Y66, List.forall_mem_cons.mpr ⟨rf_Y67, List.forall_mem_cons.mpr ⟨rf_Y68, List.forall_mem_cons.mpr ⟨rf_Y69, List.forall_mem_cons.mpr ⟨rf_Y70, List.forall_mem_cons.mpr ⟨rf_Y71, List.forall_mem_cons.mpr ⟨rf_Y72, List.forall_mem_cons.mpr ⟨rf_Y73, List.forall_mem_cons.mpr ⟨rf_Y74, List.forall_mem_cons.mpr ⟨rf_Y75, List.forall_mem_cons.mpr ⟨rf_Y76, List.forall_mem_cons.mpr ⟨rf_Y77, List.forall_mem_cons.mpr ⟨rf_Y78, List.forall_mem_cons.mpr ⟨rf_Y79, List.forall_mem_cons.mpr ⟨rf_Y80, List.forall_mem_cons.mpr ⟨rf_Y81, List.forall_mem_cons.mpr ⟨rf_Y82, List.forall_mem_cons.mpr ⟨rf_Y83, List.forall_mem_cons.mpr ⟨rf_Y84, List.forall_mem_cons.mpr ⟨rf_Y85, List.forall_mem_cons.mpr ⟨rf_Y86, List.forall_mem_cons.mpr ⟨rf_Y87, List.forall_mem_cons.mpr ⟨rf_Y88, List.forall_mem_cons.mpr ⟨rf_Y89, List.forall_mem_cons.mpr ⟨rf_Y90, List.forall_mem_cons.mpr ⟨rf_Y91, List.forall_mem_cons.mpr ⟨rf_Y92, List.forall_mem_cons.mpr ⟨rf_Y93, List.forall_mem_cons.mpr ⟨rf_Y94, List.forall_mem_cons.mpr ⟨rf_Y95, List.forall_mem_cons.mpr ⟨rf_Y96, List.forall_mem_cons.mpr ⟨rf_Y97, List.forall_mem_cons.mpr ⟨rf_Y98, List.forall_mem_cons.mpr ⟨rf_Y99, List.forall_mem_cons.mpr ⟨rf_Y100, List.forall_mem_cons.mpr ⟨rf_Y101, List.forall_mem_cons.mpr ⟨rf_Y102, List.forall_mem_cons.mpr ⟨rf_Y103, List.forall_mem_cons.mpr ⟨rf_Y104, List.forall_mem_cons.mpr ⟨rf_Y105, List.forall_mem_cons.mpr ⟨rf_Y106, List.forall_mem_cons.mpr ⟨rf_Y107, List.forall_mem_cons.mpr ⟨rf_Y108, List.forall_mem_cons.mpr ⟨rf_Y109, List.forall_mem_cons.mpr ⟨rf_Y110, List.forall_mem_cons.mpr ⟨rf_Y111, List.forall_mem_cons.mpr ⟨rf_Y112, List.forall_mem_cons.mpr ⟨rf_Y113, List.forall_mem_cons.mpr ⟨rf_Y114, List.forall_mem_cons.mpr ⟨rf_Y115, List.forall_mem_cons.mpr ⟨rf_Y116, List.forall_mem_cons.mpr ⟨rf_Y117, List.forall_mem_cons.mpr ⟨rf_Y118, List.forall_mem_cons.mpr ⟨rf_Y119, List.forall_mem_cons.mpr ⟨rf_Y120, List.forall_mem_cons.mpr ⟨rf_Y121, List.forall_mem_cons.mpr ⟨rf_Y122, List.forall_mem_cons.mpr ⟨rf_Y123, List.forall_mem_cons.mpr ⟨rf_Y124, List.forall_mem_cons.mpr ⟨rf_Y125, List.forall_mem_cons.mpr ⟨rf_Y126, List.forall_mem_cons.mpr ⟨rf_Y127, List.forall_mem_cons.mpr ⟨rf_Y128, List.forall_mem_cons.mpr ⟨rf_Y129, List.forall_mem_cons.mpr ⟨rf_Y130, List.forall_mem_cons.mpr ⟨rf_Y131, List.forall_mem_cons.mpr ⟨rf_Y132, List.forall_mem_cons.mpr ⟨rf_Y133, List.forall_mem_cons.mpr ⟨rf_Y134, List.forall_mem_cons.mpr ⟨rf_Y135, List.forall_mem_cons.mpr ⟨rf_Y136, List.forall_mem_cons.mpr ⟨rf_Y137, List.forall_mem_cons.mpr ⟨rf_Y138, List.forall_mem_cons.mpr ⟨rf_Y139, List.forall_mem_cons.mpr ⟨rf_Y140, List.forall_mem_cons.mpr ⟨rf_Y141, List.forall_mem_cons.mpr ⟨rf_Y142, List.forall_mem_cons.mpr ⟨rf_Y143, List.forall_mem_cons.mpr ⟨rf_Y144, List.forall_mem_cons.mpr ⟨rf_Y145, List.forall_mem_cons.mpr ⟨rf_Y146, List.forall_mem_cons.mpr ⟨rf_Y147, List.forall_mem_cons.mpr ⟨rf_Y148, List.forall_mem_cons.mpr ⟨rf_Y149, List.forall_mem_cons.mpr ⟨rf_Y150, List.forall_mem_cons.mpr ⟨rf_Y151, List.forall_mem_cons.mpr ⟨rf_Y152, List.forall_mem_cons.mpr ⟨rf_Y153, List.forall_mem_cons.mpr ⟨rf_Y154, List.forall_mem_cons.mpr ⟨rf_Y155, List.forall_mem_cons.mpr ⟨rf_Y156, List.forall_mem_cons.mpr ⟨rf_Y157, List.forall_mem_cons.mpr ⟨rf_Y158, List.forall_mem_cons.mpr ⟨rf_Y159, List.forall_mem_cons.mpr ⟨rf_Y160, List.forall_mem_cons.mpr ⟨rf_Y161, List.forall_mem_cons.mpr ⟨rf_Y162, List.forall_mem_cons.mpr ⟨rf_Y163, List.forall_mem_cons.mpr ⟨rf_Y164, List.forall_mem_cons.mpr ⟨rf_Y165, List.forall_mem_cons.mpr ⟨rf_Y166, List.forall_mem_cons.mpr ⟨rf_Y167, List.forall_mem_cons.mpr ⟨rf_Y168, List.forall_mem_cons.mpr ⟨rf_Y169, List.forall_mem_cons.mpr ⟨rf_Y170, List.forall_mem_cons.mpr ⟨rf_Y171, List.forall_mem_cons.mpr ⟨rf_Y172, List.forall_mem_cons.mpr ⟨rf_Y173, List.forall_mem_cons.mpr ⟨rf_Y174, List.forall_mem_cons.mpr ⟨rf_Y175, List.forall_mem_cons.mpr ⟨rf_Y176, List.forall_mem_cons.mpr ⟨rf_Y177, List.forall_mem_cons.mpr ⟨rf_Y178, List.forall_mem_cons.mpr ⟨rf_Y179, List.forall_mem_cons.mpr ⟨rf_Y180, List.forall_mem_cons.mpr ⟨rf_Y181, List.forall_mem_cons.mpr ⟨rf_Y182, List.forall_mem_cons.mpr ⟨rf_Y183, List.forall_mem_cons.mpr ⟨rf_Y184, List.forall_mem_cons.mpr ⟨rf_Y185, List.forall_mem_cons.mpr ⟨rf_Y186, List.forall_mem_cons.mpr ⟨rf_Y187, List.forall_mem_cons.mpr ⟨rf_Y188, List.forall_mem_cons.mpr ⟨rf_Y189, List.forall_mem_cons.mpr ⟨rf_Y190, List.forall_mem_cons.mpr ⟨rf_Y191, List.forall_mem_cons.mpr ⟨rf_Y192, List.forall_mem_cons.mpr ⟨rf_Y193, List.forall_mem_cons.mpr ⟨rf_Y194, List.forall_mem_cons.mpr ⟨rf_Y195, List.forall_mem_cons.mpr ⟨rf_Y196, List.forall_mem_cons.mpr ⟨rf_Y197, List.forall_mem_cons.mpr ⟨rf_Y198, List.forall_mem_cons.mpr ⟨rf_Y199, List.forall_mem_cons.mpr ⟨rf_Y200, List.forall_mem_cons.mpr ⟨rf_Y201, List.forall_mem_cons.mpr ⟨rf_Y202, List.forall_mem_cons.mpr ⟨rf_Y203, List.forall_mem_cons.mpr ⟨rf_Y204, List.forall_mem_cons.mpr ⟨rf_Y205, List.forall_mem_cons.mpr ⟨rf_Y206, List.forall_mem_cons.mpr ⟨rf_Y207, List.forall_mem_cons.mpr ⟨rf_Y208, List.forall_mem_cons.mpr ⟨rf_Y209, List.forall_mem_cons.mpr ⟨rf_Y210, List.forall_mem_cons.mpr ⟨rf_Y211, List.forall_mem_cons.mpr ⟨rf_Y212, List.forall_mem_cons.mpr ⟨rf_Y213, List.forall_mem_cons.mpr ⟨rf_Y214, List.forall_mem_cons.mpr ⟨rf_Y215, List.forall_mem_cons.mpr ⟨rf_Y216, List.forall_mem_cons.mpr ⟨rf_Y217, List.forall_mem_cons.mpr ⟨rf_Y218, List.forall_mem_cons.mpr ⟨rf_Y219, List.forall_mem_cons.mpr ⟨rf_Y220, List.forall_mem_cons.mpr ⟨rf_Y221, List.forall_mem_cons.mpr ⟨rf_Y222, List.forall_mem_cons.mpr ⟨rf_Y223, List.forall_mem_cons.mpr ⟨rf_Y224, List.forall_mem_cons.mpr ⟨rf_Y225, List.forall_mem_cons.mpr ⟨rf_Y226, List.forall_mem_cons.mpr ⟨rf_Y227, List.forall_mem_cons.mpr ⟨rf_Y228, List.forall_mem_cons.mpr ⟨rf_Y229, List.forall_mem_cons.mpr ⟨rf_Y230, List.forall_mem_cons.mpr ⟨rf_Y231, List.forall_mem_cons.mpr ⟨rf_Y232, List.forall_mem_cons.mpr ⟨rf_Y233, List.forall_mem_cons.mpr ⟨rf_Y234, List.forall_mem_cons.mpr ⟨rf_Y235, List.forall_mem_cons.mpr ⟨rf_Y236, List.forall_mem_cons.mpr ⟨rf_Y237, List.forall_mem_cons.mpr ⟨rf_Y238, List.forall_mem_cons.mpr ⟨rf_Y239, List.forall_mem_cons.mpr ⟨rf_Y240, List.forall_mem_cons.mpr ⟨rf_Y241, List.forall_mem_cons.mpr ⟨rf_Y242, List.forall_mem_cons.mpr ⟨rf_Y243, List.forall_mem_cons.mpr ⟨rf_Y244, List.forall_mem_cons.mpr ⟨rf_Y245, List.forall_mem_cons.mpr ⟨rf_Y246, fun q h => absurd h List.not_mem_nil⟩⟩⟩⟩⟩⟩⟩⟩⟩⟩⟩⟩⟩⟩⟩⟩⟩⟩⟩⟩⟩⟩⟩⟩⟩⟩⟩⟩⟩⟩⟩⟩⟩⟩⟩⟩⟩⟩⟩⟩⟩⟩⟩⟩⟩⟩⟩⟩⟩⟩⟩⟩⟩⟩⟩⟩⟩⟩⟩⟩⟩⟩⟩⟩⟩⟩⟩⟩⟩⟩⟩⟩⟩⟩⟩⟩⟩⟩⟩⟩⟩⟩⟩⟩⟩⟩⟩⟩⟩⟩⟩⟩⟩⟩⟩⟩⟩⟩⟩⟩⟩⟩⟩⟩⟩⟩⟩⟩⟩⟩⟩⟩⟩⟩⟩⟩⟩⟩⟩⟩⟩⟩⟩⟩⟩⟩⟩⟩⟩⟩⟩⟩⟩⟩⟩⟩⟩⟩⟩⟩⟩⟩⟩⟩⟩⟩⟩⟩⟩⟩⟩⟩⟩⟩⟩⟩⟩⟩⟩⟩⟩⟩⟩⟩⟩⟩⟩⟩⟩⟩⟩⟩⟩⟩⟩⟩⟩⟩⟩⟩⟩⟩⟩⟩⟩⟩⟩⟩⟩⟩⟩⟩⟩⟩⟩⟩⟩⟩⟩⟩⟩⟩⟩⟩⟩⟩⟩⟩⟩⟩⟩⟩⟩⟩⟩⟩⟩⟩⟩⟩⟩⟩⟩⟩⟩⟩⟩⟩⟩⟩⟩⟩⟩⟩⟩⟩⟩⟩⟩⟩⟩⟩⟩⟩⟩⟩
theorem rf_all : rx_Facts := ⟨rf_FL, rf_KL, rf_CL, rf_wI, rf_wZ, rf_AL, rf_N, rf_H, rf_ML, fun y h1 h2 => rf_Y y (List.mem_range'_1.mpr ⟨h1, by omega⟩)⟩
