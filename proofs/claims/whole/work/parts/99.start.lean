/-! ===== the start: what the tables and the given start say ===== -/
theorem st_in1 {p : Nat} {w : Cond} (h : tables_1_1[p]? = some w) : w ∈ lw_tbl :=
  List.mem_append_right _ (show w ∈ tables_1 from List.mem_append_left _ (List.mem_of_getElem? h))
theorem st_in2 {p : Nat} {w : Cond} (h : tables_1_2[p]? = some w) : w ∈ lw_tbl :=
  List.mem_append_right _ (show w ∈ tables_1 from List.mem_append_right _ (List.mem_append_left _ (List.mem_of_getElem? h)))
theorem st_in3 {p : Nat} {w : Cond} (h : tables_1_3[p]? = some w) : w ∈ lw_tbl :=
  List.mem_append_right _ (show w ∈ tables_1 from List.mem_append_right _ (List.mem_append_right _ (List.mem_append_left _ (List.mem_of_getElem? h))))
theorem st_in4 {p : Nat} {w : Cond} (h : tables_1_4[p]? = some w) : w ∈ lw_tbl :=
  List.mem_append_right _ (show w ∈ tables_1 from List.mem_append_right _ (List.mem_append_right _ (List.mem_append_right _ (List.mem_append_left _ (List.mem_of_getElem? h)))))
theorem st_in5 {p : Nat} {w : Cond} (h : tables_1_5[p]? = some w) : w ∈ lw_tbl :=
  List.mem_append_right _ (show w ∈ tables_1 from List.mem_append_right _ (List.mem_append_right _ (List.mem_append_right _ (List.mem_append_right _ (List.mem_append_left _ (List.mem_of_getElem? h))))))
theorem st_in6 {p : Nat} {w : Cond} (h : tables_1_6[p]? = some w) : w ∈ lw_tbl :=
  List.mem_append_right _ (show w ∈ tables_1 from List.mem_append_right _ (List.mem_append_right _ (List.mem_append_right _ (List.mem_append_right _ (List.mem_append_right _ (List.mem_append_left _ (List.mem_of_getElem? h)))))))
theorem st_in7 {p : Nat} {w : Cond} (h : tables_1_7[p]? = some w) : w ∈ lw_tbl :=
  List.mem_append_right _ (show w ∈ tables_1 from List.mem_append_right _ (List.mem_append_right _ (List.mem_append_right _ (List.mem_append_right _ (List.mem_append_right _ (List.mem_append_right _ (List.mem_of_getElem? h)))))))
set_option maxRecDepth 100000 in
theorem st_rx_nest : ∀ w ∈ rx_nest, w ∈ lw_tbl := by
  unfold rx_nest
  exact List.forall_mem_cons.mpr ⟨st_in2 (p := 148) rfl, List.forall_mem_cons.mpr ⟨st_in3 (p := 9) rfl, List.forall_mem_cons.mpr ⟨st_in3 (p := 14) rfl, fun q h => absurd h List.not_mem_nil⟩⟩⟩
theorem st_rx_nest_on : ∀ w ∈ rx_nest, w.onTables = true := by decide +kernel
set_option maxRecDepth 100000 in
theorem st_nk_nest : ∀ w ∈ nk_nest, w ∈ lw_tbl := by
  unfold nk_nest
  exact List.forall_mem_cons.mpr ⟨st_in1 (p := 30) rfl, List.forall_mem_cons.mpr ⟨st_in1 (p := 110) rfl, List.forall_mem_cons.mpr ⟨st_in1 (p := 152) rfl, List.forall_mem_cons.mpr ⟨st_in1 (p := 158) rfl, List.forall_mem_cons.mpr ⟨st_in1 (p := 198) rfl, List.forall_mem_cons.mpr ⟨st_in1 (p := 217) rfl, List.forall_mem_cons.mpr ⟨st_in1 (p := 237) rfl, List.forall_mem_cons.mpr ⟨st_in2 (p := 25) rfl, List.forall_mem_cons.mpr ⟨st_in2 (p := 52) rfl, List.forall_mem_cons.mpr ⟨st_in2 (p := 70) rfl, List.forall_mem_cons.mpr ⟨st_in2 (p := 75) rfl, fun q h => absurd h List.not_mem_nil⟩⟩⟩⟩⟩⟩⟩⟩⟩⟩⟩
theorem st_nk_nest_on : ∀ w ∈ nk_nest, w.onTables = true := by decide +kernel
set_option maxRecDepth 100000 in
theorem st_oI : (Cond.arrayOver (.array .int) : Cond) ∈ lw_tbl := st_in1 (p := 163) rfl
set_option maxRecDepth 100000 in
theorem st_oS : (Cond.arrayOver (.object "RoadsCrossed$Sheet") : Cond) ∈ lw_tbl := st_in2 (p := 48) rfl
set_option maxRecDepth 100000 in
theorem st_oL : (Cond.arrayOver (.object "RoadsCrossed$Slot") : Cond) ∈ lw_tbl := st_in2 (p := 50) rfl
set_option maxRecDepth 100000 in
theorem st_lA : (Cond.laysStatic "RoadsCrossed" "ABOVE" "[I" : Cond) ∈ lw_tbl := st_in3 (p := 28) rfl
set_option maxRecDepth 100000 in
theorem st_lC : (Cond.laysStatic "java/lang/String" "COMPACT_STRINGS" "Z" : Cond) ∈ lw_tbl := st_in4 (p := 116) rfl
set_option maxRecDepth 100000 in
theorem st_lP : (Cond.laysStatic "jdk/internal/util/Preconditions" "SIOOBE_FORMATTER" "Ljava/util/function/BiFunction;" : Cond) ∈ lw_tbl := st_in4 (p := 132) rfl
set_option maxRecDepth 100000 in
theorem st_iA : (Cond.initialized "RoadsCrossed" : Cond) ∈ lw_tbl := st_in1 (p := 1) rfl
set_option maxRecDepth 100000 in
theorem st_iC : (Cond.initialized "java/lang/String" : Cond) ∈ lw_tbl := st_in1 (p := 16) rfl
set_option maxRecDepth 100000 in
theorem st_iP : (Cond.initialized "jdk/internal/util/Preconditions" : Cond) ∈ lw_tbl := st_in1 (p := 18) rfl
set_option maxRecDepth 100000 in
theorem st_r0 : (Cond.stringRef "RoadsCrossed$Reader" 73 "harm" : Cond) ∈ lw_tbl := st_in4 (p := 102) rfl
set_option maxRecDepth 100000 in
theorem st_r1 : (Cond.stringRef "RoadsCrossed$Reader" 79 "cross" : Cond) ∈ lw_tbl := st_in4 (p := 155) rfl
set_option maxRecDepth 100000 in
theorem st_r2 : (Cond.stringRef "RoadsCrossed$Reader" 81 "swap" : Cond) ∈ lw_tbl := st_in4 (p := 156) rfl
theorem st_g {k b : Nat} {s : State} {w : Cond} (h : (flatC (Jvm.Cond.and given_1 narrow_1))[k]? = some w) (hgv : (Jvm.Cond.and given_1 narrow_1).before #[Value.ref b] s = true) : w.before #[Value.ref b] s = true :=
  flat_of_before _ hgv w (List.mem_of_getElem? h)
def st_cA (a b c d e f : ClassId) (t : Nat) : ClassId := match t with
  | 0 => a
  | 1 => b
  | 2 => c
  | 3 => d
  | 4 => e
  | _ => f
section STA
variable {s : State} {b L : Nat} {xs : Nat → Int32} {ro : rx_St}
theorem st_all (hts : ∀ w ∈ lw_tbl, w.before #[Value.ref b] s = true) : ∀ w ∈ rx_all, w.before #[Value.ref b] s = true := fun w hw => hts w (List.mem_filter.mp hw).1
set_option maxHeartbeats 4000000 in
theorem st_env (hts : ∀ w ∈ lw_tbl, w.before #[Value.ref b] s = true) : ∃ (D : va_G) (cA : Nat → ClassId), nk_Env D cA s := by
  have htsA := st_all hts
  have hc : ∀ ci : Nat, ∃ q : ClassId × (Nat → Nat), ci < 12 → u_Kn s (rx_cl ci).1 (rx_cl ci).2.1 (rx_cl ci).2.2 q.1 q.2 := by
    intro ci
    by_cases h : ci < 12
    · obtain ⟨a, i, h1⟩ := u_known htsA (rf_all.2.2.1 ci h).1 (htsA _ (nf_C ci h).1)
      exact ⟨(a, i), fun _ => h1⟩
    · exact ⟨(0, fun _ => 0), fun q => absurd q h⟩
  obtain ⟨f, hf⟩ := Classical.axiomOfChoice hc
  obtain ⟨cI, kI, pI, i1, i2, i3⟩ := Cond.arrayClass_spec (args := #[Value.ref b]) (first := s) (o := none) (s := s) (idx := []) (type := .int) (htsA _ nf_W.1)
  obtain ⟨cZ, kZ, pZ, z1, z2, z3⟩ := Cond.arrayClass_spec (args := #[Value.ref b]) (first := s) (o := none) (s := s) (idx := []) (type := .boolean) (htsA _ nf_W.2.1)
  obtain ⟨cC, kC, pC, c1, c2, c3⟩ := Cond.arrayClass_spec (args := #[Value.ref b]) (first := s) (o := none) (s := s) (idx := []) (type := .char) (htsA _ nf_W.2.2)
  obtain ⟨pA, cA, kA, a1, a2, a3, a4, a5⟩ := arrayOverA_spec (args := #[Value.ref b]) (first := s) (o := none) (s := s) (idx := []) (t := .int) (hts _ st_oI)
  obtain ⟨pS, cS, kS, s1, s2, s3, s4, s5⟩ := Cond.arrayOver_spec (args := #[Value.ref b]) (first := s) (o := none) (s := s) (idx := []) (n := "RoadsCrossed$Sheet") (hts _ st_oS)
  obtain ⟨pL, cL, kL, l1, l2, l3, l4, l5⟩ := Cond.arrayOver_spec (args := #[Value.ref b]) (first := s) (o := none) (s := s) (idx := []) (n := "RoadsCrossed$Slot") (hts _ st_oL)
  refine ⟨(fun k => (f k).1, fun k => (f k).2), st_cA cI cZ cC cA cS cL, ⟨⟨?_, ?_⟩, fun w hw => va_Nw.of (st_rx_nest_on w hw) (hts w (st_rx_nest w hw))⟩, fun w hw => va_Nw.of (st_nk_nest_on w hw) (hts w (st_nk_nest w hw)), va_AO.of (hts _ st_oS), va_AO.of (hts _ st_oL), va_AOA.of (hts _ st_oI)⟩
  · intro c q hq
    have hl : c < 12 := (List.getElem?_eq_some_iff.mp hq).1
    rw [rx_vw (b := c) hl] at hq
    cases hq
    exact hf c hl
  · intro k q hq
    match k, hq with
    | 0, hq => cases hq; exact ⟨fun N z => ⟨fun k h => (by cases h), kI, i2, pI, i3⟩, i1⟩
    | 1, hq => cases hq; exact ⟨fun N z => ⟨fun k h => (by cases h), kZ, z2, pZ, z3⟩, z1⟩
    | 2, hq => cases hq; exact ⟨fun N z => ⟨fun k h => (by cases h), kC, c2, pC, c3⟩, c1⟩
    | 3, hq => cases hq; exact ⟨fun N z => ⟨fun k h => (by cases h), kA, a3, pA, a4⟩, a5⟩
    | 4, hq => cases hq; exact ⟨fun N z => ⟨fun k h => (by cases h), kS, s3, pS, s4⟩, kS, pS, s3, s4, s1, s5⟩
    | 5, hq => cases hq; exact ⟨fun N z => ⟨fun k h => (by cases h), kL, l3, pL, l4⟩, kL, pL, l3, l4, l1, l5⟩
    | n + 6, hq => cases hq
/-- what nobody writes, apart from the cells of A -/
def st_Ro (A : Nat → Prop) (ad adV : Nat → Nat) (L : Nat) (ro : rx_St) (U : State) (H : Heap) : Prop := va_T .int (ad 159) L (fun j => .int (Int32.ofInt (ro 159 j))) A U H ∧ va_T .int (ad 160) 6 (fun j => .int (Int32.ofInt (ro 160 j))) A U H ∧ va_Z "RoadsCrossed" "ABOVE" "[I" (.ref (ad 160)) A U H ∧ vk_S 3 [4, 5, 4] [[104, 97, 114, 109], [99, 114, 111, 115, 115], [115, 119, 97, 112]] (fun i => ad (161 + i)) adV A U H ∧ vk_R "RoadsCrossed$Reader" 73 "harm" (ad 161) U ∧ vk_R "RoadsCrossed$Reader" 79 "cross" (ad 162) U ∧ vk_R "RoadsCrossed$Reader" 81 "swap" (ad 163) U ∧ va_Z "java/lang/String" "COMPACT_STRINGS" "Z" (.int 1) A U H ∧ va_Zq "jdk/internal/util/Preconditions" "SIOOBE_FORMATTER" "Ljava/util/function/BiFunction;" A U H
theorem st_Ro.to {A : Nat → Prop} {ad ad' adV : Nat → Nat} {H : Heap} (h : st_Ro A ad adV L ro s H) (hag : ∀ c, 159 ≤ c → ad' c = ad c) (hA : ∀ q, rx_A ad' q → A q) : rx_Ro ad' adV L ro s H := by
  obtain ⟨h1, h2, h3, h4, h5, h6, h7, h8, h9⟩ := h
  have e : (fun i => ad (161 + i)) = (fun i => ad' (161 + i)) := funext fun i => (hag _ (by omega)).symm
  rw [← hag 159 (by omega)] at h1
  rw [← hag 160 (by omega)] at h2 h3
  rw [e] at h4
  rw [← hag 161 (by omega)] at h5
  rw [← hag 162 (by omega)] at h6
  rw [← hag 163 (by omega)] at h7
  exact ⟨h1.narrow hA, h2.narrow hA, h3.narrow hA, h4.narrow hA, h5, h6, h7, h8.narrow hA, h9.narrow hA⟩
def st_tm (i : Nat) : Term := .string "RoadsCrossed$Reader" (match i with | 0 => 73 | 1 => 79 | _ => 81)
set_option maxHeartbeats 4000000 in
theorem st_words (hgv : (Jvm.Cond.and given_1 narrow_1).before #[Value.ref b] s = true) (hA : ∀ a : Nat, a < s.heap.size → ¬ nk_A s.heap.size a) : ∃ adK adV : Nat → Nat, vk_S 3 [4, 5, 4] [[104, 97, 114, 109], [99, 114, 111, 115, 115], [115, 119, 97, 112]] adK adV (nk_A s.heap.size) s s.heap ∧ ∀ i : Nat, i < 3 → (st_tm i).eval #[Value.ref b] s none [] s = some (.ref (adK i)) := by
  refine vk_Sof (args := #[Value.ref b]) (s := s) (N := 3) (tm := st_tm) (len := [4, 5, 4]) (byt := [[104, 97, 114, 109], [99, 114, 111, 115, 115], [115, 119, 97, 112]]) (A := nk_A s.heap.size) ?_ ?_ ?_ ?_ ?_ ?_ ?_ hA
  · intro i hi
    match i, hi with
    | 0, _ => decide
    | 1, _ => decide
    | 2, _ => decide
    | n + 3, h => omega
  · intro i hi
    match i, hi with
    | 0, _ => exact st_g (k := 42) rfl hgv
    | 1, _ => exact st_g (k := 50) rfl hgv
    | 2, _ => exact st_g (k := 60) rfl hgv
    | n + 3, h => omega
  · intro i hi
    match i, hi with
    | 0, _ => exact st_g (k := 43) rfl hgv
    | 1, _ => exact st_g (k := 51) rfl hgv
    | 2, _ => exact st_g (k := 61) rfl hgv
    | n + 3, h => omega
  · intro i hi
    match i, hi with
    | 0, _ => exact st_g (k := 44) rfl hgv
    | 1, _ => exact st_g (k := 52) rfl hgv
    | 2, _ => exact st_g (k := 62) rfl hgv
    | n + 3, h => omega
  · intro i hi
    match i, hi with
    | 0, _ => exact st_g (k := 45) rfl hgv
    | 1, _ => exact st_g (k := 53) rfl hgv
    | 2, _ => exact st_g (k := 63) rfl hgv
    | n + 3, h => omega
  · intro i hi
    match i, hi with
    | 0, _ =>
      intro j hj
      match j, hj with
      | 0, _ => exact st_g (k := 46) rfl hgv
      | 1, _ => exact st_g (k := 47) rfl hgv
      | 2, _ => exact st_g (k := 48) rfl hgv
      | 3, _ => exact st_g (k := 49) rfl hgv
      | n + 4, h => exact absurd h (by show ¬ (n + 4 < 4); omega)
    | 1, _ =>
      intro j hj
      match j, hj with
      | 0, _ => exact st_g (k := 54) rfl hgv
      | 1, _ => exact st_g (k := 55) rfl hgv
      | 2, _ => exact st_g (k := 56) rfl hgv
      | 3, _ => exact st_g (k := 57) rfl hgv
      | 4, _ => exact st_g (k := 58) rfl hgv
      | n + 5, h => exact absurd h (by show ¬ (n + 5 < 5); omega)
    | 2, _ =>
      intro j hj
      match j, hj with
      | 0, _ => exact st_g (k := 64) rfl hgv
      | 1, _ => exact st_g (k := 65) rfl hgv
      | 2, _ => exact st_g (k := 66) rfl hgv
      | 3, _ => exact st_g (k := 67) rfl hgv
      | n + 4, h => exact absurd h (by show ¬ (n + 4 < 4); omega)
    | n + 3, h => omega
  · intro i j hi hj hne
    match i, j, hi, hj, hne with
    | 0, 1, _, _, _ => exact Or.inl (st_g (k := 59) rfl hgv)
    | 1, 0, _, _, _ => exact Or.inr (st_g (k := 59) rfl hgv)
    | 0, 2, _, _, _ => exact Or.inl (st_g (k := 68) rfl hgv)
    | 2, 0, _, _, _ => exact Or.inr (st_g (k := 68) rfl hgv)
    | 1, 2, _, _, _ => exact Or.inl (st_g (k := 69) rfl hgv)
    | 2, 1, _, _, _ => exact Or.inr (st_g (k := 69) rfl hgv)
    | 0, 0, _, _, h => exact absurd rfl h
    | 1, 1, _, _, h => exact absurd rfl h
    | 2, 2, _, _, h => exact absurd rfl h
    | n + 3, _, h, _, _ => omega
    | _, n + 3, _, h, _ => omega
theorem st_el {j : Nat} {z : Int} {w : Int32} (e1 : ro 160 j = z) (e2 : Int32.ofInt z = w) (e3 : (Term.elem (.static "RoadsCrossed" "ABOVE" "[I") (.int (Int32.ofNat j))).eval #[Value.ref b] s none [] s = some (.int w)) : (Term.elem (.static "RoadsCrossed" "ABOVE" "[I") (.int (Int32.ofNat j))).eval #[Value.ref b] s none [] s = some (.int (Int32.ofInt (ro 160 j))) := by
  rw [e1, e2]
  exact e3
set_option maxHeartbeats 4000000 in
theorem st_ro (hts : ∀ w ∈ lw_tbl, w.before #[Value.ref b] s = true) (hX : va_X b L xs s s.heap) (hbl : b < s.heap.size) (hgv : (Jvm.Cond.and given_1 narrow_1).before #[Value.ref b] s = true) (h159 : ∀ j : Nat, Int32.ofInt (ro 159 j) = xs j) (hab : ro 160 0 = -1 ∧ ro 160 1 = 0 ∧ ro 160 2 = 0 ∧ ro 160 3 = 1 ∧ ro 160 4 = 2 ∧ ro 160 5 = 0) : ∃ ad adV : Nat → Nat, ad 159 = b ∧ st_Ro (nk_A s.heap.size) ad adV L ro s s.heap := by
  have hA : ∀ a : Nat, a < s.heap.size → ¬ nk_A s.heap.size a := fun a h q => Nat.not_le.mpr h q
  obtain ⟨t, ht, hT⟩ := va_Tof (args := #[Value.ref b]) (tm := .static "RoadsCrossed" "ABOVE" "[I") (ty := .int) (N := 6) (f := fun j => .int (Int32.ofInt (ro 160 j))) (A := nk_A s.heap.size) (by decide) (st_g (k := 5) rfl hgv) (va_eqt (st_g (k := 6) rfl hgv)) (fun j hj => by
    match j, hj with
    | 0, _ => exact st_el hab.1 (w := -1) (by decide) (va_eqt (st_g (k := 7) rfl hgv))
    | 1, _ => exact st_el hab.2.1 (w := 0) (by decide) (va_eqt (st_g (k := 8) rfl hgv))
    | 2, _ => exact st_el hab.2.2.1 (w := 0) (by decide) (va_eqt (st_g (k := 9) rfl hgv))
    | 3, _ => exact st_el hab.2.2.2.1 (w := 1) (by decide) (va_eqt (st_g (k := 10) rfl hgv))
    | 4, _ => exact st_el hab.2.2.2.2.1 (w := 2) (by decide) (va_eqt (st_g (k := 11) rfl hgv))
    | 5, _ => exact st_el hab.2.2.2.2.2 (w := 0) (by decide) (va_eqt (st_g (k := 12) rfl hgv))
    | n + 6, h => omega) hA
  obtain ⟨adK, adV, hK, hev⟩ := st_words hgv hA
  have e159 : (fun c : Nat => if c = 159 then b else if c = 160 then t else adK (c - 161)) 159 = b := if_pos rfl
  refine ⟨fun c => if c = 159 then b else if c = 160 then t else adK (c - 161), adV, e159, ?_, ?_, ?_, ?_, vk_R.of (hts _ st_r0) (hev 0 (by omega)), vk_R.of (hts _ st_r1) (hev 1 (by omega)), vk_R.of (hts _ st_r2) (hev 2 (by omega)), ?_, ?_⟩
  · obtain ⟨scr, h1, h2, h3, h4, h5⟩ := hX
    exact ⟨scr, h1, h2, h3, Nat.le_of_eq h4.symm, congrArg Nat.toInt32 h4, fun j hj => by
      show scr.slots[j]? = some (.int (Int32.ofInt (ro 159 j)))
      rw [h159 j]
      exact h5 j hj, hA b hbl⟩
  · exact hT
  · exact va_Zof (hts _ st_lA) (hts _ st_iA) ht hA
  · have e : (fun i : Nat => (fun c : Nat => if c = 159 then b else if c = 160 then t else adK (c - 161)) (161 + i)) = adK := by
      funext i
      show (if 161 + i = 159 then b else if 161 + i = 160 then t else adK (161 + i - 161)) = adK i
      rw [if_neg (by omega), if_neg (by omega), Nat.add_sub_cancel_left]
    rw [e]
    exact hK
  · exact va_Zof (hts _ st_lC) (hts _ st_iC) (va_eqt (st_g (k := 13) rfl hgv)) hA
  · exact va_Zqof (hts _ st_lP) (hts _ st_iP) (st_g (k := 14) rfl hgv) hA
end STA

