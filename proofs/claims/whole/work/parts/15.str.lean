/-! String.length and String.charAt over the three words -/
def rs_Pc (ad adV : Nat → Nat) (vs : List Value) : Array Value → State → Prop := fun v U => v = vs.toArray ∧ rx_Sr ad adV U U.heap
def rs_Qv : Array Value → State → Outcome → State → Prop := fun _ st o t => o = .returned none ∧ t.heap = st.heap
def rs_room (d : Nat) : Room := { frames := d + 1, cells := 0, slots := 0, locals := 64 * (d + 1) }
def rs_len : List Nat := [4, 5, 4]
def rs_byt : List (List Int32) := [[104, 97, 114, 109], [99, 114, 111, 115, 115], [115, 119, 97, 112]]
theorem rs_blind {ad adV : Nat → Nat} {vs : List Value} : FrameBlind (rs_Pc ad adV vs) := by
  intro a U g mk h
  obtain ⟨h1, h3⟩ := h
  have hv : (U.calling g mk a).vm = U.vm := rfl
  have hh : (U.calling g mk a).heap = U.heap := rfl
  have hW : U.vm.Alike (U.calling g mk a).vm := Vm.Alike.refl U.vm
  refine ⟨h1, ?_⟩
  rw [hh]
  exact ⟨h3.1.moved hW, h3.2.1.same hv, h3.2.2.1.same hv, h3.2.2.2.1.same hv, h3.2.2.2.2.1.moved hW, h3.2.2.2.2.2.moved hW⟩
theorem rs_rm {d : Nat} {n : Nat} (hn : n ≤ 40) {R : Room} (h1 : d + 2 ≤ R.frames) (h2 : 64 * (d + 2) ≤ R.locals) : (rs_room d).frames + 1 ≤ R.frames ∧ 8 + (n + 11) + (rs_room d).locals ≤ R.locals := by
  refine ⟨h1, ?_⟩
  show 8 + (n + 11) + 64 * (d + 1) ≤ R.locals
  omega
section RST
variable {ad adV : Nat → Nat} (l : Launch) {i : Nat} (hi : i < 3)
set_option maxHeartbeats 4000000 in
set_option maxRecDepth 100000 in
theorem rs_coder (hi : i < 3) : Met l yJ0_coder_7d493 (Cond.code yJ0_coder_7d493 cJ0_coder_7d493 1 (some .byte) :: rx_all) (rs_room 0) (rs_Pc ad adV [.ref (ad (161 + i))]) (QcRead 0) 0 0 (fun _ => False) := by
  refine Met.ofW (cc := cJ0_coder_7d493) (maxL := 1) (ret := (some .byte)) (by decide) rfl ?_
  intro p e s m args below meth c s₁ B hml hv
  obtain ⟨rfl, hSr⟩ := hv
  have hx := B.exec
  have hb := B.bytes
  have hr := B.returns
  have hts := atoms_spec (ws := Cond.code yJ0_coder_7d493 cJ0_coder_7d493 1 (some .byte) :: rx_all) B.pre
  have hown : s.vm.findClass "java/lang/String" = some m.cls := findClass_of_methodNamed B.named
  have hlocks := B.notSynchronized
  have hS : va_S (rx_A ad) s.heap s.heap [] := va_S.rf
  have hl := lv_entry ([.ref (ad (161 + i))]) (n := 1) (Nat.le_of_ble_eq_true rfl)
  rw [lg_entry_eq]
  generalize (lg_sl ([.ref (ad (161 + i))]) ++ List.replicate (1 - (lg_sl ([.ref (ad (161 + i))])).length) Slot.unset).toArray = ls at hl ⊢
  have hl : lv_has ls 1 [(0, .ref (ad (161 + i)))] := hl
  refine va_gets hx hb hSr.2.2.2.2.1 hS hown (hts _ (List.mem_cons_of_mem _ sw_f38)) (fun _ h9 => h9) dJ0_coder_7d493_0 ?_
  refine lv_if_eq (tgt := 13) hx hb dJ0_coder_7d493_3 (by decide) (fun h => absurd h (by decide)) (fun _ => ?_)
  refine lv_aload_n hx hb dJ0_coder_7d493_6 rfl (lv_at hl 0 rfl) ?_
  refine vk_getf hx hb (hSr.1.1 i hi).2.1 hS hown (hts _ (List.mem_cons_of_mem _ sw_f15)) (fun _ h9 => h9) dJ0_coder_7d493_7 ?_
  refine lv_goto (tgt := 14) hx hb dJ0_coder_7d493_10 (by decide) ?_
  exact W.zret (v := 0) hx hb hr (by decide) (fun t ht _ => ⟨rfl, ht⟩) (fun q hq => by cases hq) dJ0_coder_7d493_14
set_option maxHeartbeats 4000000 in
set_option maxRecDepth 100000 in
theorem rs_latin (hi : i < 3) : Met l yJ0_isLatin1_aae02 (Cond.code yJ0_isLatin1_aae02 cJ0_isLatin1_aae02 1 (some .boolean) :: rx_all) (rs_room 0) (rs_Pc ad adV [.ref (ad (161 + i))]) (QcRead 1) 0 0 (fun _ => False) := by
  refine Met.ofW (cc := cJ0_isLatin1_aae02) (maxL := 1) (ret := (some .boolean)) (by decide) rfl ?_
  intro p e s m args below meth c s₁ B hml hv
  obtain ⟨rfl, hSr⟩ := hv
  have hx := B.exec
  have hb := B.bytes
  have hr := B.returns
  have hts := atoms_spec (ws := Cond.code yJ0_isLatin1_aae02 cJ0_isLatin1_aae02 1 (some .boolean) :: rx_all) B.pre
  have hown : s.vm.findClass "java/lang/String" = some m.cls := findClass_of_methodNamed B.named
  have hlocks := B.notSynchronized
  have hS : va_S (rx_A ad) s.heap s.heap [] := va_S.rf
  have hl := lv_entry ([.ref (ad (161 + i))]) (n := 1) (Nat.le_of_ble_eq_true rfl)
  rw [lg_entry_eq]
  generalize (lg_sl ([.ref (ad (161 + i))]) ++ List.replicate (1 - (lg_sl ([.ref (ad (161 + i))])).length) Slot.unset).toArray = ls at hl ⊢
  have hl : lv_has ls 1 [(0, .ref (ad (161 + i)))] := hl
  refine va_gets hx hb hSr.2.2.2.2.1 hS hown (hts _ (List.mem_cons_of_mem _ sw_f38)) (fun _ h9 => h9) dJ0_isLatin1_aae02_0 ?_
  refine lv_if_eq (tgt := 17) hx hb dJ0_isLatin1_aae02_3 (by decide) (fun h => absurd h (by decide)) (fun _ => ?_)
  refine lv_aload_n hx hb dJ0_isLatin1_aae02_6 rfl (lv_at hl 0 rfl) ?_
  refine vk_getf hx hb (hSr.1.1 i hi).2.1 hS hown (hts _ (List.mem_cons_of_mem _ sw_f15)) (fun _ h9 => h9) dJ0_isLatin1_aae02_7 ?_
  refine lv_if_ne (tgt := 17) hx hb dJ0_isLatin1_aae02_10 (by decide) (fun h => absurd rfl h) (fun _ => ?_)
  refine lv_iconst (v := 1) hx hb dJ0_isLatin1_aae02_13 (by decide) ?_
  refine lv_goto (tgt := 18) hx hb dJ0_isLatin1_aae02_14 (by decide) ?_
  exact W.zret (v := 1) hx hb hr (by decide) (fun t ht _ => ⟨rfl, ht⟩) (fun q hq => by cases hq) dJ0_isLatin1_aae02_18
set_option maxHeartbeats 4000000 in
set_option maxRecDepth 100000 in
theorem rs_length (hi : i < 3) : Met l yJ0_length_8abf5 (Cond.code yJ0_length_8abf5 cJ0_length_8abf5 1 (some .int) :: rx_all) (rs_room 1) (rs_Pc ad adV [.ref (ad (161 + i))]) (QcRead (Int32.ofNat (rs_len.getD i 0))) 0 0 (fun _ => False) := by
  refine Met.ofW (cc := cJ0_length_8abf5) (maxL := 1) (ret := (some .int)) (by decide) rfl ?_
  intro p e s m args below meth c s₁ B hml hv
  obtain ⟨rfl, hSr⟩ := hv
  have hx := B.exec
  have hb := B.bytes
  have hr := B.returns
  have hts := atoms_spec (ws := Cond.code yJ0_length_8abf5 cJ0_length_8abf5 1 (some .int) :: rx_all) B.pre
  have ht' : ∀ w ∈ rx_all, w.before ([Value.ref (ad (161 + i))] : List Value).toArray s = true := fun w hw => hts w (List.mem_cons_of_mem _ hw)
  have hown : s.vm.findClass "java/lang/String" = some m.cls := findClass_of_methodNamed B.named
  have hlocks := B.notSynchronized
  have hS : va_S (rx_A ad) s.heap s.heap [] := va_S.rf
  have hl := lv_entry ([.ref (ad (161 + i))]) (n := 1) (Nat.le_of_ble_eq_true rfl)
  rw [lg_entry_eq]
  generalize (lg_sl ([.ref (ad (161 + i))]) ++ List.replicate (1 - (lg_sl ([.ref (ad (161 + i))])).length) Slot.unset).toArray = ls at hl ⊢
  have hl : lv_has ls 1 [(0, .ref (ad (161 + i)))] := hl
  refine lv_aload_n hx hb dJ0_length_8abf5_0 rfl (lv_at hl 0 rfl) ?_
  refine vk_getf hx hb (hSr.1.1 i hi).2.2.1 hS hown (ht' _ sw_f9) (fun _ h9 => h9) dJ0_length_8abf5_1 ?_
  refine va_tlen (v := Int32.ofNat (rs_len.getD i 0)) hx hb (hSr.1.1 i hi).2.2.2 hS rfl dJ0_length_8abf5_4 ?_
  refine lv_aload_n hx hb dJ0_length_8abf5_5 rfl (lv_at hl 0 rfl) ?_
  refine W.callR (W.runV (As := []) (rest := [.int (Int32.ofNat (rs_len.getD i 0))]) (C := "java/lang/String") (n := 0) ⟨hx, hb, hml, hown, ht'⟩ (rs_coder (ad := ad) (adV := adV) l hi) ⟨callB_of 0 ht' (rx_goodC sw_Co_c) rfl rfl rfl (ht' _ sw_ini_St) (ht' _ sw_l335) ⟨by decide, by decide, by decide +kernel⟩ (rs_rm (by decide) (Nat.le_refl _) (Nat.le_refl _)), ht' _ sw_Co_i, ht' _ sw_Co_s⟩ ⟨rs_blind, vk_recv hSr.1 hi hS, fun U hU hW => ⟨rfl, by rw [hU]; exact hSr.warm hW⟩⟩ rfl rfl hl.1 rfl (Nat.le_of_ble_eq_true rfl) dJ0_length_8abf5_6 ⟨Nat.le_refl _, Nat.le_refl _⟩) ?_
  refine W.eq (g2 := F0 m 9 ls [.int 0, .int (Int32.ofNat (rs_len.getD i 0))]) rfl ?_
  refine lv_ishr (x := Int32.ofNat (rs_len.getD i 0)) (y := 0) hx hb dJ0_length_8abf5_9 ?_
  have e9 : Int32.ofNat (rs_len.getD i 0) >>> ((0 : Int32) &&& 31) = Int32.ofNat (rs_len.getD i 0) := by
    have h9 : i = 0 ∨ i = 1 ∨ i = 2 := by omega
    rcases h9 with rfl | rfl | rfl <;> decide
  rw [e9]
  exact W.iret hx hb hr (fun t ht _ => ⟨rfl, ht⟩) (fun q hq => by cases hq) dJ0_length_8abf5_10
set_option maxHeartbeats 4000000 in
set_option maxRecDepth 100000 in
theorem rs_pre {j n : Nat} {f : Value} (hf : f = .null ∨ ∃ t, f = .ref t) (hj : j < n) (hn : n < 100) : Met l yJ3_checkIndex_8e157 (Cond.code yJ3_checkIndex_8e157 cJ3_checkIndex_8e157 3 (some .int) :: rx_all) (rs_room 0) (rs_Pc ad adV [.int (nI j), .int (nI n), f]) (QcRead (nI j)) 0 0 (fun _ => False) := by
  refine Met.ofW (cc := cJ3_checkIndex_8e157) (maxL := 3) (ret := (some .int)) (by decide) rfl ?_
  intro p e s m args below meth c s₁ B hml hv
  obtain ⟨rfl, hSr⟩ := hv
  have hx := B.exec
  have hb := B.bytes
  have hr := B.returns
  have hlocks := B.notSynchronized
  have hfc : f.category = 1 := by rcases hf with rfl | ⟨t, rfl⟩ <;> rfl
  have hl := lv_entry ([.int (nI j), .int (nI n), f]) (n := 3) (by rcases hf with rfl | ⟨t, rfl⟩ <;> exact Nat.le_of_ble_eq_true rfl)
  rw [lg_entry_eq]
  generalize (lg_sl ([.int (nI j), .int (nI n), f]) ++ List.replicate (3 - (lg_sl ([.int (nI j), .int (nI n), f])).length) Slot.unset).toArray = ls at hl ⊢
  have hl : lv_has ls 3 [(0, .int (nI j)), (1, .int (nI n)), (2, f)] := hl
  refine lv_iload_n hx hb dJ3_checkIndex_8e157_0 rfl (lv_at hl 0 rfl) ?_
  refine lv_if_lt (tgt := 9) hx hb dJ3_checkIndex_8e157_1 (by decide) (fun h => absurd h (nI_pos (by omega))) (fun _ => ?_)
  refine lv_iload_n hx hb dJ3_checkIndex_8e157_4 rfl (lv_at hl 0 rfl) ?_
  refine lv_iload_n hx hb dJ3_checkIndex_8e157_5 rfl (lv_at hl 1 rfl) ?_
  refine lv_icmp_lt (tgt := 16) hx hb dJ3_checkIndex_8e157_6 (by decide) (fun _ => ?_) (fun h => absurd (nI_lt hj (by omega)) h)
  refine lv_iload_n hx hb dJ3_checkIndex_8e157_16 rfl (lv_at hl 0 rfl) ?_
  exact W.iret hx hb hr (fun t ht _ => ⟨rfl, ht⟩) (fun q hq => by cases hq) dJ3_checkIndex_8e157_17
set_option maxHeartbeats 4000000 in
set_option maxRecDepth 100000 in
theorem rs_chk {j n : Nat} (hj : j < n) (hn : n < 100) : Met l yJ0_checkIndex_df160 (Cond.code yJ0_checkIndex_df160 cJ0_checkIndex_df160 2 none :: rx_all) (rs_room 1) (rs_Pc ad adV [.int (nI j), .int (nI n)]) rs_Qv 0 0 (fun _ => False) := by
  refine Met.ofW (cc := cJ0_checkIndex_df160) (maxL := 2) (ret := none) (by decide) rfl ?_
  intro p e s m args below meth c s₁ B hml hv
  obtain ⟨rfl, hSr⟩ := hv
  have hx := B.exec
  have hb := B.bytes
  have hr := B.returns
  have hts := atoms_spec (ws := Cond.code yJ0_checkIndex_df160 cJ0_checkIndex_df160 2 none :: rx_all) B.pre
  have ht' : ∀ w ∈ rx_all, w.before ([.int (nI j), .int (nI n)] : List Value).toArray s = true := fun w hw => hts w (List.mem_cons_of_mem _ hw)
  have hown : s.vm.findClass "java/lang/String" = some m.cls := findClass_of_methodNamed B.named
  have hlocks := B.notSynchronized
  have hS : va_S (rx_A ad) s.heap s.heap [] := va_S.rf
  have hl := lv_entry ([.int (nI j), .int (nI n)]) (n := 2) (Nat.le_of_ble_eq_true rfl)
  rw [lg_entry_eq]
  generalize (lg_sl ([.int (nI j), .int (nI n)]) ++ List.replicate (2 - (lg_sl ([.int (nI j), .int (nI n)])).length) Slot.unset).toArray = ls at hl ⊢
  have hl : lv_has ls 2 [(0, .int (nI j)), (1, .int (nI n))] := hl
  refine lv_iload_n hx hb dJ0_checkIndex_df160_0 rfl (lv_at hl 0 rfl) ?_
  refine lv_iload_n hx hb dJ0_checkIndex_df160_1 rfl (lv_at hl 1 rfl) ?_
  have key : ∀ f : Value, (f = .null ∨ ∃ t, f = .ref t) → W p l e (headSpec (Cond.code yJ0_checkIndex_df160 cJ0_checkIndex_df160 2 none :: rx_all) (rs_room 1)).room s m ([.int (nI j), .int (nI n)] : List Value).toArray below meth c s.heap [] 0 0 (MQ below rs_Qv ([.int (nI j), .int (nI n)] : List Value).toArray s 0 0 (fun _ => False)) (F0 m 5 ls [f, .int (nI n), .int (nI j)]) := by
    intro f hf
    refine W.callR (W.runS (As := [.int (nI j), .int (nI n), f]) (rest := []) (n := 3) ⟨hx, hb, hml, hown, ht'⟩ (rs_pre (ad := ad) (adV := adV) l hf hj hn) ⟨callB_of 3 ht' (rx_goodC sw_Pk_c) rfl rfl rfl (ht' _ sw_ini_Pc) (ht' _ sw_l1059) ⟨by decide, by decide, by decide +kernel⟩ (rs_rm (by decide) (Nat.le_refl _) (Nat.le_refl _)), ht' _ sw_Pk_t⟩ ⟨rs_blind, fun U hU hW => ⟨rfl, by rw [hU]; exact hSr.warm hW⟩⟩ rfl rfl hl.1 rfl (Nat.le_of_ble_eq_true rfl) dJ0_checkIndex_df160_5 ⟨Nat.le_refl _, Nat.le_refl _⟩) ?_
    refine W.eq (g2 := F0 m 8 ls [.int (nI j)]) rfl ?_
    refine lv_pop hx hb dJ0_checkIndex_df160_8 rfl ?_
    exact W.vret hx hb hr (fun t ht _ => ⟨rfl, ht⟩) (fun q hq => by cases hq) dJ0_checkIndex_df160_9
  rcases hSr.2.2.2.2.2 with hz | ⟨t, hz⟩
  · exact va_gets hx hb hz hS hown (ht' _ sw_f1053) (fun _ h9 => h9) dJ0_checkIndex_df160_2 (key _ (Or.inl rfl))
  · exact va_gets hx hb hz hS hown (ht' _ sw_f1053) (fun _ h9 => h9) dJ0_checkIndex_df160_2 (key _ (Or.inr ⟨t, rfl⟩))
def rs_ch (i j : Nat) : Int32 := (rs_byt.getD i []).getD j 0
theorem rs_chF : ∀ i, i < 3 → ∀ j, j < rs_len.getD i 0 → ((rs_ch i j &&& (Int16.ofInt 255).toInt32).toUInt32 % 65536).toInt32 = rs_ch i j ∧ narrow .char (.int (rs_ch i j)) = .int (rs_ch i j) := by decide +kernel
theorem rs_len5 : ∀ i, i < 3 → rs_len.getD i 0 < 100 := by decide
set_option maxHeartbeats 4000000 in
set_option maxRecDepth 100000 in
theorem rs_lat {j : Nat} (hi : i < 3) (hj : j < rs_len.getD i 0) : Met l yJ1_charAt_3b067 (Cond.code yJ1_charAt_3b067 cJ1_charAt_3b067 2 (some .char) :: rx_all) (rs_room 2) (rs_Pc ad adV [.ref (adV i), .int (nI j)]) (QcRead (rs_ch i j)) 0 0 (fun _ => False) := by
  refine Met.ofW (cc := cJ1_charAt_3b067) (maxL := 2) (ret := (some .char)) (by decide) rfl ?_
  intro p e s m args below meth c s₁ B hml hv
  obtain ⟨rfl, hSr⟩ := hv
  have hx := B.exec
  have hb := B.bytes
  have hr := B.returns
  have hts := atoms_spec (ws := Cond.code yJ1_charAt_3b067 cJ1_charAt_3b067 2 (some .char) :: rx_all) B.pre
  have ht' : ∀ w ∈ rx_all, w.before ([.ref (adV i), .int (nI j)] : List Value).toArray s = true := fun w hw => hts w (List.mem_cons_of_mem _ hw)
  have hown : s.vm.findClass "java/lang/StringLatin1" = some m.cls := findClass_of_methodNamed B.named
  have hlocks := B.notSynchronized
  have hS : va_S (rx_A ad) s.heap s.heap [] := va_S.rf
  have hn := rs_len5 i hi
  have hl := lv_entry ([.ref (adV i), .int (nI j)]) (n := 2) (Nat.le_of_ble_eq_true rfl)
  rw [lg_entry_eq]
  generalize (lg_sl ([.ref (adV i), .int (nI j)]) ++ List.replicate (2 - (lg_sl ([.ref (adV i), .int (nI j)])).length) Slot.unset).toArray = ls at hl ⊢
  have hl : lv_has ls 2 [(0, .ref (adV i)), (1, .int (nI j))] := hl
  have hT := (hSr.1.1 i hi).2.2.2
  refine lv_iload_n hx hb dJ1_charAt_3b067_0 rfl (lv_at hl 1 rfl) ?_
  refine lv_aload_n hx hb dJ1_charAt_3b067_1 rfl (lv_at hl 0 rfl) ?_
  refine va_tlen (v := nI (rs_len.getD i 0)) hx hb hT hS rfl dJ1_charAt_3b067_2 ?_
  refine W.callX (W.runS (As := [.int (nI j), .int (nI (rs_len.getD i 0))]) (rest := []) (n := 2) ⟨hx, hb, hml, hown, ht'⟩ (rs_chk (ad := ad) (adV := adV) l hj hn) ⟨callB_of 2 ht' (rx_goodC sw_Ci_c) rfl rfl rfl (ht' _ sw_ini_St) (ht' _ sw_l9) ⟨by decide, by decide, by decide +kernel⟩ (rs_rm (by decide) (Nat.le_refl _) (Nat.le_refl _)), ht' _ sw_Ci_t⟩ ⟨rs_blind, fun U hU hW => ⟨rfl, by rw [hU]; exact hSr.warm hW⟩⟩ rfl rfl hl.1 rfl (Nat.le_of_ble_eq_true rfl) dJ1_charAt_3b067_3 ⟨Nat.le_refl _, Nat.le_refl _⟩) (fun x h => h.elim) (fun v st₀ t h0 hq => ?_)
  obtain ⟨hv9, hh9⟩ := hq
  cases hv9
  rw [hh9, h0]
  show W _ _ _ _ _ _ _ _ _ _ _ _ 0 0 _ (F0 m 6 ls [])
  refine lv_aload_n hx hb dJ1_charAt_3b067_6 rfl (lv_at hl 0 rfl) ?_
  refine lv_iload_n hx hb dJ1_charAt_3b067_7 rfl (lv_at hl 1 rfl) ?_
  refine va_tb (v := .int (rs_ch i j)) hx hb hT hS (show vp_in (nI j) (rs_len.getD i 0) from vp_in_nI hj (by omega)) (by rw [nI_clamp (by omega)]; rfl) dJ1_charAt_3b067_8 ?_
  refine lv_sipush (v := (Int16.ofInt 255).toInt32) hx hb dJ1_charAt_3b067_9 rfl ?_
  refine lv_iand hx hb dJ1_charAt_3b067_12 ?_
  refine lv_i2c hx hb dJ1_charAt_3b067_13 (rs_chF i hi j hj).1 ?_
  exact W.zret hx hb hr (rs_chF i hi j hj).2 (fun t ht _ => ⟨rfl, ht⟩) (fun q hq => by cases hq) dJ1_charAt_3b067_14
set_option maxHeartbeats 4000000 in
set_option maxRecDepth 100000 in
theorem rs_char {j : Nat} (hi : i < 3) (hj : j < rs_len.getD i 0) : Met l yJ0_charAt_5068e (Cond.code yJ0_charAt_5068e cJ0_charAt_5068e 2 (some .char) :: rx_all) (rs_room 3) (rs_Pc ad adV [.ref (ad (161 + i)), .int (nI j)]) (QcRead (rs_ch i j)) 0 0 (fun _ => False) := by
  refine Met.ofW (cc := cJ0_charAt_5068e) (maxL := 2) (ret := (some .char)) (by decide) rfl ?_
  intro p e s m args below meth c s₁ B hml hv
  obtain ⟨rfl, hSr⟩ := hv
  have hx := B.exec
  have hb := B.bytes
  have hr := B.returns
  have hts := atoms_spec (ws := Cond.code yJ0_charAt_5068e cJ0_charAt_5068e 2 (some .char) :: rx_all) B.pre
  have ht' : ∀ w ∈ rx_all, w.before ([.ref (ad (161 + i)), .int (nI j)] : List Value).toArray s = true := fun w hw => hts w (List.mem_cons_of_mem _ hw)
  have hown : s.vm.findClass "java/lang/String" = some m.cls := findClass_of_methodNamed B.named
  have hlocks := B.notSynchronized
  have hS : va_S (rx_A ad) s.heap s.heap [] := va_S.rf
  have hl := lv_entry ([.ref (ad (161 + i)), .int (nI j)]) (n := 2) (Nat.le_of_ble_eq_true rfl)
  rw [lg_entry_eq]
  generalize (lg_sl ([.ref (ad (161 + i)), .int (nI j)]) ++ List.replicate (2 - (lg_sl ([.ref (ad (161 + i)), .int (nI j)])).length) Slot.unset).toArray = ls at hl ⊢
  have hl : lv_has ls 2 [(0, .ref (ad (161 + i))), (1, .int (nI j))] := hl
  refine lv_aload_n hx hb dJ0_charAt_5068e_0 rfl (lv_at hl 0 rfl) ?_
  refine W.callR (W.runV (As := []) (rest := []) (C := "java/lang/String") (n := 0) ⟨hx, hb, hml, hown, ht'⟩ (rs_latin (ad := ad) (adV := adV) l hi) ⟨callB_of 0 ht' (rx_goodC sw_La_c) rfl rfl rfl (ht' _ sw_ini_St) (ht' _ sw_l492) ⟨by decide, by decide, by decide +kernel⟩ (rs_rm (by decide) (by decide) (by decide)), ht' _ sw_La_i, ht' _ sw_La_s⟩ ⟨rs_blind, vk_recv hSr.1 hi hS, fun U hU hW => ⟨rfl, by rw [hU]; exact hSr.warm hW⟩⟩ rfl rfl hl.1 rfl (Nat.le_of_ble_eq_true rfl) dJ0_charAt_5068e_1 ⟨Nat.le_refl _, Nat.le_refl _⟩) ?_
  refine W.eq (g2 := F0 m 4 ls [.int 1]) rfl ?_
  refine lv_if_eq (tgt := 16) hx hb dJ0_charAt_5068e_4 (by decide) (fun h => absurd h (by decide)) (fun _ => ?_)
  refine lv_aload_n hx hb dJ0_charAt_5068e_7 rfl (lv_at hl 0 rfl) ?_
  refine vk_getf hx hb (hSr.1.1 i hi).2.2.1 hS hown (ht' _ sw_f9) (fun _ h9 => h9) dJ0_charAt_5068e_8 ?_
  refine lv_iload_n hx hb dJ0_charAt_5068e_11 rfl (lv_at hl 1 rfl) ?_
  refine W.callR (W.runS (As := [.ref (adV i), .int (nI j)]) (rest := []) (n := 2) ⟨hx, hb, hml, hown, ht'⟩ (rs_lat (ad := ad) (adV := adV) l hi hj) ⟨callB_of 2 ht' (rx_goodC sw_L1_c) rfl rfl rfl (ht' _ sw_ini_Lt) (ht' _ sw_l495) ⟨by decide, by decide, by decide +kernel⟩ (rs_rm (by decide) (Nat.le_refl _) (Nat.le_refl _)), ht' _ sw_L1_t⟩ ⟨rs_blind, fun U hU hW => ⟨rfl, by rw [hU]; exact hSr.warm hW⟩⟩ rfl rfl hl.1 rfl (Nat.le_of_ble_eq_true rfl) dJ0_charAt_5068e_12 ⟨Nat.le_refl _, Nat.le_refl _⟩) ?_
  refine W.eq (g2 := F0 m 15 ls [.int (rs_ch i j)]) rfl ?_
  exact W.zret hx hb hr (rs_chF i hi j hj).2 (fun t ht _ => ⟨rfl, ht⟩) (fun q hq => by cases hq) dJ0_charAt_5068e_15
end RST
theorem rs_strI {o : Nat} (h : rx_str o ≠ []) : ∃ i, i < 3 ∧ o = 161 + i := by
  unfold rx_str at h
  split at h
  · exact ⟨0, by omega, by omega⟩
  · split at h
    · exact ⟨1, by omega, by omega⟩
    · split at h
      · exact ⟨2, by omega, by omega⟩
      · exact absurd rfl h
theorem rs_strL : ∀ i, i < 3 → (rx_str (161 + i)).length = rs_len.getD i 0 ∧ ∀ j, j < rs_len.getD i 0 → (rx_str (161 + i))[j]? = some (rs_ch i j).toInt := by decide +kernel
set_option maxRecDepth 100000 in
theorem rs_rmX {d k : Nat} {n : Nat} (hk : k ≤ 6) (hn : n ≤ 40) {R : Room} (h1 : d + 8 ≤ R.frames) (h2 : 64 * (d + 8) ≤ R.locals) : (rs_room k).frames + 1 ≤ R.frames ∧ 8 + (n + 11) + (rs_room k).locals ≤ R.locals := by
  refine ⟨?_, ?_⟩
  · show k + 1 + 1 ≤ R.frames
    omega
  · show 8 + (n + 11) + 64 * (k + 1) ≤ R.locals
    omega
set_option maxHeartbeats 4000000 in
theorem rx_S26 : rx_StW 26 := by
  intro p l e R s m args below meth c H locs cells slots Q D ad adV cA L ro σ σ' pc pc' mi d lsA la la' st st' nx b c0 a sw X hok hs S kk
  obtain ⟨hx, hb, hml, hown, hts, hR, hEn, hRo, hL384, hinj⟩ := X
  obtain ⟨hL, hlo, hso, hHp, hSS⟩ := S
  simp only [rx_step] at hs
  split at hs
  · next o st0 =>
    split at hs
    · next hne =>
      cases hs
      obtain ⟨i, hi, rfl⟩ := rs_strI hne.1
      simp only [rx_ok, Bool.and_eq_true, decide_eq_true_eq] at hok
      obtain ⟨⟨⟨hd, rfl⟩, ho⟩, hid⟩ := hok
      rw [ho] at hown
      rw [hid] at hd
      have hSr := hRo.2.2.2
      have hWd : 2 * (F0 m pc lsA (((.inr (161 + i) : rx_V) :: st0).map (rx_ev ad))).monitorRoom + ((st0.map (rx_ev ad)).map fun v => v.category).sum ≤ 8 := by
        rw [rx_cats]
        show 2 * 0 + _ ≤ 8
        omega
      refine W.callR (W.runV (As := []) (rest := st0.map (rx_ev ad)) (C := "java/lang/String") (n := 0) ⟨hx, hb, hml, hown, hts⟩ (rs_length (ad := ad) (adV := adV) l hi) ⟨callB_of 0 hts (rx_goodC sw_Ln_c) rfl rfl rfl (hts _ sw_ini_St) (hts _ sw_r65) ⟨by decide, by decide, by decide +kernel⟩ (rs_rmX (by decide) (by decide) hR.1 hR.2.1), hts _ sw_Ln_i, hts _ sw_Ln_s⟩ ⟨rs_blind, vk_recv hSr.1 hi hSS, fun U hU hW => ⟨rfl, by rw [hU]; exact ((hRo.kept hSS.2.1).2.2.2).warm hW⟩⟩ rfl rfl hL.1.1 rfl hWd hd ⟨hR.2.2.1, hR.2.2.2⟩) ?_
      have hk := kk lsA H locs ⟨hL, hlo, hso.tl.cons (v := .inl ((rx_str (161 + i)).length : Int)) ?_, hHp, hSS⟩
      · have e9 : rx_ev ad (.inl ((rx_str (161 + i)).length : Int)) = .int (Int32.ofNat (rs_len.getD i 0)) := by
          rw [(rs_strL i hi).1, rx_ofNat]
          rfl
        rw [List.map_cons, e9] at hk
        exact hk
      · rw [(rs_strL i hi).1]
        have := rs_len5 i hi
        exact ⟨by omega, by omega⟩
    · cases hs
  · cases hs
set_option maxHeartbeats 4000000 in
theorem rx_S27 : rx_StW 27 := by
  intro p l e R s m args below meth c H locs cells slots Q D ad adV cA L ro σ σ' pc pc' mi d lsA la la' st st' nx b c0 a sw X hok hs S kk
  obtain ⟨hx, hb, hml, hown, hts, hR, hEn, hRo, hL384, hinj⟩ := X
  obtain ⟨hL, hlo, hso, hHp, hSS⟩ := S
  simp only [rx_step] at hs
  split at hs
  · next j o st0 =>
    split at hs
    · next hj0 =>
      split at hs
      · next ch hch =>
        cases hs
        have hne : rx_str o ≠ [] := by
          intro h9
          rw [h9] at hch
          cases hch
        obtain ⟨i, hi, rfl⟩ := rs_strI hne
        simp only [rx_ok, Bool.and_eq_true, decide_eq_true_eq] at hok
        obtain ⟨⟨⟨hd, rfl⟩, ho⟩, hid⟩ := hok
        rw [ho] at hown
        rw [hid] at hd
        have hSr := hRo.2.2.2
        have hjl : j.toNat < rs_len.getD i 0 := by
          rw [← (rs_strL i hi).1]
          exact (List.getElem?_eq_some_iff.mp hch).1
        have hcv : ch = (rs_ch i j.toNat).toInt := by
          have h9 := (rs_strL i hi).2 j.toNat hjl
          rw [hch] at h9
          exact Option.some.inj h9
        have hWd : 2 * (F0 m pc lsA (((.inl j : rx_V) :: .inr (161 + i) :: st0).map (rx_ev ad))).monitorRoom + ((st0.map (rx_ev ad)).map fun v => v.category).sum ≤ 8 := by
          rw [rx_cats]
          show 2 * 0 + _ ≤ 8
          omega
        have ej : Int32.ofInt j = nI j.toNat := by
          show _ = Int32.ofNat j.toNat
          rw [rx_ofNat]
          congr 1
          omega
        have hstk : (((.inl j : rx_V) :: .inr (161 + i) :: st0).map (rx_ev ad)) = ([.int (nI j.toNat)] : List Value).reverse ++ .ref (ad (161 + i)) :: st0.map (rx_ev ad) := by
          show Value.int (Int32.ofInt j) :: _ = _
          rw [ej]
          rfl
        refine W.callR (W.runV (As := [.int (nI j.toNat)]) (rest := st0.map (rx_ev ad)) (C := "java/lang/String") (n := 1) ⟨hx, hb, hml, hown, hts⟩ (rs_char (ad := ad) (adV := adV) l hi hjl) ⟨callB_of 1 hts (rx_goodC sw_Ch_c) rfl rfl rfl (hts _ sw_ini_St) (hts _ sw_r69) ⟨by decide, by decide, by decide +kernel⟩ (rs_rmX (by decide) (by decide) hR.1 hR.2.1), hts _ sw_Ch_i, hts _ sw_Ch_s⟩ ⟨rs_blind, vk_recv hSr.1 hi hSS, fun U hU hW => ⟨rfl, by rw [hU]; exact ((hRo.kept hSS.2.1).2.2.2).warm hW⟩⟩ rfl rfl hL.1.1 hstk hWd hd ⟨hR.2.2.1, hR.2.2.2⟩) ?_
        have hk := kk lsA H locs ⟨hL, hlo, hso.tl.tl.cons (v := .inl ch) (by rw [hcv]; exact rx_toR _), hHp, hSS⟩
        have e9 : rx_ev ad (.inl ch) = .int (rs_ch i j.toNat) := by
          rw [hcv]
          show Value.int (Int32.ofInt _) = _
          rw [Int32.ofInt_toInt]
        rw [List.map_cons, e9] at hk
        exact hk
      · cases hs
    · cases hs
  · cases hs
