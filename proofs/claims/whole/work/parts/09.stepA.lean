section RXS
variable {p : Program} {l : Launch} {e : Env} {R : Room} {s : State} {m : MethodId} {args : Array Value} {below : List Frame} {meth : Method} {c : Code} {H : Heap} {locs : List Loc} {cells slots : Nat} {Q : State → Prop}
variable {D : va_G} {ad adV : Nat → Nat} {cA : Nat → ClassId} {L : Nat} {ro σ σ' : rx_St} {pc pc' mi d : Nat} {lsA : Array Slot} {la la' : List (Option rx_V)} {st st' : List rx_V} {nx b c0 : Nat} {a : Int} {sw : List (Int × Nat)}

set_option maxHeartbeats 4000000 in
theorem rx_W_1 (F : rx_Facts) (X : rx_X D ad adV cA L ro p R s m args c cells slots mi d) (hok : rx_ok (rx_mi mi) pc (1, nx, a, b, c0, sw) = true) (hs : rx_step L (1, nx, a, b, c0, sw) la st σ = some (pc', la', st', σ')) (S : rx_S D ad cA ro s (rx_mi mi).2.2.1 la st σ lsA H locs)
    (kk : ∀ (lsB : Array Slot) (H1 : Heap) (locs1 : List Loc), rx_S D ad cA ro s (rx_mi mi).2.2.1 la' st' σ' lsB H1 locs1 → W p l e R s m args below meth c H1 locs1 cells slots Q (F0 m pc' lsB (st'.map (rx_ev ad)))) : W p l e R s m args below meth c H locs cells slots Q (F0 m pc lsA (st.map (rx_ev ad))) := by
  obtain ⟨hx, hb, hml, hown, hts, hR, hEn, hRo, hL384, hinj⟩ := X
  obtain ⟨hL, hlo, hso, hHp, hSS⟩ := S
  cases hs
  unfold rx_ok at hok
  simp only [Bool.and_eq_true] at hok
  obtain ⟨hr, hok⟩ := hok
  have hr : rx_r a := by simpa [rx_inR, rx_r] using hr
  have hz : rx_S D ad cA ro s (rx_mi mi).2.2.1 la (.inl a :: st) σ lsA H locs := ⟨hL, hlo, hso.cons hr, hHp, hSS⟩
  have hk := kk lsA H locs hz
  split at hok
  · simp only [Bool.and_eq_true, decide_eq_true_eq] at hok
    obtain ⟨hd, rfl⟩ := hok
    exact lv_iconst hx hb hd rfl hk
  · simp only [Bool.and_eq_true, decide_eq_true_eq] at hok
    obtain ⟨⟨hd, rfl⟩, hv⟩ := hok
    exact lv_bipush hx hb hd hv hk
  · simp only [Bool.and_eq_true, decide_eq_true_eq] at hok
    obtain ⟨⟨hd, rfl⟩, hv⟩ := hok
    exact lv_sipush hx hb hd hv hk
  · simp only [Bool.and_eq_true, decide_eq_true_eq, rx_kl] at hok
    obtain ⟨⟨hd, rfl⟩, hv⟩ := hok
    exact lv_ldc hx hb hown (hts _ (F.2.1 _ (List.mem_of_getElem? hv))) hd hk
  · simp only [Bool.and_eq_true, decide_eq_true_eq, rx_kl] at hok
    obtain ⟨⟨hd, rfl⟩, hv⟩ := hok
    exact lv_ldcw hx hb hown (hts _ (F.2.1 _ (List.mem_of_getElem? hv))) hd hk

set_option maxHeartbeats 4000000 in
theorem rx_W_2 (X : rx_X D ad adV cA L ro p R s m args c cells slots mi d) (hok : rx_ok (rx_mi mi) pc (2, nx, a, b, c0, sw) = true) (hs : rx_step L (2, nx, a, b, c0, sw) la st σ = some (pc', la', st', σ')) (S : rx_S D ad cA ro s (rx_mi mi).2.2.1 la st σ lsA H locs)
    (kk : ∀ (lsB : Array Slot) (H1 : Heap) (locs1 : List Loc), rx_S D ad cA ro s (rx_mi mi).2.2.1 la' st' σ' lsB H1 locs1 → W p l e R s m args below meth c H1 locs1 cells slots Q (F0 m pc' lsB (st'.map (rx_ev ad)))) : W p l e R s m args below meth c H locs cells slots Q (F0 m pc lsA (st.map (rx_ev ad))) := by
  obtain ⟨hx, hb, hml, hown, hts, hR, hEn, hRo, hL384, hinj⟩ := X
  obtain ⟨hL, hlo, hso, hHp, hSS⟩ := S
  simp only [rx_step] at hs
  split at hs
  · next x hv =>
    cases hs
    have hz : rx_S D ad cA ro s (rx_mi mi).2.2.1 la (.inl x :: st) σ lsA H locs := ⟨hL, hlo, hso.cons (hlo.at hv), hHp, hSS⟩
    have hk := kk lsA H locs hz
    have hl := hL.at hv
    simp only [rx_ok] at hok
    split at hok
    · simp only [Bool.and_eq_true, decide_eq_true_eq] at hok
      obtain ⟨⟨hd, rfl⟩, h4⟩ := hok
      exact lv_iload_n hx hb hd (show (Fin.ofNat 4 b).val = b from Nat.mod_eq_of_lt h4) hl hk
    · simp only [Bool.and_eq_true, decide_eq_true_eq] at hok
      obtain ⟨hd, rfl⟩ := hok
      exact lv_iload hx hb hd hl hk
  · cases hs

set_option maxHeartbeats 4000000 in
theorem rx_W_3 (X : rx_X D ad adV cA L ro p R s m args c cells slots mi d) (hok : rx_ok (rx_mi mi) pc (3, nx, a, b, c0, sw) = true) (hs : rx_step L (3, nx, a, b, c0, sw) la st σ = some (pc', la', st', σ')) (S : rx_S D ad cA ro s (rx_mi mi).2.2.1 la st σ lsA H locs)
    (kk : ∀ (lsB : Array Slot) (H1 : Heap) (locs1 : List Loc), rx_S D ad cA ro s (rx_mi mi).2.2.1 la' st' σ' lsB H1 locs1 → W p l e R s m args below meth c H1 locs1 cells slots Q (F0 m pc' lsB (st'.map (rx_ev ad)))) : W p l e R s m args below meth c H locs cells slots Q (F0 m pc lsA (st.map (rx_ev ad))) := by
  obtain ⟨hx, hb, hml, hown, hts, hR, hEn, hRo, hL384, hinj⟩ := X
  obtain ⟨hL, hlo, hso, hHp, hSS⟩ := S
  simp only [rx_step] at hs
  split at hs
  · next x hv =>
    cases hs
    have hz : rx_S D ad cA ro s (rx_mi mi).2.2.1 la (.inr x :: st) σ lsA H locs := ⟨hL, hlo, hso.cons (hlo.at hv), hHp, hSS⟩
    have hk := kk lsA H locs hz
    have hl := hL.at hv
    simp only [rx_ok] at hok
    split at hok
    · simp only [Bool.and_eq_true, decide_eq_true_eq] at hok
      obtain ⟨⟨hd, rfl⟩, h4⟩ := hok
      exact lv_aload_n hx hb hd (show (Fin.ofNat 4 b).val = b from Nat.mod_eq_of_lt h4) hl hk
    · simp only [Bool.and_eq_true, decide_eq_true_eq] at hok
      obtain ⟨hd, rfl⟩ := hok
      exact lv_aload hx hb hd hl hk
  · cases hs

set_option maxHeartbeats 4000000 in
theorem rx_W_4 (X : rx_X D ad adV cA L ro p R s m args c cells slots mi d) (hok : rx_ok (rx_mi mi) pc (4, nx, a, b, c0, sw) = true) (hs : rx_step L (4, nx, a, b, c0, sw) la st σ = some (pc', la', st', σ')) (S : rx_S D ad cA ro s (rx_mi mi).2.2.1 la st σ lsA H locs)
    (kk : ∀ (lsB : Array Slot) (H1 : Heap) (locs1 : List Loc), rx_S D ad cA ro s (rx_mi mi).2.2.1 la' st' σ' lsB H1 locs1 → W p l e R s m args below meth c H1 locs1 cells slots Q (F0 m pc' lsB (st'.map (rx_ev ad)))) : W p l e R s m args below meth c H locs cells slots Q (F0 m pc lsA (st.map (rx_ev ad))) := by
  obtain ⟨hx, hb, hml, hown, hts, hR, hEn, hRo, hL384, hinj⟩ := X
  obtain ⟨hL, hlo, hso, hHp, hSS⟩ := S
  simp only [rx_step] at hs
  split at hs
  · next x st0 =>
    split at hs
    · next hbl =>
      cases hs
      have hn : b < (rx_mi mi).2.2.1 := by rw [← hL.2]; exact hbl
      have hv : rx_okv (.inl x) := hso.hd
      have hk : ∀ lsB, lv_has lsB (rx_mi mi).2.2.1 ((b, rx_ev ad (.inl x)) :: (rx_encl ad la).filter (fun q => !(q.1 == b) && !(q.1 + 1 == b && q.2.category == 2))) → W p l e R s m args below meth c H locs cells slots Q (F0 m pc' lsB (st'.map (rx_ev ad))) :=
        fun lsB h2 => kk lsB H locs ⟨hL.set hbl h2, hlo.set hv, hso.tl, hHp, hSS⟩
      simp only [rx_ok] at hok
      split at hok
      · simp only [Bool.and_eq_true, decide_eq_true_eq] at hok
        obtain ⟨⟨hd, rfl⟩, h4⟩ := hok
        exact lv_istore_n hx hb hd (show (Fin.ofNat 4 b).val = b from Nat.mod_eq_of_lt h4) hL.1 hn rfl hk
      · simp only [Bool.and_eq_true, decide_eq_true_eq] at hok
        obtain ⟨hd, rfl⟩ := hok
        exact lv_istore hx hb hd hL.1 hn rfl hk
    · cases hs
  · cases hs

set_option maxHeartbeats 4000000 in
theorem rx_W_5 (X : rx_X D ad adV cA L ro p R s m args c cells slots mi d) (hok : rx_ok (rx_mi mi) pc (5, nx, a, b, c0, sw) = true) (hs : rx_step L (5, nx, a, b, c0, sw) la st σ = some (pc', la', st', σ')) (S : rx_S D ad cA ro s (rx_mi mi).2.2.1 la st σ lsA H locs)
    (kk : ∀ (lsB : Array Slot) (H1 : Heap) (locs1 : List Loc), rx_S D ad cA ro s (rx_mi mi).2.2.1 la' st' σ' lsB H1 locs1 → W p l e R s m args below meth c H1 locs1 cells slots Q (F0 m pc' lsB (st'.map (rx_ev ad)))) : W p l e R s m args below meth c H locs cells slots Q (F0 m pc lsA (st.map (rx_ev ad))) := by
  obtain ⟨hx, hb, hml, hown, hts, hR, hEn, hRo, hL384, hinj⟩ := X
  obtain ⟨hL, hlo, hso, hHp, hSS⟩ := S
  simp only [rx_step] at hs
  split at hs
  · next x st0 =>
    split at hs
    · next hbl =>
      cases hs
      have hn : b < (rx_mi mi).2.2.1 := by rw [← hL.2]; exact hbl
      have hv : rx_okv (.inr x) := hso.hd
      have hk : ∀ lsB, lv_has lsB (rx_mi mi).2.2.1 ((b, rx_ev ad (.inr x)) :: (rx_encl ad la).filter (fun q => !(q.1 == b) && !(q.1 + 1 == b && q.2.category == 2))) → W p l e R s m args below meth c H locs cells slots Q (F0 m pc' lsB (st'.map (rx_ev ad))) :=
        fun lsB h2 => kk lsB H locs ⟨hL.set hbl h2, hlo.set hv, hso.tl, hHp, hSS⟩
      simp only [rx_ok] at hok
      split at hok
      · simp only [Bool.and_eq_true, decide_eq_true_eq] at hok
        obtain ⟨⟨hd, rfl⟩, h4⟩ := hok
        exact lv_astore_n hx hb hd (show (Fin.ofNat 4 b).val = b from Nat.mod_eq_of_lt h4) hL.1 hn rfl hk
      · simp only [Bool.and_eq_true, decide_eq_true_eq] at hok
        obtain ⟨hd, rfl⟩ := hok
        exact lv_astore hx hb hd hL.1 hn rfl hk
    · cases hs
  · cases hs

set_option maxHeartbeats 4000000 in
theorem rx_W_6 (X : rx_X D ad adV cA L ro p R s m args c cells slots mi d) (hok : rx_ok (rx_mi mi) pc (6, nx, a, b, c0, sw) = true) (hs : rx_step L (6, nx, a, b, c0, sw) la st σ = some (pc', la', st', σ')) (S : rx_S D ad cA ro s (rx_mi mi).2.2.1 la st σ lsA H locs)
    (kk : ∀ (lsB : Array Slot) (H1 : Heap) (locs1 : List Loc), rx_S D ad cA ro s (rx_mi mi).2.2.1 la' st' σ' lsB H1 locs1 → W p l e R s m args below meth c H1 locs1 cells slots Q (F0 m pc' lsB (st'.map (rx_ev ad)))) : W p l e R s m args below meth c H locs cells slots Q (F0 m pc lsA (st.map (rx_ev ad))) := by
  obtain ⟨hx, hb, hml, hown, hts, hR, hEn, hRo, hL384, hinj⟩ := X
  obtain ⟨hL, hlo, hso, hHp, hSS⟩ := S
  simp only [rx_step] at hs
  split at hs
  · next x hv =>
    cases hs
    have hbl : b < la.length := (List.getElem?_eq_some_iff.mp hv).1
    have hn : b < (rx_mi mi).2.2.1 := by rw [← hL.2]; exact hbl
    simp only [rx_ok, Bool.and_eq_true, decide_eq_true_eq] at hok
    obtain ⟨hd, rfl⟩ := hok
    obtain ⟨k, hk⟩ := List.getElem?_of_mem (rx_encl_mem.mpr ⟨.inl x, hv, rfl⟩ : (b, rx_ev ad (.inl x)) ∈ rx_encl ad la)
    refine lv_iinc (v := Int32.ofInt (rx_w (x + a))) hx hb hd hL.1 hk (rx_add x a) hn rfl (fun lsB h2 => ?_)
    exact kk lsB H locs ⟨hL.set (v := .inl (rx_w (x + a))) hbl h2, hlo.set (rx_w_r _), hso, hHp, hSS⟩
  · cases hs

set_option maxHeartbeats 4000000 in
theorem rx_W_7 (X : rx_X D ad adV cA L ro p R s m args c cells slots mi d) (hok : rx_ok (rx_mi mi) pc (7, nx, a, b, c0, sw) = true) (hs : rx_step L (7, nx, a, b, c0, sw) la st σ = some (pc', la', st', σ')) (S : rx_S D ad cA ro s (rx_mi mi).2.2.1 la st σ lsA H locs)
    (kk : ∀ (lsB : Array Slot) (H1 : Heap) (locs1 : List Loc), rx_S D ad cA ro s (rx_mi mi).2.2.1 la' st' σ' lsB H1 locs1 → W p l e R s m args below meth c H1 locs1 cells slots Q (F0 m pc' lsB (st'.map (rx_ev ad)))) : W p l e R s m args below meth c H locs cells slots Q (F0 m pc lsA (st.map (rx_ev ad))) := by
  obtain ⟨hx, hb, hml, hown, hts, hR, hEn, hRo, hL384, hinj⟩ := X
  obtain ⟨hL, hlo, hso, hHp, hSS⟩ := S
  simp only [rx_step] at hs
  split at hs
  · next y x st0 =>
    cases hs
    have hyr : rx_r y := hso.hd
    have hxr : rx_r x := hso.tl.hd
    simp only [rx_ok, Bool.and_eq_true, decide_eq_true_eq] at hok
    obtain ⟨⟨hd, rfl⟩, h8⟩ := hok
    have hk := kk lsA H locs ⟨hL, hlo, hso.tl.tl.cons (v := .inl (rx_alu b x y)) (rx_alu_r b x y), hHp, hSS⟩
    have h9 : b = 0 ∨ b = 1 ∨ b = 2 ∨ b = 3 ∨ b = 4 ∨ b = 5 ∨ b = 6 ∨ b = 7 ∨ b = 8 := by omega
    rcases h9 with rfl | rfl | rfl | rfl | rfl | rfl | rfl | rfl | rfl
    · refine lv_iadd (x := Int32.ofInt x) (y := Int32.ofInt y) hx hb hd ?_
      rw [rx_add x y]
      exact hk
    · refine lv_isub (x := Int32.ofInt x) (y := Int32.ofInt y) hx hb hd ?_
      rw [rx_sub x y]
      exact hk
    · refine lv_imul (x := Int32.ofInt x) (y := Int32.ofInt y) hx hb hd ?_
      rw [rx_mul hxr hyr]
      exact hk
    · refine lv_iand (x := Int32.ofInt x) (y := Int32.ofInt y) hx hb hd ?_
      rw [← Int32.ofInt_toInt (Int32.ofInt x &&& Int32.ofInt y)]
      exact hk
    · refine lv_ior (x := Int32.ofInt x) (y := Int32.ofInt y) hx hb hd ?_
      rw [← Int32.ofInt_toInt (Int32.ofInt x ||| Int32.ofInt y)]
      exact hk
    · refine lv_ixor (x := Int32.ofInt x) (y := Int32.ofInt y) hx hb hd ?_
      rw [← Int32.ofInt_toInt (Int32.ofInt x ^^^ Int32.ofInt y)]
      exact hk
    · refine lv_ishl (x := Int32.ofInt x) (y := Int32.ofInt y) hx hb hd ?_
      rw [← Int32.ofInt_toInt (Int32.ofInt x <<< (Int32.ofInt y &&& 31))]
      exact hk
    · refine lv_ishr (x := Int32.ofInt x) (y := Int32.ofInt y) hx hb hd ?_
      rw [← Int32.ofInt_toInt (Int32.ofInt x >>> (Int32.ofInt y &&& 31))]
      exact hk
    · exact lv_iushr (x := Int32.ofInt x) (y := Int32.ofInt y) hx hb hd (Int32.ofInt_toInt _).symm hk
  · cases hs

set_option maxHeartbeats 4000000 in
theorem rx_W_8 (X : rx_X D ad adV cA L ro p R s m args c cells slots mi d) (hok : rx_ok (rx_mi mi) pc (8, nx, a, b, c0, sw) = true) (hs : rx_step L (8, nx, a, b, c0, sw) la st σ = some (pc', la', st', σ')) (S : rx_S D ad cA ro s (rx_mi mi).2.2.1 la st σ lsA H locs)
    (kk : ∀ (lsB : Array Slot) (H1 : Heap) (locs1 : List Loc), rx_S D ad cA ro s (rx_mi mi).2.2.1 la' st' σ' lsB H1 locs1 → W p l e R s m args below meth c H1 locs1 cells slots Q (F0 m pc' lsB (st'.map (rx_ev ad)))) : W p l e R s m args below meth c H locs cells slots Q (F0 m pc lsA (st.map (rx_ev ad))) := by
  obtain ⟨hx, hb, hml, hown, hts, hR, hEn, hRo, hL384, hinj⟩ := X
  obtain ⟨hL, hlo, hso, hHp, hSS⟩ := S
  simp only [rx_step] at hs
  split at hs
  · next y x st0 =>
    split at hs
    · cases hs
    next hy0 =>
    cases hs
    have hyr : rx_r y := hso.hd
    have hxr : rx_r x := hso.tl.hd
    have hne : ¬ Int32.ofInt y = 0 := by
      rw [← rx_0, rx_eq hyr rx_r0]
      exact hy0
    have hk := kk lsA H locs ⟨hL, hlo, hso.tl.tl.cons (v := .inl (rx_dr b x y)) (rx_dr_r hxr hyr), hHp, hSS⟩
    simp only [rx_ok] at hok
    split at hok
    · next h0 =>
      subst h0
      simp only [Bool.and_eq_true, decide_eq_true_eq] at hok
      obtain ⟨hd, rfl⟩ := hok
      refine lv_idiv (x := Int32.ofInt x) (y := Int32.ofInt y) hx hb hd hne ?_
      rw [rx_div hxr hyr]
      exact hk
    · next h0 =>
      simp only [Bool.and_eq_true, decide_eq_true_eq] at hok
      obtain ⟨hd, rfl⟩ := hok
      refine lv_irem (x := Int32.ofInt x) (y := Int32.ofInt y) hx hb hd hne ?_
      rw [(rx_rem hxr hyr).1]
      have e9 : rx_dr b x y = x.tmod y := by
        unfold rx_dr
        split
        · exact absurd rfl h0
        · rfl
      rw [e9] at hk
      exact hk
  · cases hs

set_option maxHeartbeats 4000000 in
theorem rx_W_9 (X : rx_X D ad adV cA L ro p R s m args c cells slots mi d) (hok : rx_ok (rx_mi mi) pc (9, nx, a, b, c0, sw) = true) (hs : rx_step L (9, nx, a, b, c0, sw) la st σ = some (pc', la', st', σ')) (S : rx_S D ad cA ro s (rx_mi mi).2.2.1 la st σ lsA H locs)
    (kk : ∀ (lsB : Array Slot) (H1 : Heap) (locs1 : List Loc), rx_S D ad cA ro s (rx_mi mi).2.2.1 la' st' σ' lsB H1 locs1 → W p l e R s m args below meth c H1 locs1 cells slots Q (F0 m pc' lsB (st'.map (rx_ev ad)))) : W p l e R s m args below meth c H locs cells slots Q (F0 m pc lsA (st.map (rx_ev ad))) := by
  obtain ⟨hx, hb, hml, hown, hts, hR, hEn, hRo, hL384, hinj⟩ := X
  obtain ⟨hL, hlo, hso, hHp, hSS⟩ := S
  simp only [rx_step] at hs
  split at hs
  · next x st0 =>
    cases hs
    have hk := kk lsA H locs ⟨hL, hlo, hso.tl.cons (v := .inl (rx_un b x)) (rx_un_r b x), hHp, hSS⟩
    simp only [rx_ok] at hok
    split at hok
    · next h0 =>
      subst h0
      simp only [Bool.and_eq_true, decide_eq_true_eq] at hok
      obtain ⟨hd, rfl⟩ := hok
      refine lv_ineg (x := Int32.ofInt x) hx hb hd ?_
      rw [rx_neg]
      exact hk
    · next h0 =>
      simp only [Bool.and_eq_true, decide_eq_true_eq] at hok
      obtain ⟨hd, rfl⟩ := hok
      have e9 : rx_un b x = (Int32.ofInt x).toInt16.toInt32.toInt := by
        unfold rx_un
        split
        · exact absurd rfl h0
        · rfl
      rw [e9] at hk
      exact lv_i2s (x := Int32.ofInt x) hx hb hd (Int32.ofInt_toInt _).symm hk
  · cases hs

set_option maxHeartbeats 4000000 in
theorem rx_W_10 (X : rx_X D ad adV cA L ro p R s m args c cells slots mi d) (hok : rx_ok (rx_mi mi) pc (10, nx, a, b, c0, sw) = true) (hs : rx_step L (10, nx, a, b, c0, sw) la st σ = some (pc', la', st', σ')) (S : rx_S D ad cA ro s (rx_mi mi).2.2.1 la st σ lsA H locs)
    (kk : ∀ (lsB : Array Slot) (H1 : Heap) (locs1 : List Loc), rx_S D ad cA ro s (rx_mi mi).2.2.1 la' st' σ' lsB H1 locs1 → W p l e R s m args below meth c H1 locs1 cells slots Q (F0 m pc' lsB (st'.map (rx_ev ad)))) : W p l e R s m args below meth c H locs cells slots Q (F0 m pc lsA (st.map (rx_ev ad))) := by
  obtain ⟨hx, hb, hml, hown, hts, hR, hEn, hRo, hL384, hinj⟩ := X
  obtain ⟨hL, hlo, hso, hHp, hSS⟩ := S
  simp only [rx_step] at hs
  split at hs
  · next x st0 =>
    cases hs
    simp only [rx_ok, Bool.and_eq_true, decide_eq_true_eq] at hok
    obtain ⟨hd, rfl⟩ := hok
    exact lv_dup hx hb hd (rx_ev_cat ad x) (kk lsA H locs ⟨hL, hlo, hso.cons hso.hd, hHp, hSS⟩)
  · cases hs

set_option maxHeartbeats 4000000 in
theorem rx_W_11 (X : rx_X D ad adV cA L ro p R s m args c cells slots mi d) (hok : rx_ok (rx_mi mi) pc (11, nx, a, b, c0, sw) = true) (hs : rx_step L (11, nx, a, b, c0, sw) la st σ = some (pc', la', st', σ')) (S : rx_S D ad cA ro s (rx_mi mi).2.2.1 la st σ lsA H locs)
    (kk : ∀ (lsB : Array Slot) (H1 : Heap) (locs1 : List Loc), rx_S D ad cA ro s (rx_mi mi).2.2.1 la' st' σ' lsB H1 locs1 → W p l e R s m args below meth c H1 locs1 cells slots Q (F0 m pc' lsB (st'.map (rx_ev ad)))) : W p l e R s m args below meth c H locs cells slots Q (F0 m pc lsA (st.map (rx_ev ad))) := by
  obtain ⟨hx, hb, hml, hown, hts, hR, hEn, hRo, hL384, hinj⟩ := X
  obtain ⟨hL, hlo, hso, hHp, hSS⟩ := S
  simp only [rx_step] at hs
  split at hs
  · next x y st0 =>
    cases hs
    simp only [rx_ok, Bool.and_eq_true, decide_eq_true_eq] at hok
    obtain ⟨hd, rfl⟩ := hok
    exact lv_dup2_11 hx hb hd (rx_ev_cat ad x) (rx_ev_cat ad y) (kk lsA H locs ⟨hL, hlo, (hso.cons hso.tl.hd).cons hso.hd, hHp, hSS⟩)
  · cases hs

set_option maxHeartbeats 4000000 in
theorem rx_W_12 (X : rx_X D ad adV cA L ro p R s m args c cells slots mi d) (hok : rx_ok (rx_mi mi) pc (12, nx, a, b, c0, sw) = true) (hs : rx_step L (12, nx, a, b, c0, sw) la st σ = some (pc', la', st', σ')) (S : rx_S D ad cA ro s (rx_mi mi).2.2.1 la st σ lsA H locs)
    (kk : ∀ (lsB : Array Slot) (H1 : Heap) (locs1 : List Loc), rx_S D ad cA ro s (rx_mi mi).2.2.1 la' st' σ' lsB H1 locs1 → W p l e R s m args below meth c H1 locs1 cells slots Q (F0 m pc' lsB (st'.map (rx_ev ad)))) : W p l e R s m args below meth c H locs cells slots Q (F0 m pc lsA (st.map (rx_ev ad))) := by
  obtain ⟨hx, hb, hml, hown, hts, hR, hEn, hRo, hL384, hinj⟩ := X
  obtain ⟨hL, hlo, hso, hHp, hSS⟩ := S
  simp only [rx_step] at hs
  split at hs
  · next x st0 =>
    cases hs
    simp only [rx_ok, Bool.and_eq_true, decide_eq_true_eq] at hok
    obtain ⟨hd, rfl⟩ := hok
    exact lv_pop hx hb hd (rx_ev_cat ad x) (kk lsA H locs ⟨hL, hlo, hso.tl, hHp, hSS⟩)
  · cases hs

set_option maxHeartbeats 4000000 in
theorem rx_W_13 (X : rx_X D ad adV cA L ro p R s m args c cells slots mi d) (hok : rx_ok (rx_mi mi) pc (13, nx, a, b, c0, sw) = true) (hs : rx_step L (13, nx, a, b, c0, sw) la st σ = some (pc', la', st', σ')) (S : rx_S D ad cA ro s (rx_mi mi).2.2.1 la st σ lsA H locs)
    (kk : ∀ (lsB : Array Slot) (H1 : Heap) (locs1 : List Loc), rx_S D ad cA ro s (rx_mi mi).2.2.1 la' st' σ' lsB H1 locs1 → W p l e R s m args below meth c H1 locs1 cells slots Q (F0 m pc' lsB (st'.map (rx_ev ad)))) : W p l e R s m args below meth c H locs cells slots Q (F0 m pc lsA (st.map (rx_ev ad))) := by
  obtain ⟨hx, hb, hml, hown, hts, hR, hEn, hRo, hL384, hinj⟩ := X
  obtain ⟨hL, hlo, hso, hHp, hSS⟩ := S
  simp only [rx_step] at hs
  split at hs
  · next x st0 =>
    cases hs
    have hyr : rx_r 0 := rx_r0
    have hxr : rx_r x := hso.hd
    have hz : rx_S D ad cA ro s (rx_mi mi).2.2.1 la st' σ lsA H locs := ⟨hL, hlo, hso.tl, hHp, hSS⟩
    have hk := kk lsA H locs hz
    simp only [rx_ok, Bool.and_eq_true, decide_eq_true_eq] at hok
    obtain ⟨⟨⟨hd, rfl⟩, ht⟩, h5⟩ := hok
    have h9 : b = 0 ∨ b = 1 ∨ b = 2 ∨ b = 3 ∨ b = 4 ∨ b = 5 := by omega
    rcases h9 with rfl | rfl | rfl | rfl | rfl | rfl
    · have hiff := (rx_eq hxr hyr)
      refine lv_if_eq (x := Int32.ofInt x) hx hb hd ht (fun h => ?_) (fun h => ?_)
      · have h1 : rx_cmp 0 x 0 = true := by
          simp only [rx_cmp, decide_eq_true_eq]
          exact hiff.mp h
        rw [if_pos h1] at hk
        exact hk
      · have h1 : ¬ rx_cmp 0 x 0 = true := by
          simp only [rx_cmp, decide_eq_true_eq]
          exact fun g => h (hiff.mpr g)
        rw [if_neg h1] at hk
        exact hk
    · have hiff := (not_congr (rx_eq hxr hyr))
      refine lv_if_ne (x := Int32.ofInt x) hx hb hd ht (fun h => ?_) (fun h => ?_)
      · have h1 : rx_cmp 1 x 0 = true := by
          simp only [rx_cmp, decide_eq_true_eq]
          exact hiff.mp h
        rw [if_pos h1] at hk
        exact hk
      · have h1 : ¬ rx_cmp 1 x 0 = true := by
          simp only [rx_cmp, decide_eq_true_eq]
          exact fun g => hiff.mpr g h
        rw [if_neg h1] at hk
        exact hk
    · have hiff := (rx_lt hxr hyr)
      refine lv_if_lt (x := Int32.ofInt x) hx hb hd ht (fun h => ?_) (fun h => ?_)
      · have h1 : rx_cmp 2 x 0 = true := by
          simp only [rx_cmp, decide_eq_true_eq]
          exact hiff.mp h
        rw [if_pos h1] at hk
        exact hk
      · have h1 : ¬ rx_cmp 2 x 0 = true := by
          simp only [rx_cmp, decide_eq_true_eq]
          exact fun g => h (hiff.mpr g)
        rw [if_neg h1] at hk
        exact hk
    · have hiff := (rx_le hyr hxr)
      refine lv_if_ge (x := Int32.ofInt x) hx hb hd ht (fun h => ?_) (fun h => ?_)
      · have h1 : rx_cmp 3 x 0 = true := by
          simp only [rx_cmp, decide_eq_true_eq]
          exact hiff.mp h
        rw [if_pos h1] at hk
        exact hk
      · have h1 : ¬ rx_cmp 3 x 0 = true := by
          simp only [rx_cmp, decide_eq_true_eq]
          exact fun g => h (hiff.mpr g)
        rw [if_neg h1] at hk
        exact hk
    · have hiff := (rx_lt hyr hxr)
      refine lv_if_gt (x := Int32.ofInt x) hx hb hd ht (fun h => ?_) (fun h => ?_)
      · have h1 : rx_cmp 4 x 0 = true := by
          simp only [rx_cmp, decide_eq_true_eq]
          exact hiff.mp h
        rw [if_pos h1] at hk
        exact hk
      · have h1 : ¬ rx_cmp 4 x 0 = true := by
          simp only [rx_cmp, decide_eq_true_eq]
          exact fun g => h (hiff.mpr g)
        rw [if_neg h1] at hk
        exact hk
    · have hiff := (rx_le hxr hyr)
      refine lv_if_le (x := Int32.ofInt x) hx hb hd ht (fun h => ?_) (fun h => ?_)
      · have h1 : rx_cmp 5 x 0 = true := by
          simp only [rx_cmp, decide_eq_true_eq]
          exact hiff.mp h
        rw [if_pos h1] at hk
        exact hk
      · have h1 : ¬ rx_cmp 5 x 0 = true := by
          simp only [rx_cmp, decide_eq_true_eq]
          exact fun g => h (hiff.mpr g)
        rw [if_neg h1] at hk
        exact hk
  · cases hs

set_option maxHeartbeats 4000000 in
theorem rx_W_14 (X : rx_X D ad adV cA L ro p R s m args c cells slots mi d) (hok : rx_ok (rx_mi mi) pc (14, nx, a, b, c0, sw) = true) (hs : rx_step L (14, nx, a, b, c0, sw) la st σ = some (pc', la', st', σ')) (S : rx_S D ad cA ro s (rx_mi mi).2.2.1 la st σ lsA H locs)
    (kk : ∀ (lsB : Array Slot) (H1 : Heap) (locs1 : List Loc), rx_S D ad cA ro s (rx_mi mi).2.2.1 la' st' σ' lsB H1 locs1 → W p l e R s m args below meth c H1 locs1 cells slots Q (F0 m pc' lsB (st'.map (rx_ev ad)))) : W p l e R s m args below meth c H locs cells slots Q (F0 m pc lsA (st.map (rx_ev ad))) := by
  obtain ⟨hx, hb, hml, hown, hts, hR, hEn, hRo, hL384, hinj⟩ := X
  obtain ⟨hL, hlo, hso, hHp, hSS⟩ := S
  simp only [rx_step] at hs
  split at hs
  · next y x st0 =>
    cases hs
    have hyr : rx_r y := hso.hd
    have hxr : rx_r x := hso.tl.hd
    have hz : rx_S D ad cA ro s (rx_mi mi).2.2.1 la st' σ lsA H locs := ⟨hL, hlo, hso.tl.tl, hHp, hSS⟩
    have hk := kk lsA H locs hz
    simp only [rx_ok, Bool.and_eq_true, decide_eq_true_eq] at hok
    obtain ⟨⟨⟨hd, rfl⟩, ht⟩, h5⟩ := hok
    have h9 : b = 0 ∨ b = 1 ∨ b = 2 ∨ b = 3 ∨ b = 4 ∨ b = 5 := by omega
    rcases h9 with rfl | rfl | rfl | rfl | rfl | rfl
    · have hiff := (rx_eq hxr hyr)
      refine lv_icmp_eq (x := Int32.ofInt x) (y := Int32.ofInt y) hx hb hd ht (fun h => ?_) (fun h => ?_)
      · have h1 : rx_cmp 0 x y = true := by
          simp only [rx_cmp, decide_eq_true_eq]
          exact hiff.mp h
        rw [if_pos h1] at hk
        exact hk
      · have h1 : ¬ rx_cmp 0 x y = true := by
          simp only [rx_cmp, decide_eq_true_eq]
          exact fun g => h (hiff.mpr g)
        rw [if_neg h1] at hk
        exact hk
    · have hiff := (not_congr (rx_eq hxr hyr))
      refine lv_icmp_ne (x := Int32.ofInt x) (y := Int32.ofInt y) hx hb hd ht (fun h => ?_) (fun h => ?_)
      · have h1 : rx_cmp 1 x y = true := by
          simp only [rx_cmp, decide_eq_true_eq]
          exact hiff.mp h
        rw [if_pos h1] at hk
        exact hk
      · have h1 : ¬ rx_cmp 1 x y = true := by
          simp only [rx_cmp, decide_eq_true_eq]
          exact fun g => hiff.mpr g h
        rw [if_neg h1] at hk
        exact hk
    · have hiff := (rx_lt hxr hyr)
      refine lv_icmp_lt (x := Int32.ofInt x) (y := Int32.ofInt y) hx hb hd ht (fun h => ?_) (fun h => ?_)
      · have h1 : rx_cmp 2 x y = true := by
          simp only [rx_cmp, decide_eq_true_eq]
          exact hiff.mp h
        rw [if_pos h1] at hk
        exact hk
      · have h1 : ¬ rx_cmp 2 x y = true := by
          simp only [rx_cmp, decide_eq_true_eq]
          exact fun g => h (hiff.mpr g)
        rw [if_neg h1] at hk
        exact hk
    · have hiff := (rx_le hyr hxr)
      refine lv_icmp_ge (x := Int32.ofInt x) (y := Int32.ofInt y) hx hb hd ht (fun h => ?_) (fun h => ?_)
      · have h1 : rx_cmp 3 x y = true := by
          simp only [rx_cmp, decide_eq_true_eq]
          exact hiff.mp h
        rw [if_pos h1] at hk
        exact hk
      · have h1 : ¬ rx_cmp 3 x y = true := by
          simp only [rx_cmp, decide_eq_true_eq]
          exact fun g => h (hiff.mpr g)
        rw [if_neg h1] at hk
        exact hk
    · have hiff := (rx_lt hyr hxr)
      refine lv_icmp_gt (x := Int32.ofInt x) (y := Int32.ofInt y) hx hb hd ht (fun h => ?_) (fun h => ?_)
      · have h1 : rx_cmp 4 x y = true := by
          simp only [rx_cmp, decide_eq_true_eq]
          exact hiff.mp h
        rw [if_pos h1] at hk
        exact hk
      · have h1 : ¬ rx_cmp 4 x y = true := by
          simp only [rx_cmp, decide_eq_true_eq]
          exact fun g => h (hiff.mpr g)
        rw [if_neg h1] at hk
        exact hk
    · have hiff := (rx_le hxr hyr)
      refine lv_icmp_le (x := Int32.ofInt x) (y := Int32.ofInt y) hx hb hd ht (fun h => ?_) (fun h => ?_)
      · have h1 : rx_cmp 5 x y = true := by
          simp only [rx_cmp, decide_eq_true_eq]
          exact hiff.mp h
        rw [if_pos h1] at hk
        exact hk
      · have h1 : ¬ rx_cmp 5 x y = true := by
          simp only [rx_cmp, decide_eq_true_eq]
          exact fun g => h (hiff.mpr g)
        rw [if_neg h1] at hk
        exact hk
  · cases hs

set_option maxHeartbeats 4000000 in
theorem rx_W_15 (X : rx_X D ad adV cA L ro p R s m args c cells slots mi d) (hok : rx_ok (rx_mi mi) pc (15, nx, a, b, c0, sw) = true) (hs : rx_step L (15, nx, a, b, c0, sw) la st σ = some (pc', la', st', σ')) (S : rx_S D ad cA ro s (rx_mi mi).2.2.1 la st σ lsA H locs)
    (kk : ∀ (lsB : Array Slot) (H1 : Heap) (locs1 : List Loc), rx_S D ad cA ro s (rx_mi mi).2.2.1 la' st' σ' lsB H1 locs1 → W p l e R s m args below meth c H1 locs1 cells slots Q (F0 m pc' lsB (st'.map (rx_ev ad)))) : W p l e R s m args below meth c H locs cells slots Q (F0 m pc lsA (st.map (rx_ev ad))) := by
  obtain ⟨hx, hb, hml, hown, hts, hR, hEn, hRo, hL384, hinj⟩ := X
  obtain ⟨hL, hlo, hso, hHp, hSS⟩ := S
  cases hs
  simp only [rx_ok, Bool.and_eq_true, decide_eq_true_eq] at hok
  exact lv_goto hx hb hok.1 hok.2 (kk lsA H locs ⟨hL, hlo, hso, hHp, hSS⟩)

set_option maxHeartbeats 4000000 in
theorem rx_W_16 (X : rx_X D ad adV cA L ro p R s m args c cells slots mi d) (hok : rx_ok (rx_mi mi) pc (16, nx, a, b, c0, sw) = true) (hs : rx_step L (16, nx, a, b, c0, sw) la st σ = some (pc', la', st', σ')) (S : rx_S D ad cA ro s (rx_mi mi).2.2.1 la st σ lsA H locs)
    (kk : ∀ (lsB : Array Slot) (H1 : Heap) (locs1 : List Loc), rx_S D ad cA ro s (rx_mi mi).2.2.1 la' st' σ' lsB H1 locs1 → W p l e R s m args below meth c H1 locs1 cells slots Q (F0 m pc' lsB (st'.map (rx_ev ad)))) : W p l e R s m args below meth c H locs cells slots Q (F0 m pc lsA (st.map (rx_ev ad))) := by
  obtain ⟨hx, hb, hml, hown, hts, hR, hEn, hRo, hL384, hinj⟩ := X
  obtain ⟨hL, hlo, hso, hHp, hSS⟩ := S
  simp only [rx_step] at hs
  split at hs
  · next x st0 =>
    cases hs
    have hxr : rx_r x := hso.hd
    have hk := kk lsA H locs ⟨hL, hlo, hso.tl, hHp, hSS⟩
    simp only [rx_ok] at hok
    split at hok
    · next df lo hi offs len hd =>
      simp only [Bool.and_eq_true, decide_eq_true_eq] at hok
      obtain ⟨⟨⟨h1, h2⟩, h3⟩, h4⟩ := hok
      obtain ⟨t1, t2⟩ := rx_sw_tab sw lo x c0 h3
      by_cases hin : x < lo ∨ hi < x
      · refine lv_tableOut (x := Int32.ofInt x) hx hb hd (by rw [rx_of hxr]; exact hin) h1 ?_
        rw [t1 (by omega)] at hk
        exact hk
      · have t3 := t2 (by omega) (by omega)
        rw [← h2, List.getElem?_map] at t3
        cases ho : offs.toList[(x - lo).toNat]? with
        | none => rw [ho] at t3; cases t3
        | some off =>
          rw [ho] at t3
          have t4 : (pc : Int) + off = ((rx_sw sw x c0 : Nat) : Int) := Option.some.inj t3
          exact lv_tableIn (x := Int32.ofInt x) (off := off) hx hb hd (by rw [rx_of hxr]; omega) (by rw [rx_of hxr]; omega) (by rw [rx_of hxr, ← Array.getElem?_toList]; exact ho) t4 hk
    · next df ps len hd =>
      simp only [Bool.and_eq_true, decide_eq_true_eq] at hok
      obtain ⟨⟨h1, h2⟩, h3⟩ := hok
      exact lv_lookup (x := Int32.ofInt x) hx hb hd h3 rfl (by rw [rx_of hxr]; exact rx_sw_look ps.toList sw pc df x c0 h2 h1) hk
    · cases hok
  · cases hs

end RXS
