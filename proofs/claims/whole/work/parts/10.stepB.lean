theorem rx_fi_spec {b k o : Nat} (h : rx_fi b k o = true) : ∃ fs, rx_SH[o]? = some (.inl (b, fs)) ∧ fs[k]? = some none := by
  unfold rx_fi at h
  split at h
  · next i fs hs =>
    simp only [Bool.and_eq_true, beq_iff_eq] at h
    exact ⟨fs, by rw [hs, h.1], h.2⟩
  · cases h
theorem rx_fr_spec {b k o r : Nat} (h : rx_fr b k o = some r) : ∃ fs, rx_SH[o]? = some (.inl (b, fs)) ∧ fs[k]? = some (some r) := by
  unfold rx_fr at h
  split at h
  · next i fs hs =>
    split at h
    · next e =>
      subst e
      refine ⟨fs, hs, ?_⟩
      cases hk : fs[k]? with
      | none => rw [hk] at h; cases h
      | some x => rw [hk] at h; exact congrArg some h
    · cases h
  · cases h
theorem rx_len_spec {L t o : Nat} {j : Int} (h0 : 0 ≤ j) (h : j < rx_len L t o) : (∃ n : Nat, rx_SH[o]? = some (.inr (.inl (t, n))) ∧ j < n) ∨ (t = 0 ∧ o = 159 ∧ j < L) ∨ (t = 0 ∧ o = 160 ∧ j < 6) := by
  unfold rx_len at h
  split at h
  · split at h
    · next t' n hs =>
      split at h
      · next e =>
        subst e
        exact Or.inl ⟨n, hs, h⟩
      · omega
    · omega
  · split at h
    · next e => exact Or.inr (Or.inl ⟨e.1, e.2, h⟩)
    · split at h
      · next e => exact Or.inr (Or.inr ⟨e.1, e.2, h⟩)
      · omega
theorem rx_ae_spec {o r : Nat} {j : Int} (h : rx_ae o j = some r) : ∃ t rs, rx_SH[o]? = some (.inr (.inr (t, rs))) ∧ 0 ≤ j ∧ rs[j.toNat]? = some r := by
  unfold rx_ae at h
  split at h
  · next t rs hs =>
    split at h
    · next h0 => exact ⟨t, rs, hs, h0, h⟩
    · cases h
  · cases h
theorem rx_shT : ∀ sh ∈ rx_SH, (match sh with
    | .inl _ => True
    | .inr (.inl (t, n)) => t ≤ 2 ∧ n ≤ 2000
    | .inr (.inr (t, _)) => 3 ≤ t ∧ t ≤ 5) := by
  have h : rx_SH.all (fun sh => match sh with
    | .inl _ => true
    | .inr (.inl (t, n)) => decide (t ≤ 2) && decide (n ≤ 2000)
    | .inr (.inr (t, _)) => decide (3 ≤ t) && decide (t ≤ 5)) = true := by decide +kernel
  intro sh hsh
  have h1 := List.all_eq_true.mp h sh hsh
  split at h1
  · trivial
  · simpa using h1
  · simpa using h1
theorem rx_up_r {σ : rx_St} {o : Nat} {i v : Int} (h : ∀ c i, rx_r (σ c i)) (hv : rx_r v) : ∀ c j, rx_r (rx_up σ o i v c j) := by
  intro c j
  unfold rx_up
  split
  · exact hv
  · exact h c j
theorem rx_Hp.field {D : va_G} {ad : Nat → Nat} {cA : Nat → ClassId} {ro σ : rx_St} {H H1 : Heap} {o b k : Nat} {v : Int} {fs : List (Option Nat)} (h : rx_Hp D ad cA ro σ H) (hs : rx_SH[o]? = some (.inl (b, fs))) (hk : fs[k]? = some none) (hv : rx_r v)
    (hP : va_P D vwCl ((rx_W ad cA σ).set o (ad o, .inr (b, (rx_fv ad (σ o) fs).set k (.int (Int32.ofInt v))))) H1) : rx_Hp D ad cA ro (rx_up σ o k v) H1 := by
  refine ⟨rx_up_r h.1 hv, fun c hc => ?_, ?_⟩
  · have := rx_SH_lt hs
    rw [rx_up_ne (by omega)]
    exact h.2.1 c hc
  · rw [rx_fv_up hk] at hP
    rw [← rx_W_set (σ := σ) hs (fun c' hc' => rx_up_ne hc')]
    exact hP
theorem rx_Hp.row {D : va_G} {ad : Nat → Nat} {cA : Nat → ClassId} {ro σ : rx_St} {H H1 : Heap} {o t n : Nat} {i v : Int} (h : rx_Hp D ad cA ro σ H) (hs : rx_SH[o]? = some (.inr (.inl (t, n)))) (hi : 0 ≤ i) (hv : rx_r v)
    (hP : va_P D vwCl ((rx_W ad cA σ).set o (ad o, .inl (cA t, n, .inl (upd (fun j => Int32.ofInt (σ o j)) i.toNat (Int32.ofInt v))))) H1) : rx_Hp D ad cA ro (rx_up σ o i v) H1 := by
  refine ⟨rx_up_r h.1 hv, fun c hc => ?_, ?_⟩
  · have := rx_SH_lt hs
    rw [rx_up_ne (by omega)]
    exact h.2.1 c hc
  · rw [← rx_W_set (σ := σ) hs (fun c' hc' => rx_up_ne hc'), rx_E_up hi]
    exact hP
theorem rx_cp_ne {σ : rx_St} {o d : Nat} {sp dp n : Int} {c' : Nat} (h : c' ≠ d) : rx_cp σ o sp d dp n c' = σ c' := by
  funext j
  simp [rx_cp, h]
theorem rx_Hp.copy {D : va_G} {ad : Nat → Nat} {cA : Nat → ClassId} {ro σ : rx_St} {H H1 : Heap} {o d t n1 : Nat} {sp dp n : Int} (h : rx_Hp D ad cA ro σ H) (hs : rx_SH[d]? = some (.inr (.inl (t, n1)))) (h1 : 0 ≤ sp) (h2 : 0 ≤ dp) (h3 : 0 ≤ n)
    (hP : va_P D vwCl ((rx_W ad cA σ).set d (ad d, .inl (cA t, n1, .inl (va_cpy (fun j => Int32.ofInt (σ o j)) (fun j => Int32.ofInt (σ d j)) sp.toNat dp.toNat n.toNat)))) H1) : rx_Hp D ad cA ro (rx_cp σ o sp d dp n) H1 := by
  refine ⟨fun c i => ?_, fun c hc => ?_, ?_⟩
  · unfold rx_cp
    split
    · exact h.1 _ _
    · exact h.1 _ _
  · have := rx_SH_lt hs
    rw [rx_cp_ne (by omega)]
    exact h.2.1 c hc
  · rw [← rx_W_set (σ := σ) (σ' := rx_cp σ o sp d dp n) hs (fun c' hc' => rx_cp_ne hc')]
    have e : rx_E ad cA (.inr (.inl (t, n1))) (rx_cp σ o sp d dp n d) = .inl (cA t, n1, .inl (va_cpy (fun j => Int32.ofInt (σ o j)) (fun j => Int32.ofInt (σ d j)) sp.toNat dp.toNat n.toNat)) := by
      simp only [rx_E, rx_cp]
      congr 3
      congr 1
      funext j
      show _ = if dp.toNat ≤ j ∧ j < dp.toNat + n.toNat then Int32.ofInt (σ o ((sp.toNat + (j - dp.toNat) : Nat) : Int)) else Int32.ofInt (σ d j)
      by_cases g : dp.toNat ≤ j ∧ j < dp.toNat + n.toNat
      · rw [if_pos g, if_pos ⟨trivial, by omega, by omega⟩]
        congr 2
        omega
      · rw [if_neg g, if_neg (fun q => g ⟨by omega, by omega⟩)]
    rw [e]
    exact hP
theorem rx_narZ {x : Int} (h : x = 0 ∨ x = 1) : narrow .boolean (.int (Int32.ofInt x)) = .int (Int32.ofInt x) := by
  rcases h with rfl | rfl <;> decide
theorem rx_fitZ {x : Int} (h : x = 0 ∨ x = 1) : fits .boolean (.int (Int32.ofInt x)) = true := by
  rcases h with rfl | rfl <;> decide
theorem rx_vnZ {x : Int} (h : x = 0 ∨ x = 1) : vp_nar .boolean (Int32.ofInt x) = Int32.ofInt x := by
  rcases h with rfl | rfl <;> decide
theorem rx_len_eq {L t o n : Nat} (h : rx_SH[o]? = some (.inr (.inl (t, n)))) : rx_len L t o = n := by
  unfold rx_len
  rw [if_pos (rx_SH_lt h), h]
  exact if_pos rfl
theorem rx_catsB {ad : Nat → Nat} (l : List rx_V) : ((l.map (rx_ev ad)).map (fun v => v.category)).sum = l.length := by
  induction l with
  | nil => rfl
  | cons v l ih =>
    rw [List.map_cons, List.map_cons, List.sum_cons, ih, rx_ev_cat, List.length_cons]
    omega
theorem rx_ofNat (n : Nat) : Int32.ofNat n = Int32.ofInt (n : Int) := by
  first | rfl | simp

section RXS
variable {p : Program} {l : Launch} {e : Env} {R : Room} {s : State} {m : MethodId} {args : Array Value} {below : List Frame} {meth : Method} {c : Code} {H : Heap} {locs : List Loc} {cells slots : Nat} {Q : State → Prop}
variable {D : va_G} {ad adV : Nat → Nat} {cA : Nat → ClassId} {L : Nat} {ro σ σ' : rx_St} {pc pc' mi d : Nat} {lsA : Array Slot} {la la' : List (Option rx_V)} {st st' : List rx_V} {nx b c0 : Nat} {a : Int} {sw : List (Int × Nat)}

set_option maxHeartbeats 4000000 in
theorem rx_W_17 (F : rx_Facts) (X : rx_X D ad adV cA L ro p R s m args c cells slots mi d) (hok : rx_ok (rx_mi mi) pc (17, nx, a, b, c0, sw) = true) (hs : rx_step L (17, nx, a, b, c0, sw) la st σ = some (pc', la', st', σ')) (S : rx_S D ad cA ro s (rx_mi mi).2.2.1 la st σ lsA H locs)
    (kk : ∀ (lsB : Array Slot) (H1 : Heap) (locs1 : List Loc), rx_S D ad cA ro s (rx_mi mi).2.2.1 la' st' σ' lsB H1 locs1 → W p l e R s m args below meth c H1 locs1 cells slots Q (F0 m pc' lsB (st'.map (rx_ev ad)))) : W p l e R s m args below meth c H locs cells slots Q (F0 m pc lsA (st.map (rx_ev ad))) := by
  obtain ⟨hx, hb, hml, hown, hts, hR, hEn, hRo, hL384, hinj⟩ := X
  obtain ⟨hL, hlo, hso, hHp, hSS⟩ := S
  simp only [rx_step] at hs
  split at hs
  · next o st0 =>
    split at hs
    · next hf =>
      cases hs
      obtain ⟨fs, h1, h2⟩ := rx_fi_spec hf
      simp only [rx_ok, Bool.and_eq_true, decide_eq_true_eq, rx_fl] at hok
      obtain ⟨⟨⟨⟨hd, rfl⟩, hbl⟩, hcl⟩, hlk⟩ := hok
      have hcl2 := F.2.2.1 b hbl
      exact va_get (C := (rx_cl b).1) (T := (rx_cl b).2.1) (N := (rx_cl b).2.2) hx hb hts hcl2.1 hown hEn.1 hHp.2.2 o (rx_W_at h1) (rx_vw hbl) c0 hcl (hts _ (F.1 _ (List.mem_of_getElem? hlk))) (fun _ h9 => h9) (rx_fv_at h2) hd
        (kk lsA H locs ⟨hL, hlo, hso.tl.cons (v := .inl (σ o c0)) (hHp.1 o c0), hHp, hSS⟩)
    · cases hs
  · cases hs

set_option maxHeartbeats 4000000 in
theorem rx_W_18 (F : rx_Facts) (X : rx_X D ad adV cA L ro p R s m args c cells slots mi d) (hok : rx_ok (rx_mi mi) pc (18, nx, a, b, c0, sw) = true) (hs : rx_step L (18, nx, a, b, c0, sw) la st σ = some (pc', la', st', σ')) (S : rx_S D ad cA ro s (rx_mi mi).2.2.1 la st σ lsA H locs)
    (kk : ∀ (lsB : Array Slot) (H1 : Heap) (locs1 : List Loc), rx_S D ad cA ro s (rx_mi mi).2.2.1 la' st' σ' lsB H1 locs1 → W p l e R s m args below meth c H1 locs1 cells slots Q (F0 m pc' lsB (st'.map (rx_ev ad)))) : W p l e R s m args below meth c H locs cells slots Q (F0 m pc lsA (st.map (rx_ev ad))) := by
  obtain ⟨hx, hb, hml, hown, hts, hR, hEn, hRo, hL384, hinj⟩ := X
  obtain ⟨hL, hlo, hso, hHp, hSS⟩ := S
  simp only [rx_step] at hs
  split at hs
  · next o st0 =>
    split at hs
    · next r hf =>
      cases hs
      obtain ⟨fs, h1, h2⟩ := rx_fr_spec hf
      simp only [rx_ok, Bool.and_eq_true, decide_eq_true_eq, rx_fl] at hok
      obtain ⟨⟨⟨⟨hd, rfl⟩, hbl⟩, hcl⟩, hlk⟩ := hok
      have hcl2 := F.2.2.1 b hbl
      exact va_get (C := (rx_cl b).1) (T := (rx_cl b).2.1) (N := (rx_cl b).2.2) hx hb hts hcl2.1 hown hEn.1 hHp.2.2 o (rx_W_at h1) (rx_vw hbl) c0 hcl (hts _ (F.1 _ (List.mem_of_getElem? hlk))) (fun _ h9 => h9) (rx_fv_at h2) hd
        (kk lsA H locs ⟨hL, hlo, hso.tl.cons (v := .inr r) trivial, hHp, hSS⟩)
    · cases hs
  · cases hs

set_option maxHeartbeats 4000000 in
theorem rx_W_19 (F : rx_Facts) (X : rx_X D ad adV cA L ro p R s m args c cells slots mi d) (hok : rx_ok (rx_mi mi) pc (19, nx, a, b, c0, sw) = true) (hs : rx_step L (19, nx, a, b, c0, sw) la st σ = some (pc', la', st', σ')) (S : rx_S D ad cA ro s (rx_mi mi).2.2.1 la st σ lsA H locs)
    (kk : ∀ (lsB : Array Slot) (H1 : Heap) (locs1 : List Loc), rx_S D ad cA ro s (rx_mi mi).2.2.1 la' st' σ' lsB H1 locs1 → W p l e R s m args below meth c H1 locs1 cells slots Q (F0 m pc' lsB (st'.map (rx_ev ad)))) : W p l e R s m args below meth c H locs cells slots Q (F0 m pc lsA (st.map (rx_ev ad))) := by
  obtain ⟨hx, hb, hml, hown, hts, hR, hEn, hRo, hL384, hinj⟩ := X
  obtain ⟨hL, hlo, hso, hHp, hSS⟩ := S
  simp only [rx_step] at hs
  split at hs
  · next x o st0 =>
    split at hs
    · next hf =>
      cases hs
      obtain ⟨hf, ha⟩ := hf
      have hxr : rx_r x := hso.hd
      obtain ⟨fs, h1, h2⟩ := rx_fi_spec hf
      simp only [rx_ok, Bool.and_eq_true, decide_eq_true_eq, rx_fl] at hok
      obtain ⟨⟨⟨⟨⟨hd, rfl⟩, hbl⟩, hcl⟩, hlk⟩, hw⟩ := hok
      obtain ⟨hc1, ⟨ty0, hc2⟩, hc3⟩ := F.2.2.1 b hbl
      have hlen : c0 < (rx_fv ad (σ o) fs).length := by
        unfold rx_fv
        rw [List.length_mapIdx]
        exact (List.getElem?_eq_some_iff.mp h2).1
      have hk : ∀ (H1 : Heap) (locs1 : List Loc), va_P D vwCl ((rx_W ad cA σ).set o (ad o, .inr (b, (rx_fv ad (σ o) fs).set c0 (.int (Int32.ofInt x))))) H1 → va_D (rx_A ad) ((rx_W ad cA σ).set o (ad o, .inr (b, (rx_fv ad (σ o) fs).set c0 (.int (Int32.ofInt x))))) → va_S (rx_A ad) s.heap H1 locs1 → W p l e R s m args below meth c H1 locs1 cells slots Q (F0 m (pc + 3) lsA (st'.map (rx_ev ad))) :=
        fun H1 locs1 hP1 _ hS1 => kk lsA H1 locs1 ⟨hL, hlo, hso.tl.tl, hHp.field h1 h2 hxr hP1, hS1⟩
      by_cases ha0 : a = 0
      · rw [if_pos ha0] at hw
        obtain ⟨w1, w2⟩ := F.2.2.2.1 _ (of_decide_eq_true hw)
        exact va_put (C := (rx_cl b).1) (T := (rx_cl b).2.1) (N := (rx_cl b).2.2) hx hb hts hc1 ty0 hc2 hc3 hown hEn.1 hHp.2.2 (rx_D hinj) hSS o (rx_W_at h1) (rx_vw hbl) c0 hcl (hts _ (F.1 _ (List.mem_of_getElem? hlk))) (fun _ h9 => h9) w2 (ty := .int) w1 rfl rfl hlen hd hk
      · rw [if_neg ha0] at hw
        obtain ⟨w1, w2⟩ := F.2.2.2.2.1 _ (of_decide_eq_true hw)
        have hx01 : x = 0 ∨ x = 1 := ha.resolve_left ha0
        exact va_put (C := (rx_cl b).1) (T := (rx_cl b).2.1) (N := (rx_cl b).2.2) hx hb hts hc1 ty0 hc2 hc3 hown hEn.1 hHp.2.2 (rx_D hinj) hSS o (rx_W_at h1) (rx_vw hbl) c0 hcl (hts _ (F.1 _ (List.mem_of_getElem? hlk))) (fun _ h9 => h9) w2 (ty := .boolean) w1 (rx_narZ hx01) (rx_fitZ hx01) hlen hd hk
    · cases hs
  · cases hs

set_option maxHeartbeats 4000000 in
theorem rx_W_20 (X : rx_X D ad adV cA L ro p R s m args c cells slots mi d) (hok : rx_ok (rx_mi mi) pc (20, nx, a, b, c0, sw) = true) (hs : rx_step L (20, nx, a, b, c0, sw) la st σ = some (pc', la', st', σ')) (S : rx_S D ad cA ro s (rx_mi mi).2.2.1 la st σ lsA H locs)
    (kk : ∀ (lsB : Array Slot) (H1 : Heap) (locs1 : List Loc), rx_S D ad cA ro s (rx_mi mi).2.2.1 la' st' σ' lsB H1 locs1 → W p l e R s m args below meth c H1 locs1 cells slots Q (F0 m pc' lsB (st'.map (rx_ev ad)))) : W p l e R s m args below meth c H locs cells slots Q (F0 m pc lsA (st.map (rx_ev ad))) := by
  obtain ⟨hx, hb, hml, hown, hts, hR, hEn, hRo, hL384, hinj⟩ := X
  obtain ⟨hL, hlo, hso, hHp, hSS⟩ := S
  simp only [rx_step] at hs
  split at hs
  · next j o st0 =>
    split at hs
    · next hf =>
      cases hs
      obtain ⟨hj0, hj1⟩ := hf
      have hjr : rx_r j := hso.hd
      have hk := kk lsA H locs ⟨hL, hlo, hso.tl.tl.cons (v := .inl (σ o j)) (hHp.1 o j), hHp, hSS⟩
      simp only [rx_ok, Bool.and_eq_true, decide_eq_true_eq] at hok
      obtain ⟨hd, rfl⟩ := hok
      have ev : ∀ f : Nat → Int32, f = (fun j : Nat => Int32.ofInt (σ o (j : Int))) → f (Int32.ofInt j).toNatClampNeg = Int32.ofInt (σ o j) := by
        rintro f rfl
        rw [rx_nat hjr]
        show Int32.ofInt (σ o ((j.toNat : Nat) : Int)) = _
        rw [show ((j.toNat : Nat) : Int) = j by omega]
      rcases rx_len_spec hj0 hj1 with ⟨n, h1, h2⟩ | ⟨rfl, rfl, h2⟩ | ⟨rfl, rfl, h2⟩
      · split at hd
        · refine va_iald hx hb hEn.1 hHp.2.2 o 0 (rx_W_at h1) rfl (rx_vpin hjr hj0 h2) (of_decide_eq_true hd) ?_
          rw [ev _ rfl]
          exact hk
        · refine va_zald hx hb hEn.1 hHp.2.2 o 1 (rx_W_at h1) rfl (rx_vpin hjr hj0 h2) (of_decide_eq_true hd) ?_
          rw [ev _ rfl]
          exact hk
        · refine va_cald hx hb hEn.1 hHp.2.2 o 2 (rx_W_at h1) rfl (rx_vpin hjr hj0 h2) (of_decide_eq_true hd) ?_
          rw [ev _ rfl]
          exact hk
        · cases hd
      · refine va_ti (v := .int (Int32.ofInt (σ 159 j))) hx hb hRo.1 hSS (rx_vpin hjr hj0 h2) ?_ (of_decide_eq_true hd) hk
        rw [rx_nat hjr, show ((j.toNat : Nat) : Int) = j by omega, hHp.2.1 159 (by omega)]
      · refine va_ti (v := .int (Int32.ofInt (σ 160 j))) hx hb hRo.2.1 hSS (rx_vpin hjr hj0 h2) ?_ (of_decide_eq_true hd) hk
        rw [rx_nat hjr, show ((j.toNat : Nat) : Int) = j by omega, hHp.2.1 160 (by omega)]
    · cases hs
  · cases hs

set_option maxHeartbeats 4000000 in
theorem rx_W_21 (X : rx_X D ad adV cA L ro p R s m args c cells slots mi d) (hok : rx_ok (rx_mi mi) pc (21, nx, a, b, c0, sw) = true) (hs : rx_step L (21, nx, a, b, c0, sw) la st σ = some (pc', la', st', σ')) (S : rx_S D ad cA ro s (rx_mi mi).2.2.1 la st σ lsA H locs)
    (kk : ∀ (lsB : Array Slot) (H1 : Heap) (locs1 : List Loc), rx_S D ad cA ro s (rx_mi mi).2.2.1 la' st' σ' lsB H1 locs1 → W p l e R s m args below meth c H1 locs1 cells slots Q (F0 m pc' lsB (st'.map (rx_ev ad)))) : W p l e R s m args below meth c H locs cells slots Q (F0 m pc lsA (st.map (rx_ev ad))) := by
  obtain ⟨hx, hb, hml, hown, hts, hR, hEn, hRo, hL384, hinj⟩ := X
  obtain ⟨hL, hlo, hso, hHp, hSS⟩ := S
  simp only [rx_step] at hs
  split at hs
  · next x j o st0 =>
    split at hs
    · next hf =>
      cases hs
      obtain ⟨⟨hj0, hj1⟩, ho, hfit⟩ := hf
      have hxr : rx_r x := hso.hd
      have hjr : rx_r j := hso.tl.hd
      simp only [rx_ok, Bool.and_eq_true, decide_eq_true_eq] at hok
      obtain ⟨hd, rfl⟩ := hok
      rcases rx_len_spec hj0 hj1 with ⟨n, h1, h2⟩ | ⟨rfl, rfl, h2⟩ | ⟨rfl, rfl, h2⟩
      · have hk : ∀ (H1 : Heap) (locs1 : List Loc) (y : Int32), y = Int32.ofInt x → va_P D vwCl ((rx_W ad cA σ).set o (ad o, .inl (cA b, n, .inl (upd (fun j => Int32.ofInt (σ o j)) (Int32.ofInt j).toNatClampNeg y)))) H1 → va_S (rx_A ad) s.heap H1 locs1 → W p l e R s m args below meth c H1 locs1 cells slots Q (F0 m (pc + 1) lsA (st'.map (rx_ev ad))) := by
          intro H1 locs1 y hy hP1 hS1
          subst hy
          rw [rx_nat hjr] at hP1
          exact kk lsA H1 locs1 ⟨hL, hlo, hso.tl.tl.tl, hHp.row h1 hj0 hxr hP1, hS1⟩
        split at hd
        · exact va_iast hx hb hEn.1 hHp.2.2 (rx_D hinj) hSS o 0 (rx_W_at h1) rfl (rx_vpin hjr hj0 h2) (of_decide_eq_true hd) (fun H1 l1 a1 _ a3 => hk H1 l1 _ rfl a1 a3)
        · have hx01 : x = 0 ∨ x = 1 := by simpa [rx_fit] using hfit
          exact va_zast hx hb hEn.1 hHp.2.2 (rx_D hinj) hSS o 1 (rx_W_at h1) rfl (rx_vpin hjr hj0 h2) (of_decide_eq_true hd) (fun H1 l1 a1 _ a3 => hk H1 l1 _ (rx_vnZ hx01) a1 a3)
        · cases hfit
        · cases hd
      · omega
      · omega
    · cases hs
  · cases hs

set_option maxHeartbeats 4000000 in
theorem rx_W_22 (X : rx_X D ad adV cA L ro p R s m args c cells slots mi d) (hok : rx_ok (rx_mi mi) pc (22, nx, a, b, c0, sw) = true) (hs : rx_step L (22, nx, a, b, c0, sw) la st σ = some (pc', la', st', σ')) (S : rx_S D ad cA ro s (rx_mi mi).2.2.1 la st σ lsA H locs)
    (kk : ∀ (lsB : Array Slot) (H1 : Heap) (locs1 : List Loc), rx_S D ad cA ro s (rx_mi mi).2.2.1 la' st' σ' lsB H1 locs1 → W p l e R s m args below meth c H1 locs1 cells slots Q (F0 m pc' lsB (st'.map (rx_ev ad)))) : W p l e R s m args below meth c H locs cells slots Q (F0 m pc lsA (st.map (rx_ev ad))) := by
  obtain ⟨hx, hb, hml, hown, hts, hR, hEn, hRo, hL384, hinj⟩ := X
  obtain ⟨hL, hlo, hso, hHp, hSS⟩ := S
  simp only [rx_step] at hs
  split at hs
  · next j o st0 =>
    split at hs
    · next r hf =>
      cases hs
      obtain ⟨t, rs, h1, hj0, h2⟩ := rx_ae_spec hf
      have hjr : rx_r j := hso.hd
      have hjl : j.toNat < rs.length := (List.getElem?_eq_some_iff.mp h2).1
      simp only [rx_ok, Bool.and_eq_true, decide_eq_true_eq] at hok
      obtain ⟨hd, rfl⟩ := hok
      have hk := kk lsA H locs ⟨hL, hlo, hso.tl.tl.cons (v := .inr r) trivial, hHp, hSS⟩
      have hcell := hHp.2.2 o _ (rx_W_at h1)
      have ht := rx_shT _ (List.mem_of_getElem? h1)
      have harr : ∃ ty : FieldType, ArrOfT s (cA t) ty ∧ ty.isReference = true := by
        have h9 : t = 3 ∨ t = 4 ∨ t = 5 := by
          have h8 : 3 ≤ t ∧ t ≤ 5 := ht
          omega
        rcases h9 with rfl | rfl | rfl
        · exact ⟨_, (hEn.1.2 3 _ rfl).1, rfl⟩
        · exact ⟨_, (hEn.1.2 4 _ rfl).1, rfl⟩
        · exact ⟨_, (hEn.1.2 5 _ rfl).1, rfl⟩
      obtain ⟨ty, ha1, ha2⟩ := harr
      refine W.aald (v := .ref (ad r)) (ty := ty) hx hb hcell (ha1 _ _) ha2 (fun q => by cases q) ?_ ?_ rfl rfl hd hk
      · show ¬ (_ ∨ (arrV _ _ _).slots.size ≤ _)
        rw [arrV_size]
        exact rx_vpin (n := rs.length) hjr hj0 (by omega)
      · show (arrV _ _ _).slots[_]? = _
        rw [rx_nat hjr, arrV_read _ _ hjl]
        show some (va_rf ((rs[j.toNat]?).map ad)) = _
        rw [h2]
        rfl
    · cases hs
  · cases hs

set_option maxHeartbeats 4000000 in
theorem rx_W_23 (X : rx_X D ad adV cA L ro p R s m args c cells slots mi d) (hok : rx_ok (rx_mi mi) pc (23, nx, a, b, c0, sw) = true) (hs : rx_step L (23, nx, a, b, c0, sw) la st σ = some (pc', la', st', σ')) (S : rx_S D ad cA ro s (rx_mi mi).2.2.1 la st σ lsA H locs)
    (kk : ∀ (lsB : Array Slot) (H1 : Heap) (locs1 : List Loc), rx_S D ad cA ro s (rx_mi mi).2.2.1 la' st' σ' lsB H1 locs1 → W p l e R s m args below meth c H1 locs1 cells slots Q (F0 m pc' lsB (st'.map (rx_ev ad)))) : W p l e R s m args below meth c H locs cells slots Q (F0 m pc lsA (st.map (rx_ev ad))) := by
  obtain ⟨hx, hb, hml, hown, hts, hR, hEn, hRo, hL384, hinj⟩ := X
  obtain ⟨hL, hlo, hso, hHp, hSS⟩ := S
  simp only [rx_step] at hs
  split at hs
  · next o st0 =>
    split at hs
    · next n hf =>
      cases hs
      simp only [rx_ok, Bool.and_eq_true, decide_eq_true_eq] at hok
      obtain ⟨hd, rfl⟩ := hok
      have key : rx_r n := by
        unfold rx_alen at hf
        split at hf
        · cases hf
          exact ⟨by omega, by omega⟩
        · split at hf
          · cases hf
            exact ⟨by omega, by omega⟩
          · split at hf
            · next t n0 h1 =>
              cases hf
              have ht : t ≤ 2 ∧ n0 ≤ 2000 := rx_shT _ (List.mem_of_getElem? h1)
              exact ⟨by omega, by omega⟩
            · cases hf
      have hk := kk lsA H locs ⟨hL, hlo, hso.tl.cons (v := .inl n) key, hHp, hSS⟩
      unfold rx_alen at hf
      split at hf
      · next e =>
        subst e
        cases hf
        exact va_tlen hx hb hRo.1 hSS (rx_ofNat L) hd hk
      · split at hf
        · next e =>
          subst e
          cases hf
          exact va_tlen hx hb hRo.2.1 hSS (rx_ofNat 6) hd hk
        · split at hf
          · next t n0 h1 =>
            cases hf
            have ht : t ≤ 2 ∧ n0 ≤ 2000 := rx_shT _ (List.mem_of_getElem? h1)
            have h9 : t = 0 ∨ t = 1 ∨ t = 2 := by omega
            rcases h9 with rfl | rfl | rfl
            · exact va_alen hx hb hEn.1 hHp.2.2 o 0 (rx_W_at h1) rfl (rx_ofNat n0) hd hk
            · exact va_alen hx hb hEn.1 hHp.2.2 o 1 (rx_W_at h1) rfl (rx_ofNat n0) hd hk
            · exact va_alen hx hb hEn.1 hHp.2.2 o 2 (rx_W_at h1) rfl (rx_ofNat n0) hd hk
          · cases hf
    · cases hs
  · cases hs

set_option maxHeartbeats 4000000 in
theorem rx_W_24 (F : rx_Facts) (X : rx_X D ad adV cA L ro p R s m args c cells slots mi d) (hok : rx_ok (rx_mi mi) pc (24, nx, a, b, c0, sw) = true) (hs : rx_step L (24, nx, a, b, c0, sw) la st σ = some (pc', la', st', σ')) (S : rx_S D ad cA ro s (rx_mi mi).2.2.1 la st σ lsA H locs)
    (kk : ∀ (lsB : Array Slot) (H1 : Heap) (locs1 : List Loc), rx_S D ad cA ro s (rx_mi mi).2.2.1 la' st' σ' lsB H1 locs1 → W p l e R s m args below meth c H1 locs1 cells slots Q (F0 m pc' lsB (st'.map (rx_ev ad)))) : W p l e R s m args below meth c H locs cells slots Q (F0 m pc lsA (st.map (rx_ev ad))) := by
  obtain ⟨hx, hb, hml, hown, hts, hR, hEn, hRo, hL384, hinj⟩ := X
  obtain ⟨hL, hlo, hso, hHp, hSS⟩ := S
  cases hs
  have hk := kk lsA H locs ⟨hL, hlo, hso.cons (v := .inr b) trivial, hHp, hSS⟩
  simp only [rx_ok] at hok
  split at hok
  · simp only [Bool.and_eq_true, decide_eq_true_eq] at hok
    obtain ⟨⟨⟨⟨hd, rfl⟩, rfl⟩, ho⟩, hi⟩ := hok
    rw [ho] at hown
    rw [hi] at hd
    exact va_gets hx hb hRo.2.2.1 hSS hown (hts _ F.2.2.2.2.2.2.1.2.2.2) (fun _ h9 => h9) hd hk
  · simp only [Bool.and_eq_true, decide_eq_true_eq] at hok
    obtain ⟨⟨⟨hd, rfl⟩, ho⟩, hm⟩ := hok
    rw [ho] at hown
    simp only [List.mem_cons, List.not_mem_nil, or_false, Prod.mk.injEq] at hm
    rcases hm with ⟨rfl, hi⟩ | ⟨rfl, hi⟩ | ⟨rfl, hi⟩
    · rw [hi] at hd
      exact va_ldcS hx hb hown hRo.2.2.2.2.1 hd hk
    · rw [hi] at hd
      exact va_ldcS hx hb hown hRo.2.2.2.2.2.1 hd hk
    · rw [hi] at hd
      exact va_ldcS hx hb hown hRo.2.2.2.2.2.2.1 hd hk

set_option maxHeartbeats 4000000 in
theorem rx_W_25 (F : rx_Facts) (X : rx_X D ad adV cA L ro p R s m args c cells slots mi d) (hok : rx_ok (rx_mi mi) pc (25, nx, a, b, c0, sw) = true) (hs : rx_step L (25, nx, a, b, c0, sw) la st σ = some (pc', la', st', σ')) (S : rx_S D ad cA ro s (rx_mi mi).2.2.1 la st σ lsA H locs)
    (kk : ∀ (lsB : Array Slot) (H1 : Heap) (locs1 : List Loc), rx_S D ad cA ro s (rx_mi mi).2.2.1 la' st' σ' lsB H1 locs1 → W p l e R s m args below meth c H1 locs1 cells slots Q (F0 m pc' lsB (st'.map (rx_ev ad)))) : W p l e R s m args below meth c H locs cells slots Q (F0 m pc lsA (st.map (rx_ev ad))) := by
  obtain ⟨hx, hb, hml, hown, hts, hR, hEn, hRo, hL384, hinj⟩ := X
  obtain ⟨hL, hlo, hso, hHp, hSS⟩ := S
  simp only [rx_step] at hs
  split at hs
  · next n dp dd sp o =>
    split at hs
    · next hf =>
      cases hs
      obtain ⟨hn0, hsp0, hsp1, hdp0, hdp1, ho, hdd⟩ := hf
      have hnr : rx_r n := hso.hd
      have hdpr : rx_r dp := hso.tl.hd
      have hspr : rx_r sp := hso.tl.tl.tl.hd
      simp only [rx_ok, Bool.and_eq_true, decide_eq_true_eq] at hok
      obtain ⟨⟨hd, rfl⟩, hlk⟩ := hok
      obtain ⟨hdd, hlo1, hld1⟩ := hdd
      have hl : ∀ o : Nat, o < 159 → 0 < rx_len L 0 o → ∃ n1 : Nat, rx_SH[o]? = some (.inr (.inl (0, n1))) ∧ rx_len L 0 o = n1 := by
        intro o ho h0
        rcases rx_len_spec (j := 0) (Int.le_refl 0) h0 with ⟨n, h1, -⟩ | ⟨-, rfl, -⟩ | ⟨-, rfl, -⟩
        · exact ⟨n, h1, rx_len_eq h1⟩
        · omega
        · omega
      obtain ⟨n0, h1, e1⟩ := hl o ho hlo1
      obtain ⟨n1, h2, e2⟩ := hl dd hdd hld1
      rw [e1] at hsp1
      rw [e2] at hdp1
      obtain ⟨f1, f2, f3, -⟩ := F.2.2.2.2.2.2.1
      exact va_copyi (rest := []) (ty := .int) hx hb (by rw [hml]; exact hL.1.1.symm) hown (hts _ (F.2.2.2.2.2.1 _ (List.mem_of_getElem? hlk))) (hts _ f1) (hts _ f2) (hts _ f3) hEn.1 hHp.2.2 (rx_D hinj) hSS o dd 0 0 (rx_W_at h1) (rx_W_at h2) rfl rfl rfl (rx_nlt hspr hsp0) (rx_nlt hdpr hdp0) (rx_nlt hnr hn0) (by rw [rx_nat hspr, rx_nat hnr]; omega) (by rw [rx_nat hdpr, rx_nat hnr]; omega) (fun _ _ => rfl) (by omega) (by
          have h9 : nativeFrameWords "java/lang/System" "arraycopy" 5 + 11 ≤ 64 := by decide
          show 0 + _ ≤ _
          omega) hd (fun H1 locs1 hP1 _ hS1 => by
          rw [rx_nat hspr, rx_nat hdpr, rx_nat hnr] at hP1
          exact kk lsA H1 locs1 ⟨hL, hlo, (fun v hv => by cases hv), hHp.copy h2 hsp0 hdp0 hn0 hP1, hS1⟩)
    · cases hs
  · cases hs

set_option maxHeartbeats 4000000 in
theorem rx_W_31 (F : rx_Facts) (X : rx_X D ad adV cA L ro p R s m args c cells slots mi d) (hok : rx_ok (rx_mi mi) pc (31, nx, a, b, c0, sw) = true) (hs : rx_step L (31, nx, a, b, c0, sw) la st σ = some (pc', la', st', σ')) (S : rx_S D ad cA ro s (rx_mi mi).2.2.1 la st σ lsA H locs)
    (kk : ∀ (lsB : Array Slot) (H1 : Heap) (locs1 : List Loc), rx_S D ad cA ro s (rx_mi mi).2.2.1 la' st' σ' lsB H1 locs1 → W p l e R s m args below meth c H1 locs1 cells slots Q (F0 m pc' lsB (st'.map (rx_ev ad)))) : W p l e R s m args below meth c H locs cells slots Q (F0 m pc lsA (st.map (rx_ev ad))) := by
  obtain ⟨hx, hb, hml, hown, hts, hR, hEn, hRo, hL384, hinj⟩ := X
  obtain ⟨hL, hlo, hso, hHp, hSS⟩ := S
  simp only [rx_step] at hs
  split at hs
  · next y x st0 =>
    split at hs
    · next hl40 =>
      cases hs
      have hxr : rx_r x := hso.tl.hd
      have hyr : rx_r y := hso.hd
      simp only [rx_ok, Bool.and_eq_true, decide_eq_true_eq] at hok
      obtain ⟨⟨⟨hd, rfl⟩, hlk⟩, hb1⟩ := hok
      obtain ⟨h1, h2, h3, h4, h5, h6⟩ := F.2.2.2.2.2.2.2.1
      have hloc : (((st0 : List rx_V).map (rx_ev ad)).map fun v => v.category).sum + 13 ≤ R.locals := by
        rw [rx_catsB]
        omega
      have h9 : b = 0 ∨ b = 1 := by omega
      rcases h9 with rfl | rfl
      · refine va_mmax (x := Int32.ofInt x) (y := Int32.ofInt y) hx hb (by rw [hml]; exact hL.1.1.symm) hown (hts _ (h1 _ (List.mem_of_getElem? hlk))) (hts _ (h2 0 (by decide))) (hts _ h3) (hts _ h4) (by omega) hloc hR.2.2.1 hR.2.2.2 hd ?_
        have e9 : (if Int32.ofInt x < Int32.ofInt y then Int32.ofInt y else Int32.ofInt x) = Int32.ofInt (rx_mx x y) := by
          unfold rx_mx
          by_cases g : x < y
          · rw [if_pos g, if_pos ((rx_lt hxr hyr).mpr g)]
          · rw [if_neg g, if_neg (fun q => g ((rx_lt hxr hyr).mp q))]
        rw [e9]
        exact kk lsA H locs ⟨hL, hlo, hso.tl.tl.cons (v := .inl (rx_mx x y)) (by unfold rx_mx; show rx_r _; split <;> assumption), hHp, hSS⟩
      · refine va_mmin (x := Int32.ofInt x) (y := Int32.ofInt y) hx hb (by rw [hml]; exact hL.1.1.symm) hown (hts _ (h1 _ (List.mem_of_getElem? hlk))) (hts _ (h2 1 (by decide))) (hts _ h3) (hts _ h5) (by omega) hloc hR.2.2.1 hR.2.2.2 hd ?_
        have e9 : (if Int32.ofInt y < Int32.ofInt x then Int32.ofInt y else Int32.ofInt x) = Int32.ofInt (rx_mn x y) := by
          unfold rx_mn
          by_cases g : y < x
          · rw [if_pos g, if_pos ((rx_lt hyr hxr).mpr g)]
          · rw [if_neg g, if_neg (fun q => g ((rx_lt hyr hxr).mp q))]
        rw [e9]
        exact kk lsA H locs ⟨hL, hlo, hso.tl.tl.cons (v := .inl (rx_mn x y)) (by unfold rx_mn; show rx_r _; split <;> assumption), hHp, hSS⟩
    · cases hs
  · cases hs

set_option maxHeartbeats 4000000 in
theorem rx_W_32 (F : rx_Facts) (X : rx_X D ad adV cA L ro p R s m args c cells slots mi d) (hok : rx_ok (rx_mi mi) pc (32, nx, a, b, c0, sw) = true) (hs : rx_step L (32, nx, a, b, c0, sw) la st σ = some (pc', la', st', σ')) (S : rx_S D ad cA ro s (rx_mi mi).2.2.1 la st σ lsA H locs)
    (kk : ∀ (lsB : Array Slot) (H1 : Heap) (locs1 : List Loc), rx_S D ad cA ro s (rx_mi mi).2.2.1 la' st' σ' lsB H1 locs1 → W p l e R s m args below meth c H1 locs1 cells slots Q (F0 m pc' lsB (st'.map (rx_ev ad)))) : W p l e R s m args below meth c H locs cells slots Q (F0 m pc lsA (st.map (rx_ev ad))) := by
  obtain ⟨hx, hb, hml, hown, hts, hR, hEn, hRo, hL384, hinj⟩ := X
  obtain ⟨hL, hlo, hso, hHp, hSS⟩ := S
  simp only [rx_step] at hs
  split at hs
  · next x st0 =>
    split at hs
    · next hl40 =>
      cases hs
      have hxr : rx_r x := hso.hd
      simp only [rx_ok, Bool.and_eq_true, decide_eq_true_eq] at hok
      obtain ⟨⟨hd, rfl⟩, hlk⟩ := hok
      obtain ⟨h1, h2, h3, h4, h5, h6⟩ := F.2.2.2.2.2.2.2.1
      have hloc : (((st0 : List rx_V).map (rx_ev ad)).map fun v => v.category).sum + 13 ≤ R.locals := by
        rw [rx_catsB]
        omega
      refine va_mabs (x := Int32.ofInt x) hx hb (by rw [hml]; exact hL.1.1.symm) hown (hts _ (h1 _ (List.mem_of_getElem? hlk))) (hts _ (h2 2 (by decide))) (hts _ h3) (hts _ h6) (by omega) hloc hR.2.2.1 hR.2.2.2 hd ?_
      have e9 : (if 0 ≤ Int32.ofInt x then Int32.ofInt x else 0 - Int32.ofInt x) = Int32.ofInt (rx_ab x) := by
        unfold rx_ab
        rw [← rx_0]
        by_cases g : 0 ≤ x
        · rw [if_pos g, if_pos ((rx_le rx_r0 hxr).mpr g)]
        · rw [if_neg g, if_neg (fun q => g ((rx_le rx_r0 hxr).mp q)), rx_sub]
      rw [e9]
      exact kk lsA H locs ⟨hL, hlo, hso.tl.cons (v := .inl (rx_ab x)) (by unfold rx_ab; show rx_r _; split <;> first | assumption | exact rx_w_r _), hHp, hSS⟩
    · cases hs
  · cases hs

end RXS
