section COPY
variable {σ : rx_St} {a c c' : Nat} {q p n i : Int}
theorem cp_c (h : c' ≠ c) : rx_cp σ a q c p n c' = σ c' := funext fun _ => if_neg (fun g => h g.1)
theorem cp_i (h : p ≤ i ∧ i < p + n) : rx_cp σ a q c p n c i = σ a (q + (i - p)) := if_pos ⟨rfl, h⟩
theorem cp_o (h : ¬ (p ≤ i ∧ i < p + n)) : rx_cp σ a q c p n c i = σ c i := if_neg (fun g => h g.2)
theorem al_eq {L c t n : Nat} (h : rx_SH[c]? = some (.inr (.inl (t, n)))) (h1 : c ≠ 159) (h2 : c ≠ 160) : rx_alen L c = some (n : Int) := by
  unfold rx_alen
  rw [if_neg h1, if_neg h2, h]
theorem al_land {L A k : Nat} (h : rx_isO 1 A = true) (h1 : 1 ≤ k) (h2 : k ≤ 10) : rx_alen L (A + k) = some (if k ≤ 5 then 8 else 18) := by
  have hk : k = 1 ∨ k = 2 ∨ k = 3 ∨ k = 4 ∨ k = 5 ∨ k = 6 ∨ k = 7 ∨ k = 8 ∨ k = 9 ∨ k = 10 := by omega
  rcases sh_1 h with rfl | rfl | rfl <;> rcases hk with rfl | rfl | rfl | rfl | rfl | rfl | rfl | rfl | rfl | rfl
  all_goals first
    | exact al_eq (n := 8) (t := 0) (by decide +kernel) (by decide) (by decide)
    | exact al_eq (n := 18) (t := 0) (by decide +kernel) (by decide) (by decide)
theorem ln_land {L A k : Nat} (h : rx_isO 1 A = true) (h1 : 1 ≤ k) (h2 : k ≤ 10) : rx_len L 0 (A + k) = (if k ≤ 5 then 8 else 18) ∧ A + k < 159 := by
  have hk : k = 1 ∨ k = 2 ∨ k = 3 ∨ k = 4 ∨ k = 5 ∨ k = 6 ∨ k = 7 ∨ k = 8 ∨ k = 9 ∨ k = 10 := by omega
  rcases hk with rfl | rfl | rfl | rfl | rfl | rfl | rfl | rfl | rfl | rfl
  · exact ln_1_o1 L h
  · exact ln_1_o2 L h
  · exact ln_1_o3 L h
  · exact ln_1_o4 L h
  · exact ln_1_o5 L h
  · exact ln_1_o6 L h
  · exact ln_1_o7 L h
  · exact ln_1_o8 L h
  · exact ln_1_o9 L h
  · exact ln_1_o10 L h
end COPY
/-- what of a land counts -/
def ld_w (k : Nat) (i : Int) : Prop := (k = 0 ∧ (i = 0 ∨ i = 6 ∨ i = 12 ∨ i = 13)) ∨ (1 ≤ k ∧ k ≤ 5 ∧ 0 ≤ i ∧ i < 8) ∨ (6 ≤ k ∧ k ≤ 10 ∧ 0 ≤ i ∧ i < 18)
section CALLS4
variable {L d : Nat} {σ V W T : rx_St} {S : Int → Int} {Q : Int → Int → rx_St → Prop} {K : Int → rx_St → Prop} {KV : rx_St → Prop}
theorem wf_congr (hw : iv_Wf V) (h : ∀ k i, ld_w k i → W k i = V k i) : iv_Wf W := by
  obtain ⟨a1, a2, a3, a5, a6, a7, a8⟩ := hw
  have e0 : W 0 0 = V 0 0 := h 0 0 (by unfold ld_w; omega)
  have e6 : W 0 6 = V 0 6 := h 0 6 (by unfold ld_w; omega)
  have e12 : W 0 12 = V 0 12 := h 0 12 (by unfold ld_w; omega)
  have hp : ∀ k i, 1 ≤ k → k ≤ 5 → 0 ≤ i → i < V 0 0 → W k i = V k i := fun k i h1 h2 h3 h4 => h k i (by unfold ld_w; omega)
  have hr : ∀ k i, 6 ≤ k → k ≤ 10 → 0 ≤ i → i < V 0 6 → W k i = V k i := fun k i h1 h2 h3 h4 => h k i (by unfold ld_w; omega)
  unfold iv_Wf
  rw [e0, e6, e12]
  refine ⟨a1, a2, a3, fun p h0 h1 => ?_, fun p q p0 p1 q0 q1 ex ey => ?_, fun r h0 h1 => ?_, fun r s r0 r1 s0 s1 e1 e2 => ?_⟩
  · have := a5 p h0 h1
    rw [hp 1 p (by omega) (by omega) h0 h1, hp 2 p (by omega) (by omega) h0 h1, hp 3 p (by omega) (by omega) h0 h1, hp 4 p (by omega) (by omega) h0 h1, hp 5 p (by omega) (by omega) h0 h1, hp 5 (V 4 p) (by omega) (by omega) (by omega) (by omega), hp 4 (V 5 p) (by omega) (by omega) (by omega) (by omega)]
    exact this
  · rw [hp 1 p (by omega) (by omega) p0 p1, hp 1 q (by omega) (by omega) q0 q1] at ex
    rw [hp 2 p (by omega) (by omega) p0 p1, hp 2 q (by omega) (by omega) q0 q1] at ey
    exact a6 p q p0 p1 q0 q1 ex ey
  · rw [hr 6 r (by omega) (by omega) h0 h1, hr 7 r (by omega) (by omega) h0 h1, hr 8 r (by omega) (by omega) h0 h1, hr 9 r (by omega) (by omega) h0 h1, hr 10 r (by omega) (by omega) h0 h1]
    exact a7 r h0 h1
  · rw [hr 7 r (by omega) (by omega) r0 r1, hr 7 s (by omega) (by omega) s0 s1] at e1
    rw [hr 8 r (by omega) (by omega) r0 r1, hr 8 s (by omega) (by omega) s0 s1] at e2
    exact a8 r s r0 r1 s0 s1 e1 e2
theorem ld_Mcongr {M : Int → Int} (hM : ld_M V M) (h : ∀ k i, ld_w k i → W k i = V k i) : ld_M W M := fun k i hk => by
  rw [hM k i hk, h k i (by unfold ld_ok at hk; unfold ld_w; omega)]
theorem c_takeRow {A B k : Nat} (hA : rx_isO 1 A = true) (hB : rx_isO 1 B = true) (h1 : 1 ≤ k) (h2 : k ≤ 10) (h : KV (rx_cp σ (B + k) 0 (A + k) 0 (if k ≤ 5 then 8 else 18))) : rx_CV L d mX1_takeRow [.inr (B + k), .inr (A + k)] σ KV := by
  refine bX1_takeRow L d _ _ (ln_land hB h1 h2) (al_land hB h1 h2) _ _ (ln_land hA h1 h2) (al_land hA h1 h2) σ KV ?_
  have e : rx_mn (if k ≤ 5 then 8 else 18) (if k ≤ 5 then 8 else 18) = (if k ≤ 5 then 8 else 18) := by unfold rx_mn; split <;> rfl
  rw [e]
  refine ⟨?_, h⟩
  unfold rx_cpOK
  split <;> omega
theorem c_takeFrom {A B : Nat} (hA : rx_isO 1 A = true) (hB : rx_isO 1 B = true) (hAB : A ≠ B) (hV : ld_C B V σ) (h : ∀ σ' W, ld_C A W σ' → (∀ k i, ld_w k i → W k i = V k i) → (∀ c, c < A ∨ A + 10 < c → σ' c = σ c) → KV σ') : rx_CV L (d + 1) mX1_takeFrom [.inr A, .inr B] σ KV := by
  have hd : A + 10 < B ∨ B + 10 < A := by
    rcases sh_1 hA with rfl | rfl | rfl <;> rcases sh_1 hB with rfl | rfl | rfl <;> omega
  refine bX1_takeFrom L d A hA B hB σ KV ?_
  refine c_takeRow hA hB (k := 1) (by omega) (by omega) ?_
  refine c_takeRow hA hB (k := 2) (by omega) (by omega) ?_
  refine c_takeRow hA hB (k := 3) (by omega) (by omega) ?_
  refine c_takeRow hA hB (k := 4) (by omega) (by omega) ?_
  refine c_takeRow hA hB (k := 5) (by omega) (by omega) ?_
  refine c_takeRow hA hB (k := 6) (by omega) (by omega) ?_
  refine c_takeRow hA hB (k := 7) (by omega) (by omega) ?_
  refine c_takeRow hA hB (k := 8) (by omega) (by omega) ?_
  refine c_takeRow hA hB (k := 9) (by omega) (by omega) ?_
  refine c_takeRow hA hB (k := 10) (by omega) (by omega) ?_
  simp only [show (1 ≤ 5) = True from by simp, show (2 ≤ 5) = True from by simp, show (3 ≤ 5) = True from by simp, show (4 ≤ 5) = True from by simp, show (5 ≤ 5) = True from by simp, show (6 ≤ 5) = False from by simp, show (7 ≤ 5) = False from by simp, show (8 ≤ 5) = False from by simp, show (9 ≤ 5) = False from by simp, show (10 ≤ 5) = False from by simp, if_true, if_false]
  simp (disch := omega) only [up_c, cp_c, up_i]
  refine h _ (fun k => _) (fun k hk => rfl) (fun k i hk => ?_) (fun c hc => ?_)
  · have e0 : ∀ j, j ≤ 10 → ∀ i, σ (B + j) i = V j i := fun j hj i => congrFun (hV j hj) i
    unfold ld_w at hk
    have h9 : k = 0 ∨ k = 1 ∨ k = 2 ∨ k = 3 ∨ k = 4 ∨ k = 5 ∨ k = 6 ∨ k = 7 ∨ k = 8 ∨ k = 9 ∨ k = 10 := by omega
    rcases h9 with rfl | rfl | rfl | rfl | rfl | rfl | rfl | rfl | rfl | rfl | rfl
    · have hi : i = 0 ∨ i = 6 ∨ i = 12 ∨ i = 13 := by omega
      have e00 := e0 0 (by omega)
      rcases hi with rfl | rfl | rfl | rfl
      all_goals
        simp (disch := omega) only [Nat.add_zero, up_c, up_i, up_s, cp_c]
        exact e00 _
    all_goals
      simp (disch := omega) only [up_c, cp_c, cp_i]
      rw [Int.sub_zero, Int.zero_add]
      exact e0 _ (by omega) i
  · simp (disch := omega) only [up_c, cp_c]
theorem n_copyAll {A B : Nat} (hA : A = 126 ∨ A = 127 ∨ A = 128) (hB : B = 126 ∨ B = 127 ∨ B = 128) (hAB : A ≠ B) (h : ∀ σ', (∀ i, 0 ≤ i → i < 1498 → σ' B i = σ A i) → (∀ c, c ≠ B → σ' c = σ c) → KV σ') : rx_CV L d mX11_copyAll [.inr A, .inr B] σ KV := by
  have hl : ∀ c, c = 126 ∨ c = 127 ∨ c = 128 → (rx_len L 0 c = 1498 ∧ c < 159) ∧ rx_alen L c = some 1498 := by
    intro c hc
    rcases hc with rfl | rfl | rfl
    all_goals exact ⟨⟨rx_len_eq (by decide +kernel), by decide⟩, al_eq (n := 1498) (t := 0) (by decide +kernel) (by decide) (by decide)⟩
  refine bX11_copyAll L d A 1498 (hl A hA).1 (hl A hA).2 B 1498 (hl B hB).1 (hl B hB).2 σ KV ?_
  have key : ∀ (k : Nat) (x : Int) (σ1 : rx_St), 0 ≤ x → x + k = 1498 → (∀ i, 0 ≤ i → i < x → σ1 B i = σ A i) → (∀ c, c ≠ B → σ1 c = σ c) → rx_Go L d mX11_copyAll 2 [some (.inr A), some (.inr B), some (.inl x)] [] σ1 (rx_PV KV) := by
    intro k
    induction k with
    | zero =>
      intro x σ1 h0 hx hi hc
      refine bX11_copyAll_2 L d A 1498 (hl A hA).1 B 1498 (hl B hB).1 x σ1 KV ?_
      rw [if_pos (by omega)]
      exact h σ1 (fun i i0 i1 => hi i i0 (by omega)) hc
    | succ k ih =>
      intro x σ1 h0 hx hi hc
      refine bX11_copyAll_2 L d A 1498 (hl A hA).1 B 1498 (hl B hB).1 x σ1 KV ?_
      rw [if_neg (by omega), rx_w_of (by omega) (by omega)]
      refine ⟨by omega, by omega, ih (x + 1) _ (by omega) (by omega) (fun i i0 i1 => ?_) (fun c h9 => by rw [up_c h9]; exact hc c h9)⟩
      by_cases e : i = x
      · rw [up_e e, hc A hAB, e]
      · rw [up_i e]
        exact hi i i0 (by omega)
  exact key 1498 0 σ (by omega) (by omega) (fun i h0 h1 => by omega) (fun _ _ => rfl)
theorem ld_Mcp {M M' : Int → Int} (hM : ld_M V M) (h : ∀ i, 0 ≤ i → i < 1498 → M' i = M i) : ld_M V M' := fun k i hk => by
  rw [h _ _ _, hM k i hk]
  · unfold ld_ok at hk
    unfold ld_i
    repeat' split
    all_goals omega
  · unfold ld_ok at hk
    unfold ld_i
    repeat' split
    all_goals omega
theorem tx_Mcp {n : Int} {M M' : Int → Int} (hn : n ≤ 14) (hw : tx_Wf T n) (hM : tx_M T n M) (h : ∀ i, 0 ≤ i → i < 1498 → M' i = M i) : tx_M T n M' := fun t h0 h1 => by
  obtain ⟨a1, a2, a3⟩ := hM t h0 h1
  have b := (hw t h0 h1).2.1
  rw [h _ (by omega) (by omega), h _ (by omega) (by omega)]
  exact ⟨a1, a2, fun k k0 k1 => by rw [h _ (by omega) (by omega)]; exact a3 k k0 k1⟩
theorem o_keep (h : iv_A S V T σ) (hQ : ∀ v σ', Inv S σ' → Q v v σ') :
    rx_CI L (d + 2) mX10_keep [.inr 0] σ (fun v1 σ1 => rx_CI L (d + 2) mX11_keep [.inr 125] σ1 (fun v2 σ2 => Q v1 v2 σ2)) := by
  have hw := h.1
  have hC := h.2.1
  have hM := h.2.2.1
  have hT := h.2.2.2.2.1
  have hR := iv_R_of h
  refine bX10_keep L (d + 1) σ _ ?_
  refine c_takeFrom rfl rfl (by decide) hC (fun σ1 W hC1 hW hf1 => ?_)
  have e6 : (rx_up σ1 0 3 1) 12 6 = V 0 6 := by
    rw [up_c (by decide), show σ1 12 = W 0 from ld_C0 hC1]
    exact hW 0 6 (by unfold ld_w; omega)
  rw [e6]
  refine bX11_keep L (d + 1) _ _ ?_
  refine n_copyAll (Or.inl rfl) (Or.inr (Or.inl rfl)) (by decide) (fun σ2 hi2 hf2 => ?_)
  have e126 : σ2 126 = σ 126 := by rw [hf2 126 (by decide), up_c (by decide), hf1 126 (by omega)]
  have e2 : (rx_up σ2 125 3 1) 126 2 = V 0 6 := by
    rw [up_c (by decide), e126]
    exact ld_Mm hM
  rw [e2]
  have hcell : ∀ c i, c < 12 ∨ 22 < c → c ≠ 127 → ¬ (c = 0 ∧ i = 3) → ¬ (c = 125 ∧ i = 3) → (rx_up σ2 125 3 1) c i = σ c i := by
    intro c i h1 h2 h3 h4
    rw [up_n h4, hf2 c h2, up_n h3, hf1 c (by omega)]
  have hcell2 : ∀ c, c < 12 ∨ 22 < c → c ≠ 127 → c ≠ 0 → c ≠ 125 → (rx_up σ2 125 3 1) c = σ c := fun c h1 h2 h3 h4 => funext fun i => hcell c i h1 h2 (by omega) (by omega)
  have i127 : ∀ i, 0 ≤ i → i < 1498 → (rx_up σ2 125 3 1) 127 i = σ 126 i := by
    intro i h0 h1
    rw [up_c (by decide), hi2 i h0 h1, up_c (by decide), hf1 126 (by omega)]
  have k0 : (rx_up σ2 125 3 1) 0 3 = 1 := by rw [up_c (by decide), hf2 0 (by decide), up_s]
  refine hQ _ _ ⟨V, T, hw, ld_Cfr hC (fun c h1 h2 => hcell2 c (by omega) (by omega) (by omega) (by omega)), ?_, ?_, ?_, ?_⟩
  · rw [hcell2 126 (by omega) (by omega) (by omega) (by omega)]
    exact hM
  · refine ⟨Or.inr k0, by rw [k0, up_s], fun _ => ⟨W, wf_congr hw hW, ?_, ld_Mcp (ld_Mcongr hM hW) i127, ?_⟩⟩
    · refine ld_Cfr hC1 (fun c h1 h2 => ?_)
      rw [up_c (by omega), hf2 c (by omega), up_c (by omega)]
    · rw [hW 0 12 (by unfold ld_w; omega)]
      exact Int.le_refl _
  · obtain ⟨b1, b2, b3, b4⟩ := hT
    have ht := wf_t hw
    refine ⟨fun k hk => ?_, b2, ?_, fun _ => ?_⟩
    · rw [hcell2 (39 + k) (by omega) (by omega) (by omega) (by omega)]
      exact b1 k hk
    · rw [hcell2 126 (by omega) (by omega) (by omega) (by omega)]
      exact b3
    · rw [i127 3 (by omega) (by omega), ld_Mt hM]
      exact tx_Mcp ht.2 b2 b3 i127
  · refine iv_Rfr hR (fun c i hk => hcell c i ?_ ?_ ?_ ?_) <;> unfold fr_r at hk <;> omega
theorem o_back (h : iv_A S V T σ) (hQ : ∀ v σ', Inv S σ' → Q v v σ') :
    rx_CI L (d + 2) mX10_back [.inr 0] σ (fun v1 σ1 => rx_CI L (d + 2) mX11_back [.inr 125] σ1 (fun v2 σ2 => Q v1 v2 σ2)) := by
  have hw := h.1
  have hC := h.2.1
  have hM := h.2.2.1
  obtain ⟨g1, g2, g3⟩ := h.2.2.2.1
  obtain ⟨b1, b2, b3, b4⟩ := h.2.2.2.2.1
  have hR := iv_R_of h
  refine bX10_back L (d + 1) σ _ ?_
  by_cases c : σ 0 3 = 0
  · rw [if_neg (fun q => q c)]
    refine bX11_back L (d + 1) σ _ ?_
    rw [if_neg (fun q => q (by omega))]
    exact o_same h hQ _
  · rw [if_pos c]
    have c1 : σ 0 3 = 1 := g1.resolve_left c
    obtain ⟨I, i1, i2, i3, i4⟩ := g3 c1
    refine c_takeFrom rfl rfl (by decide) i2 (fun σ1 W hC1 hW hf1 => ?_)
    have e6 : σ1 1 6 = I 0 6 := by
      rw [show σ1 1 = W 0 from ld_C0 hC1]
      exact hW 0 6 (by unfold ld_w; omega)
    rw [e6]
    refine bX11_back L (d + 1) σ1 _ ?_
    rw [hf1 125 (by omega), if_pos (by omega)]
    refine n_copyAll (Or.inr (Or.inl rfl)) (Or.inl rfl) (by decide) (fun σ2 hi2 hf2 => ?_)
    have hi3 : ∀ i, 0 ≤ i → i < 1498 → σ2 126 i = σ 127 i := fun i h0 h1 => by rw [hi2 i h0 h1, hf1 127 (by omega)]
    rw [hi3 2 (by omega) (by omega), ld_Mm i3]
    have hcell : ∀ c, c < 1 ∨ 11 < c → c ≠ 126 → σ2 c = σ c := fun c h1 h2 => by rw [hf2 c h2, hf1 c (by omega)]
    have e12 : W 0 12 = I 0 12 := hW 0 12 (by unfold ld_w; omega)
    refine hQ _ _ ⟨W, T, wf_congr i1 hW, ld_Cfr hC1 (fun c h1 h2 => hf2 c (by omega)), ld_Mcp (ld_Mcongr i3 hW) hi3, ?_, ?_, ?_⟩
    · unfold iv_img
      rw [hcell 0 (by omega) (by omega), hcell 125 (by omega) (by omega), hcell 127 (by omega) (by omega)]
      refine ⟨g1, g2, fun _ => ⟨I, i1, ld_Cfr i2 (fun c h1 h2 => hcell c (by omega) (by omega)), i3, ?_⟩⟩
      rw [e12]
      exact Int.le_refl _
    · have hx := b4 c1
      rw [ld_Mt i3] at hx
      have hwI : tx_Wf T (I 0 12) := fun t h0 h1 => b2 t h0 (by omega)
      refine ⟨fun k hk => ?_, by rw [e12]; exact hwI, ?_, fun _ => ?_⟩
      · rw [hcell (39 + k) (by omega) (by omega)]
        exact b1 k hk
      · rw [e12]
        exact tx_Mcp (wf_t i1).2 hwI hx hi3
      · rw [hcell 127 (by omega) (by omega), ld_Mt i3]
        exact hx
    · exact iv_Rfr hR (fun c i hk => by rw [hcell c] <;> unfold fr_r at hk <;> omega)
end CALLS4
