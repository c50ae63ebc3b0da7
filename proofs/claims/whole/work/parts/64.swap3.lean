/-- the land behind the best swap -/
noncomputable def sw_step (V T : rx_St) : rx_St := if 0 ≤ (rs_best V T (rs_c2 V T)).1 then ld_sw V ((rs_best V T (rs_c2 V T)).1 / 10) ((rs_best V T (rs_c2 V T)).1 % 10) else V
noncomputable def sw_many (T : rx_St) : Nat → rx_St → Int → Int × rx_St
  | 0, V, c => (c, V)
  | k + 1, V, c => if 0 ≤ (rs_best V T (rs_c2 V T)).1 then sw_many T k (sw_step V T) (c + 1) else (c, V)
/-- how many numbers that wait stand right -/
noncomputable def ck_go (T : rx_St) (told : Int) (w : Int → Int) : Nat → Int → rx_St → Int
  | 0, i, _ => 2 * i
  | k + 1, i, V => if 2 * i < told ∧ w (2 * i) = (rs_best V T (rs_c2 V T)).1 then (if 2 * i + 1 < told ∧ w (2 * i + 1) = (rs_best V T (rs_c2 V T)).2 then ck_go T told w k (i + 1) (sw_step V T) else 2 * i + 1) else 2 * i
theorem ck_b {T : rx_St} {told : Int} {w : Int → Int} : ∀ (k : Nat) (i : Int) (V : rx_St), 2 * i ≤ ck_go T told w k i V ∧ ck_go T told w k i V ≤ 2 * (i + k) ∧ (ck_go T told w k i V = 2 * (i + k) → k = 0 ∨ 2 * (i + k) ≤ told)
  | 0, i, V => by
    unfold ck_go
    omega
  | k + 1, i, V => by
    unfold ck_go
    have ih := ck_b (T := T) (told := told) (w := w) k (i + 1) (sw_step V T)
    by_cases c1 : 2 * i < told ∧ w (2 * i) = (rs_best V T (rs_c2 V T)).1
    · rw [if_pos c1]
      by_cases c2 : 2 * i + 1 < told ∧ w (2 * i + 1) = (rs_best V T (rs_c2 V T)).2
      · rw [if_pos c2]
        refine ⟨by omega, by omega, fun e => Or.inr ?_⟩
        rcases ih.2.2 (by omega) with g | g
        · omega
        · omega
      · rw [if_neg c2]
        omega
    · rw [if_neg c1]
      omega
section SW3
variable {L d : Nat} {σ V T : rx_St} {S : Int → Int} {Q : Int → Int → rx_St → Prop} {K : Int → rx_St → Prop} {KV : rx_St → Prop} {C : Int → Int → Int}
theorem sw_step_k {k : Nat} (h : k ≠ 1) (h' : k ≠ 2) : sw_step V T k = V k := by
  unfold sw_step
  split
  · exact sw_k h h'
  · rfl
theorem sw_step_wf (hw : iv_Wf V) : iv_Wf (sw_step V T) := by
  have hok := (rs_best_ok (T := T) (C := rs_c2 V T) hw (fun r s => rs_c2_b r s)).1
  unfold sw_step
  by_cases c : 0 ≤ (rs_best V T (rs_c2 V T)).1
  · rw [if_pos c]
    exact wf_sw hw (by omega) (by omega)
  · rw [if_neg c]
    exact hw
theorem sw_step_c2 : rs_c2 (sw_step V T) T = rs_c2 V T := by
  unfold sw_step
  split
  · exact rs_c2_sw
  · rfl
theorem sw_many_ok : ∀ (k : Nat) (V : rx_St) (c : Int), iv_Wf V → iv_Wf (sw_many T k V c).2 ∧ (sw_many T k V c).2 0 = V 0
  | 0, _, _, h => ⟨h, rfl⟩
  | k + 1, V, c, h => by
    unfold sw_many
    split
    · have := sw_many_ok k (sw_step V T) (c + 1) (sw_step_wf h)
      exact ⟨this.1, this.2.trans (sw_step_k (by omega) (by omega))⟩
    · exact ⟨h, rfl⟩
theorem o_swaps {n : Int} (h : iv_A S V T σ) (hQ : ∀ v σ', Inv S σ' → Q v v σ') :
    rx_CI L (d + 8) mX10_swaps [.inr 0, .inl n] σ (fun v1 σ1 => rx_CI L (d + 8) mX11_swaps [.inr 125, .inl n] σ1 (fun v2 σ2 => Q v1 v2 σ2)) := by
  have hw := h.1
  have hC := h.2.1
  have hM := h.2.2.1
  obtain ⟨b1, b2, b3, b4⟩ := h.2.2.2.2.1
  have hbad : ¬ (1 ≤ n ∧ n ≤ 30) → rx_CI L (d + 8) mX11_swaps [.inr 125, .inl n] σ (fun v2 σ2 => Q (-1000000001) v2 σ2) := by
    intro c
    refine bX11_swaps L (d + 7) n σ _ ?_
    refine m_in (fun c1 => absurd c1 c) (fun _ => ?_)
    rw [if_neg (by decide)]
    exact o_same h hQ _
  refine bX10_swaps L (d + 7) n σ _ ?_
  by_cases c1 : n < 1
  · rw [if_pos c1]
    exact hbad (by omega)
  rw [if_neg c1]
  by_cases c2 : n ≤ 30
  · rw [if_pos c2]
    refine c_reckon rfl hC hw b1 b2 (fun σ1 hC1 hf1 => ?_)
    -- the class
    have key : ∀ (k : Nat) (x : Int) (W : rx_St) (σ2 : rx_St) (K : Int → rx_St → Prop), 0 ≤ x → x + k = n → iv_Wf W → W 0 = V 0 → ld_C 1 W σ2 → rk_C (rs_c2 W T) (W 0 6) σ2 → (∀ c, c ≠ 57 → c ≠ 58 → (c < 60 ∨ 78 < c) → c ≠ 2 → c ≠ 3 → σ2 c = σ c) → (∀ σ', ld_C 1 (sw_many T k W x).2 σ' → (∀ c, c ≠ 57 → c ≠ 58 → (c < 60 ∨ 78 < c) → c ≠ 2 → c ≠ 3 → σ' c = σ c) → K (sw_many T k W x).1 σ') → rx_Go L (d + 8) mX10_swaps 27 [some (.inr 0), some (.inl n), some (.inl x)] [] σ2 (rx_PI K) := by
      intro k
      induction k with
      | zero =>
        intro x W σ2 K x0 hx hwW hW0 hCW hR hf hK
        refine bX10_swaps_27 L (d + 7) n x σ2 K ?_
        rw [if_pos (by omega)]
        exact hK σ2 hCW hf
      | succ k ih =>
        intro x W σ2 K x0 hx hwW hW0 hCW hR hf hK
        have hCb : ∀ r s, 0 ≤ rs_c2 W T r s ∧ rs_c2 W T r s ≤ 999 := fun r s => rs_c2_b r s
        have hok := (rs_best_ok (T := T) (C := rs_c2 W T) hwW hCb).1
        have hnW := wf_n hwW
        refine bX10_swaps_27 L (d + 7) n x σ2 K ?_
        rw [if_neg (by omega)]
        refine c_search rfl hCW hwW (T := T) (fun k hk => by rw [hf (39 + k) (by omega) (by omega) (by omega) (by omega) (by omega)]; exact b1 k hk) (by rw [hW0]; exact b2) hR hCb (fun σ3 hf3 g2 g01 => ?_)
        have hf33 : ∀ c, c ≠ 57 → c ≠ 58 → (c < 60 ∨ 78 < c) → c ≠ 2 → c ≠ 3 → σ3 c = σ c := fun c d1 d2 d3 d4 d5 => by rw [hf3 c d1 (by omega)]; exact hf c d1 d2 d3 d4 d5
        have hC3 : ld_C 1 W σ3 := ld_Cfr hCW (fun c h1 h2 => hf3 c (by omega) (by omega))
        unfold sw_many at hK
        by_cases z : 0 ≤ (rs_best W T (rs_c2 W T)).1
        · rw [if_pos z, if_pos (by decide)]
          rw [if_pos z] at hK
          obtain ⟨q0, q1⟩ := g01 z
          rw [q0, q1]
          refine c_swapPosts rfl hC3 (by omega) (by omega) (by omega) (fun σ4 hC4 hf4 => ?_)
          have es : sw_step W T = ld_sw W ((rs_best W T (rs_c2 W T)).1 / 10) ((rs_best W T (rs_c2 W T)).1 % 10) := if_pos z
          rw [← es] at hC4
          rw [rx_w_of (by omega) (by omega)]
          refine ih (x + 1) (sw_step W T) σ4 K (by omega) (by omega) (sw_step_wf hwW) ((sw_step_k (by omega) (by omega)).trans hW0) hC4 ?_ (fun c d1 d2 d3 d4 d5 => by rw [hf4 c (by omega) (by omega)]; exact hf33 c d1 d2 d3 d4 d5) hK
          rw [sw_step_c2, sw_step_k (by omega) (by omega)]
          intro r s r0 r1 s0 s1 rs
          have := wf_m hwW
          rw [hf4 (60 + r.toNat) (by omega) (by omega), hf3 (60 + r.toNat) (by omega) (by omega)]
          exact hR r s r0 r1 s0 s1 rs
        · rw [if_neg z, if_neg (fun q => q rfl)]
          rw [if_neg z] at hK
          exact hK σ3 hC3 hf33
    refine key n.toNat 0 V σ1 _ (by omega) (by omega) hw rfl (ld_Cfr hC (fun c h1 h2 => hf1 c (by omega) (by omega) (by omega))) hC1 (fun c d1 d2 d3 d4 d5 => hf1 c d1 d2 (by omega)) (fun σ2 hC2 hf2 => ?_)
    -- the model
    have e126 : σ2 126 = σ 126 := hf2 126 (by decide) (by decide) (by omega) (by decide) (by decide)
    have hfin : ∀ (W : rx_St) (v : Int) (σ3 : rx_St), iv_Wf W → W 0 = V 0 → ld_C 1 W σ2 → ld_M W (σ3 126) → (∀ c i, fs_k c i → σ3 c i = σ2 c i) → Q v v σ3 := by
      intro W v σ3 hwW hW0 hCW hM3 hf3
      refine hQ _ _ ⟨W, T, iv_land h (fun c i hk => ?_) hwW (ld_Cfr hCW (fun c h1 h2 => funext fun i => hf3 c i (by unfold fs_k; omega))) hM3 (by rw [hW0])⟩
      unfold fr_v fr_k at hk
      rw [hf3 c i (by unfold fs_k; omega), hf2 c (by omega) (by omega) (by omega) (by omega) (by omega)]
    refine bX11_swaps L (d + 7) n σ2 _ ?_
    refine m_in (fun _ => ?_) (fun c => absurd ⟨by omega, by omega⟩ c)
    rw [if_pos (by decide)]
    have mkey : ∀ (k : Nat) (x : Int) (W : rx_St) (σ3 : rx_St), 0 ≤ x → x + k = n → iv_Wf W → W 0 = V 0 → ld_M W (σ3 126) → (∀ c i, fs_k c i → σ3 c i = σ2 c i) → sw_many T k W x = sw_many T n.toNat V 0 → rx_Go L (d + 8) mX11_swaps 17 [some (.inr 125), some (.inl n), some (.inl x), some (.inl 1)] [] σ3 (rx_PI (fun v2 σ2 => Q (sw_many T n.toNat V 0).1 v2 σ2)) := by
      intro k
      induction k with
      | zero =>
        intro x W σ3 x0 hx hwW hW0 hMW hf3 he
        refine bX11_swaps_17 L (d + 7) n x 1 σ3 _ ?_
        rw [if_neg (by decide), if_pos (by omega)]
        have he : (x, W) = sw_many T n.toNat V 0 := he
        rw [← he] at hC2 ⊢
        exact hfin W _ σ3 hwW hW0 hC2 hMW hf3
      | succ k ih =>
        intro x W σ3 x0 hx hwW hW0 hMW hf3 he
        have hCb : ∀ r s, 0 ≤ rs_c2 W T r s ∧ rs_c2 W T r s ≤ 999 := fun r s => rs_c2_b r s
        have hok := (rs_best_ok (T := T) (C := rs_c2 W T) hwW hCb).1
        have hnW := wf_n hwW
        refine bX11_swaps_17 L (d + 7) n x 1 σ3 _ ?_
        rw [if_neg (by decide), if_neg (by omega)]
        have hTx : tx_M T (W 0 12) (σ3 126) := by
          rw [hW0]
          intro t t0 t1
          obtain ⟨a1, a2, a3⟩ := b3 t t0 t1
          rw [hf3 126 _ (by unfold fs_k; omega), hf3 126 _ (by unfold fs_k; omega), e126]
          exact ⟨a1, a2, fun k k0 k1 => by rw [hf3 126 _ (by unfold fs_k; omega), e126]; exact a3 k k0 k1⟩
        refine n_findSwap hMW hwW hTx (by rw [hW0]; exact b2) (fun σ4 hM4 hf4 g7 g8 => ?_)
        have hf44 : ∀ c i, fs_k c i → σ4 c i = σ2 c i := fun c i hk => by rw [hf4 c i hk]; exact hf3 c i hk
        rw [g7]
        have he : (if 0 ≤ (rs_best W T (rs_c2 W T)).1 then sw_many T k (sw_step W T) (x + 1) else (x, W)) = sw_many T n.toNat V 0 := he
        by_cases z : 0 ≤ (rs_best W T (rs_c2 W T)).1
        · rw [if_neg (by omega)]
          rw [if_pos z] at he
          have ed : Int.tdiv (rs_best W T (rs_c2 W T)).1 10 = (rs_best W T (rs_c2 W T)).1 / 10 := Int.tdiv_eq_ediv_of_nonneg z
          have em : Int.tmod (rs_best W T (rs_c2 W T)).1 10 = (rs_best W T (rs_c2 W T)).1 % 10 := Int.tmod_eq_emod_of_nonneg z
          rw [ed, em, rx_w_of (by omega) (by omega)]
          refine n_swap hM4 (by omega) (by omega) (by omega) (fun σ5 hM5 hf5 hi5 => ?_)
          have es : sw_step W T = ld_sw W ((rs_best W T (rs_c2 W T)).1 / 10) ((rs_best W T (rs_c2 W T)).1 % 10) := if_pos z
          rw [← es] at hM5
          rw [rx_w_of (by omega) (by omega)]
          refine ih (x + 1) (sw_step W T) σ5 (by omega) (by omega) (sw_step_wf hwW) ((sw_step_k (by omega) (by omega)).trans hW0) hM5 (fun c i hk => ?_) he
          by_cases e : c = 126
          · subst e
            rw [hi5 i (by unfold fs_k at hk; omega)]
            exact hf44 126 i hk
          · rw [hf5 c e]
            exact hf44 c i hk
        · rw [if_pos (by omega)]
          rw [if_neg z] at he
          refine bX11_swaps_17 L (d + 7) n x 0 σ4 _ ?_
          rw [if_pos rfl]
          have he : (x, W) = sw_many T n.toNat V 0 := he
          rw [← he] at hC2 ⊢
          exact hfin W _ σ4 hwW hW0 hC2 hM4 hf44
    exact mkey n.toNat 0 V σ2 (by omega) (by omega) hw rfl (by rw [e126]; exact hM) (fun _ _ _ => rfl) rfl
  · rw [if_neg c2]
    exact hbad (by omega)
theorem c_checkSwapsTold {n told : Int} {I : rx_St} (hn : 1 ≤ n ∧ n ≤ 30) (ht : 0 ≤ told ∧ told ≤ 60) (hI : ld_C 12 I σ) (hwI : iv_Wf I) (hT : tx_C T σ) (hTw : tx_Wf T (I 0 12))
    (h : ∀ (W σ' : rx_St), (∀ k i, ld_w k i → W k i = I k i) → (∀ c, c ≠ 57 → c ≠ 58 → (c < 60 ∨ 78 < c) → (c < 23 ∨ 33 < c) → σ' c = σ c) → K (if ck_go T told (σ 101) n.toNat 0 W = 2 * n then (if told ≤ 2 * n then 0 else 1 + 2 * n) else 1 + ck_go T told (σ 101) n.toNat 0 W) σ') : rx_CI L (d + 7) mX10_checkSwapsTold [.inr 0, .inl n, .inl told] σ K := by
  refine bX10_checkSwapsTold L (d + 6) n told σ K ?_
  refine c_takeFrom rfl rfl (by decide) hI (fun σ1 W0 hC1 hW hf1 => ?_)
  have hw0 := wf_congr hwI hW
  have e12 : W0 0 12 = I 0 12 := hW 0 12 (by unfold ld_w; omega)
  refine c_reckon rfl hC1 hw0 (T := T) (fun k hk => by rw [hf1 (39 + k) (by omega)]; exact hT k hk) (by rw [e12]; exact hTw) (fun σ2 hR2 hf2 => ?_)
  have h := h W0
  have key : ∀ (k : Nat) (i : Int) (W : rx_St) (q4 q5 : Option rx_V) (σ3 : rx_St), 0 ≤ i → i + k = n → iv_Wf W → W 0 = W0 0 → ld_C 23 W σ3 → rk_C (rs_c2 W T) (W 0 6) σ3 → (∀ c, c ≠ 57 → c ≠ 58 → (c < 60 ∨ 78 < c) → (c < 23 ∨ 33 < c) → σ3 c = σ c) → ck_go T told (σ 101) k i W = ck_go T told (σ 101) n.toNat 0 W0 → rx_Go L (d + 7) mX10_checkSwapsTold 24 [some (.inr 0), some (.inl n), some (.inl told), some (.inl i), q4, q5] [] σ3 (rx_PI K) := by
    intro k
    induction k with
    | zero =>
      intro i W q4 q5 σ3 i0 hi hwW hW0 hCW hR hf he
      refine bX10_checkSwapsTold_24 L (d + 6) n told i q4 q5 σ3 K ?_
      rw [if_pos (by omega), rx_w_of (x := 2 * n) (by omega) (by omega)]
      have he : 2 * i = ck_go T told (σ 101) n.toNat 0 W0 := he
      have hK := h σ3 hW hf
      rw [if_pos (by omega)] at hK
      by_cases c : told ≤ 2 * n
      · rw [if_pos c] at hK ⊢
        exact hK
      · rw [if_neg c] at hK ⊢
        rw [rx_w_of (by omega) (by omega)]
        exact hK
    | succ k ih =>
      intro i W q4 q5 σ3 i0 hi hwW hW0 hCW hR hf he
      have hCb : ∀ r s, 0 ≤ rs_c2 W T r s ∧ rs_c2 W T r s ≤ 999 := fun r s => rs_c2_b r s
      have hok := (rs_best_ok (T := T) (C := rs_c2 W T) hwW hCb).1
      have hnW := wf_n hwW
      refine bX10_checkSwapsTold_24 L (d + 6) n told i q4 q5 σ3 K ?_
      rw [if_neg (by omega)]
      refine c_search rfl hCW hwW (T := T) (fun k hk => by rw [hf (39 + k) (by omega) (by omega) (by omega) (by omega)]; exact hT k hk) (by rw [hW0, e12]; exact hTw) hR hCb (fun σ4 hf4 g2 g01 => ?_)
      have he : (if 2 * i < told ∧ σ 101 (2 * i) = (rs_best W T (rs_c2 W T)).1 then (if 2 * i + 1 < told ∧ σ 101 (2 * i + 1) = (rs_best W T (rs_c2 W T)).2 then ck_go T told (σ 101) k (i + 1) (sw_step W T) else 2 * i + 1) else 2 * i) = ck_go T told (σ 101) n.toNat 0 W0 := he
      have hf44 : ∀ c, c ≠ 57 → c ≠ 58 → (c < 60 ∨ 78 < c) → (c < 23 ∨ 33 < c) → σ4 c = σ c := fun c d1 d2 d3 d4 => by rw [hf4 c d1 (by omega)]; exact hf c d1 d2 d3 d4
      have hC4 : ld_C 23 W σ4 := ld_Cfr hCW (fun c h1 h2 => hf4 c (by omega) (by omega))
      have hR4 : rk_C (rs_c2 W T) (W 0 6) σ4 := fun r s r0 r1 s0 s1 rs => by
        have := wf_m hwW
        rw [hf4 (60 + r.toNat) (by omega) (by omega)]
        exact hR r s r0 r1 s0 s1 rs
      have f80 : ∀ (σ5 : rx_St) (q5 : Option rx_V), ld_C 23 (sw_step W T) σ5 → rk_C (rs_c2 W T) (W 0 6) σ5 → (∀ c, c ≠ 57 → c ≠ 58 → (c < 60 ∨ 78 < c) → (c < 23 ∨ 33 < c) → σ5 c = σ c) → σ5 78 2 = (rs_best W T (rs_c2 W T)).2 → rx_Go L (d + 7) mX10_checkSwapsTold 80 [some (.inr 0), some (.inl n), some (.inl told), some (.inl i), some (.inl (rs_best W T (rs_c2 W T)).1), q5] [] σ5 (rx_PI K) := by
        intro σ5 q5 hC5 hR5 hf5 g5
        refine bX10_checkSwapsTold_80 L (d + 6) n told i _ q5 σ5 K ?_
        rw [rx_w_of (x := 2 * i) (by omega) (by omega), rx_w_of (x := 2 * i + 1) (by omega) (by omega), hf5 101 (by decide) (by decide) (by omega) (by omega), g5]
        by_cases c1 : told ≤ 2 * i
        · rw [if_pos c1]
          refine bX10_checkSwapsTold_103 L (d + 6) _ _ _ _ _ _ σ5 K ?_
          rw [if_neg (by omega)] at he
          have hK := h σ5 hW hf5
          rw [← he, if_neg (by omega)] at hK
          rw [rx_w_of (by omega) (by omega)]
          exact hK
        · rw [if_neg c1]
          refine ⟨by omega, ?_⟩
          by_cases c2 : σ 101 (2 * i) = (rs_best W T (rs_c2 W T)).1
          · rw [if_pos c2]
            rw [if_pos ⟨by omega, c2⟩] at he
            by_cases c3 : told ≤ 2 * i + 1
            · rw [if_pos c3]
              refine bX10_checkSwapsTold_135 L (d + 6) _ _ _ _ _ _ σ5 K ?_
              rw [if_neg (by omega)] at he
              have hK := h σ5 hW hf5
              rw [← he, if_neg (by omega), show 1 + (2 * i + 1) = 2 + 2 * i by omega] at hK
              rw [rx_w_of (by omega) (by omega)]
              exact hK
            · rw [if_neg c3]
              refine ⟨by omega, ?_⟩
              by_cases c4 : σ 101 (2 * i + 1) = (rs_best W T (rs_c2 W T)).2
              · rw [if_pos c4, rx_w_of (by omega) (by omega)]
                rw [if_pos ⟨by omega, c4⟩] at he
                exact ih (i + 1) (sw_step W T) _ _ σ5 (by omega) (by omega) (sw_step_wf hwW) ((sw_step_k (by omega) (by omega)).trans hW0) hC5 (by rw [sw_step_c2, sw_step_k (by omega) (by omega)]; exact hR5) hf5 he
              · rw [if_neg c4]
                refine bX10_checkSwapsTold_135 L (d + 6) _ _ _ _ _ _ σ5 K ?_
                rw [if_neg (fun q => c4 q.2)] at he
                have hK := h σ5 hW hf5
                rw [← he, if_neg (by omega), show 1 + (2 * i + 1) = 2 + 2 * i by omega] at hK
                rw [rx_w_of (by omega) (by omega)]
                exact hK
          · rw [if_neg c2]
            refine bX10_checkSwapsTold_103 L (d + 6) _ _ _ _ _ _ σ5 K ?_
            rw [if_neg (fun q => c2 q.2)] at he
            have hK := h σ5 hW hf5
            rw [← he, if_neg (by omega)] at hK
            rw [rx_w_of (by omega) (by omega)]
            exact hK
      by_cases z : 0 ≤ (rs_best W T (rs_c2 W T)).1
      · rw [if_pos z, if_neg (by decide)]
        obtain ⟨q0, q1⟩ := g01 z
        refine bX9_pair L (d + 6) σ4 _ ?_
        rw [q0, q1, rx_w_of (x := 10 * ((rs_best W T (rs_c2 W T)).1 / 10)) (by omega) (by omega), rx_w_of (by omega) (by omega), show 10 * ((rs_best W T (rs_c2 W T)).1 / 10) + (rs_best W T (rs_c2 W T)).1 % 10 = (rs_best W T (rs_c2 W T)).1 by omega]
        refine c_swapPosts rfl hC4 (by omega) (by omega) (by omega) (fun σ5 hC5 hf5 => ?_)
        have es : sw_step W T = ld_sw W ((rs_best W T (rs_c2 W T)).1 / 10) ((rs_best W T (rs_c2 W T)).1 % 10) := if_pos z
        rw [← es] at hC5
        refine f80 σ5 _ hC5 (fun r s r0 r1 s0 s1 rs => ?_) (fun c d1 d2 d3 d4 => by rw [hf5 c (by omega) (by omega)]; exact hf44 c d1 d2 d3 d4) (by rw [hf5 78 (by decide) (by decide)]; exact g2)
        have := wf_m hwW
        rw [hf5 (60 + r.toNat) (by omega) (by omega)]
        exact hR4 r s r0 r1 s0 s1 rs
      · rw [if_neg z, if_pos rfl]
        have es : sw_step W T = W := if_neg z
        have e1 : (rs_best W T (rs_c2 W T)).1 = -1 := by omega
        have := f80 σ4 q5 (by rw [es]; exact hC4) hR4 hf44 g2
        rw [e1] at this
        exact this
  exact key n.toNat 0 W0 _ _ σ2 (by omega) (by omega) hw0 rfl (ld_Cfr hC1 (fun c h1 h2 => hf2 c (by omega) (by omega) (by omega))) hR2 (fun c d1 d2 d3 d4 => by rw [hf2 c d1 d2 (by omega), hf1 c (by omega)]) rfl
theorem n_rightSwaps {n told : Int} {W0 : rx_St} (hn : 1 ≤ n ∧ n ≤ 30) (ht : 0 ≤ told ∧ told ≤ 60) (hM : ld_M W0 (σ 126)) (hw : iv_Wf W0) (hT : tx_M T (W0 0 12) (σ 126)) (hTw : tx_Wf T (W0 0 12)) {w : Int → Int} (hww : ∀ i, 0 ≤ i → i < told → σ 158 i = w i)
    (h : ∀ σ', (∀ c i, fs_k c i → σ' c i = σ c i) → K (ck_go T told w n.toNat 0 W0) σ') : rx_CI L (d + 8) mX11_rightSwaps [.inr 125, .inl n, .inl told] σ K := by
  refine bX11_rightSwaps L (d + 7) n told σ K ?_
  have f116 : ∀ (x i : Int) (σ3 : rx_St), K x σ3 → rx_Go L (d + 8) mX11_rightSwaps 116 [some (.inr 125), some (.inl n), some (.inl told), some (.inl x), some (.inl i)] [] σ3 (rx_PI K) := fun x i σ3 hk => bX11_rightSwaps_116 L (d + 7) _ _ _ x _ σ3 K hk
  have stop : ∀ (x i : Int) (σ3 : rx_St), 0 ≤ i → i ≤ n → 0 ≤ x → x ≤ 61 → x ≠ 2 * i → K x σ3 → rx_Go L (d + 8) mX11_rightSwaps 5 [some (.inr 125), some (.inl n), some (.inl told), some (.inl x), some (.inl i)] [] σ3 (rx_PI K) := by
    intro x i σ3 i0 i1 x0 x1 hx hk
    refine bX11_rightSwaps_5 L (d + 7) n told x i σ3 K ?_
    rw [rx_w_of (by omega) (by omega)]
    by_cases c : n ≤ i
    · rw [if_pos c]
      exact f116 x i σ3 hk
    · rw [if_neg c, if_pos hx]
      exact f116 x i σ3 hk
  have key : ∀ (k : Nat) (i : Int) (W : rx_St) (σ3 : rx_St), 0 ≤ i → i + k = n → iv_Wf W → W 0 = W0 0 → ld_M W (σ3 126) → (∀ c i, fs_k c i → σ3 c i = σ c i) → ck_go T told w k i W = ck_go T told w n.toNat 0 W0 → rx_Go L (d + 8) mX11_rightSwaps 5 [some (.inr 125), some (.inl n), some (.inl told), some (.inl (2 * i)), some (.inl i)] [] σ3 (rx_PI K) := by
    intro k
    induction k with
    | zero =>
      intro i W σ3 i0 hi hwW hW0 hMW hf he
      refine bX11_rightSwaps_5 L (d + 7) n told (2 * i) i σ3 K ?_
      rw [if_pos (by omega)]
      have he : 2 * i = ck_go T told w n.toNat 0 W0 := he
      refine f116 _ _ σ3 ?_
      rw [he]
      exact h σ3 hf
    | succ k ih =>
      intro i W σ3 i0 hi hwW hW0 hMW hf he
      have hCb : ∀ r s, 0 ≤ rs_c2 W T r s ∧ rs_c2 W T r s ≤ 999 := fun r s => rs_c2_b r s
      have hok := (rs_best_ok (T := T) (C := rs_c2 W T) hwW hCb).1
      have hnW := wf_n hwW
      have he : (if 2 * i < told ∧ w (2 * i) = (rs_best W T (rs_c2 W T)).1 then (if 2 * i + 1 < told ∧ w (2 * i + 1) = (rs_best W T (rs_c2 W T)).2 then ck_go T told w k (i + 1) (sw_step W T) else 2 * i + 1) else 2 * i) = ck_go T told w n.toNat 0 W0 := he
      refine bX11_rightSwaps_5 L (d + 7) n told (2 * i) i σ3 K ?_
      rw [rx_w_of (by omega) (by omega), if_neg (by omega), if_neg (fun q => q rfl)]
      have hTx : tx_M T (W 0 12) (σ3 126) := by
        rw [hW0]
        intro t t0 t1
        obtain ⟨a1, a2, a3⟩ := hT t t0 t1
        rw [hf 126 _ (by unfold fs_k; omega), hf 126 _ (by unfold fs_k; omega)]
        exact ⟨a1, a2, fun k k0 k1 => by rw [hf 126 _ (by unfold fs_k; omega)]; exact a3 k k0 k1⟩
      refine n_findSwap hMW hwW hTx (by rw [hW0]; exact hTw) (fun σ4 hM4 hf4 g7 g8 => ?_)
      have hf44 : ∀ c i, fs_k c i → σ4 c i = σ c i := fun c i hk => by rw [hf4 c i hk]; exact hf c i hk
      have f48 : ∀ (σ5 : rx_St), ld_M (sw_step W T) (σ5 126) → (∀ c i, fs_k c i → σ5 c i = σ c i) → σ5 125 7 = (rs_best W T (rs_c2 W T)).1 → σ5 125 8 = (rs_best W T (rs_c2 W T)).2 → rx_Go L (d + 8) mX11_rightSwaps 48 [some (.inr 125), some (.inl n), some (.inl told), some (.inl (2 * i)), some (.inl i)] [] σ5 (rx_PI K) := by
        intro σ5 hM5 hf5 g7 g8
        have hK := h σ5 hf5
        rw [← he] at hK
        refine bX11_rightSwaps_48 L (d + 7) n told (2 * i) i σ5 K ?_
        rw [g7, g8, Int.add_zero]
        simp (disch := omega) only [rx_w_of, Int.add_zero]
        have e158 : ∀ j, σ5 158 j = σ 158 j := fun j => hf5 158 j (by unfold fs_k; omega)
        rw [e158, e158]
        by_cases c1 : told ≤ 2 * i
        · rw [if_pos c1, if_pos (by omega)]
          rw [if_neg (by omega)] at hK
          exact stop _ _ σ5 (by omega) (by omega) (by omega) (by omega) (by omega) hK
        · rw [if_neg c1]
          refine ⟨by omega, ?_⟩
          rw [hww (2 * i) (by omega) (by omega)]
          by_cases c2 : w (2 * i) = (rs_best W T (rs_c2 W T)).1
          · rw [if_neg (fun q => q c2), if_neg (fun q => q rfl)]
            rw [if_pos ⟨by omega, c2⟩] at hK
            by_cases c3 : told ≤ 2 * i + 1
            · rw [if_pos c3]
              rw [if_neg (by omega)] at hK
              exact stop _ _ σ5 (by omega) (by omega) (by omega) (by omega) (by omega) hK
            · rw [if_neg c3]
              refine ⟨by omega, ?_⟩
              rw [hww (2 * i + 1) (by omega) (by omega)]
              by_cases c4 : w (2 * i + 1) = (rs_best W T (rs_c2 W T)).2
              · rw [if_neg (fun q => q c4), show 2 * i + 1 + 1 = 2 * (i + 1) by omega]
                rw [if_pos ⟨by omega, c2⟩, if_pos ⟨by omega, c4⟩] at he
                exact ih (i + 1) (sw_step W T) σ5 (by omega) (by omega) (sw_step_wf hwW) ((sw_step_k (by omega) (by omega)).trans hW0) hM5 hf5 he
              · rw [if_pos c4]
                rw [if_neg (fun q => c4 q.2)] at hK
                exact stop _ _ σ5 (by omega) (by omega) (by omega) (by omega) (by omega) hK
          · rw [if_pos c2, if_pos (by omega)]
            rw [if_neg (fun q => c2 q.2)] at hK
            exact stop _ _ σ5 (by omega) (by omega) (by omega) (by omega) (by omega) hK
      rw [g7]
      by_cases z : 0 ≤ (rs_best W T (rs_c2 W T)).1
      · rw [if_neg (by omega)]
        have ed : Int.tdiv (rs_best W T (rs_c2 W T)).1 10 = (rs_best W T (rs_c2 W T)).1 / 10 := Int.tdiv_eq_ediv_of_nonneg z
        have em : Int.tmod (rs_best W T (rs_c2 W T)).1 10 = (rs_best W T (rs_c2 W T)).1 % 10 := Int.tmod_eq_emod_of_nonneg z
        rw [ed, em, rx_w_of (by omega) (by omega)]
        refine n_swap hM4 (by omega) (by omega) (by omega) (fun σ5 hM5 hf5 hi5 => ?_)
        have es : sw_step W T = ld_sw W ((rs_best W T (rs_c2 W T)).1 / 10) ((rs_best W T (rs_c2 W T)).1 % 10) := if_pos z
        rw [← es] at hM5
        refine f48 σ5 hM5 (fun c i hk => ?_) (by rw [hf5 125 (by decide)]; exact g7) (by rw [hf5 125 (by decide)]; exact g8)
        by_cases e : c = 126
        · subst e
          rw [hi5 i (by unfold fs_k at hk; omega)]
          exact hf44 126 i hk
        · rw [hf5 c e]
          exact hf44 c i hk
      · rw [if_pos (by omega)]
        have es : sw_step W T = W := if_neg z
        exact f48 σ4 (by rw [es]; exact hM4) hf44 g7 g8
  exact key n.toNat 0 W0 σ (by omega) (by omega) hw rfl hM (fun _ _ _ => rfl) rfl
end SW3
