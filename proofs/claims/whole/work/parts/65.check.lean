section CHK
variable {L d : Nat} {σ σ' V T : rx_St} {S : Int → Int} {Q : Int → Int → rx_St → Prop} {K : Int → rx_St → Prop} {KV : rx_St → Prop}
theorem iv_chk (h : iv_A S V T σ) (hf : ∀ c i, fr_k c i → ¬ (c = 0 ∧ i = 13) → ¬ (c = 125 ∧ i = 48) → c ≠ 126 → σ' c i = σ c i) (h126 : ∀ i, 0 ≤ i → i < 1498 → σ' 126 i = σ 126 i) (h0 : σ' 0 13 = 0) (h48 : σ' 125 48 = 0) : iv_A S V T σ' := by
  have hR := iv_R_of h
  obtain ⟨a1, a2, a3, a4, a5, -⟩ := h
  have hc : ∀ c, (1 ≤ c ∧ c ≤ 22) ∨ c = 36 ∨ (39 ≤ c ∧ c ≤ 56) ∨ (101 ≤ c ∧ c ≤ 124) ∨ c = 127 ∨ (142 ≤ c ∧ c ≤ 144) ∨ (150 ≤ c ∧ c ≤ 156) ∨ 158 ≤ c → σ' c = σ c := fun c hc => funext fun i => hf c i (by unfold fr_k; omega) (by omega) (by omega) (by omega)
  have e03 : σ' 0 3 = σ 0 3 := hf 0 3 (by unfold fr_k; omega) (by omega) (by omega) (by omega)
  have e1253 : σ' 125 3 = σ 125 3 := hf 125 3 (by unfold fr_k; omega) (by omega) (by omega) (by omega)
  refine ⟨a1, ld_Cfr a2 (fun c h1 h2 => hc c (by omega)), ld_Mcp a3 h126, ?_, ?_, iv_constfr hR.1 (fun c h9 => hc c (by omega)), iv_tapefr hR.2.1 ?_ ?_ (hc 36 (by omega)) (hc 142 (by omega)), ?_, iv_sheetfr hR.2.2.2.1 (fun c h9 => hc c (by omega)), iv_slotfr hR.2.2.2.2 (fun c h9 => hc c (by omega))⟩
  · unfold iv_img
    rw [e03, e1253, hc 127 (by omega)]
    refine ⟨a4.1, a4.2.1, fun g => ?_⟩
    obtain ⟨I, i1, i2, i3, i4⟩ := a4.2.2 g
    exact ⟨I, i1, ld_Cfr i2 (fun c h1 h2 => hc c (by omega)), i3, i4⟩
  · obtain ⟨b1, b2, b3, b4⟩ := a5
    refine ⟨fun k hk => ?_, b2, tx_Mcp (wf_t a1).2 b2 b3 h126, ?_⟩
    · rw [hc (39 + k) (by omega)]
      exact b1 k hk
    · rw [e03, hc 127 (by omega)]
      exact b4
  · exact hf 34 0 (by unfold fr_k; omega) (by omega) (by omega) (by omega)
  · exact hf 125 22 (by unfold fr_k; omega) (by omega) (by omega) (by omega)
  · unfold iv_wait
    rw [h0, h48]
    exact ⟨by omega, rfl, fun i i0 i1 => by omega⟩
theorem o_check {n : Int} (h : iv_A S V T σ) (hQ : ∀ v σ', Inv S σ' → Q v v σ') :
    rx_CI L (d + 9) mX10_check [.inr 0, .inl n] σ (fun v1 σ1 => rx_CI L (d + 9) mX11_check [.inr 125, .inl n] σ1 (fun v2 σ2 => Q v1 v2 σ2)) := by
  have hw := h.1
  have hC := h.2.1
  have hM := h.2.2.1
  obtain ⟨g1, g2, g3⟩ := h.2.2.2.1
  obtain ⟨b1, b2, b3, b4⟩ := h.2.2.2.2.1
  obtain ⟨w1, w2, w3⟩ := (iv_R_of h).2.2.1
  have fin : ∀ v, Q v v (rx_up (rx_up σ 0 13 0) 125 48 0) := by
    intro v
    refine hQ _ _ ⟨V, T, iv_chk h (fun c i _ h1 h2 _ => by rw [up_n h2, up_n h1]) (fun i _ _ => by rw [up_c (by decide), up_c (by decide)]) (by rw [up_c (by decide), up_s]) up_s⟩
  have hbad : ¬ (1 ≤ n ∧ n ≤ 30) → rx_CI L (d + 9) mX11_check [.inr 125, .inl n] (rx_up σ 0 13 0) (fun v2 σ2 => Q (-1000000001) v2 σ2) := by
    intro c
    refine bX11_check L (d + 8) n _ _ ?_
    refine m_in (fun c1 => absurd c1 c) (fun _ => ?_)
    rw [if_neg (by decide)]
    exact fin _
  refine bX10_check L (d + 8) n σ _ ?_
  by_cases c1 : n < 1
  · rw [if_pos c1]
    exact hbad (by omega)
  rw [if_neg c1]
  by_cases c2 : n ≤ 30
  · rw [if_pos c2, up_i (by decide)]
    by_cases c3 : σ 0 3 = 0
    · rw [if_neg (fun q => q c3)]
      refine bX11_check L (d + 8) n _ _ ?_
      refine m_in (fun _ => ?_) (fun c => absurd ⟨by omega, by omega⟩ c)
      rw [if_pos (by decide), up_i (by decide), up_c (by decide), g2, if_neg (fun q => q c3)]
      exact fin _
    · rw [if_pos c3]
      have k1 : σ 0 3 = 1 := g1.resolve_left c3
      obtain ⟨I, i1, i2, i3, i4⟩ := g3 k1
      have hTI : tx_Wf T (I 0 12) := fun t h0 h1 => b2 t h0 (by omega)
      refine c_checkSwapsTold (σ := rx_up σ 0 13 0) (T := T) (I := I) (d := d + 1) ⟨by omega, c2⟩ w1 (ld_Cne i2 (by omega) _ _) i1 (fun k hk => by rw [up_c (by omega)]; exact b1 k hk) hTI (fun W σ1 hW hf1 => ?_)
      have hf1' : ∀ c, c ≠ 57 → c ≠ 58 → (c < 60 ∨ 78 < c) → (c < 23 ∨ 33 < c) → c ≠ 0 → σ1 c = σ c := fun c d1 d2 d3 d4 d5 => by rw [hf1 c d1 d2 d3 d4, up_c d5]
      have eT : (rx_up σ 0 13 0) 101 = σ 101 := up_c (by decide)
      rw [eT]
      have e48 : σ1 125 48 = σ 0 13 := by rw [hf1' 125 (by decide) (by decide) (by omega) (by omega) (by decide)]; exact w2
      refine bX11_check L (d + 8) n σ1 _ ?_
      rw [e48]
      refine m_in (fun _ => ?_) (fun c => absurd ⟨by omega, by omega⟩ c)
      have e3 : (rx_up σ1 125 48 0) 125 3 = 1 := by rw [up_i (by decide), hf1' 125 (by decide) (by decide) (by omega) (by omega) (by decide), g2, k1]
      rw [if_pos (by decide), e3, if_pos (by decide)]
      refine n_copyAll (Or.inl rfl) (Or.inr (Or.inr rfl)) (by decide) (fun σ2 p2 q2 => ?_)
      refine n_copyAll (Or.inr (Or.inl rfl)) (Or.inl rfl) (by decide) (fun σ3 p3 q3 => ?_)
      have e126 : ∀ i, 0 ≤ i → i < 1498 → σ3 126 i = σ 127 i := by
        intro i i0 ii1
        rw [p3 i i0 ii1, q2 127 (by decide), up_c (by decide), hf1' 127 (by decide) (by decide) (by omega) (by omega) (by decide)]
      have e128 : ∀ i, 0 ≤ i → i < 1498 → σ3 128 i = σ 126 i := by
        intro i i0 ii1
        rw [q3 128 (by decide), p2 i i0 ii1, up_c (by decide), hf1' 126 (by decide) (by decide) (by omega) (by omega) (by decide)]
      have eW12 : W 0 12 = I 0 12 := hW 0 12 (by unfold ld_w; omega)
      have hx := b4 k1
      rw [ld_Mt i3] at hx
      have e158 : σ3 158 = σ 158 := by rw [q3 158 (by decide), q2 158 (by decide), up_c (by decide), hf1' 158 (by decide) (by decide) (by omega) (by omega) (by decide)]
      refine n_rightSwaps (W0 := W) (T := T) (w := σ 101) ⟨by omega, c2⟩ w1 (ld_Mcp (ld_Mcongr i3 hW) e126) (wf_congr i1 hW) (by rw [eW12]; exact tx_Mcp (wf_t i1).2 hTI hx e126) (by rw [eW12]; exact hTI) (fun i i0 ii1 => by rw [e158]; exact w3 i i0 ii1) (fun σ4 hf4 => ?_)
      refine n_copyAll (Or.inr (Or.inr rfl)) (Or.inl rfl) (by decide) (fun σ5 p5 q5 => ?_)
      have fin2 : ∀ v, Q v v σ5 := by
        intro v
        refine hQ _ _ ⟨V, T, iv_chk h (fun c i hk h1 h2 h3 => ?_) (fun i i0 ii1 => ?_) ?_ ?_⟩
        · unfold fr_k at hk
          rw [q5 c h3, hf4 c i (by unfold fs_k; omega), q3 c h3, q2 c (by omega), up_n h2, hf1 c (by omega) (by omega) (by omega) (by omega), up_n h1]
        · rw [p5 i i0 ii1, hf4 128 i (by unfold fs_k; omega), e128 i i0 ii1]
        · rw [q5 0 (by decide), hf4 0 13 (by unfold fs_k; omega), q3 0 (by decide), q2 0 (by decide), up_c (by decide), hf1 0 (by decide) (by decide) (by omega) (by omega), up_s]
        · rw [q5 125 (by decide), hf4 125 48 (by unfold fs_k; omega), q3 125 (by decide), q2 125 (by decide), up_s]
      have hb := ck_b (T := T) (told := σ 0 13) (w := σ 101) n.toNat 0 W
      rw [rx_w_of (x := 2 * n) (by omega) (by omega), rx_w_of (x := 1 + ck_go T (σ 0 13) (σ 101) n.toNat 0 W) (by omega) (by omega)]
      by_cases z : ck_go T (σ 0 13) (σ 101) n.toNat 0 W = 2 * n
      · have hz := hb.2.2 (by omega)
        rw [if_pos z, z]
        by_cases z2 : σ 0 13 ≤ 2 * n
        · have ez : 2 * n = σ 0 13 := by omega
          rw [if_pos z2, if_neg (fun q => q ez), if_neg (fun q => q rfl)]
          exact fin2 _
        · rw [if_neg z2, if_pos (by omega)]
          exact fin2 _
      · rw [if_neg z]
        by_cases z2 : ck_go T (σ 0 13) (σ 101) n.toNat 0 W = σ 0 13
        · rw [if_neg (fun q => q z2), if_pos z]
          exact fin2 _
        · rw [if_pos z2]
          exact fin2 _
  · rw [if_neg c2]
    exact hbad (by omega)
end CHK
