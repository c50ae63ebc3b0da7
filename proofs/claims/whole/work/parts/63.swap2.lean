section SW2
variable {L d : Nat} {σ V T : rx_St} {S : Int → Int} {Q : Int → Int → rx_St → Prop} {K : Int → rx_St → Prop} {KV : rx_St → Prop} {C : Int → Int → Int}
theorem n_maySwap (hM : ld_M V (σ 126)) (hw : iv_Wf V) (hT : tx_M T (V 0 12) (σ 126)) (hTw : tx_Wf T (V 0 12)) {a b : Int} (h1 : ∀ σ', sw_may T V a b = true → (∀ c, c ≠ 148 → c ≠ 149 → σ' c = σ c) → K 1 σ') (h0 : ∀ σ', sw_may T V a b = false → (∀ c, c ≠ 148 → c ≠ 149 → σ' c = σ c) → K 0 σ') : rx_CI L (d + 2) mX11_maySwap [.inr 125, .inl a, .inl b] σ K := by
  have ht := wf_t hw
  have hb := rs_law_b (T := T) (n := V 0 12) (key := 2) ht.1
  refine bX11_maySwap L (d + 1) a b σ K ?_
  refine n_counts hM hw hT hTw ?_
  have hf : ∀ c, c ≠ 148 → c ≠ 149 → (rx_up (rx_up σ 149 0 a) 149 1 b) c = σ c := fun c _ c2 => by rw [up_c c2, up_c c2]
  by_cases c : rs_law T (V 0 12) 2 < 0
  · rw [if_pos c]
    exact h1 _ (decide_eq_true (Or.inl c)) hf
  · rw [if_neg c]
    have e126 : (rx_up (rx_up σ 149 0 a) 149 1 b) 126 = σ 126 := hf 126 (by decide) (by decide)
    refine n_worksOut (V := V) (T := T) (f := a) (g := b) (u := 0) (by rw [e126]; exact hM) (by rw [e126]; exact hT) ht.2 hTw ⟨by omega, hb.2⟩ (by rw [up_i (by decide), up_s]) up_s (fun q => ?_) (fun σ2 hf2 => ?_)
    · have := rs_law_k (T := T) (n := V 0 12) (key := 2) (by omega)
      omega
    · have hf3 : ∀ c, c ≠ 148 → c ≠ 149 → σ2 c = σ c := fun c c1 c2 => by rw [hf2 c c1]; exact hf c c1 c2
      by_cases z : rs_ans T (rs_law T (V 0 12) 2) a b 0 = 0
      · rw [if_pos z]
        exact h0 σ2 (decide_eq_false (fun q => q.elim c (fun q => q z))) hf3
      · rw [if_neg z]
        exact h1 σ2 (decide_eq_true (Or.inr z)) hf3
theorem n_costBehind (hM : ld_M V (σ 126)) (hw : iv_Wf V) (hC : rk_M C (V 0 6) σ) (hCb : ∀ r s, 0 ≤ C r s ∧ C r s ≤ 999) {a b : Int} (ha : 0 ≤ a ∧ a < V 0 0) (hb : 0 ≤ b ∧ b < V 0 0) (hab : a ≠ b) (h : ∀ σ', ld_M V (σ' 126) → (∀ c, c ≠ 126 → σ' c = σ c) → (∀ i, ¬ (4 ≤ i ∧ i < 28) → σ' 126 i = σ 126 i) → K (sw_t V C a b) σ') : rx_CI L (d + 6) mX11_costBehind [.inr 125, .inl a, .inl b] σ K := by
  have hn := wf_n hw
  refine bX11_costBehind L (d + 5) a b σ K ?_
  refine n_swap hM (by omega) (by omega) hab (fun σ1 hM1 hf1 hi1 => ?_)
  refine n_straight1 hM1 (wf_sw hw ha hb) (C := C) ?_ hCb ((ld_sw V a b) 5) ?_
  · rw [sw_k (by omega) (by omega)]
    intro r s r0 r1 s0 s1 rs
    rw [hf1 130 (by decide)]
    exact hC r s r0 r1 s0 s1 rs
  · refine n_swap hM1 (by omega) (by omega) hab (fun σ2 hM2 hf2 hi2 => ?_)
    rw [sw_sw hab] at hM2
    exact h σ2 hM2 (fun c hc => by rw [hf2 c hc, hf1 c hc]) (fun i hi => by rw [hi2 i hi, hi1 i hi])
/-- what the model's search leaves as it was -/
def fs_k (c : Nat) (i : Int) : Prop := c ≠ 129 ∧ c ≠ 130 ∧ c ≠ 148 ∧ c ≠ 149 ∧ ¬ (c = 125 ∧ (i = 7 ∨ i = 8)) ∧ ¬ (c = 126 ∧ 4 ≤ i ∧ i < 28)
theorem n_findSwap (hM : ld_M V (σ 126)) (hw : iv_Wf V) (hT : tx_M T (V 0 12) (σ 126)) (hTw : tx_Wf T (V 0 12))
    (h : ∀ σ', ld_M V (σ' 126) → (∀ c i, fs_k c i → σ' c i = σ c i) → σ' 125 7 = (rs_best V T (rs_c2 V T)).1 → σ' 125 8 = (rs_best V T (rs_c2 V T)).2 → KV σ') : rx_CV L (d + 7) mX11_findSwap [.inr 125] σ KV := by
  have hn := wf_n hw
  have ht := wf_t hw
  have hCb : ∀ r s, 0 ≤ rs_c2 V T r s ∧ rs_c2 V T r s ≤ 999 := fun r s => rs_c2_b r s
  refine bX11_findSwap L (d + 6) σ KV ?_
  refine n_findPairs hM hw hT hTw (fun σ1 hC1 hf1 => ?_)
  have e126 : (rx_up σ1 125 7 (-1)) 126 = σ 126 := by rw [up_c (by decide), hf1 126 (by decide) (by decide) (by decide) (by decide)]
  refine n_straight1 (V := V) (C := rs_c2 V T) (by rw [e126]; exact hM) hw (fun r s r0 r1 s0 s1 rs => by rw [up_c (by decide)]; exact hC1 r s r0 r1 s0 s1 rs) hCb (V 5) ?_
  -- what holds in the loops
  have tx : ∀ σ2 : rx_St, (∀ c i, fs_k c i → σ2 c i = σ c i) → tx_M T (V 0 12) (σ2 126) := by
    intro σ2 hf t t0 t1
    obtain ⟨a1, a2, a3⟩ := hT t t0 t1
    rw [hf 126 _ (by unfold fs_k; omega), hf 126 _ (by unfold fs_k; omega)]
    exact ⟨a1, a2, fun k k0 k1 => by rw [hf 126 _ (by unfold fs_k; omega)]; exact a3 k k0 k1⟩
  have outer : ∀ (k : Nat) (a : Int) (st : Int × Int) (q2 q3 : Option rx_V) (σ1 : rx_St), 0 ≤ a → a + k = V 0 0 → sw_ok (V 0 0) st → ld_M V (σ1 126) → rk_M (rs_c2 V T) (V 0 6) σ1 → (∀ c i, fs_k c i → σ1 c i = σ c i) → σ1 125 7 = st.1 → σ1 125 8 = st.2 → sw_out V T (rs_c2 V T) k a st = rs_best V T (rs_c2 V T) → rx_Go L (d + 7) mX11_findSwap 21 [some (.inr 125), some (.inl a), q2, q3] [] σ1 (rx_PV KV) := by
    intro k
    induction k with
    | zero =>
      intro a st q2 q3 σ1 a0 ha hok hM1 hC1 hf h7 h8 he
      refine bX11_findSwap_21 L (d + 6) a q2 q3 σ1 KV ?_
      rw [ld_Mn hM1, if_pos (by omega)]
      have he : st = rs_best V T (rs_c2 V T) := he
      subst he
      exact h σ1 hM1 hf h7 h8
    | succ k ih =>
      intro a st q2 q3 σ1 a0 ha hok hM1 hC1 hf h7 h8 he
      refine bX11_findSwap_21 L (d + 6) a q2 q3 σ1 KV ?_
      rw [ld_Mn hM1, if_neg (by omega), rx_w_of (by omega) (by omega)]
      have he : sw_out V T (rs_c2 V T) k (a + 1) (sw_in V T (rs_c2 V T) k a (a + 1) st) = rs_best V T (rs_c2 V T) := he
      have inner : ∀ (j : Nat) (b : Int) (st : Int × Int) (q3 : Option rx_V) (σ1 : rx_St), a < b → b + j = V 0 0 → sw_ok (V 0 0) st → ld_M V (σ1 126) → rk_M (rs_c2 V T) (V 0 6) σ1 → (∀ c i, fs_k c i → σ1 c i = σ c i) → σ1 125 7 = st.1 → σ1 125 8 = st.2 → sw_out V T (rs_c2 V T) k (a + 1) (sw_in V T (rs_c2 V T) j a b st) = rs_best V T (rs_c2 V T) → rx_Go L (d + 7) mX11_findSwap 35 [some (.inr 125), some (.inl a), some (.inl b), q3] [] σ1 (rx_PV KV) := by
        intro j
        induction j with
        | zero =>
          intro b st q3 σ1 hab hb9 hok hM1 hC1 hf h7 h8 he
          refine bX11_findSwap_35 L (d + 6) a b q3 σ1 KV ?_
          rw [ld_Mn hM1, if_pos (by omega), rx_w_of (by omega) (by omega)]
          exact ih (a + 1) st _ _ σ1 (by omega) (by omega) hok hM1 hC1 hf h7 h8 he
        | succ j ihj =>
          intro b st q3 σ1 hab hb9 hok hM1 hC1 hf h7 h8 he
          have he : sw_out V T (rs_c2 V T) k (a + 1) (sw_in V T (rs_c2 V T) j a (b + 1) (if sw_may T V a b = true ∧ sw_t V (rs_c2 V T) a b < st.2 then (10 * a + b, sw_t V (rs_c2 V T) a b) else st)) = rs_best V T (rs_c2 V T) := he
          have hok2 := sw_ok1 (T := T) (C := rs_c2 V T) hw hCb a0 hab (by omega) hok
          have f68 : ∀ (v : Int) (σ2 : rx_St), (sw_may T V a b = true ∧ v = sw_t V (rs_c2 V T) a b) ∨ (sw_may T V a b = false ∧ v = st.2) → ld_M V (σ2 126) → rk_M (rs_c2 V T) (V 0 6) σ2 → (∀ c i, fs_k c i → σ2 c i = σ c i) → σ2 125 7 = st.1 → σ2 125 8 = st.2 → rx_Go L (d + 7) mX11_findSwap 68 [some (.inr 125), some (.inl a), some (.inl b), some (.inl v)] [] σ2 (rx_PV KV) := by
            intro v σ2 hv hM2 hC2 hf2 g7 g8
            have f113 : ∀ (st2 : Int × Int) (σ3 : rx_St), (if sw_may T V a b = true ∧ sw_t V (rs_c2 V T) a b < st.2 then (10 * a + b, sw_t V (rs_c2 V T) a b) else st) = st2 → (∀ c, c ≠ 125 → σ3 c = σ2 c) → (∀ i, i ≠ 7 → i ≠ 8 → σ3 125 i = σ2 125 i) → σ3 125 7 = st2.1 → σ3 125 8 = st2.2 → rx_Go L (d + 7) mX11_findSwap 113 [some (.inr 125), some (.inl a), some (.inl b), some (.inl v)] [] σ3 (rx_PV KV) := by
              rintro st2 σ3 rfl c1 c2 c3 c4
              refine bX11_findSwap_113 L (d + 6) a b _ σ3 KV ?_
              rw [rx_w_of (by omega) (by omega)]
              refine ihj (b + 1) _ _ σ3 (by omega) (by omega) hok2 (by rw [c1 126 (by decide)]; exact hM2) (fun r s r0 r1 s0 s1 rs => by rw [c1 130 (by decide)]; exact hC2 r s r0 r1 s0 s1 rs) (fun c i hk => ?_) c3 c4 he
              by_cases e : c = 125
              · subst e
                rw [c2 i (by unfold fs_k at hk; omega) (by unfold fs_k at hk; omega)]
                exact hf2 125 i hk
              · rw [c1 c e]
                exact hf2 c i hk
            refine bX11_findSwap_68 L (d + 6) a b v σ2 KV ?_
            rw [g8]
            by_cases c : st.2 ≤ v
            · rw [if_pos c]
              refine bX11_findSwap_93 L (d + 6) a b v _ KV ?_
              rw [up_i (by decide), g8, if_pos c]
              refine f113 st _ ?_ (fun c hc => by rw [up_c hc, up_c hc]) (fun i h1 h2 => by rw [up_i h2, up_i h1]) (by rw [up_i (by decide), up_s]; exact g7) up_s
              rw [if_neg]
              rcases hv with ⟨_, rfl⟩ | ⟨hm, _⟩
              · omega
              · rw [hm]
                intro q
                cases q.1
            · rw [if_neg c]
              refine bX11_findSwap_93 L (d + 6) a b v _ KV ?_
              rw [up_i (by decide), g8, if_neg c, rx_w_of (x := 10 * a) (by omega) (by omega), rx_w_of (by omega) (by omega)]
              have hv2 : sw_may T V a b = true ∧ v = sw_t V (rs_c2 V T) a b := by
                rcases hv with g | ⟨_, rfl⟩
                · exact g
                · omega
              refine f113 (10 * a + b, sw_t V (rs_c2 V T) a b) _ (by rw [if_pos ⟨hv2.1, by rw [← hv2.2]; omega⟩]) (fun c hc => by rw [up_c hc, up_c hc]) (fun i h1 h2 => by rw [up_i h2, up_i h1]) (by rw [up_i (by decide), up_s]) (by rw [up_s]; exact hv2.2)
          refine bX11_findSwap_35 L (d + 6) a b q3 σ1 KV ?_
          rw [ld_Mn hM1, if_neg (by omega)]
          have hfm : ∀ σ2 : rx_St, (∀ c, c ≠ 148 → c ≠ 149 → σ2 c = σ1 c) → (∀ c i, fs_k c i → σ2 c i = σ c i) := fun σ2 g c i hk => by
            rw [g c (by unfold fs_k at hk; omega) (by unfold fs_k at hk; omega)]
            exact hf c i hk
          refine n_maySwap hM1 hw (tx σ1 hf) hTw (fun σ2 hmay hf2 => ?_) (fun σ2 hmay hf2 => ?_)
          · rw [if_neg (by decide)]
            refine n_costBehind (V := V) (C := rs_c2 V T) (by rw [hf2 126 (by decide) (by decide)]; exact hM1) hw (fun r s r0 r1 s0 s1 rs => by rw [hf2 130 (by decide) (by decide)]; exact hC1 r s r0 r1 s0 s1 rs) hCb ⟨a0, by omega⟩ ⟨by omega, by omega⟩ (by omega) (fun σ3 hM3 hf3 hi3 => ?_)
            refine f68 _ σ3 (Or.inl ⟨hmay, rfl⟩) hM3 (fun r s r0 r1 s0 s1 rs => by rw [hf3 130 (by decide), hf2 130 (by decide) (by decide)]; exact hC1 r s r0 r1 s0 s1 rs) (fun c i hk => ?_) (by rw [hf3 125 (by decide), hf2 125 (by decide) (by decide)]; exact h7) (by rw [hf3 125 (by decide), hf2 125 (by decide) (by decide)]; exact h8)
            by_cases e : c = 126
            · subst e
              rw [hi3 i (by unfold fs_k at hk; omega)]
              exact hfm σ2 hf2 126 i hk
            · rw [hf3 c e]
              exact hfm σ2 hf2 c i hk
          · rw [if_pos rfl]
            have e8 : σ2 125 8 = st.2 := by rw [hf2 125 (by decide) (by decide)]; exact h8
            rw [e8]
            exact f68 _ σ2 (Or.inr ⟨hmay, rfl⟩) (by rw [hf2 126 (by decide) (by decide)]; exact hM1) (fun r s r0 r1 s0 s1 rs => by rw [hf2 130 (by decide) (by decide)]; exact hC1 r s r0 r1 s0 s1 rs) (hfm σ2 hf2) (by rw [hf2 125 (by decide) (by decide)]; exact h7) e8
      exact inner k (a + 1) st _ σ1 (by omega) (by omega) hok hM1 hC1 hf h7 h8 he
  refine outer (V 0 0).toNat 0 (-1, rs_tot (V 5) V 0 (rs_c2 V T)) none none _ (by omega) (by omega) ⟨Or.inl rfl, rs_tot_b hw hCb⟩ ?_ ?_ (fun c i hk => ?_) ?_ up_s rfl
  · rw [up_c (by decide), e126]
    exact hM
  · intro r s r0 r1 s0 s1 rs
    rw [up_c (by decide), up_c (by decide)]
    exact hC1 r s r0 r1 s0 s1 rs
  · unfold fs_k at hk
    rw [up_n (by omega), up_n (by omega), hf1 c (by omega) (by omega) (by omega) (by omega)]
  · rw [up_i (by decide), up_s]
theorem o_would {a b : Int} (h : iv_A S V T σ) (hQ : ∀ v σ', Inv S σ' → Q v v σ') :
    rx_CI L (d + 7) mX10_would [.inr 0, .inl a, .inl b] σ (fun v1 σ1 => rx_CI L (d + 7) mX11_would [.inr 125, .inl a, .inl b] σ1 (fun v2 σ2 => Q v1 v2 σ2)) := by
  have hw := h.1
  have hC := h.2.1
  have hM := h.2.2.1
  have hn := wf_n hw
  obtain ⟨b1, b2, b3, b4⟩ := h.2.2.2.2.1
  have hCb : ∀ r s, 0 ≤ rs_c2 V T r s ∧ rs_c2 V T r s ≤ 999 := fun r s => rs_c2_b r s
  have hbad : ¬ ((0 ≤ a ∧ a < V 0 0) ∧ (0 ≤ b ∧ b < V 0 0) ∧ a ≠ b) → rx_CI L (d + 7) mX11_would [.inr 125, .inl a, .inl b] σ (fun v2 σ2 => Q (-1000000001) v2 σ2) := by
    intro c
    refine bX11_would L (d + 6) a b σ _ ?_
    refine n_isPost hM hw (fun c1 => ?_) (fun c1 => ?_)
    · rw [if_neg (by decide)]
      refine n_isPost hM hw (fun c2 => ?_) (fun c2 => ?_)
      · rw [if_neg (by decide), if_neg (fun q => c ⟨c1, c2, q⟩)]
        exact o_same h hQ _
      · rw [if_pos rfl]
        exact o_same h hQ _
    · rw [if_pos rfl]
      exact o_same h hQ _
  refine bX10_would L (d + 6) a b σ _ ?_
  refine c_isPost rfl hC (fun c1 => ?_) (fun c1 => ?_)
  · rw [if_neg (by decide)]
    refine c_isPost rfl hC (fun c2 => ?_) (fun c2 => ?_)
    · rw [if_neg (by decide)]
      by_cases c3 : a = b
      · rw [if_neg (fun q => q c3)]
        exact hbad (fun q => q.2.2 c3)
      · rw [if_pos c3]
        refine c_reckon rfl hC hw b1 b2 (fun σ1 hC1 hf1 => ?_)
        have hV1 : ld_C 1 V σ1 := ld_Cfr hC (fun c h1 h2 => hf1 c (by omega) (by omega) (by omega))
        refine c_takeFrom rfl rfl (by decide) hV1 (fun σ2 W hW2 hW hf2 => ?_)
        refine c_swapPosts rfl hW2 (by omega) (by omega) c3 (fun σ3 hW3 hf3 => ?_)
        have hwW := wf_congr hw hW
        have eW : W 0 0 = V 0 0 := hW 0 0 (by unfold ld_w; omega)
        have eW6 : W 0 6 = V 0 6 := hW 0 6 (by unfold ld_w; omega)
        have hwS := wf_sw hwW (a := a) (b := b) (by omega) (by omega)
        have hC3 : rk_C (rs_c2 V T) (V 0 6) σ3 := fun r s r0 r1 s0 s1 rs => by
          have := wf_m hw
          rw [hf3 (60 + r.toNat) (by omega) (by omega), hf2 (60 + r.toNat) (by omega)]
          exact hC1 r s r0 r1 s0 s1 rs
        refine c_sum0 rfl hW3 hwS (C := rs_c2 V T) (by rw [sw_k (by omega) (by omega), eW6]; exact hC3) hCb ?_
        have hV3 : ld_C 1 V σ3 := ld_Cfr hV1 (fun c h1 h2 => by rw [hf3 c (by omega) (by omega), hf2 c (by omega)])
        refine c_sum0 rfl hV3 hw hC3 hCb ?_
        have t1 := rs_tot_b (P := (ld_sw W a b) 5) (w := 0) hwS hCb
        have t2 := rs_tot_b (P := V 5) (w := 0) hw hCb
        -- the trial's land tells the same
        have eT : rs_tot ((ld_sw W a b) 5) (ld_sw W a b) 0 (rs_c2 V T) = sw_t V (rs_c2 V T) a b := by
          unfold sw_t rs_tot
          rw [sw_k (k := 0) (by omega) (by omega), sw_k (k := 0) (by omega) (by omega), eW6]
          have hm := wf_m hw
          refine rs_ps_congr (fun r s r0 rs s1 => ?_)
          have hwr : ∀ k x, 6 ≤ k → k ≤ 10 → 0 ≤ x → x < V 0 6 → W k x = V k x := fun k x k0 k1 x0 x1 => hW k x (by unfold ld_w; omega)
          have hwp : ∀ k x, 1 ≤ k → k ≤ 5 → 0 ≤ x → x < V 0 0 → W k x = V k x := fun k x k0 k1 x0 x1 => hW k x (by unfold ld_w; omega)
          have qr := wf_r hw r0 (show r < V 0 6 by omega)
          have qs := wf_r hw (show 0 ≤ s by omega) s1
          have hsw : ∀ k p, k = 1 ∨ k = 2 → 0 ≤ p → p < V 0 0 → ld_sw W a b k p = ld_sw V a b k p := by
            intro k p hk p0 p1
            unfold ld_sw
            rw [if_pos hk, if_pos hk, hwp k a (by omega) (by omega) (by omega) (by omega), hwp k b (by omega) (by omega) (by omega) (by omega), hwp k p (by omega) (by omega) p0 p1]
          have em : rs_meet ((ld_sw W a b) 5) (ld_sw W a b) 0 r s = rs_meet ((ld_sw V a b) 5) (ld_sw V a b) 0 r s := by
            unfold rs_meet
            rw [if_pos rfl, if_pos rfl]
            unfold rs_sh rs_mS rs_sd
            rw [sw_k (V := W) (k := 7) (by omega) (by omega), sw_k (V := W) (k := 8) (by omega) (by omega), sw_k (V := V) (k := 7) (by omega) (by omega), sw_k (V := V) (k := 8) (by omega) (by omega)]
            rw [hwr 7 r (by omega) (by omega) r0 (by omega), hwr 8 r (by omega) (by omega) r0 (by omega), hwr 7 s (by omega) (by omega) (by omega) s1, hwr 8 s (by omega) (by omega) (by omega) s1]
            rw [hsw 1 (V 7 r) (by omega) (by omega) (by omega), hsw 1 (V 8 r) (by omega) (by omega) (by omega), hsw 1 (V 7 s) (by omega) (by omega) (by omega), hsw 1 (V 8 s) (by omega) (by omega) (by omega), hsw 2 (V 7 r) (by omega) (by omega) (by omega), hsw 2 (V 8 r) (by omega) (by omega) (by omega), hsw 2 (V 7 s) (by omega) (by omega) (by omega), hsw 2 (V 8 s) (by omega) (by omega) (by omega)]
          rw [em]
        rw [eT] at t1 ⊢
        have hc3 : ∀ c, c ≠ 57 → c ≠ 58 → (c < 60 ∨ 77 < c) → (c < 23 ∨ 33 < c) → σ3 c = σ c := fun c c1 c2 c4 c5 => by rw [hf3 c (by omega) (by omega), hf2 c (by omega), hf1 c c1 c2 c4]
        have e126 : σ3 126 = σ 126 := hc3 126 (by decide) (by decide) (by omega) (by omega)
        have hM3 : ld_M V (σ3 126) := by rw [e126]; exact hM
        refine bX11_would L (d + 6) a b σ3 _ ?_
        refine n_isPost hM3 hw (fun _ => ?_) (fun c => absurd c1 c)
        rw [if_neg (by decide)]
        refine n_isPost hM3 hw (fun _ => ?_) (fun c => absurd c2 c)
        rw [if_neg (by decide), if_pos c3]
        refine n_findPairs hM3 hw (by rw [e126]; exact b3) b2 (fun σ4 hC4 hf4 => ?_)
        have hM4 : ld_M V (σ4 126) := by rw [hf4 126 (by decide) (by decide) (by decide) (by decide)]; exact hM3
        refine n_costBehind hM4 hw hC4 hCb c1 c2 c3 (fun σ5 hM5 hf5 hi5 => ?_)
        refine n_straight1 hM5 hw (C := rs_c2 V T) (fun r s r0 r1 s0 s1 rs => by rw [hf5 130 (by decide)]; exact hC4 r s r0 r1 s0 s1 rs) hCb (V 5) ?_
        have hf45 : ∀ c i, fr_v c i → σ5 c i = σ c i := by
          intro c i hk
          unfold fr_v fr_k at hk
          by_cases e : c = 126
          · subst e
            rw [hi5 i (by omega), hf4 126 (by decide) (by decide) (by decide) (by decide), e126]
          · rw [hf5 c e, hf4 c (by omega) (by omega) (by omega) (by omega), hc3 c (by omega) (by omega) (by omega) (by omega)]
        refine hQ _ _ ⟨V, T, iv_land h hf45 hw (ld_Cfr hC (fun c h1 h2 => ?_)) hM5 rfl⟩
        rw [hf5 c (by omega), hf4 c (by omega) (by omega) (by omega) (by omega), hc3 c (by omega) (by omega) (by omega) (by omega)]
    · rw [if_pos rfl]
      exact hbad (fun q => c2 q.2.1)
  · rw [if_pos rfl]
    exact hbad (fun q => c1 q.1)
theorem o_best {k : Int} (h : iv_A S V T σ) (hQ : ∀ v σ', Inv S σ' → Q v v σ') :
    rx_CI L (d + 8) mX10_best [.inr 0, .inl k] σ (fun v1 σ1 => rx_CI L (d + 8) mX11_best [.inr 125, .inl k] σ1 (fun v2 σ2 => Q v1 v2 σ2)) := by
  have hw := h.1
  have hC := h.2.1
  have hM := h.2.2.1
  have hn := wf_n hw
  obtain ⟨b1, b2, b3, b4⟩ := h.2.2.2.2.1
  have hCb : ∀ r s, 0 ≤ rs_c2 V T r s ∧ rs_c2 V T r s ≤ 999 := fun r s => rs_c2_b r s
  have hok := rs_best_ok (T := T) (C := rs_c2 V T) hw hCb
  have hmod : ∀ (v : Int) (σ1 : rx_St), (∀ c, c ≠ 57 → c ≠ 58 → (c < 60 ∨ 78 < c) → σ1 c = σ c) → (k = 0 ∨ k = 1) → v = (if 0 ≤ (rs_best V T (rs_c2 V T)).1 then (if k = 0 then (rs_best V T (rs_c2 V T)).1 else (rs_best V T (rs_c2 V T)).2) else -1000000005) → rx_CI L (d + 8) mX11_best [.inr 125, .inl k] σ1 (fun v2 σ2 => Q v v2 σ2) := by
    rintro v σ1 hf hk rfl
    have e126 : σ1 126 = σ 126 := hf 126 (by decide) (by decide) (by omega)
    refine bX11_best L (d + 7) k σ1 _ ?_
    refine m_in (fun _ => ?_) (fun c => absurd ⟨by omega, by omega⟩ c)
    rw [if_pos (by decide)]
    refine n_findSwap (V := V) (T := T) (by rw [e126]; exact hM) hw (by rw [e126]; exact b3) b2 (fun σ2 hM2 hf2 g7 g8 => ?_)
    have fin : ∀ v, Q v v σ2 := by
      intro v
      refine hQ _ _ ⟨V, T, iv_land h (fun c i hk => ?_) hw (ld_Cfr hC (fun c h1 h2 => funext fun i => ?_)) hM2 rfl⟩
      · unfold fr_v fr_k at hk
        rw [hf2 c i (by unfold fs_k; omega), hf c (by omega) (by omega) (by omega)]
      · rw [hf2 c i (by unfold fs_k; omega), hf c (by omega) (by omega) (by omega)]
    rw [g7, g8]
    by_cases c : 0 ≤ (rs_best V T (rs_c2 V T)).1
    · rw [if_pos c, if_pos c]
      by_cases c0 : k = 0
      · rw [if_neg (fun q => q c0), if_pos c0]
        exact fin _
      · rw [if_pos c0, if_neg c0]
        exact fin _
    · rw [if_neg c, if_neg c]
      exact fin _
  refine bX10_best L (d + 7) k σ _ ?_
  by_cases c0 : k = 0
  · rw [if_pos c0]
    refine c_reckon rfl hC hw b1 b2 (fun σ1 hC1 hf1 => ?_)
    refine c_search rfl (ld_Cfr hC (fun c h1 h2 => hf1 c (by omega) (by omega) (by omega))) hw (T := T) (fun k hk => by rw [hf1 (39 + k) (by omega) (by omega) (by omega)]; exact b1 k hk) b2 hC1 hCb (fun σ2 hf2 g2 g01 => ?_)
    have hf12 : ∀ c, c ≠ 57 → c ≠ 58 → (c < 60 ∨ 78 < c) → σ2 c = σ c := fun c c1 c2 c3 => by rw [hf2 c c1 (by omega), hf1 c c1 c2 (by omega)]
    by_cases z : 0 ≤ (rs_best V T (rs_c2 V T)).1
    · rw [if_pos z, if_pos (by decide)]
      refine bX9_pair L (d + 7) σ2 _ ?_
      obtain ⟨q0, q1⟩ := g01 z
      have hok1 := hok.1
      rw [q0, q1, rx_w_of (x := 10 * ((rs_best V T (rs_c2 V T)).1 / 10)) (by omega) (by omega), rx_w_of (by omega) (by omega)]
      exact hmod _ σ2 hf12 (Or.inl c0) (by rw [if_pos z, if_pos c0]; omega)
    · rw [if_neg z, if_neg (fun q => q rfl)]
      exact hmod _ σ2 hf12 (Or.inl c0) (by rw [if_neg z])
  rw [if_neg c0]
  by_cases c1 : k = 1
  · rw [if_pos c1]
    refine c_reckon rfl hC hw b1 b2 (fun σ1 hC1 hf1 => ?_)
    refine c_search rfl (ld_Cfr hC (fun c h1 h2 => hf1 c (by omega) (by omega) (by omega))) hw (T := T) (fun k hk => by rw [hf1 (39 + k) (by omega) (by omega) (by omega)]; exact b1 k hk) b2 hC1 hCb (fun σ2 hf2 g2 g01 => ?_)
    have hf12 : ∀ c, c ≠ 57 → c ≠ 58 → (c < 60 ∨ 78 < c) → σ2 c = σ c := fun c c1 c2 c3 => by rw [hf2 c c1 (by omega), hf1 c c1 c2 (by omega)]
    by_cases z : 0 ≤ (rs_best V T (rs_c2 V T)).1
    · rw [if_pos z, if_pos (by decide), g2]
      exact hmod _ σ2 hf12 (Or.inr c1) (by rw [if_pos z, if_neg c0])
    · rw [if_neg z, if_neg (fun q => q rfl)]
      exact hmod _ σ2 hf12 (Or.inr c1) (by rw [if_neg z])
  · rw [if_neg c1]
    refine bX11_best L (d + 7) k σ _ ?_
    refine m_in (fun c => absurd c (by omega)) (fun _ => ?_)
    rw [if_neg (by decide)]
    exact o_same h hQ _
end SW2
