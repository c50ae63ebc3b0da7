section CALLS3
variable {L d : Nat} {σ V T : rx_St} {S : Int → Int} {Q : Int → Int → rx_St → Prop} {K : Int → rx_St → Prop} {KV : rx_St → Prop}
theorem c_roadRefusal {A : Nat} (hA : rx_isO 1 A = true) (hV : ld_C A V σ) (hw : iv_Wf V) {x y : Int}
    (hb : ¬ ((0 ≤ x ∧ x < V 0 0) ∧ (0 ≤ y ∧ y < V 0 0) ∧ x ≠ y) → K (-1000000001) σ) (hno : ((0 ≤ x ∧ x < V 0 0) ∧ (0 ≤ y ∧ y < V 0 0) ∧ x ≠ y) → rs_has V x y = true → K (-1000000002) σ)
    (hf : ((0 ≤ x ∧ x < V 0 0) ∧ (0 ≤ y ∧ y < V 0 0) ∧ x ≠ y) → rs_has V x y = false → V 0 6 = 18 → K (-1000000003) σ) (hk : ((0 ≤ x ∧ x < V 0 0) ∧ (0 ≤ y ∧ y < V 0 0) ∧ x ≠ y) → rs_has V x y = false → V 0 6 < 18 → K 0 σ) :
    rx_CI L (d + 1) mX1_roadRefusal [.inr A, .inl x, .inl y] σ K := by
  have e0 := ld_C0 hV
  have e : rs_has (fun k => σ (A + k)) x y = rs_has V x y := by
    unfold rs_has
    show rs_any (fun r => decide (σ (A + 7) r = rx_mn x y ∧ σ (A + 8) r = rx_mx x y)) 0 (σ A 6).toNat = _
    rw [e0, hV 7 (by omega), hV 8 (by omega)]
  refine s_roadRefusal hA (by rw [e0]; exact wf_m hw) ?_ ?_ ?_ ?_
  · rw [e0]; exact hb
  · rw [e, e0]; exact hno
  · rw [e, e0]; exact hf
  · rw [e, e0]; exact hk
theorem c_addRoad {A : Nat} (hA : rx_isO 1 A = true) (hV : ld_C A V σ) (hw : iv_Wf V) {k a b w : Int} (hm : V 0 6 < 18)
    (h : ∀ σ', ld_C A (ld_road V k a b w) σ' → (∀ c, c < A ∨ A + 10 < c → σ' c = σ c) → K (V 0 6) σ') : rx_CI L d mX1_addRoad [.inr A, .inl k, .inl a, .inl b, .inl w] σ K := by
  have e0 := ld_C0 hV
  have hm0 := wf_m hw
  refine bX1_addRoad L d A hA k a b w σ K ?_
  rw [e0, rx_w_of (by omega) (by omega)]
  refine ⟨by omega, h _ ?_ (fun c hc => ?_)⟩
  · exact ld_Cup (ld_Cup (ld_Cup (ld_Cup (ld_Cup (ld_Cup0 hV _ _) (k := 6) (by omega) _ _) (k := 7) (by omega) _ _) (k := 8) (by omega) _ _) (k := 9) (by omega) _ _) (k := 10) (by omega) _ _
  · rw [up_c (by omega), up_c (by omega), up_c (by omega), up_c (by omega), up_c (by omega), up_c (by omega)]
theorem n_isBetween (hM : ld_M V (σ 126)) (hw : iv_Wf V) {a b : Int} (hab : a ≠ b) (h1 : rs_has V a b = true → K 1 σ) (h0 : rs_has V a b = false → K 0 σ) : rx_CI L (d + 3) mX11_isBetween [.inr 125, .inl a, .inl b] σ K := by
  have hm := wf_m hw
  have em := ld_Mm hM
  refine bX11_isBetween L (d + 2) a b σ K ?_
  have key : ∀ (k : Nat) (r x : Int), 0 ≤ r → r + k = V 0 6 → (x = 0 ∨ x = 1) → (x = 1 ∨ rs_any (fun r => decide (V 7 r = rx_mn a b ∧ V 8 r = rx_mx a b)) r k = true → K 1 σ) → (x = 0 → rs_any (fun r => decide (V 7 r = rx_mn a b ∧ V 8 r = rx_mx a b)) r k = false → K 0 σ) → rx_Go L (d + 3) mX11_isBetween 5 [some (.inr 125), some (.inl a), some (.inl b), some (.inl x), some (.inl r)] [] σ (rx_PI K) := by
    intro k
    induction k with
    | zero =>
      intro r x r0 hr hx k1 k0
      refine bX11_isBetween_5 L (d + 2) a b x r σ K ?_
      rw [em, if_pos (by omega)]
      refine ⟨hx, ?_⟩
      rcases hx with rfl | rfl
      · exact k0 rfl rfl
      · exact k1 (Or.inl rfl)
    | succ k ih =>
      intro r x r0 hr hx k1 k0
      refine bX11_isBetween_5 L (d + 2) a b x r σ K ?_
      rw [em, if_neg (by omega), rx_w_of (by omega) (by omega)]
      have hrr := wf_r hw r0 (show r < V 0 6 by omega)
      unfold rs_any at k1 k0
      have hmm : (V 7 r = a ∨ V 8 r = a) ∧ (V 7 r = b ∨ V 8 r = b) ↔ (V 7 r = rx_mn a b ∧ V 8 r = rx_mx a b) := by
        unfold rx_mn rx_mx
        split <;> split <;> omega
      by_cases c : x = 0
      · rw [if_neg (fun q => q c)]
        refine n_isFrom hM (by omega) (fun g => ?_) (fun g => ?_)
        · rw [if_neg (by decide)]
          refine n_isFrom hM (by omega) (fun g2 => ?_) (fun g2 => ?_)
          · rw [if_neg (by decide)]
            refine ih (r + 1) 1 (by omega) (by omega) (Or.inr rfl) (fun _ => k1 (Or.inr ?_)) (fun q => by omega)
            rw [decide_eq_true (hmm.mp ⟨g, g2⟩), Bool.true_or]
          · rw [if_pos rfl]
            have e : decide (V 7 r = rx_mn a b ∧ V 8 r = rx_mx a b) = false := decide_eq_false (fun q => g2 (hmm.mpr q).2)
            rw [e, Bool.false_or] at k1 k0
            exact ih (r + 1) 0 (by omega) (by omega) (Or.inl rfl) (fun q => k1 (Or.inr (q.resolve_left (by omega)))) (fun _ => k0 c)
        · rw [if_pos rfl]
          have e : decide (V 7 r = rx_mn a b ∧ V 8 r = rx_mx a b) = false := decide_eq_false (fun q => g (hmm.mpr q).1)
          rw [e, Bool.false_or] at k1 k0
          exact ih (r + 1) 0 (by omega) (by omega) (Or.inl rfl) (fun q => k1 (Or.inr (q.resolve_left (by omega)))) (fun _ => k0 c)
      · rw [if_pos c]
        exact ih (r + 1) 1 (by omega) (by omega) (Or.inr rfl) (fun _ => k1 (Or.inl (by omega))) (fun q => by omega)
  exact key (V 0 6).toNat 0 0 (by omega) (by omega) (Or.inl rfl) (fun q => h1 (q.resolve_left (by omega))) (fun _ => h0)
theorem n_goes (hM : ld_M V (σ 126)) (hw : iv_Wf V) {k a b w : Int} (hm : V 0 6 < 18)
    (h : ∀ σ', ld_M (ld_road V k a b w) (σ' 126) → (∀ c, c ≠ 126 → σ' c = σ c) → (∀ i, 126 ≤ i → σ' 126 i = σ 126 i) → K (V 0 6) σ') : rx_CI L d mX11_goes [.inr 125, .inl k, .inl a, .inl b, .inl w] σ K := by
  have hm0 := wf_m hw
  have em := ld_Mm hM
  have fin : ∀ (x y : Int), x = rx_mn a b → y = rx_mx a b → K (V 0 6) (rx_up (rx_up (rx_up (rx_up (rx_up (rx_up σ 126 (36 + 5 * V 0 6) k) 126 (36 + 5 * V 0 6 + 1) x) 126 (36 + 5 * V 0 6 + 2) y) 126 (36 + 5 * V 0 6 + 3) w) 126 (36 + 5 * V 0 6 + 4) 0) 126 2 (V 0 6 + 1)) := by
    rintro x y rfl rfl
    refine h _ ?_ (fun c hc => ?_) (fun i hi => ?_)
    · have h1 := ld_Mup hM (k := 6) (i := V 0 6) (v := k) (j := 36 + 5 * V 0 6) (by unfold ld_ok; omega) (by unfold ld_i; simp)
      have h2 := ld_Mup h1 (k := 7) (i := V 0 6) (v := rx_mn a b) (j := 36 + 5 * V 0 6 + 1) (by unfold ld_ok; omega) (by unfold ld_i; simp)
      have h3 := ld_Mup h2 (k := 8) (i := V 0 6) (v := rx_mx a b) (j := 36 + 5 * V 0 6 + 2) (by unfold ld_ok; omega) (by unfold ld_i; simp)
      have h4 := ld_Mup h3 (k := 9) (i := V 0 6) (v := w) (j := 36 + 5 * V 0 6 + 3) (by unfold ld_ok; omega) (by unfold ld_i; simp)
      have h5 := ld_Mup h4 (k := 10) (i := V 0 6) (v := 0) (j := 36 + 5 * V 0 6 + 4) (by unfold ld_ok; omega) (by unfold ld_i; simp)
      have h6 := ld_Mup h5 (k := 0) (i := 6) (v := V 0 6 + 1) (j := 2) (by unfold ld_ok; omega) (by unfold ld_i; simp)
      have e : rx_up (rx_up (rx_up (rx_up (rx_up (rx_up V 6 (V 0 6) k) 7 (V 0 6) (rx_mn a b)) 8 (V 0 6) (rx_mx a b)) 9 (V 0 6) w) 10 (V 0 6) 0) 0 6 (V 0 6 + 1) = ld_road V k a b w := by
        funext j i
        unfold ld_road
        by_cases c : j = 0 ∧ i = 6
        · rw [up_x c, up_n (by omega), up_n (by omega), up_n (by omega), up_n (by omega), up_n (by omega), up_x c]
        · rw [up_n c]
          simp only [rx_up]
          rw [if_neg c]
      rw [e] at h6
      exact h6
    · rw [up_c hc, up_c hc, up_c hc, up_c hc, up_c hc, up_c hc]
    · rw [up_i (by omega), up_i (by omega), up_i (by omega), up_i (by omega), up_i (by omega), up_i (by omega)]
  refine bX11_goes L d k a b w σ K ?_
  rw [em]
  simp (disch := omega) only [rx_w_of, up_s, up_i, em]
  refine ⟨by omega, ?_⟩
  by_cases c : b ≤ a
  · rw [if_pos c]
    refine ⟨by omega, by omega, by omega, by omega, ?_⟩
    rw [show V 0 6 + 1 - 1 = V 0 6 by omega]
    exact fin b a (by unfold rx_mn; split <;> omega) (by unfold rx_mx; split <;> omega)
  · rw [if_neg c]
    refine ⟨by omega, by omega, by omega, by omega, ?_⟩
    rw [show V 0 6 + 1 - 1 = V 0 6 by omega]
    exact fin a b (by unfold rx_mn; split <;> omega) (by unfold rx_mx; split <;> omega)
theorem o_road {k e w : Int} (he : rx_r e) (h : iv_A S V T σ) (hQ : ∀ v σ', Inv S σ' → Q v v σ') :
    rx_CI L (d + 4) mX10_road [.inr 0, .inl k, .inl e, .inl w] σ (fun v1 σ1 => rx_CI L (d + 4) mX11_road [.inr 125, .inl k, .inl e, .inl w] σ1 (fun v2 σ2 => Q v1 v2 σ2)) := by
  have hw := h.1
  have hC := h.2.1
  have hM := h.2.2.1
  have hm := wf_m hw
  have hn := wf_n hw
  obtain ⟨he1, he2⟩ := he
  have ht1 : rx_w (e.tdiv 10) = e.tdiv 10 := by
    rw [rx_w_of]
    · rcases Int.lt_or_le e 0 with g | g
      · have := Int.neg_tdiv (a := -e) (b := 10)
        rw [Int.neg_neg] at this
        rw [this, Int.tdiv_eq_ediv_of_nonneg (by omega)]
        omega
      · rw [Int.tdiv_eq_ediv_of_nonneg g]
        omega
    · rcases Int.lt_or_le e 0 with g | g
      · have := Int.neg_tdiv (a := -e) (b := 10)
        rw [Int.neg_neg] at this
        rw [this, Int.tdiv_eq_ediv_of_nonneg (by omega)]
        omega
      · rw [Int.tdiv_eq_ediv_of_nonneg g]
        omega
  have hneg : e < 0 → ¬ (0 ≤ e.tdiv 10 ∧ 0 ≤ e.tmod 10) := by
    intro g hc
    have := Int.mul_tdiv_add_tmod e 10
    omega
  have hb : ¬ ((0 ≤ k ∧ k < 6) ∧ (1 ≤ w ∧ w ≤ 9) ∧ (0 ≤ e.tdiv 10 ∧ e.tdiv 10 < V 0 0) ∧ (0 ≤ e.tmod 10 ∧ e.tmod 10 < V 0 0) ∧ e.tdiv 10 ≠ e.tmod 10) → rx_CI L (d + 4) mX11_road [.inr 125, .inl k, .inl e, .inl w] σ (fun v2 σ2 => Q (-1000000001) v2 σ2) := by
    intro c
    refine bX11_road L (d + 3) k e w σ _ ?_
    rw [ht1]
    refine m_in (fun c1 => ?_) (fun c1 => ?_)
    · rw [if_neg (by decide)]
      refine m_in (fun c2 => ?_) (fun c2 => ?_)
      · rw [if_neg (by decide)]
        by_cases g : e < 0
        · rw [if_pos g]
          exact o_same h hQ _
        · rw [if_neg g]
          refine n_isPost hM hw (fun c3 => ?_) (fun c3 => ?_)
          · rw [if_neg (by decide)]
            refine n_isPost hM hw (fun c4 => ?_) (fun c4 => ?_)
            · rw [if_neg (by decide), if_pos (by omega)]
              exact o_same h hQ _
            · rw [if_pos rfl]
              exact o_same h hQ _
          · rw [if_pos rfl]
            exact o_same h hQ _
      · rw [if_pos rfl]
        exact o_same h hQ _
    · rw [if_pos rfl]
      exact o_same h hQ _
  have hg : ∀ (σ1 : rx_St) (v : Int), ld_M V (σ1 126) → (0 ≤ k ∧ k < 6) → (1 ≤ w ∧ w ≤ 9) → (0 ≤ e.tdiv 10 ∧ e.tdiv 10 < V 0 0) → (0 ≤ e.tmod 10 ∧ e.tmod 10 < V 0 0) → e.tdiv 10 ≠ e.tmod 10 → (rs_has V (e.tdiv 10) (e.tmod 10) = true → Q v (-1000000002) σ1) → (rs_has V (e.tdiv 10) (e.tmod 10) = false → V 0 6 = 18 → Q v (-1000000003) σ1) → (rs_has V (e.tdiv 10) (e.tmod 10) = false → V 0 6 < 18 → rx_CI L (d + 3) mX11_goes [.inr 125, .inl k, .inl (e.tdiv 10), .inl (e.tmod 10), .inl w] σ1 (fun v2 σ2 => Q v v2 σ2)) → rx_CI L (d + 4) mX11_road [.inr 125, .inl k, .inl e, .inl w] σ1 (fun v2 σ2 => Q v v2 σ2) := by
    intro σ1 v hM1 a1 a2 a3 a4 a5 q1 q2 q3
    refine bX11_road L (d + 3) k e w σ1 _ ?_
    rw [ht1]
    refine m_in (fun c1 => ?_) (fun c1 => absurd ⟨a1.1, by omega⟩ c1)
    rw [if_neg (by decide)]
    refine m_in (fun c2 => ?_) (fun c2 => absurd a2 c2)
    rw [if_neg (by decide), if_neg (fun g => hneg g ⟨a3.1, a4.1⟩)]
    refine n_isPost hM1 hw (fun _ => ?_) (fun c3 => absurd a3 c3)
    rw [if_neg (by decide)]
    refine n_isPost hM1 hw (fun _ => ?_) (fun c3 => absurd a4 c3)
    rw [if_neg (by decide), if_neg a5]
    refine n_isBetween hM1 hw a5 (fun g => ?_) (fun g => ?_)
    · rw [if_neg (by decide)]
      exact q1 g
    · rw [if_pos rfl, ld_Mm hM1]
      by_cases c18 : V 0 6 = 18
      · rw [if_neg (fun q => q c18)]
        exact q2 g c18
      · rw [if_pos c18]
        exact q3 g (by omega)
  refine bX10_road L (d + 3) k e w σ _ ?_
  rw [ht1]
  refine s_isKind (fun c1 => ?_) (fun c1 => ?_)
  · rw [if_neg (by decide)]
    refine s_isWeight (fun c2 => ?_) (fun c2 => ?_)
    · rw [if_pos (by decide)]
      refine c_roadRefusal rfl hC hw (fun c3 => ?_) (fun c3 g => ?_) (fun c3 g f => ?_) (fun c3 g f => ?_)
      · rw [if_neg (by decide)]
        exact hb (fun q => c3 q.2.2)
      · rw [if_neg (by decide)]
        exact hg σ _ hM c1 c2 c3.1 c3.2.1 c3.2.2 (fun _ => o_same h hQ _) (fun g2 => by rw [g] at g2; cases g2) (fun g2 => by rw [g] at g2; cases g2)
      · rw [if_neg (by decide)]
        exact hg σ _ hM c1 c2 c3.1 c3.2.1 c3.2.2 (fun g2 => by rw [g] at g2; cases g2) (fun _ _ => o_same h hQ _) (fun _ g2 => by omega)
      · rw [if_pos rfl]
        refine c_addRoad rfl hC hw f (fun σ1 hC1 hf1 => ?_)
        have hM1 : ld_M V (σ1 126) := by rw [hf1 126 (by omega)]; exact hM
        refine hg σ1 _ hM1 c1 c2 c3.1 c3.2.1 c3.2.2 (fun g2 => by rw [g] at g2; cases g2) (fun _ g2 => by omega) (fun _ _ => ?_)
        refine n_goes hM1 hw f (fun σ2 hM2 hf2 hi2 => ?_)
        refine hQ _ σ2 ⟨_, T, iv_land h (fun c i hk => ?_) (wf_road hw f c1 c3.1 c3.2.1 c3.2.2 c2 g) (ld_Cfr hC1 (fun c h1 h2 => hf2 c (by omega))) hM2 (by simp [ld_road, rx_up])⟩
        unfold fr_v at hk
        by_cases c126 : c = 126
        · subst c126
          rw [hi2 i (by omega), hf1 126 (by omega)]
        · rw [hf2 c c126, hf1 c (by omega)]
    · rw [if_neg (by decide)]
      exact hb (fun q => c2 q.2.1)
  · rw [if_pos rfl]
    exact hb (fun q => c1 q.1)
theorem o_at {p : Int} (h : iv_A S V T σ) (hQ : ∀ v σ', Inv S σ' → Q v v σ') :
    rx_CI L (d + 2) mX10_at [.inr 0, .inl p] σ (fun v1 σ1 => rx_CI L (d + 2) mX11_at [.inr 125, .inl p] σ1 (fun v2 σ2 => Q v1 v2 σ2)) := by
  have hw := h.1
  have hC := h.2.1
  have hM := h.2.2.1
  have hn := wf_n hw
  have e5 : σ 5 = V 4 := hC 4 (by omega)
  refine bX10_at L (d + 1) p σ _ ?_
  refine c_isPost rfl hC (fun c => ?_) (fun c => ?_)
  · rw [if_neg (by decide), e5]
    refine ⟨by omega, ?_⟩
    refine bX11_at L (d + 1) p σ _ ?_
    refine n_isPost hM hw (fun _ => ?_) (fun c1 => absurd c c1)
    rw [if_neg (by decide), rx_w_of (by omega) (by omega), ld_Mli hM (by omega) (by omega)]
    exact ⟨by omega, o_same h hQ _⟩
  · rw [if_pos rfl]
    refine bX11_at L (d + 1) p σ _ ?_
    refine n_isPost hM hw (fun c1 => absurd c1 c) (fun _ => ?_)
    rw [if_pos rfl]
    exact o_same h hQ _
theorem o_count {w : Int} (h : iv_A S V T σ) (hQ : ∀ v σ', Inv S σ' → Q v v σ') :
    rx_CI L d mX10_count [.inr 0, .inl w] σ (fun v1 σ1 => rx_CI L d mX11_count [.inr 125, .inl w] σ1 (fun v2 σ2 => Q v1 v2 σ2)) := by
  have hC : σ 1 = V 0 := ld_C0 h.2.1
  have hM := h.2.2.1
  have ht := h.2.2.2.2.2.2.1.2.1
  have hwt := h.2.2.2.2.2.2.2.1.2.1
  refine bX10_count L d w σ _ ?_
  rw [hC]
  by_cases c0 : w = 0
  · rw [if_pos c0]
    refine bX11_count L d w σ _ ?_
    rw [if_pos c0, ld_Mn hM]
    exact o_same h hQ _
  rw [if_neg c0]
  by_cases c1 : w = 1
  · rw [if_pos c1]
    refine bX11_count L d w σ _ ?_
    rw [if_neg c0, if_pos c1, ld_Mm hM]
    exact o_same h hQ _
  rw [if_neg c1]
  by_cases c2 : w = 2
  · rw [if_pos c2]
    refine bX11_count L d w σ _ ?_
    rw [if_neg c0, if_neg c1, if_pos c2, ld_Mt hM]
    exact o_same h hQ _
  rw [if_neg c2]
  by_cases c3 : w = 3
  · rw [if_pos c3]
    refine bX11_count L d w σ _ ?_
    rw [if_neg c0, if_neg c1, if_neg c2, if_pos c3, hwt]
    exact o_same h hQ _
  rw [if_neg c3]
  by_cases c4 : w = 4
  · rw [if_pos c4]
    refine bX11_count L d w σ _ ?_
    rw [if_neg c0, if_neg c1, if_neg c2, if_neg c3, if_pos c4, ht]
    exact o_same h hQ _
  rw [if_neg c4]
  by_cases c5 : w = 5
  · rw [if_pos c5]
    refine bX11_count L d w σ _ ?_
    rw [if_neg c0, if_neg c1, if_neg c2, if_neg c3, if_neg c4, if_pos c5, ld_Mz hM]
    exact o_same h hQ _
  rw [if_neg c5]
  refine bX11_count L d w σ _ ?_
  rw [if_neg c0, if_neg c1, if_neg c2, if_neg c3, if_neg c4, if_neg c5]
  exact o_same h hQ _
theorem o_seed {v : Int} (h : iv_A S V T σ) (hQ : ∀ v σ', Inv S σ' → Q v v σ') :
    rx_CI L d mX10_seed [.inr 0, .inl v] σ (fun v1 σ1 => rx_CI L d mX11_seed [.inr 125, .inl v] σ1 (fun v2 σ2 => Q v1 v2 σ2)) := by
  have hC := h.2.1
  have hM := h.2.2.1
  refine bX10_seed L d v σ _ ?_
  refine bX11_seed L d v _ _ ?_
  have e : σ 1 13 = V 0 13 := by rw [show σ 1 = V 0 from ld_C0 hC]
  have hM1 : ld_M V ((rx_up σ 1 13 v) 126) := by rw [up_c (by decide)]; exact hM
  rw [e, ld_Mz hM1]
  refine hQ _ _ ⟨rx_up V 0 13 v, T, iv_land h (fun c i hk => ?_) ?_ (ld_Cne (ld_Cup0 hC 13 v) (by omega) _ _) (ld_Mup hM1 (by unfold ld_ok; omega) (by unfold ld_i; simp)) (up_i (by decide))⟩
  · unfold fr_v at hk
    rw [up_n (by omega), up_n (by omega)]
  · have hw := h.1
    unfold iv_Wf
    rw [up_i (by decide), up_i (by decide), up_i (by decide), up_c (by decide), up_c (by decide), up_c (by decide), up_c (by decide), up_c (by decide), up_c (by decide), up_c (by decide), up_c (by decide), up_c (by decide), up_c (by decide)]
    exact hw
theorem o_trim {n : Int} (h : iv_A S V T σ) (hQ : ∀ v σ', Inv S σ' → Q v v σ') :
    rx_CI L (d + 1) mX10_trim [.inr 0, .inl n] σ (fun v1 σ1 => rx_CI L (d + 1) mX11_trim [.inr 125, .inl n] σ1 (fun v2 σ2 => Q v1 v2 σ2)) := by
  obtain ⟨t1, t2, t3⟩ := h.2.2.2.2.2.2.1
  have hR := iv_R_of h
  have hbad : ¬ (0 ≤ n ∧ n ≤ σ 34 0) → rx_CI L (d + 1) mX11_trim [.inr 125, .inl n] σ (fun v2 σ2 => Q (-1000000001) v2 σ2) := by
    intro c
    refine bX11_trim L d n σ _ ?_
    refine m_in (fun c2 => absurd (by omega) c) (fun c2 => ?_)
    rw [if_neg (by decide)]
    exact o_same h hQ _
  refine bX10_trim L (d + 1) n σ _ ?_
  by_cases c : n < 0
  · rw [if_pos c]
    exact hbad (by omega)
  rw [if_neg c]
  by_cases c2 : n ≤ σ 34 0
  · rw [if_pos c2]
    refine bX11_trim L d n _ _ ?_
    rw [up_c (by decide)]
    refine m_in (fun _ => ?_) (fun c3 => absurd ⟨by omega, by omega⟩ c3)
    rw [if_pos (by decide)]
    refine hQ _ _ ⟨V, T, iv_rest h (fun c i h1 h2 => ?_) ⟨?_, ?_, ?_, ?_, ?_⟩⟩
    · unfold fr_r at h2
      rw [up_n (by omega), up_n (by omega)]
    · unfold iv_const
      rw [up_c (by decide), up_c (by decide), up_c (by decide), up_c (by decide), up_c (by decide), up_c (by decide), up_c (by decide), up_c (by decide)]
      exact hR.1
    · unfold iv_tape
      rw [up_c (by decide), up_s, up_s, up_c (by decide), up_c (by decide), up_c (by decide), up_c (by decide)]
      exact ⟨by omega, rfl, fun i h0 h1 => t3 i h0 (by omega)⟩
    · unfold iv_wait
      rw [up_c (by decide), up_c (by decide), up_i (by decide), up_c (by decide), up_c (by decide), up_c (by decide), up_c (by decide), up_c (by decide)]
      exact hR.2.2.1
    · intro s hs
      rw [up_c (by omega), up_c (by omega), up_c (by omega), up_c (by omega), up_c (by omega), up_c (by omega), up_c (by omega), up_c (by omega), up_c (by omega), up_c (by omega)]
      exact hR.2.2.2.1 s hs
    · intro s hs
      rw [up_c (by omega), up_c (by omega), up_c (by omega), up_c (by omega), up_c (by omega), up_c (by omega), up_c (by omega), up_c (by omega), up_c (by omega), up_c (by omega), up_c (by omega), up_c (by omega), up_c (by omega), up_c (by omega)]
      exact hR.2.2.2.2 s hs
  · rw [if_neg c2]
    exact hbad (by omega)
end CALLS3
