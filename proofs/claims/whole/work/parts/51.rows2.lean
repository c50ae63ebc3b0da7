section ROWS2
variable {L d : Nat} {σ V T : rx_St} {S : Int → Int} {Q : Int → Int → rx_St → Prop} {K : Int → rx_St → Prop} {KV : rx_St → Prop}
/-- posts that come from a row, place by place -/
def pr_go (f : Int → Int) : Nat → Int → rx_St → Int × rx_St
  | 0, i, V => (i, V)
  | k + 1, i, V => if (0 ≤ f i ∧ f i ≤ 9999) ∧ rs_at V (f i / 100) (f i % 100) < 0 ∧ V 0 0 < 8 then pr_go f k (i + 1) (ld_post V (f i / 100) (f i % 100)) else (i, V)
theorem pr_wf {f : Int → Int} : ∀ (k : Nat) (i : Int) (V : rx_St), iv_Wf V → iv_Wf (pr_go f k i V).2 ∧ (pr_go f k i V).2 0 12 = V 0 12
  | 0, _, _, h => ⟨h, rfl⟩
  | k + 1, i, V, h => by
    unfold pr_go
    by_cases c : (0 ≤ f i ∧ f i ≤ 9999) ∧ rs_at V (f i / 100) (f i % 100) < 0 ∧ V 0 0 < 8
    · rw [if_pos c]
      have := pr_wf (f := f) k (i + 1) (ld_post V (f i / 100) (f i % 100)) (wf_post h c.2.2 (by omega) (by omega) c.2.1)
      refine ⟨this.1, ?_⟩
      rw [this.2]
      simp [ld_post, rx_up]
    · rw [if_neg c]
      exact ⟨h, rfl⟩
theorem td_100 {v : Int} (h : 0 ≤ v) : Int.tdiv v 100 = v / 100 ∧ Int.tmod v 100 = v % 100 := ⟨Int.tdiv_eq_ediv_of_nonneg h, Int.tmod_eq_emod_of_nonneg h⟩
theorem c_pour {A : Nat} (hA : rx_isO 7 A = true) (hA2 : 102 ≤ A) (hr : ∀ i, 0 ≤ i → i < σ A 1 → rx_r (σ (A + 1) i)) (hs : 0 ≤ σ A 1 ∧ σ A 1 ≤ 24) (q1 : Option rx_V) : ∀ (k : Nat) (i : Int) (q4 : Option rx_V) (V : rx_St) (σ1 : rx_St), 0 ≤ i → i + k = σ A 1 → iv_Wf V → ld_C 1 V σ1 → (∀ c, c < 1 ∨ 11 < c → σ1 c = σ c) → (∀ σ', ld_C 1 (pr_go (σ (A + 1)) k i V).2 σ' → (∀ c, c < 1 ∨ 11 < c → σ' c = σ c) → K (pr_go (σ (A + 1)) k i V).1 σ') → rx_Go L (d + 3) mX10_pour 29 [some (.inr 0), q1, some (.inr A), some (.inl i), q4] [] σ1 (rx_PI K) := by
  intro k
  induction k with
  | zero =>
    intro i q4 V σ1 i0 hi hw hC hf hK
    refine bX10_pour_29 L (d + 2) q1 A hA i q4 σ1 K ?_
    rw [hf A (by omega), if_pos (by omega)]
    exact hK σ1 hC hf
  | succ k ih =>
    intro i q4 V σ1 i0 hi hw hC hf hK
    refine bX10_pour_29 L (d + 2) q1 A hA i q4 σ1 K ?_
    rw [hf A (by omega), hf (A + 1) (by omega), if_neg (by omega)]
    refine ⟨by omega, ?_⟩
    have hri := hr i i0 (by omega)
    unfold rx_r at hri
    unfold pr_go at hK
    by_cases c : σ (A + 1) i < 0
    · rw [if_pos c]
      rw [if_neg (by omega)] at hK
      exact hK σ1 hC hf
    · rw [if_neg c]
      obtain ⟨e1, e2⟩ := td_100 (v := σ (A + 1) i) (by omega)
      rw [e1, e2, rx_w_of (by omega) (by omega)]
      refine c_postRefusal rfl hC hw (fun g => ?_) (fun g g2 => ?_) (fun g g2 g3 => ?_) (fun g g2 g3 => ?_)
      · rw [if_neg (by decide)]
        rw [if_neg (by omega)] at hK
        exact hK σ1 hC hf
      · rw [if_neg (by decide)]
        rw [if_neg (by omega)] at hK
        exact hK σ1 hC hf
      · rw [if_neg (by decide)]
        rw [if_neg (by omega)] at hK
        exact hK σ1 hC hf
      · rw [if_pos rfl]
        rw [if_pos ⟨by omega, g2, g3⟩] at hK
        refine c_addPost rfl hC hw g3 (fun σ2 hC2 hf2 => ?_)
        rw [rx_w_of (by omega) (by omega)]
        refine ih (i + 1) _ _ σ2 (by omega) (by omega) (wf_post hw g3 g.1 g.2 g2) hC2 (fun c hc => by rw [hf2 c (by omega)]; exact hf c hc) hK
theorem n_pour {x z : Int} {f : Int → Int} (hx : 0 ≤ x ∧ x < 4) (hz : 0 ≤ z ∧ z ≤ 24) (h1 : σ 151 x = z) (h2 : ∀ i, 0 ≤ i → i < 24 → σ 152 (24 * x + i) = f i) : ∀ (k : Nat) (i : Int) (q4 : Option rx_V) (V : rx_St) (σ1 : rx_St), 0 ≤ i → i + k = z → iv_Wf V → ld_M V (σ1 126) → (∀ c, c ≠ 126 → σ1 c = σ c) → (∀ j, 126 ≤ j → σ1 126 j = σ 126 j) → (∀ σ', ld_M (pr_go f k i V).2 (σ' 126) → (∀ c, c ≠ 126 → σ' c = σ c) → (∀ j, 126 ≤ j → σ' 126 j = σ 126 j) → K (pr_go f k i V).1 σ') → rx_Go L (d + 3) mX11_pour 26 [some (.inr 125), some (.inl x), some (.inl i), some (.inl 1), q4] [] σ1 (rx_PI K) := by
  intro k
  induction k with
  | zero =>
    intro i q4 V σ1 i0 hi hw hM hf hj hK
    refine bX11_pour_26 L (d + 2) x i 1 q4 σ1 K ?_
    rw [if_neg (by decide), hf 151 (by decide), h1, if_pos (by omega)]
    exact ⟨hx, hK σ1 hM hf hj⟩
  | succ k ih =>
    intro i q4 V σ1 i0 hi hw hM hf hj hK
    have stop : ∀ q4, (K i σ1) → rx_Go L (d + 3) mX11_pour 26 [some (.inr 125), some (.inl x), some (.inl i), some (.inl 0), q4] [] σ1 (rx_PI K) := by
      intro q4 hk
      refine bX11_pour_26 L (d + 2) x i 0 q4 σ1 K ?_
      rw [if_pos rfl]
      exact hk
    refine bX11_pour_26 L (d + 2) x i 1 q4 σ1 K ?_
    rw [if_neg (by decide), hf 151 (by decide), h1, if_neg (by omega)]
    refine ⟨hx, ?_⟩
    simp (disch := omega) only [rx_w_of]
    refine ⟨by omega, ?_⟩
    rw [hf 152 (by decide), h2 i i0 (by omega), Int.add_zero]
    unfold pr_go at hK
    refine m_in (fun g => ?_) (fun g => ?_)
    · rw [if_neg (by decide)]
      obtain ⟨e1, e2⟩ := td_100 (v := f i) (by omega)
      rw [e1, e2, rx_w_of (by omega) (by omega)]
      refine n_postAt hM hw ?_
      by_cases g2 : 0 ≤ rs_at V (f i / 100) (f i % 100)
      · rw [if_pos g2]
        rw [if_neg (by omega)] at hK
        exact stop _ (hK σ1 hM hf hj)
      · rw [if_neg g2, ld_Mn hM]
        by_cases g3 : 8 ≤ V 0 0
        · rw [if_pos g3]
          rw [if_neg (by omega)] at hK
          exact stop _ (hK σ1 hM hf hj)
        · rw [if_neg g3]
          rw [if_pos ⟨g, by omega, by omega⟩] at hK
          refine n_comes hM hw (by omega) (fun σ2 hM2 hf2 hi2 => ?_)
          have hn := wf_n hw
          rw [if_neg (by omega)]
          exact ih (i + 1) _ _ σ2 (by omega) (by omega) (wf_post hw (by omega) (by omega) (by omega) (by omega)) hM2 (fun c hc => by rw [hf2 c hc]; exact hf c hc) (fun j h9 => by rw [hi2 j h9]; exact hj j h9) hK
    · rw [if_pos rfl]
      rw [if_neg (fun q => g q.1)] at hK
      exact stop _ (hK σ1 hM hf hj)
theorem o_pour {x : Int} (h : iv_A S V T σ) (hQ : ∀ v σ', Inv S σ' → Q v v σ') :
    rx_CI L (d + 3) mX10_pour [.inr 0, .inl x] σ (fun v1 σ1 => rx_CI L (d + 3) mX11_pour [.inr 125, .inl x] σ1 (fun v2 σ2 => Q v1 v2 σ2)) := by
  have hw := h.1
  have hC := h.2.1
  have hM := h.2.2.1
  have hR := iv_R_of h
  refine bX10_pour L (d + 2) x σ _ ?_
  refine s_isSheet (fun c => ?_) (fun c => ?_)
  · rw [if_pos (by decide)]
    refine ⟨c, fun A hA hO => ?_⟩
    obtain ⟨s1, s2, s3, s4, s5⟩ := iv_sh hR.2.2.2.1 c hA
    refine c_isMissing hO (fun g => ?_) (fun g => ?_)
    · rw [if_neg (by decide)]
      refine bX11_pour L (d + 2) x σ _ ?_
      refine n_isSheet (fun _ => ?_) (fun c1 => absurd c c1)
      rw [if_pos (by decide), s2, if_neg (by omega)]
      exact ⟨c, o_same h hQ _⟩
    · rw [if_pos rfl]
      refine c_pour hO (by omega) (fun i i0 i1 => (s5 i i0 (by omega)).2) s3 _ (σ A 1).toNat 0 _ V σ (by omega) (by omega) hw hC (fun _ _ => rfl) (fun σ1 hC1 hf1 => ?_)
      have e126 : σ1 126 = σ 126 := hf1 126 (by omega)
      refine bX11_pour L (d + 2) x σ1 _ ?_
      refine n_isSheet (fun _ => ?_) (fun c1 => absurd c c1)
      rw [if_pos (by decide), hf1 150 (by omega), s2, if_pos (by omega)]
      refine ⟨c, ?_⟩
      refine n_pour (σ := σ1) (z := σ A 1) (f := σ (A + 1)) c s3 (by rw [hf1 151 (by omega)]; exact s4) (fun i i0 i1 => by rw [hf1 152 (by omega)]; exact (s5 i i0 i1).1) (σ A 1).toNat 0 _ V σ1 (by omega) (by omega) hw (by rw [e126]; exact hM) (fun _ _ => rfl) (fun _ _ => rfl) (fun σ2 hM2 hf2 hj2 => ?_)
      have hp := pr_wf (f := σ (A + 1)) (σ A 1).toNat 0 V hw
      refine hQ _ σ2 ⟨_, T, iv_land h (fun c i hk => ?_) hp.1 (ld_Cfr hC1 (fun c h1 h2 => hf2 c (by omega))) hM2 hp.2⟩
      unfold fr_v at hk
      by_cases c126 : c = 126
      · subst c126
        rw [hj2 i (by omega), e126]
      · rw [hf2 c c126, hf1 c (by omega)]
  · rw [if_neg (by decide)]
    refine bX11_pour L (d + 2) x σ _ ?_
    refine n_isSheet (fun c1 => absurd c1 c) (fun _ => ?_)
    rw [if_neg (by decide)]
    exact o_same h hQ _
theorem o_ask {x k : Int} (h : iv_A S V T σ) (hQ : ∀ v σ', Inv S σ' → Q v v σ') :
    rx_CI L (d + 2) mX10_ask [.inr 0, .inl x, .inl k] σ (fun v1 σ1 => rx_CI L (d + 2) mX11_ask [.inr 125, .inl x, .inl k] σ1 (fun v2 σ2 => Q v1 v2 σ2)) := by
  have hR := iv_R_of h
  have hbad : ¬ ((0 ≤ x ∧ x < 5) ∧ 0 ≤ k ∧ k < 6) → rx_CI L (d + 2) mX11_ask [.inr 125, .inl x, .inl k] σ (fun v2 σ2 => Q (-1000000001) v2 σ2) := by
    intro c
    refine bX11_ask L (d + 1) x k σ _ ?_
    refine n_isSlot (fun c1 => ?_) (fun c1 => ?_)
    · rw [if_neg (by decide)]
      refine m_in (fun c2 => absurd ⟨c1, by omega⟩ c) (fun c2 => ?_)
      rw [if_neg (by decide)]
      exact o_same h hQ _
    · rw [if_pos rfl]
      exact o_same h hQ _
  refine bX10_ask L (d + 1) x k σ _ ?_
  refine s_isSlot (fun c => ?_) (fun c => ?_)
  · rw [if_neg (by decide)]
    refine s_isKind (fun ck => ?_) (fun ck => ?_)
    · rw [if_pos (by decide)]
      refine ⟨c, fun A hA hO => ?_⟩
      obtain ⟨s1, s2, s3, s4, s5⟩ := iv_sl hR.2.2.2.2 c hA
      have hmod : ∀ w, (σ A 0 = 0 → w = -1000000011) → (σ A 0 ≠ 0 → σ A 0 ≠ 1 → w = -1000000012) → (σ A 0 = 1 → w = if rs_under (σ A 1) k = true then rs_worth (σ A 1) (σ A 2) else -1000000012) → rx_CI L (d + 2) mX11_ask [.inr 125, .inl x, .inl k] σ (fun v2 σ2 => Q w v2 σ2) := by
        intro w w0 w1 w2
        refine bX11_ask L (d + 1) x k σ _ ?_
        refine n_isSlot (fun _ => ?_) (fun c1 => absurd c c1)
        rw [if_neg (by decide)]
        refine m_in (fun _ => ?_) (fun c1 => absurd ⟨ck.1, by omega⟩ c1)
        rw [if_pos (by decide), s2]
        refine ⟨c, ?_⟩
        by_cases g0 : σ A 0 = 0
        · rw [if_neg (fun q => q g0), w0 g0]
          exact o_same h hQ _
        rw [if_pos g0]
        by_cases g1 : σ A 0 = 1
        · rw [if_neg (fun q => q g1), (s3 g1).2.2.1, w2 g1]
          refine n_isUnder (fun g => ?_) (fun g => ?_)
          · rw [if_neg (by decide), (s3 g1).2.2.2, if_pos g]
            exact o_same h hQ _
          · rw [if_pos rfl, if_neg (by rw [g]; decide)]
            exact o_same h hQ _
        · rw [if_pos g1, w1 g0 g1]
          exact o_same h hQ _
      refine bX8_refusalAs L (d + 1) A hO 1 σ _ ?_
      by_cases g0 : σ A 0 = 0
      · rw [if_neg (fun q => q g0), if_neg (by decide)]
        exact hmod _ (fun _ => rfl) (fun q => absurd g0 q) (fun q => by omega)
      rw [if_pos g0]
      by_cases g1 : σ A 0 = 1
      · rw [if_neg (fun q => q g1), if_pos rfl]
        obtain ⟨k1, k2, k3, k4⟩ := s3 g1
        refine c_isUnder hR.1 k1 ck (fun g => ?_) (fun g => ?_)
        · rw [if_neg (by decide)]
          have e : rx_CI L (d + 1) mX10_worthOf [.inl (σ A 1), .inl (σ A 2)] σ (fun v16 σ15 => v16 = rs_worth (σ A 1) (σ A 2) ∧ σ15 = σ) := by
            refine bX10_worthOf L (d + 1) _ _ σ _ ?_
            unfold rs_worth
            have hdiv : Int.tdiv (10 - σ A 2) 2 = (10 - σ A 2) / 2 := Int.tdiv_eq_ediv_of_nonneg (by omega)
            rw [hdiv]
            simp (disch := omega) only [rx_w_of]
            rw [hdiv]
            by_cases q1 : σ A 1 = 1
            · rw [if_pos q1, if_pos q1]
              exact ⟨by omega, trivial⟩
            rw [if_neg q1, if_neg q1]
            by_cases q2 : σ A 1 = 2
            · rw [if_pos q2, if_pos (Or.inl q2)]
              exact ⟨by omega, trivial⟩
            rw [if_neg q2]
            by_cases q3 : σ A 1 = 3
            · rw [if_pos q3, if_neg (by omega), if_pos q3]
              exact ⟨by omega, trivial⟩
            rw [if_neg q3]
            by_cases q4 : σ A 1 = 4
            · rw [if_pos q4, if_pos (Or.inr q4)]
              exact ⟨by omega, trivial⟩
            rw [if_neg q4, if_neg (show ¬ (σ A 1 = 2 ∨ σ A 1 = 4) by omega), if_neg q3]
            by_cases q5 : σ A 1 = 5
            · rw [if_pos q5, if_pos q5]
              exact ⟨by omega, trivial⟩
            · rw [if_neg q5, if_neg q5]
              exact ⟨by omega, trivial⟩
          refine e.imp (fun v σ' gg => ?_)
          obtain ⟨rfl, rfl⟩ := gg
          exact hmod _ (fun q => absurd q g0) (fun _ q => absurd g1 q) (fun _ => by rw [if_pos g])
        · rw [if_pos rfl]
          exact hmod _ (fun q => absurd q g0) (fun _ q => absurd g1 q) (fun _ => by rw [if_neg (by rw [g]; decide)])
      · rw [if_pos g1, if_neg (by decide)]
        exact hmod _ (fun q => absurd q g0) (fun _ _ => rfl) (fun q => absurd q g1)
    · rw [if_neg (by decide)]
      exact hbad (fun q => ck q.2)
  · rw [if_pos rfl]
    exact hbad (fun q => c q.1)
theorem o_item {x p : Int} (h : iv_A S V T σ) (hQ : ∀ v σ', Inv S σ' → Q v v σ') :
    rx_CI L (d + 2) mX10_item [.inr 0, .inl x, .inl p] σ (fun v1 σ1 => rx_CI L (d + 2) mX11_item [.inr 125, .inl x, .inl p] σ1 (fun v2 σ2 => Q v1 v2 σ2)) := by
  have hR := iv_R_of h
  refine bX10_item L (d + 1) x p σ _ ?_
  refine s_isSlot (fun c => ?_) (fun c => ?_)
  · rw [if_pos (by decide)]
    refine ⟨c, fun A hA hO => ?_⟩
    obtain ⟨s1, s2, s3, s4, s5⟩ := iv_sl hR.2.2.2.2 c hA
    have hmod : ∀ w, (σ A 0 = 0 → w = -1000000011) → (σ A 0 ≠ 0 → σ A 0 ≠ 2 → w = -1000000012) → (σ A 0 = 2 → w = if 0 ≤ p ∧ p < σ (A + 1) 1 then (if σ (A + 1 + 1) p ≠ -1000000005 then σ (A + 1 + 1) p else -1000000012) else -1000000013) → rx_CI L (d + 2) mX11_item [.inr 125, .inl x, .inl p] σ (fun v2 σ2 => Q w v2 σ2) := by
      intro w w0 w1 w2
      refine bX11_item L (d + 1) x p σ _ ?_
      refine n_isSlot (fun _ => ?_) (fun c1 => absurd c c1)
      rw [if_pos (by decide), s2]
      refine ⟨c, ?_⟩
      by_cases g0 : σ A 0 = 0
      · rw [if_neg (fun q => q g0), w0 g0]
        exact o_same h hQ _
      rw [if_pos g0]
      by_cases g1 : σ A 0 = 2
      · obtain ⟨k1, k2, k3⟩ := s4 g1
        rw [if_pos g1, k2, w2 g1, rx_w_of (by omega) (by omega)]
        refine m_in (fun g => ?_) (fun g => ?_)
        · have hp : 0 ≤ p ∧ p < σ (A + 1) 1 := by omega
          rw [if_pos (by decide), if_pos hp]
          simp (disch := omega) only [rx_w_of]
          refine ⟨by omega, ?_⟩
          rw [k3 p (by omega) (by omega)]
          by_cases gv : σ (A + 1 + 1) p = -1000000005
          · rw [if_neg (fun q => q gv), if_neg (fun q => q gv)]
            exact o_same h hQ _
          · rw [if_pos gv, if_pos gv]
            exact o_same h hQ _
        · rw [if_neg (by decide), if_neg (by omega)]
          exact o_same h hQ _
      · rw [if_neg g1, w1 g0 g1]
        exact o_same h hQ _
    refine bX8_refusalAs L (d + 1) A hO 2 σ _ ?_
    by_cases g0 : σ A 0 = 0
    · rw [if_neg (fun q => q g0), if_neg (by decide)]
      exact hmod _ (fun _ => rfl) (fun q => absurd g0 q) (fun q => by omega)
    rw [if_pos g0]
    by_cases g1 : σ A 0 = 2
    · rw [if_neg (fun q => q g1), if_pos rfl]
      intro B hB hB7
      subst hB
      obtain ⟨k1, k2, k3⟩ := s4 g1
      refine c_hasPlace hB7 (fun g => ?_) (fun g => ?_)
      · rw [if_pos (by decide)]
        intro B hB hB7
        subst hB
        refine ⟨by omega, ?_⟩
        by_cases gv : σ (A + 1 + 1) p = -1000000005
        · rw [if_neg (fun q => q gv)]
          exact hmod _ (fun q => absurd q g0) (fun _ q => absurd g1 q) (fun _ => by rw [if_pos g, if_neg (fun q => q gv)])
        · rw [if_pos gv]
          exact hmod _ (fun q => absurd q g0) (fun _ q => absurd g1 q) (fun _ => by rw [if_pos g, if_pos gv])
      · rw [if_neg (by decide)]
        exact hmod _ (fun q => absurd q g0) (fun _ q => absurd g1 q) (fun _ => by rw [if_neg g])
    · rw [if_pos g1, if_neg (by decide)]
      exact hmod _ (fun q => absurd q g0) (fun _ _ => rfl) (fun q => absurd q g1)
  · rw [if_neg (by decide)]
    refine bX11_item L (d + 1) x p σ _ ?_
    refine n_isSlot (fun c1 => absurd c1 c) (fun _ => ?_)
    rw [if_neg (by decide)]
    exact o_same h hQ _
theorem o_rest {x n : Int} (h : iv_A S V T σ) (hQ : ∀ v σ', Inv S σ' → Q v v σ') :
    rx_CI L (d + 2) mX10_rest [.inr 0, .inl x, .inl n] σ (fun v1 σ1 => rx_CI L (d + 2) mX11_rest [.inr 125, .inl x, .inl n] σ1 (fun v2 σ2 => Q v1 v2 σ2)) := by
  have hR := iv_R_of h
  refine bX10_rest L (d + 1) x n σ _ ?_
  refine s_isSlot (fun c => ?_) (fun c => ?_)
  · rw [if_pos (by decide)]
    refine ⟨c, fun A hA hO => ?_⟩
    obtain ⟨s1, s2, s3, s4, s5⟩ := iv_sl hR.2.2.2.2 c hA
    have hmod : ∀ w, (σ A 0 = 0 → w = -1000000011) → (σ A 0 ≠ 0 → σ A 0 ≠ 3 → w = -1000000012) → (σ A 0 = 3 → w = if n ≠ 0 then Int.tmod (σ A 4) n else -1000000002) → rx_CI L (d + 2) mX11_rest [.inr 125, .inl x, .inl n] σ (fun v2 σ2 => Q w v2 σ2) := by
      intro w w0 w1 w2
      refine bX11_rest L (d + 1) x n σ _ ?_
      refine n_isSlot (fun _ => ?_) (fun c1 => absurd c c1)
      rw [if_pos (by decide), s2]
      refine ⟨c, ?_⟩
      by_cases g0 : σ A 0 = 0
      · rw [if_neg (fun q => q g0), w0 g0]
        exact o_same h hQ _
      rw [if_pos g0]
      by_cases g1 : σ A 0 = 3
      · rw [if_pos g1, s5 g1, w2 g1]
        by_cases gn : n = 0
        · rw [if_neg (fun q => q gn), if_neg (fun q => q gn)]
          exact o_same h hQ _
        · rw [if_pos gn, if_pos gn]
          by_cases gm : n = -1
          · rw [if_neg (fun q => q gm), gm, Int.tmod_neg, Int.tmod_one]
            exact o_same h hQ _
          · rw [if_pos gm]
            exact ⟨gn, o_same h hQ _⟩
      · rw [if_neg g1, w1 g0 g1]
        exact o_same h hQ _
    refine bX8_refusalAs L (d + 1) A hO 3 σ _ ?_
    by_cases g0 : σ A 0 = 0
    · rw [if_neg (fun q => q g0), if_neg (by decide)]
      exact hmod _ (fun _ => rfl) (fun q => absurd g0 q) (fun q => by omega)
    rw [if_pos g0]
    by_cases g1 : σ A 0 = 3
    · rw [if_neg (fun q => q g1), if_pos rfl]
      by_cases gn : n = 0
      · rw [if_neg (fun q => q gn)]
        exact hmod _ (fun q => absurd q g0) (fun _ q => absurd g1 q) (fun _ => by rw [if_neg (fun q => q gn)])
      · rw [if_pos gn]
        exact ⟨gn, hmod _ (fun q => absurd q g0) (fun _ q => absurd g1 q) (fun _ => by rw [if_pos gn])⟩
    · rw [if_pos g1, if_neg (by decide)]
      exact hmod _ (fun q => absurd q g0) (fun _ _ => rfl) (fun q => absurd q g1)
  · rw [if_neg (by decide)]
    refine bX11_rest L (d + 1) x n σ _ ?_
    refine n_isSlot (fun c1 => absurd c1 c) (fun _ => ?_)
    rw [if_neg (by decide)]
    exact o_same h hQ _
end ROWS2
