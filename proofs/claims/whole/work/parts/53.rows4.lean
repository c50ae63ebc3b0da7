section ROWS4
variable {L d : Nat} {σ V T : rx_St} {S : Int → Int} {Q : Int → Int → rx_St → Prop} {K : Int → rx_St → Prop} {KV : rx_St → Prop}
theorem n_worthBy {k w : Int} (hk : 0 ≤ k ∧ k < 6) (hw : 1 ≤ w ∧ w ≤ 9) (h : K (rs_worth k w) σ) : rx_CI L d mX11_worthBy [.inl k, .inl w] σ K := by
  refine bX11_worthBy L d k w σ K ?_
  have hdiv : Int.tdiv (10 - w) 2 = (10 - w) / 2 := Int.tdiv_eq_ediv_of_nonneg (by omega)
  simp (disch := omega) only [rx_w_of]
  unfold rs_worth at h
  by_cases q1 : k = 1
  · rw [if_pos q1]
    rw [if_pos q1] at h
    exact h
  rw [if_neg q1]
  rw [if_neg q1] at h
  by_cases q2 : k = 2
  · rw [if_pos q2]
    rw [if_pos (Or.inl q2)] at h
    exact h
  rw [if_neg q2]
  by_cases q3 : k = 3
  · rw [if_pos q3]
    rw [if_neg (by omega), if_pos q3] at h
    exact h
  rw [if_neg q3]
  by_cases q4 : k = 4
  · rw [if_pos q4]
    rw [if_pos (Or.inr q4)] at h
    exact h
  rw [if_neg q4]
  rw [if_neg (show ¬ (k = 2 ∨ k = 4) by omega), if_neg q3] at h
  by_cases q5 : k = 5
  · rw [if_pos q5]
    rw [if_pos q5] at h
    exact h
  · rw [if_neg q5]
    rw [if_neg q5] at h
    exact h
theorem c_worthOf {k w : Int} (hk : 0 ≤ k ∧ k < 6) (hw : 1 ≤ w ∧ w ≤ 9) (h : K (rs_worth k w) σ) : rx_CI L d mX10_worthOf [.inl k, .inl w] σ K := by
  refine bX10_worthOf L d k w σ K ?_
  have hdiv : Int.tdiv (10 - w) 2 = (10 - w) / 2 := Int.tdiv_eq_ediv_of_nonneg (by omega)
  simp (disch := omega) only [rx_w_of]
  unfold rs_worth at h
  by_cases q1 : k = 1
  · rw [if_pos q1, show 10 - w + 5 = 15 - w by omega]
    rw [if_pos q1] at h
    exact h
  rw [if_neg q1]
  rw [if_neg q1] at h
  by_cases q2 : k = 2
  · rw [if_pos q2]
    rw [if_pos (Or.inl q2)] at h
    exact h
  rw [if_neg q2]
  by_cases q3 : k = 3
  · rw [if_pos q3, show 10 - w + 5 - w = 15 - 2 * w by omega]
    rw [if_neg (by omega), if_pos q3] at h
    exact h
  rw [if_neg q3]
  by_cases q4 : k = 4
  · rw [if_pos q4]
    rw [if_pos (Or.inr q4)] at h
    exact h
  rw [if_neg q4]
  rw [if_neg (show ¬ (k = 2 ∨ k = 4) by omega), if_neg q3] at h
  by_cases q5 : k = 5
  · rw [if_pos q5]
    rw [if_pos q5] at h
    exact h
  · rw [if_neg q5]
    rw [if_neg q5] at h
    exact h
/-- the model's lay, from where all is good: a slot's cells behind it -/
theorem n_lay {x t k : Int} (hM : ld_M V (σ 126)) (hw : iv_Wf V) (hx : 0 ≤ x ∧ x < 5) (ht : 0 ≤ t ∧ t ≤ 3) (h1 : t = 1 → 0 ≤ k ∧ k < V 0 6) (h2 : t = 2 → (0 ≤ k ∧ k < 4) ∧ 0 ≤ σ 150 k)
    (hK : ∀ σ', (∀ c, c ≠ 153 → c ≠ 154 → c ≠ 155 → c ≠ 156 → σ' c = σ c) → (∀ y, y ≠ x → σ' 153 y = σ 153 y ∧ σ' 154 y = σ 154 y ∧ σ' 155 y = σ 155 y) → (∀ i, ¬ (24 * x ≤ i ∧ i < 24 * x + 24) → σ' 156 i = σ 156 i) → σ' 153 x = t →
      (t = 1 → σ' 154 x = V 6 k ∧ σ' 155 x = rs_worth (V 6 k) (V 9 k)) → (t = 2 → σ' 154 x = σ 151 k ∧ ∀ i, 0 ≤ i → i < 24 → σ' 156 (24 * x + i) = σ 152 (24 * k + i)) → (t ≠ 1 → t ≠ 2 → σ' 154 x = k) → K (σ 153 x) σ') : rx_CI L (d + 2) mX11_lay [.inr 125, .inl x, .inl t, .inl k] σ K := by
  have hm := wf_m hw
  have f144 : ∀ (n : Nat) (j : Int) (σ1 : rx_St), t = 2 → 0 ≤ j → j + n = 24 → (∀ c, c ≠ 156 → σ1 c = (rx_up (rx_up (rx_up σ 153 x t) 154 x (σ 151 k)) 155 x 0) c) → (∀ i, 24 * x ≤ i → i < 24 * x + j → σ1 156 i = σ 152 (24 * k + (i - 24 * x))) → (∀ i, ¬ (24 * x ≤ i ∧ i < 24 * x + 24) → σ1 156 i = σ 156 i) → rx_Go L (d + 2) mX11_lay 144 [some (.inr 125), some (.inl x), some (.inl t), some (.inl k), some (.inl (σ 153 x)), some (.inl j)] [] σ1 (rx_PI K) := by
    intro n
    induction n with
    | zero =>
      intro j σ1 e2 j0 hj hc hi ho
      refine bX11_lay_144 L (d + 1) x t k _ j σ1 K ?_
      rw [if_pos (by omega)]
      refine bX11_lay_186 L (d + 1) _ _ _ _ _ _ σ1 K ?_
      refine hK σ1 (fun c a1 a2 a3 a4 => ?_) (fun y hy => ?_) ho ?_ (fun q => by omega) (fun _ => ⟨?_, fun i i0 i1 => ?_⟩) (fun _ q => absurd e2 q)
      · rw [hc c a4, up_c a3, up_c a2, up_c a1]
      · rw [hc 153 (by decide), hc 154 (by decide), hc 155 (by decide)]
        simp (disch := omega) only [up_c, up_i]
        exact ⟨trivial, trivial, trivial⟩
      · rw [hc 153 (by decide)]
        simp (disch := omega) only [up_c, up_s]
      · rw [hc 154 (by decide)]
        simp (disch := omega) only [up_c, up_s]
      · rw [hi _ (by omega) (by omega), show 24 * x + i - 24 * x = i by omega]
    | succ n ih =>
      intro j σ1 e2 j0 hj hc hi ho
      have hk := (h2 e2).1
      refine bX11_lay_144 L (d + 1) x t k _ j σ1 K ?_
      rw [if_neg (by omega), if_neg (fun q => q e2)]
      simp (disch := omega) only [rx_w_of]
      refine ⟨by omega, by omega, ih (j + 1) _ e2 (by omega) (by omega) (fun c h9 => by rw [up_c h9]; exact hc c h9) (fun i i0 i1 => ?_) (fun i h9 => by rw [up_i (by omega)]; exact ho i h9)⟩
      by_cases e : i = 24 * x + j
      · rw [up_e e, hc 152 (by decide)]
        simp (disch := omega) only [up_c]
        rw [show i - 24 * x = j by omega]
      · rw [up_i e]
        exact hi i i0 (by omega)
  have f61 : ∀ (q4 q5 : Option rx_V), rx_Go L (d + 2) mX11_lay 61 [some (.inr 125), some (.inl x), some (.inl t), some (.inl k), q4, q5] [] σ (rx_PI K) := by
    intro q4 q5
    refine bX11_lay_61 L (d + 1) x t k q4 q5 σ K ⟨hx, ?_⟩
    by_cases e1 : t = 1
    · rw [if_neg (fun q => q e1)]
      have hk := h1 e1
      have hM1 : ld_M V ((rx_up σ 153 x t) 126) := by rw [up_c (by decide)]; exact hM
      refine n_of hM1 0 (by omega) rfl (by omega) ?_
      have hM2 : ld_M V ((rx_up (rx_up σ 153 x t) 154 x (V (6 + 0) k)) 126) := by rw [up_c (by decide)]; exact hM1
      refine bX11_lay_111 L (d + 1) x t k _ q5 _ K ?_
      rw [if_neg (fun q => q e1)]
      refine n_of hM2 0 (by omega) rfl (by omega) ?_
      refine n_of hM2 3 (by omega) rfl (by omega) ?_
      have hr := wf_r hw hk.1 hk.2
      refine n_worthBy hr.1 hr.2.2.1 ⟨hx, ?_⟩
      refine bX11_lay_141 L (d + 1) x t k _ q5 _ K ?_
      refine bX11_lay_144 L (d + 1) x t k _ 0 _ K ?_
      rw [if_neg (by decide), if_pos (by omega)]
      refine bX11_lay_186 L (d + 1) _ _ _ _ _ _ _ K ?_
      refine hK _ (fun c a1 a2 a3 a4 => ?_) (fun y hy => ?_) (fun i _ => ?_) ?_ (fun _ => ?_) (fun q => by omega) (fun q => absurd e1 q)
      · rw [up_c a3, up_c a2, up_c a1]
      · simp (disch := omega) only [up_c, up_i]
        exact ⟨trivial, trivial, trivial⟩
      · simp (disch := omega) only [up_c]
      · simp (disch := omega) only [up_c, up_s]
      · simp (disch := omega) only [up_c, up_s]
        exact ⟨by first | rfl | trivial, by first | rfl | trivial⟩
    · rw [if_pos e1]
      by_cases e2 : t = 2
      · rw [if_neg (fun q => q e2)]
        refine ⟨(h2 e2).1, ?_⟩
        rw [up_c (by decide)]
        refine bX11_lay_111 L (d + 1) x t k _ q5 _ K ?_
        rw [if_pos e1]
        refine ⟨hx, ?_⟩
        refine bX11_lay_141 L (d + 1) x t k _ q5 _ K ?_
        exact f144 24 0 _ e2 (by omega) (by omega) (fun _ _ => rfl) (fun i i0 i1 => by omega) (fun i _ => by simp (disch := omega) only [up_c])
      · rw [if_pos e2]
        refine bX11_lay_111 L (d + 1) x t k _ q5 _ K ?_
        rw [if_pos e1]
        refine ⟨hx, ?_⟩
        refine bX11_lay_141 L (d + 1) x t k _ q5 _ K ?_
        refine bX11_lay_144 L (d + 1) x t k _ 0 _ K ?_
        rw [if_neg (by decide), if_pos e2]
        refine bX11_lay_186 L (d + 1) _ _ _ _ _ _ _ K ?_
        refine hK _ (fun c a1 a2 a3 a4 => ?_) (fun y hy => ?_) (fun i _ => ?_) ?_ (fun q => absurd q e1) (fun q => absurd q e2) (fun _ _ => ?_)
        · rw [up_c a3, up_c a2, up_c a1]
        · simp (disch := omega) only [up_c, up_i]
          exact ⟨trivial, trivial, trivial⟩
        · simp (disch := omega) only [up_c]
        · simp (disch := omega) only [up_c, up_s]
        · simp (disch := omega) only [up_c, up_s]
  have f29 : rx_Go L (d + 2) mX11_lay 29 [some (.inr 125), some (.inl x), some (.inl t), some (.inl k), none, none] [] σ (rx_PI K) := by
    refine bX11_lay_29 L (d + 1) x t k _ _ σ K ?_
    by_cases e2 : t = 2
    · rw [if_neg (fun q => q e2)]
      refine n_isSheet (fun _ => ?_) (fun c => absurd (h2 e2).1 c)
      rw [if_pos (by decide)]
      refine bX11_lay_44 L (d + 1) x t k _ _ σ K ?_
      rw [if_neg (fun q => q e2), if_pos (h2 e2).2]
      exact ⟨(h2 e2).1, f61 _ _⟩
    · rw [if_pos e2]
      refine bX11_lay_44 L (d + 1) x t k _ _ σ K ?_
      rw [if_pos e2]
      exact f61 _ _
  refine bX11_lay L (d + 1) x t k σ K ?_
  refine n_isSlot (fun _ => ?_) (fun c => absurd hx c)
  rw [if_neg (by decide)]
  refine m_in (fun _ => ?_) (fun c => absurd ht c)
  rw [if_neg (by decide)]
  by_cases e1 : t = 1
  · rw [if_neg (fun q => q e1)]
    refine n_isRoad hM hw (fun _ => ?_) (fun c => absurd (h1 e1) c)
    rw [if_neg (by decide)]
    exact f29
  · rw [if_pos e1]
    exact f29
theorem o_lay {x t k : Int} (h : iv_A S V T σ) (hQ : ∀ v σ', Inv S σ' → Q v v σ') :
    rx_CI L (d + 2) mX10_lay [.inr 0, .inl x, .inl t, .inl k] σ (fun v1 σ1 => rx_CI L (d + 2) mX11_lay [.inr 125, .inl x, .inl t, .inl k] σ1 (fun v2 σ2 => Q v1 v2 σ2)) := by
  have hw := h.1
  have hC := h.2.1
  have hM := h.2.2.1
  have hR := iv_R_of h
  have hm := wf_m hw
  have hbad : ¬ ((0 ≤ x ∧ x < 5) ∧ (0 ≤ t ∧ t ≤ 3) ∧ (t = 1 → 0 ≤ k ∧ k < V 0 6) ∧ (t = 2 → 0 ≤ k ∧ k < 4)) → rx_CI L (d + 2) mX11_lay [.inr 125, .inl x, .inl t, .inl k] σ (fun v2 σ2 => Q (-1000000001) v2 σ2) := by
    intro c
    refine bX11_lay L (d + 1) x t k σ _ ?_
    refine n_isSlot (fun c1 => ?_) (fun c1 => ?_)
    · rw [if_neg (by decide)]
      refine m_in (fun c2 => ?_) (fun c2 => ?_)
      · rw [if_neg (by decide)]
        by_cases e1 : t = 1
        · rw [if_neg (fun q => q e1)]
          refine n_isRoad hM hw (fun c3 => absurd ⟨c1, c2, fun _ => c3, fun q => by omega⟩ c) (fun c3 => ?_)
          rw [if_pos rfl]
          exact o_same h hQ _
        · rw [if_pos e1]
          have e2 : t = 2 := Classical.byContradiction (fun q => c ⟨c1, c2, fun q2 => absurd q2 e1, fun q2 => absurd q2 q⟩)
          refine bX11_lay_29 L (d + 1) x t k _ _ σ _ ?_
          rw [if_neg (fun q => q e2)]
          refine n_isSheet (fun c3 => absurd ⟨c1, c2, fun q2 => absurd q2 e1, fun _ => c3⟩ c) (fun c3 => ?_)
          rw [if_neg (by decide)]
          exact o_same h hQ _
      · rw [if_pos rfl]
        exact o_same h hQ _
    · rw [if_pos rfl]
      exact o_same h hQ _
  have fin : ∀ (A : Nat) (σ1 σ2 : rx_St), (0 ≤ x ∧ x < 5) → A = 110 + 3 * x.toNat → (∀ c, c ≠ A → c ≠ A + 1 → c ≠ A + 1 + 1 → σ1 c = σ c) → (∀ c, c ≠ 153 → c ≠ 154 → c ≠ 155 → c ≠ 156 → σ2 c = σ1 c) → (∀ y, y ≠ x → σ2 153 y = σ1 153 y ∧ σ2 154 y = σ1 154 y ∧ σ2 155 y = σ1 155 y) → (∀ i, ¬ (24 * x ≤ i ∧ i < 24 * x + 24) → σ2 156 i = σ1 156 i) → sl_is σ2 x A → Inv S σ2 := by
    intro A σ1 σ2 hx hA h1 h2 h3 h4 h5
    have hcs : ∀ c, c ≠ A → c ≠ A + 1 → c ≠ A + 1 + 1 → c ≠ 153 → c ≠ 154 → c ≠ 155 → c ≠ 156 → σ2 c = σ c := fun c a1 a2 a3 a4 a5 a6 a7 => by rw [h2 c a4 a5 a6 a7, h1 c a1 a2 a3]
    refine ⟨V, T, iv_rest h (fun c i g1 g2 => ?_) ⟨iv_constfr hR.1 (fun c h9 => hcs c (by omega) (by omega) (by omega) (by omega) (by omega) (by omega) (by omega)), iv_tapefr hR.2.1 ?_ ?_ (hcs 36 (by omega) (by omega) (by omega) (by omega) (by omega) (by omega) (by omega)) (hcs 142 (by omega) (by omega) (by omega) (by omega) (by omega) (by omega) (by omega)), iv_waitfr hR.2.2.1 ?_ ?_ (hcs 101 (by omega) (by omega) (by omega) (by omega) (by omega) (by omega) (by omega)) (hcs 158 (by omega) (by omega) (by omega) (by omega) (by omega) (by omega) (by omega)), iv_sheetfr hR.2.2.2.1 (fun c h9 => hcs c (by omega) (by omega) (by omega) (by omega) (by omega) (by omega) (by omega)), iv_slset hR.2.2.2.2 hx hA (fun c a1 a2 a3 a4 => hcs c a2 a3 a4 (by omega) (by omega) (by omega) (by omega)) (fun y hy => ?_) (fun i hi => ?_) h5⟩⟩
    · unfold fr_r at g2
      unfold fr_k at g1
      rw [hcs c (by omega) (by omega) (by omega) (by omega) (by omega) (by omega) (by omega)]
    · rw [hcs 34 (by omega) (by omega) (by omega) (by omega) (by omega) (by omega) (by omega)]
    · rw [hcs 125 (by omega) (by omega) (by omega) (by omega) (by omega) (by omega) (by omega)]
    · rw [hcs 0 (by omega) (by omega) (by omega) (by omega) (by omega) (by omega) (by omega)]
    · rw [hcs 125 (by omega) (by omega) (by omega) (by omega) (by omega) (by omega) (by omega)]
    · obtain ⟨b1, b2, b3⟩ := h3 y hy
      rw [b1, b2, b3, h1 153 (by omega) (by omega) (by omega), h1 154 (by omega) (by omega) (by omega), h1 155 (by omega) (by omega) (by omega)]
      exact ⟨rfl, rfl, rfl⟩
    · rw [h4 i hi, h1 156 (by omega) (by omega) (by omega)]
  have f70 : ∀ (q4 q5 : Option rx_V), (0 ≤ x ∧ x < 5) → (0 ≤ t ∧ t ≤ 3) → (t = 1 → 0 ≤ k ∧ k < V 0 6) → (t = 2 → (0 ≤ k ∧ k < 4) ∧ 0 ≤ σ 150 k) → rx_Go L (d + 2) mX10_lay 70 [some (.inr 0), some (.inl x), some (.inl t), some (.inl k), q4, q5] [] σ (rx_PI (fun v1 σ1 => rx_CI L (d + 2) mX11_lay [.inr 125, .inl x, .inl t, .inl k] σ1 (fun v2 σ2 => Q v1 v2 σ2))) := by
    intro q4 q5 hx ht h1 h2
    refine bX10_lay_70 L (d + 1) x t k q4 q5 σ _ ⟨hx, fun A hA hO => ?_⟩
    obtain ⟨s1, s2, -⟩ := iv_sl hR.2.2.2.2 hx hA
    by_cases e1 : t = 1
    · rw [if_neg (fun q => q e1)]
      have hk := h1 e1
      have hr := wf_r hw hk.1 hk.2
      refine ⟨by omega, ?_⟩
      have e7 : σ 7 = V 6 := hC 6 (by omega)
      have e10 : σ 10 = V 9 := hC 9 (by omega)
      simp (disch := omega) only [up_c]
      rw [e7, e10]
      refine bX10_lay_155 L (d + 1) _ _ _ _ _ _ _ _ ?_
      refine n_lay (V := V) (by simp (disch := omega) only [up_c]; exact hM) hw hx ht h1 (fun q => by omega) (fun σ2 a1 a2 a3 a4 a5 a6 a7 => ?_)
      simp (disch := omega) only [up_c]
      rw [s2]
      refine hQ _ _ (fin A _ σ2 hx hA (fun c b1 b2 b3 => by simp (disch := omega) only [up_c]) a1 a2 a3 ?_)
      have eA : σ2 A = (rx_up (rx_up (rx_up σ A 0 t) A 1 (V 6 k)) A 2 (V 9 k)) A := a1 A (by omega) (by omega) (by omega) (by omega)
      have e0 : σ2 A 0 = 1 := by rw [eA]; simp (disch := omega) only [up_i, up_s]; exact e1
      have e1' : σ2 A 1 = V 6 k := by rw [eA]; simp (disch := omega) only [up_i, up_s]
      have e2' : σ2 A 2 = V 9 k := by rw [eA]; simp (disch := omega) only [up_i, up_s]
      unfold sl_is
      rw [e0, e1', e2', a4, (a5 e1).1, (a5 e1).2]
      exact ⟨by omega, e1, fun _ => ⟨hr.1, hr.2.2.1, rfl, rfl⟩, fun q => by omega, fun q => by omega⟩
    · rw [if_pos e1]
      by_cases e2 : t = 2
      · rw [if_neg (fun q => q e2)]
        obtain ⟨hk, hk0⟩ := h2 e2
        intro B hB hB7
        refine ⟨hk, fun C hC' hC7 => ?_⟩
        obtain ⟨u1, u2, u3, u4, u5⟩ := iv_sh hR.2.2.2.1 hk hC'
        refine bX7_takeFrom L (d + 1) B hB7 C hC7 _ _ ⟨by unfold rx_cpOK; omega, ?_⟩
        subst hB
        refine bX10_lay_155 L (d + 1) _ _ _ _ _ _ _ _ ?_
        refine n_lay (V := V) (by rw [cp_c (by omega)]; simp (disch := omega) only [up_c]; exact hM) hw hx ht h1 (fun _ => ⟨hk, by rw [cp_c (by omega)]; simp (disch := omega) only [up_c]; exact hk0⟩) (fun σ2 a1 a2 a3 a4 a5 a6 a7 => ?_)
        have e153 : ∀ X : rx_St, X = (rx_cp (rx_up (rx_up (rx_up σ A 0 t) (A + 1) 0 ((rx_up σ A 0 t) C 0)) (A + 1) 1 ((rx_up (rx_up σ A 0 t) (A + 1) 0 ((rx_up σ A 0 t) C 0)) C 1)) (C + 1) 0 (A + 1 + 1) 0 24) → ∀ c, c ≠ A → c ≠ A + 1 → c ≠ A + 1 + 1 → X c = σ c := by
          rintro X rfl c b1 b2 b3
          rw [cp_c b3, up_c b2, up_c b2, up_c b1]
        rw [e153 _ rfl 153 (by omega) (by omega) (by omega), s2]
        refine hQ _ _ (fin A _ σ2 hx hA (fun c b1 b2 b3 => e153 _ rfl c b1 b2 b3) a1 a2 a3 ?_)
        have eA : σ2 A 0 = 2 := by
          rw [a1 A (by omega) (by omega) (by omega) (by omega), cp_c (by omega)]
          simp (disch := omega) only [up_c, up_s]
          exact e2
        have eB : σ2 (A + 1) 1 = σ C 1 := by
          rw [a1 (A + 1) (by omega) (by omega) (by omega) (by omega), cp_c (by omega)]
          simp (disch := omega) only [up_c, up_s]
        have eC : ∀ i, 0 ≤ i → i < 24 → σ2 (A + 1 + 1) i = σ (C + 1) i := by
          intro i i0 i1
          rw [a1 (A + 1 + 1) (by omega) (by omega) (by omega) (by omega), cp_i (by omega)]
          simp (disch := omega) only [up_c]
          rw [Int.sub_zero, Int.zero_add]
        unfold sl_is
        rw [eA, eB, a4, (a6 e2).1, e153 _ rfl 151 (by omega) (by omega) (by omega), u4]
        refine ⟨by omega, e2, fun q => by omega, fun _ => ⟨u3, rfl, fun i i0 i1 => ?_⟩, fun q => by omega⟩
        rw [(a6 e2).2 i i0 i1, e153 _ rfl 152 (by omega) (by omega) (by omega), (u5 i i0 i1).1, eC i i0 i1]
      · rw [if_pos e2]
        refine bX10_lay_155 L (d + 1) _ _ _ _ _ _ _ _ ?_
        refine n_lay (V := V) (by simp (disch := omega) only [up_c]; exact hM) hw hx ht h1 (fun q => absurd q e2) (fun σ2 a1 a2 a3 a4 a5 a6 a7 => ?_)
        simp (disch := omega) only [up_c]
        rw [s2]
        refine hQ _ _ (fin A _ σ2 hx hA (fun c b1 b2 b3 => by simp (disch := omega) only [up_c]) a1 a2 a3 ?_)
        have eA : σ2 A = (rx_up (rx_up σ A 0 t) A 4 k) A := a1 A (by omega) (by omega) (by omega) (by omega)
        have e0 : σ2 A 0 = t := by rw [eA]; simp (disch := omega) only [up_i, up_s]
        have e4 : σ2 A 4 = k := by rw [eA]; simp (disch := omega) only [up_s]
        unfold sl_is
        rw [e0, e4, a4, a7 e1 e2]
        exact ⟨ht, rfl, fun q => absurd q e1, fun q => absurd q e2, fun _ => rfl⟩
  have f35 : (0 ≤ x ∧ x < 5) → (0 ≤ t ∧ t ≤ 3) → (t = 1 → 0 ≤ k ∧ k < V 0 6) → rx_Go L (d + 2) mX10_lay 35 [some (.inr 0), some (.inl x), some (.inl t), some (.inl k), none, none] [] σ (rx_PI (fun v1 σ1 => rx_CI L (d + 2) mX11_lay [.inr 125, .inl x, .inl t, .inl k] σ1 (fun v2 σ2 => Q v1 v2 σ2))) := by
    intro hx ht h1
    refine bX10_lay_35 L (d + 1) x t k _ _ σ _ ?_
    by_cases e2 : t = 2
    · rw [if_neg (fun q => q e2)]
      refine s_isSheet (fun c => ?_) (fun c => ?_)
      · rw [if_pos (by decide)]
        refine bX10_lay_50 L (d + 1) x t k _ _ σ _ ?_
        rw [if_neg (fun q => q e2)]
        refine ⟨c, fun A hA hO => ?_⟩
        obtain ⟨u1, u2, -⟩ := iv_sh hR.2.2.2.1 c hA
        refine c_isMissing hO (fun g => ?_) (fun g => ?_)
        · rw [if_neg (by decide)]
          refine bX11_lay L (d + 1) x t k σ _ ?_
          refine n_isSlot (fun _ => ?_) (fun c9 => absurd hx c9)
          rw [if_neg (by decide)]
          refine m_in (fun _ => ?_) (fun c9 => absurd ht c9)
          rw [if_neg (by decide), if_pos (by omega)]
          refine bX11_lay_29 L (d + 1) x t k _ _ σ _ ?_
          rw [if_neg (fun q => q e2)]
          refine n_isSheet (fun _ => ?_) (fun c9 => absurd c c9)
          rw [if_pos (by decide)]
          refine bX11_lay_44 L (d + 1) x t k _ _ σ _ ?_
          rw [if_neg (fun q => q e2), u2, if_neg (by omega)]
          exact ⟨c, o_same h hQ _⟩
        · rw [if_pos rfl]
          exact f70 _ _ hx ht h1 (fun _ => ⟨c, by omega⟩)
      · rw [if_neg (by decide)]
        exact hbad (fun q => c (q.2.2.2 e2))
    · rw [if_pos e2]
      refine bX10_lay_50 L (d + 1) x t k _ _ σ _ ?_
      rw [if_pos e2]
      exact f70 _ _ hx ht h1 (fun q => absurd q e2)
  refine bX10_lay L (d + 1) x t k σ _ ?_
  refine s_isSlot (fun c => ?_) (fun c => ?_)
  · rw [if_neg (by decide)]
    by_cases c1 : t < 0
    · rw [if_pos c1]
      exact hbad (by omega)
    rw [if_neg c1]
    by_cases c2 : t ≤ 3
    · rw [if_pos c2]
      by_cases e1 : t = 1
      · rw [if_neg (fun q => q e1)]
        refine c_isRoad rfl hC (fun c3 => ?_) (fun c3 => ?_)
        · rw [if_neg (by decide)]
          exact f35 c (by omega) (fun _ => c3)
        · rw [if_pos rfl]
          exact hbad (fun q => c3 (q.2.2.1 e1))
      · rw [if_pos e1]
        exact f35 c (by omega) (fun q => absurd q e1)
    · rw [if_neg c2]
      exact hbad (by omega)
  · rw [if_pos rfl]
    exact hbad (fun q => c q.1)
end ROWS4
