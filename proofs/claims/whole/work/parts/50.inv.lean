/-! ===== what holds between the calls ===== -/
/-- a land that is in order: V 0 0 posts, V 0 6 roads, V 0 12 texts, V 0 13 z; V 1 x, V 2 y, V 3 layer, V 4 line, V 5 place; V 6 kind, V 7 low, V 8 high, V 9 weight, V 10 page -/
def iv_Wf (V : Nat → Int → Int) : Prop :=
  (0 ≤ V 0 0 ∧ V 0 0 ≤ 8) ∧ (0 ≤ V 0 6 ∧ V 0 6 ≤ 18) ∧ (0 ≤ V 0 12 ∧ V 0 12 ≤ 14) ∧ rx_r (V 0 13) ∧
  (∀ p, 0 ≤ p → p < V 0 0 → ((0 ≤ V 1 p ∧ V 1 p < 100) ∧ (0 ≤ V 2 p ∧ V 2 p < 100) ∧ (0 ≤ V 3 p ∧ V 3 p < 4)) ∧ (0 ≤ V 4 p ∧ V 4 p < V 0 0 ∧ V 5 (V 4 p) = p) ∧ (0 ≤ V 5 p ∧ V 5 p < V 0 0 ∧ V 4 (V 5 p) = p)) ∧
  (∀ p q, 0 ≤ p → p < V 0 0 → 0 ≤ q → q < V 0 0 → V 1 p = V 1 q → V 2 p = V 2 q → p = q) ∧
  (∀ r, 0 ≤ r → r < V 0 6 → (0 ≤ V 6 r ∧ V 6 r < 6) ∧ (0 ≤ V 7 r ∧ V 7 r < V 8 r ∧ V 8 r < V 0 0) ∧ (1 ≤ V 9 r ∧ V 9 r ≤ 9) ∧ (0 ≤ V 10 r ∧ V 10 r < 4)) ∧
  (∀ r s, 0 ≤ r → r < V 0 6 → 0 ≤ s → s < V 0 6 → V 7 r = V 7 s → V 8 r = V 8 s → r = s)
/-- two lands that tell the same (but where posts stand in the line by number, which the second doesn't hold) -/
def iv_Cp (V W : Nat → Int → Int) : Prop :=
  (V 0 0 = W 0 0 ∧ V 0 6 = W 0 6 ∧ V 0 12 = W 0 12 ∧ V 0 13 = W 0 13) ∧
  (∀ p, 0 ≤ p → p < V 0 0 → V 1 p = W 1 p ∧ V 2 p = W 2 p ∧ V 3 p = W 3 p ∧ V 4 p = W 4 p) ∧
  (∀ r, 0 ≤ r → r < V 0 6 → V 6 r = W 6 r ∧ V 7 r = W 7 r ∧ V 8 r = W 8 r ∧ V 9 r = W 9 r ∧ V 10 r = W 10 r)
/-- posts stand where they stand in both -/
theorem iv_at_eq {V W : Nat → Int → Int} (h : iv_Cp V W) (hn : 0 ≤ V 0 0) (x y : Int) : rs_at V x y = rs_at W x y := by
  unfold rs_at
  rw [← h.1.1]
  apply rs_find_congr
  intro q h1 h2
  obtain ⟨e1, e2, -⟩ := h.2.1 q (by omega) (by omega)
  rw [e1, e2]
theorem iv_at_none {V : Nat → Int → Int} {x y : Int} (hn : 0 ≤ V 0 0) (h : rs_at V x y < 0) : ∀ p, 0 ≤ p → p < V 0 0 → ¬ (V 1 p = x ∧ V 2 p = y) := by
  intro p h0 h1 hc
  rcases rs_find_spec (f := fun p => decide (V 1 p = x ∧ V 2 p = y)) (V 0 0).toNat 0 with ⟨-, g⟩ | ⟨g, -, -⟩
  · have := g p (by omega) (by omega)
    simp [hc.1, hc.2] at this
  · unfold rs_at at h
    omega
/-- one more post -/
theorem iv_post {V V' : Nat → Int → Int} {x y : Int} (h : iv_Wf V) (hn : V 0 0 < 8) (hx : 0 ≤ x ∧ x < 100) (hy : 0 ≤ y ∧ y < 100) (hno : ∀ p, 0 ≤ p → p < V 0 0 → ¬ (V 1 p = x ∧ V 2 p = y))
    (c0 : V' 0 0 = V 0 0 + 1) (c6 : V' 0 6 = V 0 6) (c12 : V' 0 12 = V 0 12) (c13 : V' 0 13 = V 0 13) (hold : ∀ p, 0 ≤ p → p < V 0 0 → V' 1 p = V 1 p ∧ V' 2 p = V 2 p ∧ V' 3 p = V 3 p ∧ V' 4 p = V 4 p ∧ V' 5 p = V 5 p)
    (hnew : V' 1 (V 0 0) = x ∧ V' 2 (V 0 0) = y ∧ V' 3 (V 0 0) = 0 ∧ V' 4 (V 0 0) = V 0 0 ∧ V' 5 (V 0 0) = V 0 0) (hr : ∀ k, 6 ≤ k → k ≤ 10 → V' k = V k) : iv_Wf V' := by
  obtain ⟨a1, a2, a3, a4, a5, a6, a7, a8⟩ := h
  obtain ⟨n1, n2, n3, n4, n5⟩ := hnew
  refine ⟨by omega, by omega, by omega, by rw [c13]; exact a4, ?_, ?_, ?_, ?_⟩
  · intro p h0 h1
    by_cases e : p = V 0 0
    · subst e
      rw [n1, n2, n3, n4, n5, n4]
      omega
    · obtain ⟨o1, o2, o3, o4, o5⟩ := hold p h0 (by omega)
      obtain ⟨b1, b2, b3⟩ := a5 p h0 (by omega)
      rw [o1, o2, o3, o4, o5]
      obtain ⟨-, -, -, -, q5⟩ := hold (V 4 p) (by omega) (by omega)
      obtain ⟨-, -, -, q4, -⟩ := hold (V 5 p) (by omega) (by omega)
      rw [q5, q4]
      omega
  · intro p q p0 p1 q0 q1 ex ey
    by_cases e1 : p = V 0 0 <;> by_cases e2 : q = V 0 0
    · omega
    · obtain ⟨o1, o2, -⟩ := hold q q0 (by omega)
      rw [e1, n1, o1] at ex
      rw [e1, n2, o2] at ey
      exact absurd ⟨ex.symm, ey.symm⟩ (hno q q0 (by omega))
    · obtain ⟨o1, o2, -⟩ := hold p p0 (by omega)
      rw [e2, n1, o1] at ex
      rw [e2, n2, o2] at ey
      exact absurd ⟨ex, ey⟩ (hno p p0 (by omega))
    · obtain ⟨o1, o2, -⟩ := hold p p0 (by omega)
      obtain ⟨u1, u2, -⟩ := hold q q0 (by omega)
      rw [o1, u1] at ex
      rw [o2, u2] at ey
      exact a6 p q p0 (by omega) q0 (by omega) ex ey
  · intro r h0 h1
    rw [hr 6 (by omega) (by omega), hr 7 (by omega) (by omega), hr 8 (by omega) (by omega), hr 9 (by omega) (by omega), hr 10 (by omega) (by omega)]
    have := a7 r h0 (by omega)
    omega
  · intro r s r0 r1 s0 s1 e1 e2
    rw [hr 7 (by omega) (by omega)] at e1
    rw [hr 8 (by omega) (by omega)] at e2
    exact a8 r s r0 (by omega) s0 (by omega) e1 e2
section OPS
variable {L d : Nat} {σ : rx_St}
/-- post: the class, then the model, answer alike and both lands stay in order and alike; nothing else of the store changes -/
theorem o_post {x y : Int} {Q : Int → Int → rx_St → Prop} (hw : iv_Wf (fun k => σ (1 + k))) (hc : iv_Cp (fun k => σ (1 + k)) (rs_mv (σ 126)))
    (hQ : ∀ v σ', iv_Wf (fun k => σ' (1 + k)) → iv_Cp (fun k => σ' (1 + k)) (rs_mv (σ' 126)) → (∀ c, c ≠ 1 → c ≠ 2 → c ≠ 3 → c ≠ 4 → c ≠ 5 → c ≠ 6 → c ≠ 126 → σ' c = σ c) → (∀ i, 36 ≤ i → σ' 126 i = σ 126 i) → σ' 1 12 = σ 1 12 → Q v v σ') :
    rx_CI L (d + 2) mX10_post [.inr 0, .inl x, .inl y] σ (fun v1 σ1 => rx_CI L (d + 2) mX11_post [.inr 125, .inl x, .inl y] σ1 (fun v2 σ2 => Q v1 v2 σ2)) := by
  have hn : 0 ≤ σ 1 0 ∧ σ 1 0 ≤ 8 := hw.1
  have e1 : σ 1 0 = σ 126 1 := hc.1.1
  have hat : rs_at (fun k => σ (1 + k)) x y = rs_at (rs_mv (σ 126)) x y := iv_at_eq hc hn.1 x y
  refine bX10_post L (d + 1) x y σ _ ?_
  have hsame : ∀ v, (rx_CI L (d + 2) mX11_post [.inr 125, .inl x, .inl y] σ (fun v2 σ2 => v2 = v ∧ σ2 = σ)) → rx_CI L (d + 2) mX11_post [.inr 125, .inl x, .inl y] σ (fun v2 σ2 => Q v v2 σ2) := by
    intro v h
    refine h.imp (fun v2 σ2 g => ?_)
    obtain ⟨rfl, rfl⟩ := g
    exact hQ v2 σ2 hw hc (fun _ _ _ _ _ _ _ _ => rfl) (fun _ _ => rfl) rfl
  refine s_postRefusal rfl hn (fun c => ?_) (fun c g => ?_) (fun c g f => ?_) (fun c g f => ?_)
  · rw [if_neg (by decide)]
    refine hsame _ (bX11_post L (d + 1) x y σ _ ?_)
    refine m_isPlace (fun c2 => absurd c2 c) (fun c2 => ?_)
    rw [if_neg (by decide)]
    exact ⟨rfl, rfl⟩
  · rw [if_neg (by decide)]
    refine hsame _ (bX11_post L (d + 1) x y σ _ ?_)
    refine m_isPlace (fun c2 => ?_) (fun c2 => absurd c c2)
    rw [if_pos (by decide)]
    refine m_postAt (by omega) ?_
    rw [← hat, if_neg (by omega)]
    exact ⟨rfl, rfl⟩
  · rw [if_neg (by decide)]
    refine hsame _ (bX11_post L (d + 1) x y σ _ ?_)
    refine m_isPlace (fun c2 => ?_) (fun c2 => absurd c c2)
    rw [if_pos (by decide)]
    refine m_postAt (by omega) ?_
    rw [← hat, if_pos g, if_neg (by omega)]
    exact ⟨rfl, rfl⟩
  · rw [if_pos rfl]
    refine s_addPost rfl ⟨hn.1, f⟩ ?_
    refine bX11_post L (d + 1) x y _ _ ?_
    refine m_isPlace (fun c2 => ?_) (fun c2 => absurd c c2)
    rw [if_pos (by decide)]
    have e126 : ∀ s : rx_St, s = (rx_up (rx_up (rx_up (rx_up (rx_up (rx_up σ 1 0 (σ 1 0 + 1)) (1 + 1) (σ 1 0) x) (1 + 2) (σ 1 0) y) (1 + 3) (σ 1 0) 0) (1 + 4) (σ 1 0) (σ 1 0)) (1 + 5) (σ 1 0) (σ 1 0)) → s 126 = σ 126 := by
      rintro s rfl
      rw [up_c (by decide), up_c (by decide), up_c (by decide), up_c (by decide), up_c (by decide), up_c (by decide)]
    generalize hs1 : (rx_up (rx_up (rx_up (rx_up (rx_up (rx_up σ 1 0 (σ 1 0 + 1)) (1 + 1) (σ 1 0) x) (1 + 2) (σ 1 0) y) (1 + 3) (σ 1 0) 0) (1 + 4) (σ 1 0) (σ 1 0)) (1 + 5) (σ 1 0) (σ 1 0)) = σ1 at e126 ⊢
    have e126 := e126 σ1 rfl
    refine m_postAt (by rw [e126]; omega) ?_
    rw [e126, ← hat, if_pos g, if_pos (by omega)]
    refine m_comes (by rw [e126]; omega) ?_
    rw [e126, ← e1]
    have hbase : ∀ c, c ≠ 1 → c ≠ 2 → c ≠ 3 → c ≠ 4 → c ≠ 5 → c ≠ 6 → σ1 c = σ c := by
      intro c h1 h2 h3 h4 h5 h6
      rw [← hs1, up_c (by omega), up_c (by omega), up_c (by omega), up_c (by omega), up_c (by omega), up_c (by omega)]
    have hat0 := iv_at_none hn.1 g
    generalize hs2 : rx_up (rx_up (rx_up (rx_up (rx_up σ1 126 (4 + 3 * σ 1 0) x) 126 (4 + 3 * σ 1 0 + 1) y) 126 (4 + 3 * σ 1 0 + 2) 0) 126 (28 + σ 1 0) (σ 1 0)) 126 1 (σ 1 0 + 1) = σ2
    have h2c : ∀ c, c ≠ 126 → σ2 c = σ1 c := by
      intro c h
      rw [← hs2, up_c h, up_c h, up_c h, up_c h, up_c h]
    have h2i : ∀ i, i ≠ 4 + 3 * σ 1 0 → i ≠ 4 + 3 * σ 1 0 + 1 → i ≠ 4 + 3 * σ 1 0 + 2 → i ≠ 28 + σ 1 0 → i ≠ 1 → σ2 126 i = σ 126 i := by
      intro i h1 h2 h3 h4 h5
      rw [← hs2, up_i h5, up_i h4, up_i h3, up_i h2, up_i h1, e126]
    have hv1 : ∀ c, 1 ≤ c → c ≤ 6 → ∀ i, i ≠ σ 1 0 → (c = 1 → i ≠ 0) → σ1 c i = σ c i := by
      intro c h1 h2 i h3 h4
      rw [← hs1]
      have h9 : c = 1 ∨ c = 2 ∨ c = 3 ∨ c = 4 ∨ c = 5 ∨ c = 6 := by omega
      rcases h9 with rfl | rfl | rfl | rfl | rfl | rfl <;> simp [rx_up, h3]
      intro h5
      exact absurd h5 (h4 rfl)
    have hv0 : σ1 1 0 = σ 1 0 + 1 := by rw [← hs1]; simp [rx_up]
    have hvo : ∀ i, i ≠ 0 → σ1 1 i = σ 1 i := by
      intro i h
      rw [← hs1]
      simp [rx_up, h]
    refine hQ _ σ2 ?_ ?_ ?_ ?_ ?_
    · refine iv_post (V := fun k => σ (1 + k)) (x := x) (y := y) hw f c.1 c.2 hat0 ?_ ?_ ?_ ?_ ?_ ?_ ?_
      · show σ2 1 0 = _
        rw [h2c 1 (by decide)]
        exact hv0
      · show σ2 1 6 = _
        rw [h2c 1 (by decide)]
        exact hvo 6 (by decide)
      · show σ2 1 12 = _
        rw [h2c 1 (by decide)]
        exact hvo 12 (by decide)
      · show σ2 1 13 = _
        rw [h2c 1 (by decide)]
        exact hvo 13 (by decide)
      · intro p p0 p1
        have p1 : p < σ 1 0 := p1
        refine ⟨?_, ?_, ?_, ?_, ?_⟩
        · show σ2 2 p = σ 2 p
          rw [h2c 2 (by decide)]
          exact hv1 2 (by decide) (by decide) p (by omega) (fun h => by cases h)
        · show σ2 3 p = σ 3 p
          rw [h2c 3 (by decide)]
          exact hv1 3 (by decide) (by decide) p (by omega) (fun h => by cases h)
        · show σ2 4 p = σ 4 p
          rw [h2c 4 (by decide)]
          exact hv1 4 (by decide) (by decide) p (by omega) (fun h => by cases h)
        · show σ2 5 p = σ 5 p
          rw [h2c 5 (by decide)]
          exact hv1 5 (by decide) (by decide) p (by omega) (fun h => by cases h)
        · show σ2 6 p = σ 6 p
          rw [h2c 6 (by decide)]
          exact hv1 6 (by decide) (by decide) p (by omega) (fun h => by cases h)
      · refine ⟨?_, ?_, ?_, ?_, ?_⟩
        · show σ2 2 (σ 1 0) = x
          rw [h2c 2 (by decide), ← hs1]
          simp [rx_up]
        · show σ2 3 (σ 1 0) = y
          rw [h2c 3 (by decide), ← hs1]
          simp [rx_up]
        · show σ2 4 (σ 1 0) = 0
          rw [h2c 4 (by decide), ← hs1]
          simp [rx_up]
        · show σ2 5 (σ 1 0) = σ 1 0
          rw [h2c 5 (by decide), ← hs1]
          simp [rx_up]
        · show σ2 6 (σ 1 0) = σ 1 0
          rw [h2c 6 (by decide), ← hs1]
          simp [rx_up]
      · intro k k6 k10
        show σ2 (1 + k) = σ (1 + k)
        rw [h2c (1 + k) (by omega)]
        exact hbase (1 + k) (by omega) (by omega) (by omega) (by omega) (by omega) (by omega)
    · have hm1 : σ2 126 1 = σ 1 0 + 1 := by rw [← hs2, up_s]
      have hn0 : σ2 1 0 = σ 1 0 + 1 := by rw [h2c 1 (by decide)]; exact hv0
      obtain ⟨⟨-, q6, q12, q13⟩, qp, qr⟩ := hc
      refine ⟨⟨?_, ?_, ?_, ?_⟩, ?_, ?_⟩
      · show σ2 1 0 = σ2 126 1
        rw [hn0, hm1]
      · show σ2 1 6 = σ2 126 2
        rw [h2c 1 (by decide), hvo 6 (by decide), h2i 2 (by omega) (by omega) (by omega) (by omega) (by omega)]
        exact q6
      · show σ2 1 12 = σ2 126 3
        rw [h2c 1 (by decide), hvo 12 (by decide), h2i 3 (by omega) (by omega) (by omega) (by omega) (by omega)]
        exact q12
      · show σ2 1 13 = σ2 126 0
        rw [h2c 1 (by decide), hvo 13 (by decide), h2i 0 (by omega) (by omega) (by omega) (by omega) (by omega)]
        exact q13
      · intro p p0 p1
        have p1 : p < σ2 1 0 := p1
        rw [hn0] at p1
        show σ2 2 p = σ2 126 (4 + 3 * p) ∧ σ2 3 p = σ2 126 (4 + 3 * p + 1) ∧ σ2 4 p = σ2 126 (4 + 3 * p + 2) ∧ σ2 5 p = σ2 126 (28 + p)
        rw [h2c 2 (by decide), h2c 3 (by decide), h2c 4 (by decide), h2c 5 (by decide)]
        by_cases e : p = σ 1 0
        · subst e
          refine ⟨?_, ?_, ?_, ?_⟩
          · rw [← hs2, up_i (by omega), up_i (by omega), up_i (by omega), up_i (by omega), up_s, ← hs1]
            simp [rx_up]
          · rw [← hs2, up_i (by omega), up_i (by omega), up_i (by omega), up_s, ← hs1]
            simp [rx_up]
          · rw [← hs2, up_i (by omega), up_i (by omega), up_s, ← hs1]
            simp [rx_up]
          · rw [← hs2, up_i (by omega), up_s, ← hs1]
            simp [rx_up]
        · rw [hv1 2 (by decide) (by decide) p e (fun h => by cases h), hv1 3 (by decide) (by decide) p e (fun h => by cases h), hv1 4 (by decide) (by decide) p e (fun h => by cases h), hv1 5 (by decide) (by decide) p e (fun h => by cases h)]
          rw [h2i (4 + 3 * p) (by omega) (by omega) (by omega) (by omega) (by omega), h2i (4 + 3 * p + 1) (by omega) (by omega) (by omega) (by omega) (by omega), h2i (4 + 3 * p + 2) (by omega) (by omega) (by omega) (by omega) (by omega), h2i (28 + p) (by omega) (by omega) (by omega) (by omega) (by omega)]
          exact qp p p0 (by show p < σ 1 0; omega)
      · intro r r0 r1
        have r1 : r < σ2 1 6 := r1
        rw [h2c 1 (by decide), hvo 6 (by decide)] at r1
        show σ2 7 r = σ2 126 (36 + 5 * r) ∧ σ2 8 r = σ2 126 (36 + 5 * r + 1) ∧ σ2 9 r = σ2 126 (36 + 5 * r + 2) ∧ σ2 10 r = σ2 126 (36 + 5 * r + 3) ∧ σ2 11 r = σ2 126 (36 + 5 * r + 4)
        rw [h2c 7 (by decide), h2c 8 (by decide), h2c 9 (by decide), h2c 10 (by decide), h2c 11 (by decide)]
        rw [hbase 7 (by decide) (by decide) (by decide) (by decide) (by decide) (by decide), hbase 8 (by decide) (by decide) (by decide) (by decide) (by decide) (by decide), hbase 9 (by decide) (by decide) (by decide) (by decide) (by decide) (by decide), hbase 10 (by decide) (by decide) (by decide) (by decide) (by decide) (by decide), hbase 11 (by decide) (by decide) (by decide) (by decide) (by decide) (by decide)]
        rw [h2i (36 + 5 * r) (by omega) (by omega) (by omega) (by omega) (by omega), h2i (36 + 5 * r + 1) (by omega) (by omega) (by omega) (by omega) (by omega), h2i (36 + 5 * r + 2) (by omega) (by omega) (by omega) (by omega) (by omega), h2i (36 + 5 * r + 3) (by omega) (by omega) (by omega) (by omega) (by omega), h2i (36 + 5 * r + 4) (by omega) (by omega) (by omega) (by omega) (by omega)]
        exact qr r r0 r1
    · intro c h1 h2 h3 h4 h5 h6 h7
      rw [h2c c h7]
      exact hbase c h1 h2 h3 h4 h5 h6
    · intro i hi
      exact h2i i (by omega) (by omega) (by omega) (by omega) (by omega)
    · rw [h2c 1 (by decide)]
      exact hvo 12 (by decide)
end OPS
