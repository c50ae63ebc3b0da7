section MOD
variable {L d : Nat} {σ : rx_St} {K : Int → rx_St → Prop} {KV : rx_St → Prop}
theorem m_in {v a b : Int} (h1 : a ≤ v ∧ v ≤ b → K 1 σ) (h0 : ¬ (a ≤ v ∧ v ≤ b) → K 0 σ) : rx_CI L d mX11_in [.inl v, .inl a, .inl b] σ K := by
  refine bX11_in L d v a b σ K ?_
  repeat' split
  all_goals first | exact h1 (by omega) | exact h0 (by omega)
theorem m_isPlace {x y : Int} (h1 : (0 ≤ x ∧ x < 100) ∧ 0 ≤ y ∧ y < 100 → K 1 σ) (h0 : ¬ ((0 ≤ x ∧ x < 100) ∧ 0 ≤ y ∧ y < 100) → K 0 σ) : rx_CI L (d + 1) mX11_isPlace [.inl x, .inl y] σ K := by
  refine bX11_isPlace L d x y σ K ?_
  refine m_in (fun c => ?_) (fun c => ?_)
  · rw [if_neg (by decide)]
    refine m_in (fun c2 => ?_) (fun c2 => ?_)
    · rw [if_neg (by decide)]
      exact h1 (by omega)
    · rw [if_pos rfl]
      exact h0 (by omega)
  · rw [if_pos rfl]
    exact h0 (by omega)
theorem m_isPost {p : Int} (hn : 0 ≤ σ 126 1 ∧ σ 126 1 ≤ 8) (h1 : 0 ≤ p ∧ p < σ 126 1 → K 1 σ) (h0 : ¬ (0 ≤ p ∧ p < σ 126 1) → K 0 σ) : rx_CI L (d + 1) mX11_isPost [.inr 125, .inl p] σ K := by
  refine bX11_isPost L d p σ K ?_
  rw [rx_w_of (by omega) (by omega)]
  refine m_in (fun c => ⟨Or.inr rfl, h1 (by omega)⟩) (fun c => ⟨Or.inl rfl, h0 (by omega)⟩)
theorem m_isRoad {p : Int} (hn : 0 ≤ σ 126 2 ∧ σ 126 2 ≤ 18) (h1 : 0 ≤ p ∧ p < σ 126 2 → K 1 σ) (h0 : ¬ (0 ≤ p ∧ p < σ 126 2) → K 0 σ) : rx_CI L (d + 1) mX11_isRoad [.inr 125, .inl p] σ K := by
  refine bX11_isRoad L d p σ K ?_
  rw [rx_w_of (by omega) (by omega)]
  refine m_in (fun c => ⟨Or.inr rfl, h1 (by omega)⟩) (fun c => ⟨Or.inl rfl, h0 (by omega)⟩)
theorem m_xOf {p : Int} (hp : 0 ≤ p ∧ p < 8) (h : K (σ 126 (4 + 3 * p)) σ) : rx_CI L d mX11_xOf [.inr 125, .inl p] σ K := by
  refine bX11_xOf L d p σ K ?_
  rw [rx_w_of (x := 3 * p) (by omega) (by omega), rx_w_of (by omega) (by omega)]
  exact ⟨by omega, h⟩
theorem m_yOf {p : Int} (hp : 0 ≤ p ∧ p < 8) (h : K (σ 126 (4 + 3 * p + 1)) σ) : rx_CI L d mX11_yOf [.inr 125, .inl p] σ K := by
  refine bX11_yOf L d p σ K ?_
  rw [rx_w_of (x := 3 * p) (by omega) (by omega), rx_w_of (x := 4 + 3 * p) (by omega) (by omega), rx_w_of (by omega) (by omega)]
  exact ⟨by omega, h⟩
theorem m_layerOf {p : Int} (hp : 0 ≤ p ∧ p < 8) (h : K (σ 126 (4 + 3 * p + 2)) σ) : rx_CI L d mX11_layerOf [.inr 125, .inl p] σ K := by
  refine bX11_layerOf L d p σ K ?_
  rw [rx_w_of (x := 3 * p) (by omega) (by omega), rx_w_of (x := 4 + 3 * p) (by omega) (by omega), rx_w_of (by omega) (by omega)]
  exact ⟨by omega, h⟩
theorem m_of {r w : Int} (hr : 0 ≤ r ∧ r < 18) (hw : 0 ≤ w ∧ w ≤ 4) (h : K (σ 126 (36 + 5 * r + w)) σ) : rx_CI L d mX11_of [.inr 125, .inl r, .inl w] σ K := by
  refine bX11_of L d r w σ K ?_
  rw [rx_w_of (x := 5 * r) (by omega) (by omega), rx_w_of (x := 36 + 5 * r) (by omega) (by omega), rx_w_of (by omega) (by omega)]
  exact ⟨by omega, h⟩
theorem m_lesser {r : Int} (hr : 0 ≤ r ∧ r < 18) (h : K (σ 126 (36 + 5 * r + 1)) σ) : rx_CI L (d + 1) mX11_lesser [.inr 125, .inl r] σ K :=
  bX11_lesser L d r σ K (m_of hr (by omega) h)
theorem m_greater {r : Int} (hr : 0 ≤ r ∧ r < 18) (h : K (σ 126 (36 + 5 * r + 2)) σ) : rx_CI L (d + 1) mX11_greater [.inr 125, .inl r] σ K :=
  bX11_greater L d r σ K (m_of hr (by omega) h)
theorem m_isFrom {r p : Int} (hr : 0 ≤ r ∧ r < 18) (h1 : σ 126 (36 + 5 * r + 1) = p ∨ σ 126 (36 + 5 * r + 2) = p → K 1 σ) (h0 : ¬ (σ 126 (36 + 5 * r + 1) = p ∨ σ 126 (36 + 5 * r + 2) = p) → K 0 σ) : rx_CI L (d + 2) mX11_isFrom [.inr 125, .inl r, .inl p] σ K := by
  refine bX11_isFrom L (d + 1) r p σ K ?_
  refine m_lesser hr ?_
  by_cases c : σ 126 (36 + 5 * r + 1) = p
  · rw [if_pos c]
    exact h1 (Or.inl c)
  · rw [if_neg c]
    refine m_greater hr ?_
    by_cases c2 : σ 126 (36 + 5 * r + 2) = p
    · rw [if_neg (fun q => q c2)]
      exact h1 (Or.inr c2)
    · rw [if_pos c2]
      exact h0 (fun q => q.elim c c2)
/-- the model's row as a land -/
def rs_mv (M : Int → Int) : Nat → Int → Int := fun k i => match k with
  | 0 => if i = 0 then M 1 else if i = 6 then M 2 else if i = 12 then M 3 else M 0
  | 1 => M (4 + 3 * i)
  | 2 => M (4 + 3 * i + 1)
  | 3 => M (4 + 3 * i + 2)
  | 4 => M (28 + i)
  | 6 => M (36 + 5 * i)
  | 7 => M (36 + 5 * i + 1)
  | 8 => M (36 + 5 * i + 2)
  | 9 => M (36 + 5 * i + 3)
  | 10 => M (36 + 5 * i + 4)
  | _ => 0
theorem m_postAt {x y : Int} (hn : 0 ≤ σ 126 1 ∧ σ 126 1 ≤ 8) (h : K (rs_at (rs_mv (σ 126)) x y) σ) : rx_CI L (d + 1) mX11_postAt [.inr 125, .inl x, .inl y] σ K := by
  refine bX11_postAt L d x y σ K ?_
  have key : ∀ (k : Nat) (p : Int), 0 ≤ p → p + k = σ 126 1 → K (rs_find (fun p => decide (σ 126 (4 + 3 * p) = x ∧ σ 126 (4 + 3 * p + 1) = y)) p k) σ → rx_Go L (d + 1) mX11_postAt 2 [some (.inr 125), some (.inl x), some (.inl y), some (.inl p)] [] σ (rx_PI K) := by
    intro k
    induction k with
    | zero =>
      intro p h0 hp hK
      refine bX11_postAt_2 L d x y p σ K ?_
      rw [if_pos (by omega)]
      exact hK
    | succ k ih =>
      intro p h0 hp hK
      refine bX11_postAt_2 L d x y p σ K ?_
      rw [if_neg (by omega)]
      rw [rx_w_of (by omega) (by omega)]
      unfold rs_find at hK
      refine m_xOf (by omega) ?_
      by_cases c1 : σ 126 (4 + 3 * p) = x
      · rw [if_neg (fun q => q c1)]
        refine m_yOf (by omega) ?_
        by_cases c2 : σ 126 (4 + 3 * p + 1) = y
        · rw [if_neg (fun q => q c2)]
          rw [if_pos (by simp [c1, c2])] at hK
          exact hK
        · rw [if_pos c2]
          rw [if_neg (by simp [c2])] at hK
          exact ih (p + 1) (by omega) (by omega) hK
      · rw [if_pos c1]
        rw [if_neg (by simp [c1])] at hK
        exact ih (p + 1) (by omega) (by omega) hK
  exact key (σ 126 1).toNat 0 (by omega) (by omega) h
theorem m_comes {x y : Int} (hn : 0 ≤ σ 126 1 ∧ σ 126 1 < 8)
    (h : K (σ 126 1) (rx_up (rx_up (rx_up (rx_up (rx_up σ 126 (4 + 3 * σ 126 1) x) 126 (4 + 3 * σ 126 1 + 1) y) 126 (4 + 3 * σ 126 1 + 2) 0) 126 (28 + σ 126 1) (σ 126 1)) 126 1 (σ 126 1 + 1))) : rx_CI L d mX11_comes [.inr 125, .inl x, .inl y] σ K := by
  refine bX11_comes L d x y σ K ?_
  rw [rx_w_of (x := 3 * σ 126 1) (by omega) (by omega), rx_w_of (x := 4 + 3 * σ 126 1) (by omega) (by omega), rx_w_of (x := 4 + 3 * σ 126 1 + 1) (by omega) (by omega), rx_w_of (x := 4 + 3 * σ 126 1 + 2) (by omega) (by omega), rx_w_of (x := 28 + σ 126 1) (by omega) (by omega)]
  refine ⟨by omega, by omega, by omega, by omega, ?_⟩
  have e : rx_up (rx_up (rx_up (rx_up σ 126 (4 + 3 * σ 126 1) x) 126 (4 + 3 * σ 126 1 + 1) y) 126 (4 + 3 * σ 126 1 + 2) 0) 126 (28 + σ 126 1) (σ 126 1) 126 1 = σ 126 1 := by
    rw [up_i (by omega), up_i (by omega), up_i (by omega), up_i (by omega)]
  rw [e, rx_w_of (by omega) (by omega)]
  exact h
end MOD
