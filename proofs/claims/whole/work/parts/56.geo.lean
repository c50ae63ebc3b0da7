/-! ===== straight lines that meet ===== -/
theorem nl_1 {a b : Int} (h : 0 ≤ a * b) (ha : 0 < a) : 0 ≤ b := by
  rcases Int.lt_or_le b 0 with g | g
  · have := Int.mul_neg_of_pos_of_neg ha g
    omega
  · exact g
theorem nl_2 {a b : Int} (h : 0 ≤ a * b) (ha : a < 0) : b ≤ 0 := by
  rcases Int.lt_or_le 0 b with g | g
  · have := Int.mul_neg_of_neg_of_pos ha g
    omega
  · exact g
theorem nl_sq (x : Int) : 0 ≤ x * x := by
  rcases Int.lt_or_le x 0 with g | g
  · have := Int.mul_pos_of_neg_of_neg g g
    omega
  · exact Int.mul_nonneg g g
/-- on which side of the line from a to b the place c is -/
def sd (a1 a2 b1 b2 c1 c2 : Int) : Int := (b1 - a1) * (c2 - a2) - (b2 - a2) * (c1 - a1)
def ap (a b c d : Int) : Prop := (a < c ∧ a < d ∧ b < c ∧ b < d) ∨ (c < a ∧ d < a ∧ c < b ∧ d < b)
def btw (p a b : Int) : Prop := (a ≤ p ∨ b ≤ p) ∧ (p ≤ a ∨ p ≤ b)
theorem btw_of {p a b : Int} (h : (a - p) * (b - p) ≤ 0) : btw p a b := by
  unfold btw
  rcases Int.lt_trichotomy a p with g | g | g
  · rcases Int.lt_or_le b p with g2 | g2
    · have := Int.mul_pos_of_neg_of_neg (show a - p < 0 by omega) (show b - p < 0 by omega)
      omega
    · omega
  · omega
  · rcases Int.lt_or_le p b with g2 | g2
    · have := Int.mul_pos (show 0 < a - p by omega) (show 0 < b - p by omega)
      omega
    · omega
theorem btw_to {p a b : Int} (h : btw p a b) : (a - p) * (b - p) ≤ 0 := by
  unfold btw at h
  rcases Int.lt_trichotomy a p with g | g | g
  · have := Int.mul_nonneg (show 0 ≤ p - a by omega) (show 0 ≤ b - p by omega)
    have e : (a - p) * (b - p) = -((p - a) * (b - p)) := by rw [← Int.neg_mul]; congr 1; omega
    omega
  · subst g
    simp
  · have := Int.mul_nonneg (show 0 ≤ a - p by omega) (show 0 ≤ p - b by omega)
    have e : (a - p) * (b - p) = -((a - p) * (p - b)) := by rw [← Int.mul_neg]; congr 1; omega
    omega
section GEO
variable {ux uy vx vy wx wy : Int}
/-- two that are parallel, seen from a third -/
theorem geo_E (h : ux * vy = uy * vx) : 0 ≤ (wx * uy - wy * ux) * (wx * vy - wy * vx) * (uy * vy) ∧ 0 ≤ (wx * uy - wy * ux) * (wx * vy - wy * vx) * (ux * vx) := by
  constructor
  · have e : (wx * uy - wy * ux) * (wx * vy - wy * vx) * (uy * vy) = (wx * (uy * vy) - wy * (ux * vy)) * (wx * (uy * vy) - wy * (ux * vy)) := by grind
    rw [e]
    exact nl_sq _
  · have e : (wx * uy - wy * ux) * (wx * vy - wy * vx) * (ux * vx) = (wx * (ux * vy) - wy * (ux * vx)) * (wx * (ux * vy) - wy * (ux * vx)) := by grind
    rw [e]
    exact nl_sq _
theorem geo_L1 (h : ux * vy = uy * vx) (hp : ux * vx ≤ 0) (hq : uy * vy ≤ 0) : (wx * uy - wy * ux) * (wx * vy - wy * vx) ≤ 0 := by
  obtain ⟨e1, e2⟩ := geo_E (wx := wx) (wy := wy) h
  rcases Int.lt_or_le 0 ((wx * uy - wy * ux) * (wx * vy - wy * vx)) with g | g
  · have q0 := nl_1 e1 g
    have p0 := nl_1 e2 g
    have hq0 : uy * vy = 0 := by omega
    have hp0 : ux * vx = 0 := by omega
    have hm : (ux * vy) * (ux * vy) = 0 := by
      have : (ux * vy) * (ux * vy) = (ux * vx) * (uy * vy) := by grind
      rw [this, hp0, Int.zero_mul]
    have hm0 : ux * vy = 0 := by
      rcases Int.mul_eq_zero.mp hm with k | k <;> exact k
    have e : (wx * uy - wy * ux) * (wx * vy - wy * vx) = wx * wx * (uy * vy) - 2 * (wx * wy) * (ux * vy) + wy * wy * (ux * vx) := by grind
    rw [e, hq0, hp0, hm0]
    simp
  · exact g
theorem geo_L2 (h : ux * vy = uy * vx) (hE : (wx * uy - wy * ux) * (wx * vy - wy * vx) < 0) : ux * vx ≤ 0 ∧ uy * vy ≤ 0 := by
  obtain ⟨e1, e2⟩ := geo_E (wx := wx) (wy := wy) h
  exact ⟨nl_2 e2 hE, nl_2 e1 hE⟩
/-- parallel to one that is not nothing -/
theorem geo_par (hu : ux ≠ 0 ∨ uy ≠ 0) (h1 : ux * vy = uy * vx) (h2 : ux * wy = uy * wx) : vx * wy = vy * wx := by
  rcases hu with hu | hu
  · have e : ux * (vx * wy - vy * wx) = 0 := by grind
    rcases Int.mul_eq_zero.mp e with k | k
    · exact absurd k hu
    · omega
  · have e : uy * (vx * wy - vy * wx) = 0 := by grind
    rcases Int.mul_eq_zero.mp e with k | k
    · exact absurd k hu
    · omega
end GEO
section GEO2
variable {a1 a2 b1 b2 c1 c2 d1 d2 : Int}
theorem sd_rev : sd d1 d2 c1 c2 a1 a2 = - sd c1 c2 d1 d2 a1 a2 := by unfold sd; grind
theorem sd_swap : sd a2 a1 b2 b1 c2 c1 = - sd a1 a2 b1 b2 c1 c2 := by unfold sd; grind
/-- c is on the line of a and b, d is not, and a and b are not on one side of the line of c and d -/
theorem geo_I (h1 : sd a1 a2 b1 b2 c1 c2 = 0) (h2 : sd a1 a2 b1 b2 d1 d2 ≠ 0) (h3 : sd c1 c2 d1 d2 a1 a2 * sd c1 c2 d1 d2 b1 b2 ≤ 0) (hac : a1 ≠ c1 ∨ a2 ≠ c2) (hbc : b1 ≠ c1 ∨ b2 ≠ c2) : btw c1 a1 b1 ∧ btw c2 a2 b2 := by
  have hpar : (a1 - c1) * (b2 - c2) = (a2 - c2) * (b1 - c1) := by unfold sd at h1; grind
  have hne : sd c1 c2 d1 d2 a1 a2 ≠ 0 := by
    intro g
    have g2 : (a1 - c1) * (d2 - c2) = (a2 - c2) * (d1 - c1) := by unfold sd at g; grind
    have := geo_par (ux := a1 - c1) (uy := a2 - c2) (by omega) hpar g2
    apply h2
    unfold sd
    grind
  have hne2 : sd c1 c2 d1 d2 b1 b2 ≠ 0 := by
    intro g
    have g2 : (b1 - c1) * (d2 - c2) = (b2 - c2) * (d1 - c1) := by unfold sd at g; grind
    have hpar' : (b1 - c1) * (a2 - c2) = (b2 - c2) * (a1 - c1) := by grind
    have := geo_par (ux := b1 - c1) (uy := b2 - c2) (by omega) hpar' g2
    apply h2
    unfold sd
    grind
  have hE : sd c1 c2 d1 d2 a1 a2 * sd c1 c2 d1 d2 b1 b2 < 0 := by
    rcases Int.lt_or_eq_of_le h3 with g | g
    · exact g
    · rcases Int.mul_eq_zero.mp g with k | k
      · exact absurd k hne
      · exact absurd k hne2
  have hE' : ((d1 - c1) * (a2 - c2) - (d2 - c2) * (a1 - c1)) * ((d1 - c1) * (b2 - c2) - (d2 - c2) * (b1 - c1)) < 0 := hE
  obtain ⟨k1, k2⟩ := geo_L2 hpar hE'
  exact ⟨btw_of k1, btw_of k2⟩
/-- c is between a and b, on their line: a and b are not on one side of a line through c -/
theorem geo_J (h1 : sd a1 a2 b1 b2 c1 c2 = 0) (k1 : btw c1 a1 b1) (k2 : btw c2 a2 b2) : sd c1 c2 d1 d2 a1 a2 * sd c1 c2 d1 d2 b1 b2 ≤ 0 := by
  have hpar : (a1 - c1) * (b2 - c2) = (a2 - c2) * (b1 - c1) := by unfold sd at h1; grind
  exact geo_L1 (wx := d1 - c1) (wy := d2 - c2) hpar (btw_to k1) (btw_to k2)
theorem geo_mono (h1 : sd a1 a2 b1 b2 c1 c2 = 0) (hab : a1 ≠ b1) (k1 : btw c1 a1 b1) : btw c2 a2 b2 := by
  have hpar : (b1 - a1) * (c2 - a2) = (b2 - a2) * (c1 - a1) := by unfold sd at h1; omega
  apply btw_of
  have k := btw_to k1
  -- (b1 - a1)² (a2 - c2)(b2 - c2) = (b2 - a2)² (a1 - c1)(b1 - c1)
  have e : ((b1 - a1) * (b1 - a1)) * ((a2 - c2) * (b2 - c2)) = ((b2 - a2) * (b2 - a2)) * ((a1 - c1) * (b1 - c1)) := by
    have e1 : (b1 - a1) * (a2 - c2) = (b2 - a2) * (a1 - c1) := by grind
    have e2 : (b1 - a1) * (b2 - c2) = (b2 - a2) * (b1 - c1) := by grind
    have : ((b1 - a1) * (b1 - a1)) * ((a2 - c2) * (b2 - c2)) = ((b1 - a1) * (a2 - c2)) * ((b1 - a1) * (b2 - c2)) := by grind
    rw [this, e1, e2]
    grind
  have hs : 0 < (b1 - a1) * (b1 - a1) := by
    have := nl_sq (b1 - a1)
    rcases Int.lt_or_eq_of_le this with g | g
    · exact g
    · rcases Int.mul_eq_zero.mp g.symm with k | k <;> omega
  rcases Int.lt_or_le 0 ((a2 - c2) * (b2 - c2)) with g | g
  · have p1 := Int.mul_pos hs g
    have p2 : ((b2 - a2) * (b2 - a2)) * ((a1 - c1) * (b1 - c1)) ≤ 0 := by
      have q1 := nl_sq (b2 - a2)
      have := Int.mul_nonneg q1 (show 0 ≤ -((a1 - c1) * (b1 - c1)) by omega)
      rw [Int.mul_neg] at this
      omega
    omega
  · exact g
/-- all on one line -/
theorem geo_C1 (h1 : sd a1 a2 b1 b2 c1 c2 = 0) (h2 : sd a1 a2 b1 b2 d1 d2 = 0) (hab : a1 ≠ b1) (hx : ¬ ap a1 b1 c1 d1) : (btw c1 a1 b1 ∧ btw c2 a2 b2) ∨ (btw d1 a1 b1 ∧ btw d2 a2 b2) ∨ (sd c1 c2 d1 d2 a1 a2 = 0 ∧ btw a1 c1 d1 ∧ btw a2 c2 d2) := by
  have h9 : btw c1 a1 b1 ∨ btw d1 a1 b1 ∨ (btw a1 c1 d1 ∧ c1 ≠ d1) := by
    unfold ap at hx
    unfold btw
    omega
  rcases h9 with g | g | g
  · exact Or.inl ⟨g, geo_mono h1 hab g⟩
  · exact Or.inr (Or.inl ⟨g, geo_mono h2 hab g⟩)
  · have h3 : sd c1 c2 d1 d2 a1 a2 = 0 := by
      have p1 : (b1 - a1) * (c2 - a2) = (b2 - a2) * (c1 - a1) := by unfold sd at h1; omega
      have p2 : (b1 - a1) * (d2 - a2) = (b2 - a2) * (d1 - a1) := by unfold sd at h2; omega
      have := geo_par (ux := b1 - a1) (uy := b2 - a2) (by omega) p1 p2
      unfold sd
      grind
    exact Or.inr (Or.inr ⟨h3, g.1, geo_mono h3 g.2 g.1⟩)
theorem ap_sym {a b c d : Int} (h : ¬ ap a b c d) : ¬ ap c d a b := by
  unfold ap at h ⊢
  omega
theorem geo_C (h1 : sd a1 a2 b1 b2 c1 c2 = 0) (h2 : sd a1 a2 b1 b2 d1 d2 = 0) (hab : a1 ≠ b1 ∨ a2 ≠ b2) (hx : ¬ ap a1 b1 c1 d1) (hy : ¬ ap a2 b2 c2 d2) : (btw c1 a1 b1 ∧ btw c2 a2 b2) ∨ (btw d1 a1 b1 ∧ btw d2 a2 b2) ∨ (sd c1 c2 d1 d2 a1 a2 = 0 ∧ btw a1 c1 d1 ∧ btw a2 c2 d2) := by
  rcases hab with hab | hab
  · exact geo_C1 h1 h2 hab hx
  · have q1 : sd a2 a1 b2 b1 c2 c1 = 0 := by rw [sd_swap, h1]; rfl
    have q2 : sd a2 a1 b2 b1 d2 d1 = 0 := by rw [sd_swap, h2]; rfl
    rcases geo_C1 q1 q2 hab hy with g | g | ⟨g0, g⟩
    · exact Or.inl ⟨g.2, g.1⟩
    · exact Or.inr (Or.inl ⟨g.2, g.1⟩)
    · refine Or.inr (Or.inr ⟨?_, g.2, g.1⟩)
      have := sd_swap (a1 := c1) (a2 := c2) (b1 := d1) (b2 := d2) (c1 := a1) (c2 := a2)
      omega
/-- lines that part each other's ends are not apart -/
theorem geo_P1 (h1 : sd a1 a2 b1 b2 c1 c2 * sd a1 a2 b1 b2 d1 d2 < 0) (h2 : sd c1 c2 d1 d2 a1 a2 * sd c1 c2 d1 d2 b1 b2 < 0) : ¬ (a1 < c1 ∧ a1 < d1 ∧ b1 < c1 ∧ b1 < d1) := by
  intro h
  have id1 : sd a1 a2 b1 b2 c1 c2 - sd a1 a2 b1 b2 d1 d2 = sd c1 c2 d1 d2 b1 b2 - sd c1 c2 d1 d2 a1 a2 := by unfold sd; grind
  have id2 : sd a1 a2 b1 b2 c1 c2 * d1 - sd a1 a2 b1 b2 d1 d2 * c1 = sd c1 c2 d1 d2 b1 b2 * a1 - sd c1 c2 d1 d2 a1 a2 * b1 := by unfold sd; grind
  generalize sd a1 a2 b1 b2 c1 c2 = D1 at *
  generalize sd a1 a2 b1 b2 d1 d2 = D2 at *
  generalize sd c1 c2 d1 d2 a1 a2 = D3 at *
  generalize sd c1 c2 d1 d2 b1 b2 = D4 at *
  have key : ∀ (M : Int), a1 ≤ M → b1 ≤ M → M < c1 → M < d1 → False := by
    intro M m1 m2 m3 m4
    have sg : (0 < D1 ∧ D2 < 0) ∨ (D1 < 0 ∧ 0 < D2) := by
      rcases Int.lt_trichotomy D1 0 with g | g | g
      · rcases Int.lt_or_le 0 D2 with g2 | g2
        · exact Or.inr ⟨g, g2⟩
        · have := Int.mul_nonneg (show 0 ≤ -D1 by omega) (show 0 ≤ -D2 by omega)
          rw [Int.neg_mul_neg] at this
          omega
      · subst g
        simp at h1
      · rcases Int.lt_or_le D2 0 with g2 | g2
        · exact Or.inl ⟨g, g2⟩
        · have := Int.mul_nonneg (show 0 ≤ D1 by omega) g2
          omega
    have sg2 : (0 < D3 ∧ D4 < 0) ∨ (D3 < 0 ∧ 0 < D4) := by
      rcases Int.lt_trichotomy D3 0 with g | g | g
      · rcases Int.lt_or_le 0 D4 with g2 | g2
        · exact Or.inr ⟨g, g2⟩
        · have := Int.mul_nonneg (show 0 ≤ -D3 by omega) (show 0 ≤ -D4 by omega)
          rw [Int.neg_mul_neg] at this
          omega
      · subst g
        simp at h2
      · rcases Int.lt_or_le D4 0 with g2 | g2
        · exact Or.inl ⟨g, g2⟩
        · have := Int.mul_nonneg (show 0 ≤ D3 by omega) g2
          omega
    have idM : D1 * M - D2 * M = D4 * M - D3 * M := by rw [← Int.sub_mul, ← Int.sub_mul, id1]
    rcases sg with ⟨s1, s2⟩ | ⟨s1, s2⟩
    · have s3 : D3 < 0 ∧ 0 < D4 := by omega
      have p1 := Int.mul_pos s1 (show 0 < d1 - M by omega)
      have p2 := Int.mul_pos (show 0 < -D2 by omega) (show 0 < c1 - M by omega)
      have p3 := Int.mul_nonneg (show 0 ≤ D4 by omega) (show 0 ≤ M - a1 by omega)
      have p4 := Int.mul_nonneg (show 0 ≤ -D3 by omega) (show 0 ≤ M - b1 by omega)
      rw [Int.mul_sub] at p1 p2 p3 p4
      rw [Int.neg_mul, Int.neg_mul] at p2 p4
      omega
    · have s3 : 0 < D3 ∧ D4 < 0 := by omega
      have p1 := Int.mul_pos (show 0 < -D1 by omega) (show 0 < d1 - M by omega)
      have p2 := Int.mul_pos s2 (show 0 < c1 - M by omega)
      have p3 := Int.mul_nonneg (show 0 ≤ -D4 by omega) (show 0 ≤ M - a1 by omega)
      have p4 := Int.mul_nonneg (show 0 ≤ D3 by omega) (show 0 ≤ M - b1 by omega)
      rw [Int.mul_sub] at p1 p2 p3 p4
      rw [Int.neg_mul, Int.neg_mul] at p1 p3
      omega
  rcases Int.lt_or_le a1 b1 with g | g
  · exact key b1 (by omega) (by omega) (by omega) (by omega)
  · exact key a1 (by omega) (by omega) (by omega) (by omega)
end GEO2
