/-- how many numbers from p on, k numbers long, f holds of -/
def rs_cnt (f : Int → Bool) : Int → Nat → Int
  | _, 0 => 0
  | p, k + 1 => (if f p = true then 1 else 0) + rs_cnt f (p + 1) k
theorem rs_cnt_congr {f g : Int → Bool} : ∀ (k : Nat) (p : Int), (∀ q, p ≤ q → q < p + k → f q = g q) → rs_cnt f p k = rs_cnt g p k
  | 0, _, _ => rfl
  | k + 1, p, h => by
    unfold rs_cnt
    rw [h p (by omega) (by omega), rs_cnt_congr k (p + 1) (fun q h1 h2 => h q (by omega) (by omega))]
theorem rs_cnt_le {f : Int → Bool} : ∀ (k : Nat) (p : Int), 0 ≤ rs_cnt f p k ∧ rs_cnt f p k ≤ k
  | 0, _ => ⟨Int.le_refl 0, Int.le_refl 0⟩
  | k + 1, p => by
    unfold rs_cnt
    have := rs_cnt_le (f := f) k (p + 1)
    split <;> omega
/-- whether f holds of one of them -/
def rs_any (f : Int → Bool) : Int → Nat → Bool
  | _, 0 => false
  | p, k + 1 => f p || rs_any f (p + 1) k
theorem rs_any_congr {f g : Int → Bool} : ∀ (k : Nat) (p : Int), (∀ q, p ≤ q → q < p + k → f q = g q) → rs_any f p k = rs_any g p k
  | 0, _, _ => rfl
  | k + 1, p, h => by
    unfold rs_any
    rw [h p (by omega) (by omega), rs_any_congr k (p + 1) (fun q h1 h2 => h q (by omega) (by omega))]
theorem rs_any_iff {f : Int → Bool} : ∀ (k : Nat) (p : Int), rs_any f p k = true ↔ ∃ q, p ≤ q ∧ q < p + k ∧ f q = true
  | 0, p => ⟨(fun h => by cases h), (fun ⟨q, h1, h2, _⟩ => by omega)⟩
  | k + 1, p => by
    unfold rs_any
    rw [Bool.or_eq_true, rs_any_iff k (p + 1)]
    constructor
    · rintro (h | ⟨q, h1, h2, h3⟩)
      · exact ⟨p, by omega, by omega, h⟩
      · exact ⟨q, by omega, by omega, h3⟩
    · rintro ⟨q, h1, h2, h3⟩
      by_cases e : q = p
      · exact Or.inl (e ▸ h3)
      · exact Or.inr ⟨q, by omega, by omega, h3⟩
section LAND
variable {L d : Nat} {σ : rx_St} {K : Int → rx_St → Prop} {KV : rx_St → Prop}
theorem s_isKind {x : Int} (h1 : 0 ≤ x ∧ x < 6 → K 1 σ) (h0 : ¬ (0 ≤ x ∧ x < 6) → K 0 σ) : rx_CI L d mX10_isKind [.inl x] σ K := by
  refine bX10_isKind L d x σ K ?_
  repeat' split
  all_goals first | exact h1 (by omega) | exact h0 (by omega)
theorem s_isLayer {x : Int} (h1 : 0 ≤ x ∧ x < 4 → K 1 σ) (h0 : ¬ (0 ≤ x ∧ x < 4) → K 0 σ) : rx_CI L d mX10_isLayer [.inl x] σ K := by
  refine bX10_isLayer L d x σ K ?_
  repeat' split
  all_goals first | exact h1 (by omega) | exact h0 (by omega)
theorem s_isPage {x : Int} (h1 : 0 ≤ x ∧ x < 4 → K 1 σ) (h0 : ¬ (0 ≤ x ∧ x < 4) → K 0 σ) : rx_CI L d mX10_isPage [.inl x] σ K := by
  refine bX10_isPage L d x σ K ?_
  repeat' split
  all_goals first | exact h1 (by omega) | exact h0 (by omega)
theorem s_isSheet {x : Int} (h1 : 0 ≤ x ∧ x < 4 → K 1 σ) (h0 : ¬ (0 ≤ x ∧ x < 4) → K 0 σ) : rx_CI L d mX10_isSheet [.inl x] σ K := by
  refine bX10_isSheet L d x σ K ?_
  repeat' split
  all_goals first | exact h1 (by omega) | exact h0 (by omega)
theorem s_isSlot {x : Int} (h1 : 0 ≤ x ∧ x < 5 → K 1 σ) (h0 : ¬ (0 ≤ x ∧ x < 5) → K 0 σ) : rx_CI L d mX10_isSlot [.inl x] σ K := by
  refine bX10_isSlot L d x σ K ?_
  repeat' split
  all_goals first | exact h1 (by omega) | exact h0 (by omega)
theorem s_isWeight {x : Int} (h1 : 1 ≤ x ∧ x ≤ 9 → K 1 σ) (h0 : ¬ (1 ≤ x ∧ x ≤ 9) → K 0 σ) : rx_CI L d mX10_isWeight [.inl x] σ K := by
  refine bX10_isWeight L d x σ K ?_
  repeat' split
  all_goals first | exact h1 (by omega) | exact h0 (by omega)
theorem s_roadsFrom {A : Nat} (hA : rx_isO 1 A = true) {x : Int} (hm : 0 ≤ σ A 6 ∧ σ A 6 ≤ 18) (h : K (rs_cnt (fun r => decide (σ (A + 7) r = x ∨ σ (A + 8) r = x)) 0 (σ A 6).toNat) σ) : rx_CI L d mX1_roadsFrom [.inr A, .inl x] σ K := by
  refine bX1_roadsFrom L d A hA x σ K ?_
  have key : ∀ (k : Nat) (r c : Int), 0 ≤ r → r + k = σ A 6 → 0 ≤ c → c ≤ r → K (c + rs_cnt (fun r => decide (σ (A + 7) r = x ∨ σ (A + 8) r = x)) r k) σ → rx_Go L d mX1_roadsFrom 4 [some (.inr A), some (.inl x), some (.inl c), some (.inl r)] [] σ (rx_PI K) := by
    intro k
    induction k with
    | zero =>
      intro r c h0 hr hc0 hc1 hK
      refine bX1_roadsFrom_4 L d A hA x c r σ K ?_
      rw [if_pos (by omega)]
      simpa [rs_cnt] using hK
    | succ k ih =>
      intro r c h0 hr hc0 hc1 hK
      refine bX1_roadsFrom_4 L d A hA x c r σ K ?_
      rw [if_neg (by omega)]
      refine ⟨by omega, ?_⟩
      rw [rx_w_of (x := r + 1) (by omega) (by omega), rx_w_of (x := c + 1) (by omega) (by omega)]
      unfold rs_cnt at hK
      by_cases c1 : σ (A + 7) r = x
      · rw [if_pos c1]
        rw [if_pos (by simp [c1])] at hK
        exact ih (r + 1) (c + 1) (by omega) (by omega) (by omega) (by omega) (by rw [Int.add_assoc]; exact hK)
      · rw [if_neg c1]
        by_cases c2 : σ (A + 8) r = x
        · rw [if_neg (fun q => q c2)]
          rw [if_pos (by simp [c2])] at hK
          exact ih (r + 1) (c + 1) (by omega) (by omega) (by omega) (by omega) (by rw [Int.add_assoc]; exact hK)
        · rw [if_pos c2]
          rw [if_neg (by simp [c1, c2])] at hK
          exact ih (r + 1) c (by omega) (by omega) hc0 (by omega) (by rw [Int.zero_add] at hK; exact hK)
  exact key (σ A 6).toNat 0 0 (by omega) (by omega) (by omega) (by omega) (by rw [Int.zero_add]; exact h)
/-- whether there is a road between two posts -/
def rs_has (V : Nat → Int → Int) (x y : Int) : Bool := rs_any (fun r => decide (V 7 r = rx_mn x y ∧ V 8 r = rx_mx x y)) 0 (V 0 6).toNat
theorem s_hasRoad {A : Nat} (hA : rx_isO 1 A = true) {x y : Int} (hm : 0 ≤ σ A 6 ∧ σ A 6 ≤ 18) (h1 : rs_has (fun k => σ (A + k)) x y = true → K 1 σ) (h0 : rs_has (fun k => σ (A + k)) x y = false → K 0 σ) : rx_CI L d mX1_hasRoad [.inr A, .inl x, .inl y] σ K := by
  refine bX1_hasRoad L d A hA x y σ K ?_
  have key : ∀ (k : Nat) (r : Int), 0 ≤ r → r + k = σ A 6 → (rs_any (fun r => decide (σ (A + 7) r = rx_mn x y ∧ σ (A + 8) r = rx_mx x y)) r k = true → K 1 σ) → (rs_any (fun r => decide (σ (A + 7) r = rx_mn x y ∧ σ (A + 8) r = rx_mx x y)) r k = false → K 0 σ) → rx_Go L d mX1_hasRoad 16 [some (.inr A), some (.inl x), some (.inl y), some (.inl (rx_mn x y)), some (.inl (rx_mx x y)), some (.inl r)] [] σ (rx_PI K) := by
    intro k
    induction k with
    | zero =>
      intro r h0 hr k1 k0
      refine bX1_hasRoad_16 L d A hA _ _ _ _ r σ K ?_
      rw [if_pos (by omega)]
      exact k0 rfl
    | succ k ih =>
      intro r h0 hr k1 k0
      refine bX1_hasRoad_16 L d A hA _ _ _ _ r σ K ?_
      rw [if_neg (by omega)]
      refine ⟨by omega, ?_⟩
      rw [rx_w_of (by omega) (by omega)]
      unfold rs_any at k1 k0
      by_cases c1 : σ (A + 7) r = rx_mn x y
      · rw [if_neg (fun q => q c1)]
        by_cases c2 : σ (A + 8) r = rx_mx x y
        · rw [if_neg (fun q => q c2)]
          exact k1 (by simp [c1, c2])
        · rw [if_pos c2]
          exact ih (r + 1) (by omega) (by omega) (fun g => k1 (by rw [g, Bool.or_true])) (fun g => k0 (by rw [g, Bool.or_false]; exact decide_eq_false (fun q => c2 q.2)))
      · rw [if_pos c1]
        exact ih (r + 1) (by omega) (by omega) (fun g => k1 (by rw [g, Bool.or_true])) (fun g => k0 (by rw [g, Bool.or_false]; exact decide_eq_false (fun q => c1 q.1)))
  exact key (σ A 6).toNat 0 (by omega) (by omega) h1 h0
theorem s_roadRefusal {A : Nat} (hA : rx_isO 1 A = true) {x y : Int} (hm : 0 ≤ σ A 6 ∧ σ A 6 ≤ 18)
    (hb : ¬ ((0 ≤ x ∧ x < σ A 0) ∧ (0 ≤ y ∧ y < σ A 0) ∧ x ≠ y) → K (-1000000001) σ) (hno : ((0 ≤ x ∧ x < σ A 0) ∧ (0 ≤ y ∧ y < σ A 0) ∧ x ≠ y) → rs_has (fun k => σ (A + k)) x y = true → K (-1000000002) σ)
    (hf : ((0 ≤ x ∧ x < σ A 0) ∧ (0 ≤ y ∧ y < σ A 0) ∧ x ≠ y) → rs_has (fun k => σ (A + k)) x y = false → σ A 6 = 18 → K (-1000000003) σ) (hk : ((0 ≤ x ∧ x < σ A 0) ∧ (0 ≤ y ∧ y < σ A 0) ∧ x ≠ y) → rs_has (fun k => σ (A + k)) x y = false → σ A 6 < 18 → K 0 σ) :
    rx_CI L (d + 1) mX1_roadRefusal [.inr A, .inl x, .inl y] σ K := by
  refine bX1_roadRefusal L d A hA x y σ K ?_
  refine s_isPost hA (fun c => ?_) (fun c => ?_)
  · rw [if_neg (by decide)]
    refine s_isPost hA (fun c2 => ?_) (fun c2 => ?_)
    · rw [if_neg (by decide)]
      by_cases e : x = y
      · rw [if_neg (fun q => q e)]
        exact hb (fun q => q.2.2 e)
      · rw [if_pos e]
        refine s_hasRoad hA hm (fun g => ?_) (fun g => ?_)
        · rw [if_neg (by decide)]
          exact hno ⟨c, c2, e⟩ g
        · rw [if_pos rfl]
          split
          · exact hk ⟨c, c2, e⟩ g (by assumption)
          · exact hf ⟨c, c2, e⟩ g (by omega)
    · rw [if_pos rfl]
      exact hb (fun q => c2 q.2.1)
  · rw [if_pos rfl]
    exact hb (fun q => c q.1)
end LAND
