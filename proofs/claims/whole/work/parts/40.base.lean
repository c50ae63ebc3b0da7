/-! ===== the mathematics: what each method answers, over the store ===== -/
theorem up_c {σ : rx_St} {c : Nat} {i v : Int} {c' : Nat} (h : c' ≠ c) : rx_up σ c i v c' = σ c' := rx_up_ne h
theorem up_s {σ : rx_St} {c : Nat} {i v : Int} : rx_up σ c i v c i = v := if_pos ⟨rfl, rfl⟩
theorem up_i {σ : rx_St} {c : Nat} {i v i' : Int} (h : i' ≠ i) : rx_up σ c i v c i' = σ c i' := if_neg (fun g => h g.2)
/-- the first number from p on, k numbers long, of which f holds; -1 -/
def rs_find (f : Int → Bool) : Int → Nat → Int
  | _, 0 => -1
  | p, k + 1 => if f p = true then p else rs_find f (p + 1) k
theorem rs_find_congr {f g : Int → Bool} : ∀ (k : Nat) (p : Int), (∀ q, p ≤ q → q < p + k → f q = g q) → rs_find f p k = rs_find g p k
  | 0, _, _ => rfl
  | k + 1, p, h => by
    unfold rs_find
    rw [h p (by omega) (by omega), rs_find_congr k (p + 1) (fun q h1 h2 => h q (by omega) (by omega))]
theorem rs_find_spec {f : Int → Bool} : ∀ (k : Nat) (p : Int), (rs_find f p k = -1 ∧ ∀ q, p ≤ q → q < p + k → f q = false) ∨ (p ≤ rs_find f p k ∧ rs_find f p k < p + k ∧ f (rs_find f p k) = true)
  | 0, p => Or.inl ⟨rfl, fun q h1 h2 => by omega⟩
  | k + 1, p => by
    unfold rs_find
    by_cases c : f p = true
    · rw [if_pos c]
      exact Or.inr ⟨by omega, by omega, c⟩
    · rw [if_neg c]
      rcases rs_find_spec (f := f) k (p + 1) with ⟨h1, h2⟩ | ⟨h1, h2, h3⟩
      · refine Or.inl ⟨h1, fun q a b => ?_⟩
        by_cases e : q = p
        · rw [e]
          simpa using c
        · exact h2 q (by omega) (by omega)
      · exact Or.inr ⟨by omega, by omega, h3⟩
section BASE
variable {L d : Nat} {σ : rx_St} {K : Int → rx_St → Prop} {KV : rx_St → Prop}
theorem s_isPost {A : Nat} (hA : rx_isO 1 A = true) {p : Int} (h1 : 0 ≤ p ∧ p < σ A 0 → K 1 σ) (h0 : ¬ (0 ≤ p ∧ p < σ A 0) → K 0 σ) : rx_CI L d mX1_isPost [.inr A, .inl p] σ K := by
  refine bX1_isPost L d A hA p σ K ?_
  repeat' split
  all_goals first | exact h1 (by omega) | exact h0 (by omega)
theorem s_isRoad {A : Nat} (hA : rx_isO 1 A = true) {p : Int} (h1 : 0 ≤ p ∧ p < σ A 6 → K 1 σ) (h0 : ¬ (0 ≤ p ∧ p < σ A 6) → K 0 σ) : rx_CI L d mX1_isRoad [.inr A, .inl p] σ K := by
  refine bX1_isRoad L d A hA p σ K ?_
  repeat' split
  all_goals first | exact h1 (by omega) | exact h0 (by omega)
theorem s_isPlace {x y : Int} (h1 : (0 ≤ x ∧ x < 100) ∧ 0 ≤ y ∧ y < 100 → K 1 σ) (h0 : ¬ ((0 ≤ x ∧ x < 100) ∧ 0 ≤ y ∧ y < 100) → K 0 σ) : rx_CI L d mX10_isPlace [.inl x, .inl y] σ K := by
  refine bX10_isPlace L d x y σ K ?_
  repeat' split
  all_goals first | exact h1 (by omega) | exact h0 (by omega)
/-- where a post stands -/
def rs_at (V : Nat → Int → Int) (x y : Int) : Int := rs_find (fun p => decide (V 1 p = x ∧ V 2 p = y)) 0 (V 0 0).toNat
theorem s_postAt {A : Nat} (hA : rx_isO 1 A = true) {x y : Int} (hn : 0 ≤ σ A 0 ∧ σ A 0 ≤ 8) (h : K (rs_at (fun k => σ (A + k)) x y) σ) : rx_CI L d mX1_postAt [.inr A, .inl x, .inl y] σ K := by
  refine bX1_postAt L d A hA x y σ K ?_
  have key : ∀ (k : Nat) (p : Int), 0 ≤ p → p + k = σ A 0 → K (rs_find (fun p => decide (σ (A + 1) p = x ∧ σ (A + 2) p = y)) p k) σ → rx_Go L d mX1_postAt 2 [some (.inr A), some (.inl x), some (.inl y), some (.inl p)] [] σ (rx_PI K) := by
    intro k
    induction k with
    | zero =>
      intro p h0 hp hK
      refine bX1_postAt_2 L d A hA x y p σ K ?_
      rw [if_pos (by omega)]
      exact hK
    | succ k ih =>
      intro p h0 hp hK
      refine bX1_postAt_2 L d A hA x y p σ K ?_
      rw [if_neg (by omega)]
      refine ⟨by omega, ?_⟩
      rw [rx_w_of (by omega) (by omega)]
      unfold rs_find at hK
      by_cases c1 : σ (A + 1) p = x
      · rw [if_neg (fun q => q c1)]
        by_cases c2 : σ (A + 2) p = y
        · rw [if_neg (fun q => q c2)]
          rw [if_pos (by simp [c1, c2])] at hK
          exact hK
        · rw [if_pos c2]
          rw [if_neg (by simp [c2])] at hK
          exact ih (p + 1) (by omega) (by omega) hK
      · rw [if_pos c1]
        rw [if_neg (by simp [c1])] at hK
        exact ih (p + 1) (by omega) (by omega) hK
  exact key (σ A 0).toNat 0 (by omega) (by omega) h
theorem s_putInLine {A : Nat} (hA : rx_isO 1 A = true) {i p : Int} (hi : 0 ≤ i ∧ i < 8) (hp : 0 ≤ p ∧ p < 8) (h : KV (rx_up (rx_up σ (A + 4) i p) (A + 5) p i)) : rx_CV L d mX1_putInLine [.inr A, .inl i, .inl p] σ KV :=
  bX1_putInLine L d A hA i p σ KV ⟨hi, hp, h⟩
theorem s_postRefusal {A : Nat} (hA : rx_isO 1 A = true) {x y : Int} (hn : 0 ≤ σ A 0 ∧ σ A 0 ≤ 8)
    (hb : ¬ ((0 ≤ x ∧ x < 100) ∧ 0 ≤ y ∧ y < 100) → K (-1000000001) σ) (hno : ((0 ≤ x ∧ x < 100) ∧ 0 ≤ y ∧ y < 100) → 0 ≤ rs_at (fun k => σ (A + k)) x y → K (-1000000002) σ)
    (hf : ((0 ≤ x ∧ x < 100) ∧ 0 ≤ y ∧ y < 100) → rs_at (fun k => σ (A + k)) x y < 0 → σ A 0 = 8 → K (-1000000003) σ) (hk : ((0 ≤ x ∧ x < 100) ∧ 0 ≤ y ∧ y < 100) → rs_at (fun k => σ (A + k)) x y < 0 → σ A 0 < 8 → K 0 σ) :
    rx_CI L (d + 1) mX1_postRefusal [.inr A, .inl x, .inl y] σ K := by
  refine bX1_postRefusal L d A hA x y σ K ?_
  refine s_isPlace (fun c => ?_) (fun c => ?_)
  · rw [if_pos (by decide)]
    refine s_postAt hA hn ?_
    repeat' split
    · exact hk c (by assumption) (by assumption)
    · exact hf c (by assumption) (by omega)
    · exact hno c (by omega)
  · rw [if_neg (by decide)]
    exact hb c
theorem s_addPost {A : Nat} (hA : rx_isO 1 A = true) {x y : Int} (hn : 0 ≤ σ A 0 ∧ σ A 0 < 8)
    (h : K (σ A 0) (rx_up (rx_up (rx_up (rx_up (rx_up (rx_up σ A 0 (σ A 0 + 1)) (A + 1) (σ A 0) x) (A + 2) (σ A 0) y) (A + 3) (σ A 0) 0) (A + 4) (σ A 0) (σ A 0)) (A + 5) (σ A 0) (σ A 0))) : rx_CI L (d + 1) mX1_addPost [.inr A, .inl x, .inl y] σ K := by
  refine bX1_addPost L d A hA x y σ K ⟨hn, ?_⟩
  rw [rx_w_of (by omega) (by omega)]
  exact s_putInLine hA hn hn h
end BASE
