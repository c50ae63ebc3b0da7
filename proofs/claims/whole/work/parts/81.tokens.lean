/-! ===== reading a text: the tokens ===== -/
def rd_b (t : Int → Int) (lo hi : Int) : Nat → Int → Int
  | 0, i => i
  | k + 1, i => if lo ≤ t i ∧ t i ≤ hi then rd_b t lo hi k (i + 1) else i
def rd_h (t : Int → Int) (n lo hi i : Int) : Int := rd_b t lo hi (n - i).toNat i
theorem rd_b_b {t : Int → Int} {lo hi : Int} : ∀ (k : Nat) (i : Int), i ≤ rd_b t lo hi k i ∧ rd_b t lo hi k i ≤ i + k
  | 0, i => by
    show i ≤ i ∧ i ≤ i + ((0 : Nat) : Int)
    omega
  | k + 1, i => by
    unfold rd_b
    have := rd_b_b (t := t) (lo := lo) (hi := hi) k (i + 1)
    split <;> omega
theorem rd_h_b {t : Int → Int} {n lo hi i : Int} (h : i ≤ n) : i ≤ rd_h t n lo hi i ∧ rd_h t n lo hi i ≤ n := by
  have := rd_b_b (t := t) (lo := lo) (hi := hi) (n - i).toNat i
  unfold rd_h
  omega
theorem rd_h_y {t : Int → Int} {n lo hi i : Int} (h : i < n) (hy : lo ≤ t i ∧ t i ≤ hi) : rd_h t n lo hi i = rd_h t n lo hi (i + 1) := by
  unfold rd_h
  rw [show (n - i).toNat = (n - (i + 1)).toNat + 1 by omega]
  exact if_pos hy
theorem rd_h_n {t : Int → Int} {n lo hi i : Int} (h : i < n) (hy : ¬ (lo ≤ t i ∧ t i ≤ hi)) : rd_h t n lo hi i = i := by
  unfold rd_h
  rw [show (n - i).toNat = (n - (i + 1)).toNat + 1 by omega]
  exact if_neg hy
theorem rd_h_e {t : Int → Int} {n lo hi i : Int} (h : n ≤ i) : rd_h t n lo hi i = i := by
  unfold rd_h
  rw [show (n - i).toNat = 0 by omega]
  rfl
/-- the kind of what begins at f: -1 the end, -2 letters, -3 figures, else the byte -/
def rd_k (t : Int → Int) (n f : Int) : Int := if f < n then (if 97 ≤ t f ∧ t f ≤ 122 then -2 else if 48 ≤ t f ∧ t f ≤ 57 then -3 else t f) else -1
def rd_t (t : Int → Int) (n f : Int) : Int := if f < n then (if 97 ≤ t f ∧ t f ≤ 122 then rd_h t n 97 122 f else if 48 ≤ t f ∧ t f ≤ 57 then rd_h t n 48 57 f else f + 1) else n
/-- the kind of the token behind one of kind k that ends at e -/
def rd_K (t : Int → Int) (n k e : Int) : Int := if (k = -2 ∨ k = -3) ∧ rd_h t n 32 32 e = e ∧ (rd_k t n (rd_h t n 32 32 e) = -2 ∨ rd_k t n (rd_h t n 32 32 e) = -3) then -4 else rd_k t n (rd_h t n 32 32 e)
section TOK
variable {L d : Nat} {σ : rx_St} {K : Int → rx_St → Prop} {KV : rx_St → Prop} {t : Int → Int} {n : Int}
theorem c_wthn {x lo hi : Int} (h1 : lo ≤ x ∧ x ≤ hi → K 1 σ) (h0 : ¬ (lo ≤ x ∧ x ≤ hi) → K 0 σ) : rx_CI L d mX5_isWithin [.inl x, .inl lo, .inl hi] σ K := by
  refine bX5_isWithin L d x lo hi σ K ?_
  by_cases c1 : x < lo
  · rw [if_pos c1]
    exact h0 (by omega)
  rw [if_neg c1]
  by_cases c2 : hi < x
  · rw [if_pos c2]
    exact h0 (by omega)
  · rw [if_neg c2]
    exact h1 (by omega)
theorem c_behindRow (hn : 0 ≤ n ∧ n ≤ 96) (h0 : σ 34 0 = n) (ht : σ 36 = t) {i lo hi : Int} (hi0 : 0 ≤ i) (hi1 : i ≤ n) (h : K (rd_h t n lo hi i) σ) : rx_CI L (d + 1) mX5_behindRow [.inr 34, .inl i, .inl lo, .inl hi] σ K := by
  refine bX5_behindRow L d i lo hi σ K ?_
  have key : ∀ (k : Nat) (j : Int) (q1 : Option rx_V), 0 ≤ j → j + k = n → rd_h t n lo hi j = rd_h t n lo hi i → rx_Go L (d + 1) mX5_behindRow 3 [some (.inr 34), q1, some (.inl lo), some (.inl hi), some (.inl j)] [] σ (rx_PI K) := by
    intro k
    induction k with
    | zero =>
      intro j q1 j0 hj e
      refine bX5_behindRow_3 L d q1 lo hi j σ K ?_
      rw [h0, if_pos (by omega)]
      rw [rd_h_e (by omega)] at e
      rw [← e, show j = n by omega] at h
      exact h
    | succ k ih =>
      intro j q1 j0 hj e
      refine bX5_behindRow_3 L d q1 lo hi j σ K ?_
      rw [h0, if_neg (by omega), ht]
      refine ⟨by omega, c_wthn (fun c => ?_) (fun c => ?_)⟩
      · rw [if_pos (by decide), rx_w_of (by omega) (by omega)]
        exact ih (j + 1) q1 (by omega) (by omega) (by rw [← rd_h_y (by omega) c]; exact e)
      · rw [if_neg (by decide)]
        rw [rd_h_n (by omega) c] at e
        rw [← e] at h
        exact h
  exact key (n - i).toNat i _ hi0 (by omega) rfl
theorem rd_kt {f : Int} (hf : 0 ≤ f ∧ f ≤ n) : f ≤ rd_t t n f ∧ rd_t t n f ≤ n ∧ (f < n → f < rd_t t n f) := by
  unfold rd_t
  by_cases c : f < n
  · rw [if_pos c]
    by_cases c1 : 97 ≤ t f ∧ t f ≤ 122
    · rw [if_pos c1, rd_h_y c c1]
      have := rd_h_b (t := t) (lo := 97) (hi := 122) (show f + 1 ≤ n by omega)
      omega
    rw [if_neg c1]
    by_cases c2 : 48 ≤ t f ∧ t f ≤ 57
    · rw [if_pos c2, rd_h_y c c2]
      have := rd_h_b (t := t) (lo := 48) (hi := 57) (show f + 1 ≤ n by omega)
      omega
    · rw [if_neg c2]
      omega
  · rw [if_neg c]
    omega
theorem c_next (hn : 0 ≤ n ∧ n ≤ 96) (h0 : σ 34 0 = n) (ht : σ 36 = t) (htb : ∀ i, 0 ≤ i → i < n → 0 ≤ t i ∧ t i ≤ 255) (he : 0 ≤ σ 34 8 ∧ σ 34 8 ≤ n) (h : ∀ σ', σ' 34 6 = rd_K t n (σ 34 6) (σ 34 8) → σ' 34 7 = rd_h t n 32 32 (σ 34 8) → σ' 34 8 = rd_t t n (rd_h t n 32 32 (σ 34 8)) → (∀ i, i ≠ 6 → i ≠ 7 → i ≠ 8 → σ' 34 i = σ 34 i) → (∀ c, c ≠ 34 → σ' c = σ c) → KV σ') : rx_CV L (d + 3) mX5_next [.inr 34] σ KV := by
  have hb := rd_h_b (t := t) (lo := 32) (hi := 32) he.2
  generalize ek : σ 34 6 = k at *
  generalize ee : σ 34 8 = e at *
  generalize ef : rd_h t n 32 32 e = f at *
  -- the end
  have fin : ∀ (x2 : Int) (σ1 : rx_St), (x2 = 0 ∨ x2 = 1) → (x2 = 1 ↔ (k = -2 ∨ k = -3)) → σ1 34 6 = rd_k t n f → σ1 34 7 = f → σ1 34 8 = rd_t t n f → (∀ i, i ≠ 6 → i ≠ 7 → i ≠ 8 → σ1 34 i = σ 34 i) → (∀ c, c ≠ 34 → σ1 c = σ c) → rx_Go L (d + 3) mX5_next 180 [some (.inr 34), some (.inl e), some (.inl x2)] [] σ1 (rx_PV KV) := by
    intro x2 σ1 hx hxk a1 a2 a3 a4 a5
    have stuck : ∀ q1 q2, ((k = -2 ∨ k = -3) ∧ f = e ∧ (rd_k t n f = -2 ∨ rd_k t n f = -3)) → rx_Go L (d + 3) mX5_next 210 [some (.inr 34), q1, q2] [] σ1 (rx_PV KV) := by
      intro q1 q2 hq
      refine bX5_next_210 L (d + 2) q1 q2 σ1 KV ?_
      refine h _ ?_ (by rw [up_i (by decide)]; exact a2) (by rw [up_i (by decide)]; exact a3) (fun i h1 h2 h3 => by rw [up_i h1]; exact a4 i h1 h2 h3) (fun c hc => by rw [up_c hc]; exact a5 c hc)
      rw [up_s]
      unfold rd_K
      rw [ef, if_pos hq]
    have keep : ¬ ((k = -2 ∨ k = -3) ∧ f = e ∧ (rd_k t n f = -2 ∨ rd_k t n f = -3)) → KV σ1 := by
      intro hq
      refine h σ1 ?_ a2 a3 a4 a5
      unfold rd_K
      rw [ef, if_neg hq]
      exact a1
    refine bX5_next_180 L (d + 2) e x2 σ1 KV ?_
    rw [a1, a2]
    by_cases c1 : x2 = 0
    · rw [if_pos c1]
      exact keep (fun q => by have := hxk.mpr q.1; omega)
    rw [if_neg c1]
    by_cases c2 : f = e
    · rw [if_neg (fun q => q c2)]
      by_cases c3 : rd_k t n f = -2
      · rw [if_pos c3]
        exact stuck _ _ ⟨hxk.mp (by omega), c2, Or.inl c3⟩
      rw [if_neg c3]
      by_cases c4 : rd_k t n f = -3
      · rw [if_neg (fun q => q c4)]
        exact stuck _ _ ⟨hxk.mp (by omega), c2, Or.inr c4⟩
      · rw [if_pos c4]
        exact keep (fun q => by omega)
    · rw [if_pos c2]
      exact keep (fun q => c2 q.2.1)
  have main : ∀ x2 : Int, (x2 = 0 ∨ x2 = 1) → (x2 = 1 ↔ (k = -2 ∨ k = -3)) → rx_Go L (d + 3) mX5_next 29 [some (.inr 34), some (.inl e), some (.inl x2)] [] σ (rx_PV KV) := by
    intro x2 hx hxk
    refine bX5_next_29 L (d + 2) e x2 σ KV ?_
    refine c_behindRow (d := d + 1) hn h0 ht he.1 he.2 ?_
    rw [ef]
    have g0 : rx_up σ 34 7 f 34 0 = n := by rw [up_i (by decide)]; exact h0
    have g7 : rx_up σ 34 7 f 34 7 = f := up_s
    have g36 : rx_up σ 34 7 f 36 = t := by rw [up_c (by decide)]; exact ht
    have go : ∀ i, i ≠ 7 → rx_up σ 34 7 f 34 i = σ 34 i := fun i hi => up_i hi
    have gc : ∀ c, c ≠ 34 → rx_up σ 34 7 f c = σ c := fun c hc => up_c hc
    generalize rx_up σ 34 7 f = σ1 at *
    rw [g0, g7]
    by_cases c : f < n
    · rw [if_pos c]
      refine ⟨by omega, ?_⟩
      rw [g36]
      have ek2 : rd_k t n f = if 97 ≤ t f ∧ t f ≤ 122 then -2 else if 48 ≤ t f ∧ t f ≤ 57 then -3 else t f := if_pos c
      have et2 : rd_t t n f = if 97 ≤ t f ∧ t f ≤ 122 then rd_h t n 97 122 f else if 48 ≤ t f ∧ t f ≤ 57 then rd_h t n 48 57 f else f + 1 := if_pos c
      refine c_wthn (fun c1 => ?_) (fun c1 => ?_)
      · rw [if_neg (by decide), g7]
        refine c_behindRow (d := d + 1) hn g0 g36 (by omega) (by omega) ?_
        rw [if_pos c1] at ek2 et2
        refine fin x2 _ hx hxk (by rw [up_s, ek2]) (by rw [up_i (by decide), up_i (by decide)]; exact g7) (by rw [up_i (by decide), up_s, et2]) (fun i h1 h2 h3 => by rw [up_i h1, up_i h3]; exact go i h2) (fun c hc => by rw [up_c hc, up_c hc]; exact gc c hc)
      · rw [if_pos rfl, g7, g36]
        rw [if_neg c1] at ek2 et2
        refine ⟨by omega, ?_⟩
        refine c_wthn (fun c2 => ?_) (fun c2 => ?_)
        · rw [if_neg (by decide), g7]
          refine c_behindRow (d := d + 1) hn g0 g36 (by omega) (by omega) ?_
          rw [if_pos c2] at ek2 et2
          refine fin x2 _ hx hxk (by rw [up_s, ek2]) (by rw [up_i (by decide), up_i (by decide)]; exact g7) (by rw [up_i (by decide), up_s, et2]) (fun i h1 h2 h3 => by rw [up_i h1, up_i h3]; exact go i h2) (fun c hc => by rw [up_c hc, up_c hc]; exact gc c hc)
        · rw [if_pos rfl, rx_w_of (by omega) (by omega), up_i (show (7 : Int) ≠ 8 by decide), g7, up_c (show (36 : Nat) ≠ 34 by decide), g36]
          rw [if_neg c2] at ek2 et2
          refine ⟨by omega, fin x2 _ hx hxk (by rw [up_s, ek2]) (by rw [up_i (by decide), up_i (by decide)]; exact g7) (by rw [up_i (by decide), up_s, et2]) (fun i h1 h2 h3 => by rw [up_i h1, up_i h3]; exact go i h2) (fun c hc => by rw [up_c hc, up_c hc]; exact gc c hc)⟩
    · rw [if_neg c]
      have ek2 : rd_k t n f = -1 := if_neg c
      have et2 : rd_t t n f = n := if_neg c
      refine fin x2 _ hx hxk (by rw [up_s, ek2]) (by rw [up_i (by decide), up_i (by decide)]; exact g7) (by rw [up_i (by decide), up_s, et2]) (fun i h1 h2 h3 => by rw [up_i h1, up_i h3]; exact go i h2) (fun c hc => by rw [up_c hc, up_c hc]; exact gc c hc)
  refine bX5_next L (d + 2) σ KV ?_
  rw [ek, ee]
  have f23 : ∀ q2, (k = -2 ∨ k = -3) → rx_Go L (d + 3) mX5_next 23 [some (.inr 34), some (.inl e), q2] [] σ (rx_PV KV) := fun q2 hk => bX5_next_23 L (d + 2) e q2 σ KV (main 1 (Or.inr rfl) ⟨fun _ => hk, fun _ => rfl⟩)
  by_cases c1 : k = -2
  · rw [if_pos c1]
    exact f23 _ (Or.inl c1)
  rw [if_neg c1]
  by_cases c2 : k = -3
  · rw [if_neg (fun q => q c2)]
    exact f23 _ (Or.inr c2)
  · rw [if_pos c2]
    exact main 0 (Or.inl rfl) ⟨fun q => by omega, fun q => by omega⟩
end TOK
