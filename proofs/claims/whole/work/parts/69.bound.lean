/-! ===== BOUND ===== -/
/-- posts can be parted in two sets so that each road is from the one to the other -/
def rs_two (V : rx_St) : Prop := ∃ c : Int → Bool, ∀ r, 0 ≤ r → r < V 0 6 → c (V 7 r) ≠ c (V 8 r)
theorem mk_bits : ∀ b0 b1 b2 b3 b4 b5 b6 b7 : Bool, ∀ i : Fin 8, tb (b01 b0 + 2 * b01 b1 + 4 * b01 b2 + 8 * b01 b3 + 16 * b01 b4 + 32 * b01 b5 + 64 * b01 b6 + 128 * b01 b7) i = (match (i : Nat) with | 0 => b0 | 1 => b1 | 2 => b2 | 3 => b3 | 4 => b4 | 5 => b5 | 6 => b6 | _ => b7) := by decide +kernel
theorem mk_side (c : Int → Bool) {n : Int} (h0 : 0 ≤ n) (h1 : n ≤ 8) : ∃ s : Int, 0 ≤ s ∧ s < 2 ^ n.toNat ∧ ∀ p, 0 ≤ p → p < n → tb s p.toNat = c p := by
  have key := mk_bits (decide (0 < n) && c 0) (decide (1 < n) && c 1) (decide (2 < n) && c 2) (decide (3 < n) && c 3) (decide (4 < n) && c 4) (decide (5 < n) && c 5) (decide (6 < n) && c 6) (decide (7 < n) && c 7)
  refine ⟨b01 (decide (0 < n) && c 0) + 2 * b01 (decide (1 < n) && c 1) + 4 * b01 (decide (2 < n) && c 2) + 8 * b01 (decide (3 < n) && c 3) + 16 * b01 (decide (4 < n) && c 4) + 32 * b01 (decide (5 < n) && c 5) + 64 * b01 (decide (6 < n) && c 6) + 128 * b01 (decide (7 < n) && c 7), ?_, ?_, fun p p0 p1 => ?_⟩
  · have := b01_b (decide (0 < n) && c 0)
    have := b01_b (decide (1 < n) && c 1)
    have := b01_b (decide (2 < n) && c 2)
    have := b01_b (decide (3 < n) && c 3)
    have := b01_b (decide (4 < n) && c 4)
    have := b01_b (decide (5 < n) && c 5)
    have := b01_b (decide (6 < n) && c 6)
    have := b01_b (decide (7 < n) && c 7)
    omega
  · have hz : ∀ i : Int, n ≤ i → ∀ b, b01 (decide (i < n) && b) = 0 := fun i hi b => by
      rw [decide_eq_false (by omega), Bool.false_and]
      rfl
    have b0 := b01_b (decide (0 < n) && c 0)
    have b1 := b01_b (decide (1 < n) && c 1)
    have b2 := b01_b (decide (2 < n) && c 2)
    have b3 := b01_b (decide (3 < n) && c 3)
    have b4 := b01_b (decide (4 < n) && c 4)
    have b5 := b01_b (decide (5 < n) && c 5)
    have b6 := b01_b (decide (6 < n) && c 6)
    have b7 := b01_b (decide (7 < n) && c 7)
    have z0 := fun h => hz 0 h (c 0)
    have z1 := fun h => hz 1 h (c 1)
    have z2 := fun h => hz 2 h (c 2)
    have z3 := fun h => hz 3 h (c 3)
    have z4 := fun h => hz 4 h (c 4)
    have z5 := fun h => hz 5 h (c 5)
    have z6 := fun h => hz 6 h (c 6)
    have z7 := fun h => hz 7 h (c 7)
    have h9 : n = 0 ∨ n = 1 ∨ n = 2 ∨ n = 3 ∨ n = 4 ∨ n = 5 ∨ n = 6 ∨ n = 7 ∨ n = 8 := by omega
    generalize b01 (decide (0 < n) && c 0) = x0 at *
    generalize b01 (decide (1 < n) && c 1) = x1 at *
    generalize b01 (decide (2 < n) && c 2) = x2 at *
    generalize b01 (decide (3 < n) && c 3) = x3 at *
    generalize b01 (decide (4 < n) && c 4) = x4 at *
    generalize b01 (decide (5 < n) && c 5) = x5 at *
    generalize b01 (decide (6 < n) && c 6) = x6 at *
    generalize b01 (decide (7 < n) && c 7) = x7 at *
    clear key hz
    have e2 : ∀ k : Nat, (2 : Int) ^ k = ((2 ^ k : Nat) : Int) := fun k => by simp
    rw [e2]
    rcases h9 with rfl | rfl | rfl | rfl | rfl | rfl | rfl | rfl | rfl
    · rw [z0 (by omega), z1 (by omega), z2 (by omega), z3 (by omega), z4 (by omega), z5 (by omega), z6 (by omega), z7 (by omega)]; decide
    · rw [z1 (by omega), z2 (by omega), z3 (by omega), z4 (by omega), z5 (by omega), z6 (by omega), z7 (by omega)]; show _ < (2 : Int); omega
    · rw [z2 (by omega), z3 (by omega), z4 (by omega), z5 (by omega), z6 (by omega), z7 (by omega)]; show _ < (4 : Int); omega
    · rw [z3 (by omega), z4 (by omega), z5 (by omega), z6 (by omega), z7 (by omega)]; show _ < (8 : Int); omega
    · rw [z4 (by omega), z5 (by omega), z6 (by omega), z7 (by omega)]; show _ < (16 : Int); omega
    · rw [z5 (by omega), z6 (by omega), z7 (by omega)]; show _ < (32 : Int); omega
    · rw [z6 (by omega), z7 (by omega)]; show _ < (64 : Int); omega
    · rw [z7 (by omega)]; show _ < (128 : Int); omega
    · show _ < (256 : Int); omega
  · have h9 : p = 0 ∨ p = 1 ∨ p = 2 ∨ p = 3 ∨ p = 4 ∨ p = 5 ∨ p = 6 ∨ p = 7 := by omega
    rcases h9 with rfl | rfl | rfl | rfl | rfl | rfl | rfl | rfl
    · exact (key 0).trans (show (decide (0 < n) && c 0) = c 0 by rw [decide_eq_true p1, Bool.true_and])
    · exact (key 1).trans (show (decide (1 < n) && c 1) = c 1 by rw [decide_eq_true p1, Bool.true_and])
    · exact (key 2).trans (show (decide (2 < n) && c 2) = c 2 by rw [decide_eq_true p1, Bool.true_and])
    · exact (key 3).trans (show (decide (3 < n) && c 3) = c 3 by rw [decide_eq_true p1, Bool.true_and])
    · exact (key 4).trans (show (decide (4 < n) && c 4) = c 4 by rw [decide_eq_true p1, Bool.true_and])
    · exact (key 5).trans (show (decide (5 < n) && c 5) = c 5 by rw [decide_eq_true p1, Bool.true_and])
    · exact (key 6).trans (show (decide (6 < n) && c 6) = c 6 by rw [decide_eq_true p1, Bool.true_and])
    · exact (key 7).trans (show (decide (7 < n) && c 7) = c 7 by rw [decide_eq_true p1, Bool.true_and])
theorem rs_cnt_mono {f g : Int → Bool} : ∀ (k : Nat) (p : Int), (∀ q, p ≤ q → q < p + k → f q = true → g q = true) → rs_cnt f p k ≤ rs_cnt g p k
  | 0, _, _ => Int.le_refl 0
  | k + 1, p, h => by
    unfold rs_cnt
    have h1 := h p (by omega) (by omega)
    have h2 := rs_cnt_mono k (p + 1) (fun q a b => h q (by omega) (by omega))
    by_cases c : f p = true
    · rw [if_pos c, if_pos (h1 c)]
      omega
    · rw [if_neg c]
      split <;> omega
theorem rs_cnt_lt {f g : Int → Bool} : ∀ (k : Nat) (p : Int), (∀ q, p ≤ q → q < p + k → f q = true → g q = true) → (∃ q, p ≤ q ∧ q < p + k ∧ g q = true ∧ f q = false) → rs_cnt f p k < rs_cnt g p k
  | 0, p, _, ⟨q, h1, h2, _⟩ => by omega
  | k + 1, p, h, ⟨q, q0, q1, hg, hf⟩ => by
    unfold rs_cnt
    have h1 := h p (by omega) (by omega)
    by_cases e : q = p
    · subst e
      have h2 := rs_cnt_mono (f := f) (g := g) k (q + 1) (fun q' a b => h q' (by omega) (by omega))
      rw [if_pos hg, if_neg (by rw [hf]; decide)]
      omega
    · have h2 := rs_cnt_lt (f := f) (g := g) k (p + 1) (fun q' a b => h q' (by omega) (by omega)) ⟨q, by omega, by omega, hg, hf⟩
      by_cases c : f p = true
      · rw [if_pos c, if_pos (h1 c)]
        omega
      · rw [if_neg c]
        split <;> omega
section BOUND
variable {L d : Nat} {σ V T : rx_St} {S : Int → Int} {Q : Int → Int → rx_St → Prop} {K : Int → rx_St → Prop} {KV : rx_St → Prop}
theorem c_isParted {A : Nat} (hA : rx_isO 1 A = true) (hV : ld_C A V σ) (hw : iv_Wf V) {s : Int} (h1 : (∀ r, 0 ≤ r → r < V 0 6 → tb s (V 7 r).toNat ≠ tb s (V 8 r).toNat) → K 1 σ) (h0 : ¬ (∀ r, 0 ≤ r → r < V 0 6 → tb s (V 7 r).toNat ≠ tb s (V 8 r).toNat) → K 0 σ) : rx_CI L d mX1_isParted [.inr A, .inl s] σ K := by
  have hn := wf_n hw
  have hm := wf_m hw
  refine bX1_isParted L d A hA s σ K ?_
  have key : ∀ (k : Nat) (r : Int), 0 ≤ r → r + k = V 0 6 → (∀ q, 0 ≤ q → q < r → tb s (V 7 q).toNat ≠ tb s (V 8 q).toNat) → rx_Go L d mX1_isParted 2 [some (.inr A), some (.inl s), some (.inl r)] [] σ (rx_PI K) := by
    intro k
    induction k with
    | zero =>
      intro r r0 hr hp
      refine bX1_isParted_2 L d A hA s r σ K ?_
      rw [ld_C0 hV, if_pos (by omega)]
      exact h1 (fun q q0 q1 => hp q q0 (by omega))
    | succ k ih =>
      intro r r0 hr hp
      have qr := wf_r hw r0 (show r < V 0 6 by omega)
      refine bX1_isParted_2 L d A hA s r σ K ?_
      rw [ld_C0 hV, if_neg (by omega), hV 7 (by omega), hV 8 (by omega), alu_bit s (by omega) (by omega), alu_bit s (by omega) (by omega)]
      refine ⟨by omega, ?_⟩
      by_cases c : tb s (V 7 r).toNat = tb s (V 8 r).toNat
      · rw [c, if_neg (fun q => q rfl)]
        exact h0 (fun q => q r r0 (by omega) c)
      · rw [if_pos, rx_w_of (by omega) (by omega)]
        · refine ih (r + 1) (by omega) (by omega) (fun q q0 q1 => ?_)
          by_cases e : q = r
          · rw [e]
            exact c
          · exact hp q q0 (by omega)
        · cases a : tb s (V 7 r).toNat <;> cases b : tb s (V 8 r).toNat
          · rw [a, b] at c
            exact absurd rfl c
          · decide
          · decide
          · rw [a, b] at c
            exact absurd rfl c
  exact key (V 0 6).toNat 0 (by omega) (by omega) (fun q q0 q1 => by omega)
theorem c_isTwoSided {A : Nat} (hA : rx_isO 1 A = true) (hV : ld_C A V σ) (hw : iv_Wf V) (h1 : rs_two V → K 1 σ) (h0 : ¬ rs_two V → K 0 σ) : rx_CI L (d + 1) mX1_isTwoSided [.inr A] σ K := by
  have hn := wf_n hw
  refine bX1_isTwoSided L d A hA σ K ?_
  have hp : (2 : Int) ^ (V 0 0).toNat ≤ 256 := by
    have h9 : (V 0 0).toNat = 0 ∨ (V 0 0).toNat = 1 ∨ (V 0 0).toNat = 2 ∨ (V 0 0).toNat = 3 ∨ (V 0 0).toNat = 4 ∨ (V 0 0).toNat = 5 ∨ (V 0 0).toNat = 6 ∨ (V 0 0).toNat = 7 ∨ (V 0 0).toNat = 8 := by omega
    rcases h9 with e | e | e | e | e | e | e | e | e <;> rw [e] <;> decide
  have hp0 : (0 : Int) ≤ 2 ^ (V 0 0).toNat := Int.pow_nonneg (by decide)
  have key : ∀ (k : Nat) (s : Int), 0 ≤ s → s + k = 2 ^ (V 0 0).toNat → (∀ t, 0 ≤ t → t < s → ¬ (∀ r, 0 ≤ r → r < V 0 6 → tb t (V 7 r).toNat ≠ tb t (V 8 r).toNat)) → rx_Go L (d + 1) mX1_isTwoSided 2 [some (.inr A), some (.inl s)] [] σ (rx_PI K) := by
    intro k
    induction k with
    | zero =>
      intro s s0 hs hno
      refine bX1_isTwoSided_2 L d A hA s σ K ?_
      rw [ld_C0 hV, alu_pow hn.1 (by omega), if_pos (by omega)]
      refine h0 (fun ⟨c, hc⟩ => ?_)
      obtain ⟨t, t0, t1, ht⟩ := mk_side c hn.1 hn.2
      refine hno t t0 (by omega) (fun r r0 r1 => ?_)
      have qr := wf_r hw r0 r1
      rw [ht (V 7 r) (by omega) (by omega), ht (V 8 r) (by omega) (by omega)]
      exact hc r r0 r1
    | succ k ih =>
      intro s s0 hs hno
      refine bX1_isTwoSided_2 L d A hA s σ K ?_
      rw [ld_C0 hV, alu_pow hn.1 (by omega), if_neg (by omega)]
      refine c_isParted hA hV hw (fun g => ?_) (fun g => ?_)
      · rw [if_neg (by decide)]
        exact h1 ⟨fun p => tb s p.toNat, g⟩
      · rw [if_pos rfl, rx_w_of (by omega) (by omega)]
        refine ih (s + 1) (by omega) (by omega) (fun t t0 t1 => ?_)
        by_cases e : t = s
        · rw [e]
          exact g
        · exact hno t t0 (by omega)
  exact key ((2 : Int) ^ (V 0 0).toNat).toNat 0 (by omega) (by omega) (fun t t0 t1 => by omega)
/-- sides so far are of use -/
def pt_con (V : rx_St) (D : Int → Int) (good : Int) : Prop := rs_two V → good = 1 ∧ ∃ c : Int → Bool, (∀ r, 0 ≤ r → r < V 0 6 → c (V 7 r) ≠ c (V 8 r)) ∧ ∀ q, 0 ≤ q → q < V 0 0 → D q ≠ 0 → (D q = 1 ↔ c q = true)
def pt_ok (V : rx_St) (D : Int → Int) : Prop := ∀ q, 0 ≤ q → q < V 0 0 → D q = 0 ∨ D q = 1 ∨ D q = -1
/-- all roads up to one have been looked at: each has both ends told or none, and all is good -/
def pt_seen (V : rx_St) (D : Int → Int) (good r : Int) : Prop := (∀ q, 0 ≤ q → q < r → (D (V 7 q) = 0 ↔ D (V 8 q) = 0)) ∧ (good = 1 → ∀ q, 0 ≤ q → q < r → D (V 7 q) = 0 ∨ D (V 7 q) ≠ D (V 8 q))
theorem n_pass (hM : ld_M V (σ 126)) (hw : iv_Wf V) {p : Int} {D0 : Int → Int}
    (hK : ∀ (good more : Int) (σ2 : rx_St) (q4 q5 q6 : Option rx_V), (∀ c, c ≠ 131 → σ2 c = σ c) → (good = 0 ∨ good = 1) → (more = 0 ∨ more = 1) → pt_ok V (σ2 131) → pt_con V (σ2 131) good → (∀ q, 0 ≤ q → q < V 0 0 → D0 q ≠ 0 → σ2 131 q = D0 q) → (more = 1 → ∃ q, 0 ≤ q ∧ q < V 0 0 ∧ D0 q = 0 ∧ σ2 131 q ≠ 0) → (more = 0 → pt_seen V (σ2 131) good (V 0 6)) → rx_Go L (d + 3) mX11_isParted 62 [some (.inr 125), some (.inl good), some (.inl p), some (.inl more), q4, q5, q6] [] σ2 (rx_PI K)) :
    ∀ (k : Nat) (r good more : Int) (σ1 : rx_St) (q5 q6 : Option rx_V), 0 ≤ r → r + k = V 0 6 → (∀ c, c ≠ 131 → σ1 c = σ c) → (good = 0 ∨ good = 1) → (more = 0 ∨ more = 1) → pt_ok V (σ1 131) → pt_con V (σ1 131) good → (∀ q, 0 ≤ q → q < V 0 0 → D0 q ≠ 0 → σ1 131 q = D0 q) → (more = 1 → ∃ q, 0 ≤ q ∧ q < V 0 0 ∧ D0 q = 0 ∧ σ1 131 q ≠ 0) → (more = 0 → (∀ q, 0 ≤ q → q < V 0 0 → σ1 131 q = D0 q) ∧ pt_seen V (σ1 131) good r) → rx_Go L (d + 3) mX11_isParted 71 [some (.inr 125), some (.inl good), some (.inl p), some (.inl more), some (.inl r), q5, q6] [] σ1 (rx_PI K) := by
  have hn := wf_n hw
  have hm := wf_m hw
  intro k
  induction k with
  | zero =>
    intro r good more σ1 q5 q6 r0 hr hf hg hmo hok hcon hD hm1 hm0
    refine bX11_isParted_71 L (d + 2) good p more r q5 q6 σ1 K ?_
    rw [hf 126 (by decide), ld_Mm hM, if_pos (by omega)]
    have er : r = V 0 6 := by omega
    rw [er] at hm0 ⊢
    exact hK good more σ1 _ _ _ hf hg hmo hok hcon hD hm1 (fun q => (hm0 q).2)
  | succ k ih =>
    intro r good more σ1 q5 q6 r0 hr hf hg hmo hok hcon hD hm1 hm0
    have qr := wf_r hw r0 (show r < V 0 6 by omega)
    have hM1 : ld_M V (σ1 126) := by rw [hf 126 (by decide)]; exact hM
    refine bX11_isParted_71 L (d + 2) good p more r q5 q6 σ1 K ?_
    rw [ld_Mm hM1, if_neg (by omega)]
    refine n_lesser hM1 (by omega) ?_
    refine ⟨by omega, ?_⟩
    refine n_greater hM1 (by omega) ?_
    refine ⟨by omega, ?_⟩
    have oa := hok (V 7 r) (by omega) (by omega)
    have ob := hok (V 8 r) (by omega) (by omega)
    generalize ha : σ1 131 (V 7 r) = a at *
    generalize hb : σ1 131 (V 8 r) = b at *
    -- where the writing ends
    have fin : ∀ (g2 m2 a2 b2 : Int) (q5 q6 : Option rx_V), (g2 = 1 ↔ good = 1 ∧ (a = 0 ∨ a ≠ b)) → (g2 = 0 ∨ g2 = 1) → (m2 = 0 ∨ m2 = 1) → (m2 = 1 ↔ more = 1 ∨ ¬ (a = 0 ↔ b = 0)) → a2 = (if a = 0 then -b else a) → b2 = (if b = 0 then -a else b) → rx_Go L (d + 3) mX11_isParted 221 [some (.inr 125), some (.inl g2), some (.inl p), some (.inl m2), some (.inl r), q5, q6] [] (rx_up (rx_up σ1 131 (V 7 r) a2) 131 (V 8 r) b2) (rx_PI K) := by
      intro g2 m2 a2 b2 q5 q6 hg2 hg2' hm2' hm2 ea2 eb2
      refine bX11_isParted_221 L (d + 2) g2 p m2 r q5 q6 _ K ?_
      rw [rx_w_of (by omega) (by omega)]
      have hD2 : ∀ q, (rx_up (rx_up σ1 131 (V 7 r) a2) 131 (V 8 r) b2) 131 q = if q = V 8 r then b2 else if q = V 7 r then a2 else σ1 131 q := by
        intro q
        by_cases e : q = V 8 r
        · rw [up_e e, if_pos e]
        · rw [up_i e, if_neg e]
          by_cases e2 : q = V 7 r
          · rw [up_e e2, if_pos e2]
          · rw [up_i e2, if_neg e2]
      -- what was told stays
      have hstay : ∀ q, σ1 131 q ≠ 0 → (rx_up (rx_up σ1 131 (V 7 r) a2) 131 (V 8 r) b2) 131 q = σ1 131 q := by
        intro q hq
        rw [hD2]
        by_cases e : q = V 8 r
        · rw [if_pos e, eb2]
          rw [e, hb] at hq
          rw [if_neg hq, e, hb]
        · rw [if_neg e]
          by_cases e2 : q = V 7 r
          · rw [if_pos e2, ea2]
            rw [e2, ha] at hq
            rw [if_neg hq, e2, ha]
          · rw [if_neg e2]
      have hsame : (a = 0 ↔ b = 0) → ∀ q, (rx_up (rx_up σ1 131 (V 7 r) a2) 131 (V 8 r) b2) 131 q = σ1 131 q := by
        intro hh q
        by_cases z : σ1 131 q = 0
        · rw [hD2]
          by_cases e : q = V 8 r
          · rw [e, hb] at z
            rw [if_pos e, eb2, if_pos z, e, hb]
            have := hh.mpr z
            omega
          · rw [if_neg e]
            by_cases e2 : q = V 7 r
            · rw [e2, ha] at z
              rw [if_pos e2, ea2, if_pos z, e2, ha]
              have := hh.mp z
              omega
            · rw [if_neg e2]
        · exact hstay q z
      refine ih (r + 1) g2 m2 _ q5 q6 (by omega) (by omega) (fun c hc => by rw [up_c hc, up_c hc]; exact hf c hc) hg2' hm2' ?_ ?_ ?_ ?_ ?_
      · intro q q0 q1
        rw [hD2]
        have := hok q q0 q1
        by_cases e : q = V 8 r
        · rw [if_pos e, eb2]
          split <;> omega
        · rw [if_neg e]
          by_cases e2 : q = V 7 r
          · rw [if_pos e2, ea2]
            split <;> omega
          · rw [if_neg e2]
            exact this
      · intro h2
        obtain ⟨hgood, c, hc1, hc2⟩ := hcon h2
        have hc7 := hc2 (V 7 r) (by omega) (by omega)
        have hc8 := hc2 (V 8 r) (by omega) (by omega)
        rw [ha] at hc7
        rw [hb] at hc8
        have hcr := hc1 r r0 (by omega)
        have hab : a ≠ 0 → b ≠ 0 → a ≠ b := fun na nb e => by
          have x7 := hc7 na
          have x8 := hc8 nb
          rw [e] at x7
          cases h7 : c (V 7 r) <;> cases h8 : c (V 8 r)
          · rw [h7, h8] at hcr
            exact hcr rfl
          · rw [h8] at x8
            rw [h7] at x7
            have := x7.mp (x8.mpr rfl)
            cases this
          · rw [h8] at x8
            rw [h7] at x7
            have := x8.mp (x7.mpr rfl)
            cases this
          · rw [h7, h8] at hcr
            exact hcr rfl
        refine ⟨hg2.mpr ⟨hgood, ?_⟩, c, hc1, fun q q0 q1 hq => ?_⟩
        · by_cases na : a = 0
          · exact Or.inl na
          · by_cases nb : b = 0
            · exact Or.inr (by omega)
            · exact Or.inr (hab na nb)
        · by_cases z : σ1 131 q = 0
          · rw [hD2] at hq ⊢
            by_cases e : q = V 8 r
            · rw [if_pos e, eb2] at hq ⊢
              rw [e, hb] at z
              rw [if_pos z] at hq ⊢
              have na : a ≠ 0 := by omega
              have x7 := hc7 na
              rw [e]
              cases h7 : c (V 7 r) <;> cases h8 : c (V 8 r)
              · rw [h7, h8] at hcr
                exact absurd rfl hcr
              · rw [h7] at x7
                have : a ≠ 1 := fun q => by cases x7.mp q
                exact ⟨fun _ => rfl, fun _ => by omega⟩
              · rw [h7] at x7
                have := x7.mpr rfl
                exact ⟨fun q => by omega, fun q => by cases q⟩
              · rw [h7, h8] at hcr
                exact absurd rfl hcr
            · rw [if_neg e] at hq ⊢
              by_cases e2 : q = V 7 r
              · rw [if_pos e2, ea2] at hq ⊢
                rw [e2, ha] at z
                rw [if_pos z] at hq ⊢
                have nb : b ≠ 0 := by omega
                have x8 := hc8 nb
                rw [e2]
                cases h7 : c (V 7 r) <;> cases h8 : c (V 8 r)
                · rw [h7, h8] at hcr
                  exact absurd rfl hcr
                · rw [h8] at x8
                  have := x8.mpr rfl
                  exact ⟨fun q => by omega, fun q => by cases q⟩
                · rw [h8] at x8
                  have : b ≠ 1 := fun q => by cases x8.mp q
                  exact ⟨fun _ => rfl, fun _ => by omega⟩
                · rw [h7, h8] at hcr
                  exact absurd rfl hcr
              · rw [if_neg e2] at hq
                exact absurd z hq
          · rw [hstay q z]
            exact hc2 q q0 q1 z
      · intro q q0 q1 hq
        have e := hD q q0 q1 hq
        rw [hstay q (by omega)]
        exact e
      · intro hm2e
        rcases hm2.mp hm2e with h1 | h1
        · obtain ⟨q, q0, q1, z0, z1⟩ := hm1 h1
          exact ⟨q, q0, q1, z0, by rw [hstay q z1]; exact z1⟩
        · by_cases na : a = 0
          · have nb : b ≠ 0 := fun q => h1 ⟨fun _ => q, fun _ => na⟩
            refine ⟨V 7 r, by omega, by omega, ?_, ?_⟩
            · refine Classical.byContradiction (fun q => ?_)
              have := hD (V 7 r) (by omega) (by omega) q
              omega
            · rw [hD2, if_neg (by omega), if_pos rfl, ea2, if_pos na]
              omega
          · have nb : b = 0 := Classical.byContradiction (fun q => h1 ⟨fun z => absurd z na, fun z => absurd z q⟩)
            refine ⟨V 8 r, by omega, by omega, ?_, ?_⟩
            · refine Classical.byContradiction (fun q => ?_)
              have := hD (V 8 r) (by omega) (by omega) q
              omega
            · rw [hD2, if_pos rfl, eb2, if_pos nb]
              omega
      · intro hm2e
        have hmore : more = 0 := by
          rcases hmo with h | h
          · exact h
          · have := hm2.mpr (Or.inl h)
            omega
        have hiff : (a = 0 ↔ b = 0) := Classical.byContradiction (fun q => by
          have := hm2.mpr (Or.inr q)
          omega)
        obtain ⟨h0a, h0b, h0c⟩ := hm0 hmore
        have hs := hsame hiff
        refine ⟨fun q q0 q1 => by rw [hs]; exact h0a q q0 q1, fun q q0 q1 => ?_, fun hg1 q q0 q1 => ?_⟩
        · rw [hs, hs]
          by_cases e : q = r
          · rw [e, ha, hb]
            exact hiff
          · exact h0b q q0 (by omega)
        · rw [hs, hs]
          have := hg2.mp hg1
          by_cases e : q = r
          · rw [e, ha, hb]
            exact this.2
          · exact h0c this.1 q q0 (by omega)
    have f163 : ∀ g2 m2, (g2 = 1 ↔ good = 1 ∧ (a = 0 ∨ a ≠ b)) → (g2 = 0 ∨ g2 = 1) → (m2 = 0 ∨ m2 = 1) → (m2 = 1 ↔ more = 1 ∨ ¬ (a = 0 ↔ b = 0)) → rx_Go L (d + 3) mX11_isParted 163 [some (.inr 125), some (.inl g2), some (.inl p), some (.inl m2), some (.inl r), some (.inl a), some (.inl b)] [] σ1 (rx_PI K) := by
      intro g2 m2 x1 x2 x3 x4
      have f192 : ∀ a2, a2 = (if a = 0 then -b else a) → rx_Go L (d + 3) mX11_isParted 192 [some (.inr 125), some (.inl g2), some (.inl p), some (.inl m2), some (.inl r), some (.inl a), some (.inl b)] [] (rx_up σ1 131 (V 7 r) a2) (rx_PI K) := by
        intro a2 ea2
        refine bX11_isParted_192 L (d + 2) g2 p m2 r a b _ K ?_
        refine n_greater (V := V) (by rw [up_c (by decide)]; exact hM1) (by omega) ?_
        by_cases nb : b = 0
        · rw [if_neg (fun q => q nb)]
          by_cases na : a = 0
          · rw [if_pos na]
            exact ⟨by omega, fin g2 m2 a2 b _ _ x1 x2 x3 x4 ea2 (by rw [if_pos nb]; omega)⟩
          · rw [if_neg na, rx_w_of (by omega) (by omega)]
            exact ⟨by omega, fin g2 m2 a2 (-a) _ _ x1 x2 x3 x4 ea2 (by rw [if_pos nb])⟩
        · rw [if_pos nb]
          exact ⟨by omega, fin g2 m2 a2 b _ _ x1 x2 x3 x4 ea2 (by rw [if_neg nb])⟩
      refine bX11_isParted_163 L (d + 2) g2 p m2 r a b σ1 K ?_
      refine n_lesser hM1 (by omega) ?_
      by_cases na : a = 0
      · rw [if_neg (fun q => q na)]
        by_cases nb : b = 0
        · rw [if_pos nb]
          exact ⟨by omega, f192 a (by rw [if_pos na]; omega)⟩
        · rw [if_neg nb, rx_w_of (by omega) (by omega)]
          exact ⟨by omega, f192 (-b) (by rw [if_pos na])⟩
      · rw [if_pos na]
        exact ⟨by omega, f192 a (by rw [if_neg na])⟩
    have f130 : ∀ g2, (g2 = 1 ↔ good = 1 ∧ (a = 0 ∨ a ≠ b)) → (g2 = 0 ∨ g2 = 1) → rx_Go L (d + 3) mX11_isParted 130 [some (.inr 125), some (.inl g2), some (.inl p), some (.inl more), some (.inl r), some (.inl a), some (.inl b)] [] σ1 (rx_PI K) := by
      intro g2 x1 x2
      have f157 : (more = 1 ∨ ¬ (a = 0 ↔ b = 0)) → rx_Go L (d + 3) mX11_isParted 157 [some (.inr 125), some (.inl g2), some (.inl p), some (.inl more), some (.inl r), some (.inl a), some (.inl b)] [] σ1 (rx_PI K) := by
        intro hh
        refine bX11_isParted_157 L (d + 2) g2 p _ r a b σ1 K ?_
        exact f163 g2 1 x1 x2 (Or.inr rfl) ⟨fun _ => hh, fun _ => rfl⟩
      refine bX11_isParted_130 L (d + 2) g2 p more r a b σ1 K ?_
      by_cases m0 : more = 0
      · rw [if_neg (fun q => q m0)]
        have hno : (a = 0 ↔ b = 0) → rx_Go L (d + 3) mX11_isParted 163 [some (.inr 125), some (.inl g2), some (.inl p), some (.inl 0), some (.inl r), some (.inl a), some (.inl b)] [] σ1 (rx_PI K) := fun hh => f163 g2 0 x1 x2 (Or.inl rfl) ⟨fun q => by omega, fun q => q.elim (fun z => by omega) (fun z => absurd hh z)⟩
        by_cases na : a = 0
        · rw [if_neg (fun q => q na)]
          by_cases nb : b = 0
          · rw [if_neg (fun q => q nb)]
            exact hno ⟨fun _ => nb, fun _ => na⟩
          · rw [if_pos nb]
            exact f157 (Or.inr (fun q => nb (q.mp na)))
        · rw [if_pos na]
          by_cases nb : b = 0
          · rw [if_neg (fun q => q nb)]
            exact f157 (Or.inr (fun q => na (q.mpr nb)))
          · rw [if_pos nb]
            exact hno ⟨fun z => absurd z na, fun z => absurd z nb⟩
      · rw [if_pos m0]
        exact f157 (Or.inl (hmo.resolve_left m0))
    by_cases g0 : good = 0
    · rw [if_pos g0]
      refine bX11_isParted_128 L (d + 2) _ p more r a b σ1 K ?_
      exact f130 0 ⟨fun q => by omega, fun q => by omega⟩ (Or.inl rfl)
    · rw [if_neg g0]
      by_cases na : a = 0
      · rw [if_pos na]
        refine bX11_isParted_124 L (d + 2) _ p more r a b σ1 K ?_
        exact f130 1 ⟨fun _ => ⟨hg.resolve_left g0, Or.inl na⟩, fun _ => rfl⟩ (Or.inr rfl)
      · rw [if_neg na]
        by_cases e : a = b
        · rw [if_pos e]
          refine bX11_isParted_128 L (d + 2) _ p more r a b σ1 K ?_
          exact f130 0 ⟨fun q => by omega, fun q => q.2.elim (fun z => absurd z na) (fun z => absurd e z)⟩ (Or.inl rfl)
        · rw [if_neg e]
          refine bX11_isParted_124 L (d + 2) _ p more r a b σ1 K ?_
          exact f130 1 ⟨fun _ => ⟨hg.resolve_left g0, Or.inr e⟩, fun _ => rfl⟩ (Or.inr rfl)
theorem n_isParted (hM : ld_M V (σ 126)) (hw : iv_Wf V) (h1 : ∀ σ', (∀ c, c ≠ 131 → σ' c = σ c) → rs_two V → K 1 σ') (h0 : ∀ σ', (∀ c, c ≠ 131 → σ' c = σ c) → ¬ rs_two V → K 0 σ') : rx_CI L (d + 3) mX11_isParted [.inr 125] σ K := by
  have hn := wf_n hw
  have hm := wf_m hw
  refine bX11_isParted L (d + 2) σ K ?_
  have outer : ∀ (k : Nat) (p good : Int) (σ1 : rx_St) (q3 q4 q5 q6 : Option rx_V), 0 ≤ p → p + k = V 0 0 → (∀ c, c ≠ 131 → σ1 c = σ c) → (good = 0 ∨ good = 1) → pt_ok V (σ1 131) → pt_con V (σ1 131) good → pt_seen V (σ1 131) good (V 0 6) → (∀ q, 0 ≤ q → q < p → σ1 131 q ≠ 0) → rx_Go L (d + 3) mX11_isParted 25 [some (.inr 125), some (.inl good), some (.inl p), q3, q4, q5, q6] [] σ1 (rx_PI K) := by
    intro k
    induction k with
    | zero =>
      intro p good σ1 q3 q4 q5 q6 p0 hp hf hg hok hcon hseen hall
      refine bX11_isParted_25 L (d + 2) good p q3 q4 q5 q6 σ1 K ?_
      rw [hf 126 (by decide), ld_Mn hM, if_pos (by omega)]
      refine ⟨hg, ?_⟩
      by_cases h2 : rs_two V
      · rw [(hcon h2).1]
        exact h1 σ1 hf h2
      · have : good = 0 := by
          rcases hg with g | g
          · exact g
          · refine absurd ⟨fun q => decide (σ1 131 q = 1), fun r r0 r1 => ?_⟩ h2
            have qr := wf_r hw r0 r1
            have hs := hseen.2 g r r0 r1
            have a1 := hall (V 7 r) (by omega) (by omega)
            have a2 := hall (V 8 r) (by omega) (by omega)
            have o1 := hok (V 7 r) (by omega) (by omega)
            have o2 := hok (V 8 r) (by omega) (by omega)
            intro e
            have e : decide (σ1 131 (V 7 r) = 1) = decide (σ1 131 (V 8 r) = 1) := e
            by_cases z : σ1 131 (V 7 r) = 1
            · rw [decide_eq_true z] at e
              have := of_decide_eq_true e.symm
              omega
            · rw [decide_eq_false z] at e
              have := of_decide_eq_false e.symm
              omega
        rw [this]
        exact h0 σ1 hf h2
    | succ k ih =>
      intro p good σ1 q3 q4 q5 q6 p0 hp hf hg hok hcon hseen hall
      refine bX11_isParted_25 L (d + 2) good p q3 q4 q5 q6 σ1 K ?_
      rw [hf 126 (by decide), ld_Mn hM, if_neg (by omega)]
      refine ⟨by omega, ?_⟩
      -- the passes, until nothing is told any more
      have passes : ∀ (N : Nat) (good : Int) (σ2 : rx_St) (q4 q5 q6 : Option rx_V), rs_cnt (fun q => decide (σ2 131 q = 0)) 0 (V 0 0).toNat ≤ N → (∀ c, c ≠ 131 → σ2 c = σ c) → (good = 0 ∨ good = 1) → pt_ok V (σ2 131) → pt_con V (σ2 131) good → (∀ q, 0 ≤ q → q < p + 1 → σ2 131 q ≠ 0) → rx_Go L (d + 3) mX11_isParted 62 [some (.inr 125), some (.inl good), some (.inl p), some (.inl 1), q4, q5, q6] [] σ2 (rx_PI K) := by
        intro N
        induction N with
        | zero =>
          intro good σ2 q4 q5 q6 hN hf2 hg2 hok2 hcon2 hall2
          refine bX11_isParted_62 L (d + 2) good p 1 q4 q5 q6 σ2 K ?_
          rw [if_neg (by decide)]
          refine n_pass (D0 := σ2 131) hM hw (fun good' more σ3 q4 q5 q6 c1 c2 c3 c4 c5 c6 c7 c8 => ?_) (V 0 6).toNat 0 good 0 σ2 _ _ (by omega) (by omega) hf2 hg2 (Or.inl rfl) hok2 hcon2 (fun q _ _ _ => rfl) (fun q => by omega) (fun _ => ⟨fun _ _ _ => rfl, fun q q0 q1 => by omega, fun _ q q0 q1 => by omega⟩)
          refine bX11_isParted_62 L (d + 2) good' p more q4 q5 q6 σ3 K ?_
          by_cases m0 : more = 0
          · rw [if_pos m0, rx_w_of (by omega) (by omega)]
            exact ih (p + 1) good' σ3 _ _ _ _ (by omega) (by omega) c1 c2 c4 c5 (c8 m0) (fun q q0 q1 => by rw [c6 q q0 (by omega) (hall2 q q0 q1)]; exact hall2 q q0 q1)
          · obtain ⟨q, q0, q1, z0, z1⟩ := c7 (c3.resolve_left m0)
            have := rs_cnt_lt (f := fun _ => false) (g := fun q => decide (σ2 131 q = 0)) (V 0 0).toNat 0 (fun _ _ _ z => by cases z) ⟨q, q0, by omega, decide_eq_true z0, rfl⟩
            have h2 := rs_cnt_le (f := fun _ => false) (V 0 0).toNat 0
            omega
        | succ N ihN =>
          intro good σ2 q4 q5 q6 hN hf2 hg2 hok2 hcon2 hall2
          refine bX11_isParted_62 L (d + 2) good p 1 q4 q5 q6 σ2 K ?_
          rw [if_neg (by decide)]
          refine n_pass (D0 := σ2 131) hM hw (fun good' more σ3 q4 q5 q6 c1 c2 c3 c4 c5 c6 c7 c8 => ?_) (V 0 6).toNat 0 good 0 σ2 _ _ (by omega) (by omega) hf2 hg2 (Or.inl rfl) hok2 hcon2 (fun q _ _ _ => rfl) (fun q => by omega) (fun _ => ⟨fun _ _ _ => rfl, fun q q0 q1 => by omega, fun _ q q0 q1 => by omega⟩)
          by_cases m0 : more = 0
          · refine bX11_isParted_62 L (d + 2) good' p more q4 q5 q6 σ3 K ?_
            rw [if_pos m0, rx_w_of (by omega) (by omega)]
            exact ih (p + 1) good' σ3 _ _ _ _ (by omega) (by omega) c1 c2 c4 c5 (c8 m0) (fun q q0 q1 => by rw [c6 q q0 (by omega) (hall2 q q0 q1)]; exact hall2 q q0 q1)
          · have m1 := c3.resolve_left m0
            obtain ⟨q, q0, q1, z0, z1⟩ := c7 m1
            have hlt := rs_cnt_lt (f := fun q => decide (σ3 131 q = 0)) (g := fun q => decide (σ2 131 q = 0)) (V 0 0).toNat 0 (fun q q0 q1 z => by
              refine decide_eq_true (Classical.byContradiction (fun y => ?_))
              have e := c6 q q0 (by omega) y
              have z := of_decide_eq_true z
              omega) ⟨q, q0, by omega, decide_eq_true z0, decide_eq_false z1⟩
            rw [m1]
            exact ihN good' σ3 q4 q5 q6 (by omega) c1 c2 c4 c5 (fun q q0 q1 => by rw [c6 q q0 (by omega) (hall2 q q0 q1)]; exact hall2 q q0 q1)
      have start : ∀ (v : Int), v = (if σ1 131 p = 0 then 1 else σ1 131 p) → rx_Go L (d + 3) mX11_isParted 60 [some (.inr 125), some (.inl good), some (.inl p), q3, q4, q5, q6] [] (rx_up σ1 131 p v) (rx_PI K) := by
        intro v hv
        refine bX11_isParted_60 L (d + 2) good p q3 q4 q5 q6 _ K ?_
        have hDv : ∀ q, (rx_up σ1 131 p v) 131 q = if q = p then v else σ1 131 q := fun q => by
          by_cases e : q = p
          · rw [up_e e, if_pos e]
          · rw [up_i e, if_neg e]
        have okp := hok p p0 (by omega)
        refine passes (V 0 0).toNat good _ _ _ _ ?_ (fun c hc => by rw [up_c hc]; exact hf c hc) hg (fun q q0 q1 => ?_) (fun h2 => ?_) (fun q q0 q1 => ?_)
        · have := rs_cnt_le (f := fun q => decide ((rx_up σ1 131 p v) 131 q = 0)) (V 0 0).toNat 0
          omega
        · rw [hDv]
          by_cases e : q = p
          · rw [if_pos e, hv]
            split <;> omega
          · rw [if_neg e]
            exact hok q q0 q1
        · obtain ⟨hgood, c, hc1, hc2⟩ := hcon h2
          refine ⟨hgood, ?_⟩
          by_cases z : σ1 131 p = 0
          · rw [if_pos z] at hv
            by_cases cp : c p = true
            · refine ⟨c, hc1, fun q q0 q1 hq => ?_⟩
              rw [hDv] at hq ⊢
              by_cases e : q = p
              · rw [if_pos e, hv, e]
                exact ⟨fun _ => cp, fun _ => rfl⟩
              · rw [if_neg e] at hq ⊢
                exact hc2 q q0 q1 hq
            · refine ⟨fun q => if σ1 131 q = 0 then !(c q) else c q, fun r r0 r1 => ?_, fun q q0 q1 hq => ?_⟩
              · have hs := hseen.1 r r0 r1
                show (if σ1 131 (V 7 r) = 0 then !(c (V 7 r)) else c (V 7 r)) ≠ (if σ1 131 (V 8 r) = 0 then !(c (V 8 r)) else c (V 8 r))
                have hcr := hc1 r r0 r1
                by_cases e7 : σ1 131 (V 7 r) = 0
                · rw [if_pos e7, if_pos (hs.mp e7)]
                  intro e
                  exact hcr (Bool.not_inj e)
                · rw [if_neg e7, if_neg (fun q => e7 (hs.mpr q))]
                  exact hcr
              · rw [hDv] at hq ⊢
                show _ ↔ (if σ1 131 q = 0 then !(c q) else c q) = true
                by_cases e : q = p
                · rw [if_pos e, hv, e, if_pos z]
                  have cp' : c p = false := by cases h9 : c p with
                    | false => rfl
                    | true => exact absurd h9 cp
                  rw [cp']
                  exact ⟨fun _ => rfl, fun _ => rfl⟩
                · rw [if_neg e] at hq ⊢
                  rw [if_neg hq]
                  exact hc2 q q0 q1 hq
          · rw [if_neg z] at hv
            refine ⟨c, hc1, fun q q0 q1 hq => ?_⟩
            rw [hDv] at hq ⊢
            by_cases e : q = p
            · rw [if_pos e, hv, e]
              exact hc2 p p0 (by omega) z
            · rw [if_neg e] at hq ⊢
              exact hc2 q q0 q1 hq
        · rw [hDv]
          by_cases e : q = p
          · rw [if_pos e, hv]
            split <;> omega
          · rw [if_neg e]
            exact hall q q0 (by omega)
      by_cases z : σ1 131 p = 0
      · rw [if_neg (fun q => q z)]
        exact start 1 (by rw [if_pos z])
      · rw [if_pos z]
        exact start _ (by rw [if_neg z])
  have clear : ∀ (k : Nat) (j : Int) (σ1 : rx_St) (q2 q3 q4 q5 q6 : Option rx_V), 0 ≤ j → j + k = 8 → (∀ c, c ≠ 131 → σ1 c = σ c) → (∀ q, 0 ≤ q → q < j → σ1 131 q = 0) → rx_Go L (d + 3) mX11_isParted 2 [some (.inr 125), some (.inl j), q2, q3, q4, q5, q6] [] σ1 (rx_PI K) := by
    intro k
    induction k with
    | zero =>
      intro j σ1 q2 q3 q4 q5 q6 j0 hj hf hz
      refine bX11_isParted_2 L (d + 2) j q2 q3 q4 q5 q6 σ1 K ?_
      rw [if_pos (by omega)]
      have hz8 : ∀ q, 0 ≤ q → q < V 0 0 → σ1 131 q = 0 := fun q q0 q1 => hz q q0 (by omega)
      refine outer (V 0 0).toNat 0 1 σ1 _ _ _ _ (by omega) (by omega) hf (Or.inr rfl) (fun q q0 q1 => Or.inl (hz8 q q0 q1)) (fun ⟨c, hc⟩ => ⟨rfl, c, hc, fun q q0 q1 hq => absurd (hz8 q q0 q1) hq⟩) ⟨fun r r0 r1 => ?_, fun _ r r0 r1 => ?_⟩ (fun q q0 q1 => by omega)
      · have qr := wf_r hw r0 r1
        rw [hz8 (V 7 r) (by omega) (by omega), hz8 (V 8 r) (by omega) (by omega)]
      · have qr := wf_r hw r0 r1
        exact Or.inl (hz8 (V 7 r) (by omega) (by omega))
    | succ k ih =>
      intro j σ1 q2 q3 q4 q5 q6 j0 hj hf hz
      refine bX11_isParted_2 L (d + 2) j q2 q3 q4 q5 q6 σ1 K ?_
      rw [if_neg (by omega), rx_w_of (by omega) (by omega)]
      refine ⟨by omega, ih (j + 1) _ _ _ _ _ _ (by omega) (by omega) (fun c hc => by rw [up_c hc]; exact hf c hc) (fun q q0 q1 => ?_)⟩
      by_cases e : q = j
      · rw [up_e e]
      · rw [up_i e]
        exact hz q q0 (by omega)
  exact clear 8 0 σ _ _ _ _ _ (by omega) (by omega) (fun _ _ => rfl) (fun q q0 q1 => by omega)
theorem o_bound (h : iv_A S V T σ) (hQ : ∀ v σ', Inv S σ' → Q v v σ') :
    rx_CI L (d + 4) mX10_bound [.inr 0] σ (fun v1 σ1 => rx_CI L (d + 4) mX11_bound [.inr 125] σ1 (fun v2 σ2 => Q v1 v2 σ2)) := by
  have hw := h.1
  have hC := h.2.1
  have hM := h.2.2.1
  have hn := wf_n hw
  have hm := wf_m hw
  have e1 : σ 1 = V 0 := ld_C0 hC
  have hmod : ∀ v, (V 0 0 < 3 → v = 0) → (3 ≤ V 0 0 → rs_two V → v = rx_mx (rx_mx 0 (V 0 6 - 3 * V 0 0 + 6)) (V 0 6 - 2 * V 0 0 + 4)) → (3 ≤ V 0 0 → ¬ rs_two V → v = rx_mx 0 (V 0 6 - 3 * V 0 0 + 6)) → rx_CI L (d + 4) mX11_bound [.inr 125] σ (fun v2 σ2 => Q v v2 σ2) := by
    intro v v0 v1 v2
    refine bX11_bound L (d + 3) σ _ ?_
    rw [ld_Mn hM, ld_Mm hM]
    simp (disch := omega) only [rx_w_of]
    by_cases c : 3 ≤ V 0 0
    · rw [if_pos c]
      refine n_isParted hM hw (fun σ1 hf h2 => ?_) (fun σ1 hf h2 => ?_)
      · rw [if_neg (by decide), hf 126 (by decide), ld_Mn hM, ld_Mm hM]
        simp (disch := omega) only [rx_w_of]
        rw [v1 c h2]
        exact hQ _ _ ⟨V, T, iv_fr h (fun c i hk => by rw [hf c (by unfold fr_k at hk; omega)])⟩
      · rw [if_pos rfl, v2 c h2]
        exact hQ _ _ ⟨V, T, iv_fr h (fun c i hk => by rw [hf c (by unfold fr_k at hk; omega)])⟩
    · rw [if_neg c, v0 (by omega)]
      exact o_same h hQ _
  refine bX10_bound L (d + 3) σ _ ?_
  rw [e1]
  simp (disch := omega) only [rx_w_of]
  by_cases c : 3 ≤ V 0 0
  · rw [if_pos c]
    refine c_isTwoSided rfl hC hw (fun h2 => ?_) (fun h2 => ?_)
    · rw [if_neg (by decide), e1]
      simp (disch := omega) only [rx_w_of]
      exact hmod _ (fun q => by omega) (fun _ _ => rfl) (fun _ q => absurd h2 q)
    · rw [if_pos rfl]
      exact hmod _ (fun q => by omega) (fun _ q => absurd q h2) (fun _ _ => rfl)
  · rw [if_neg c]
    exact hmod _ (fun _ => rfl) (fun q => absurd q c) (fun q => absurd q c)
end BOUND
