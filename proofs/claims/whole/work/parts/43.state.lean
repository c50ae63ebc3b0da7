/-! ===== lands as such: V 0 0 posts, V 0 6 roads, V 0 12 texts, V 0 13 z; V 1 x, V 2 y, V 3 layer, V 4 line, V 5 place; V 6 kind, V 7 low, V 8 high, V 9 weight, V 10 page ===== -/
theorem up_e {σ : rx_St} {c : Nat} {i v i' : Int} (h : i' = i) : rx_up σ c i v c i' = v := by subst h; exact up_s
theorem up_x {σ : rx_St} {c c' : Nat} {i v i' : Int} (h : c' = c ∧ i' = i) : rx_up σ c i v c' i' = v := if_pos h
theorem up_n {σ : rx_St} {c c' : Nat} {i v i' : Int} (h : ¬ (c' = c ∧ i' = i)) : rx_up σ c i v c' i' = σ c' i' := if_neg h
/-- a land that is in order -/
def iv_Wf (V : rx_St) : Prop :=
  (0 ≤ V 0 0 ∧ V 0 0 ≤ 8) ∧ (0 ≤ V 0 6 ∧ V 0 6 ≤ 18) ∧ (0 ≤ V 0 12 ∧ V 0 12 ≤ 14) ∧
  (∀ p, 0 ≤ p → p < V 0 0 → ((0 ≤ V 1 p ∧ V 1 p < 100) ∧ (0 ≤ V 2 p ∧ V 2 p < 100) ∧ (0 ≤ V 3 p ∧ V 3 p < 4)) ∧ (0 ≤ V 4 p ∧ V 4 p < V 0 0 ∧ V 5 (V 4 p) = p) ∧ (0 ≤ V 5 p ∧ V 5 p < V 0 0 ∧ V 4 (V 5 p) = p)) ∧
  (∀ p q, 0 ≤ p → p < V 0 0 → 0 ≤ q → q < V 0 0 → V 1 p = V 1 q → V 2 p = V 2 q → p = q) ∧
  (∀ r, 0 ≤ r → r < V 0 6 → (0 ≤ V 6 r ∧ V 6 r < 6) ∧ (0 ≤ V 7 r ∧ V 7 r < V 8 r ∧ V 8 r < V 0 0) ∧ (1 ≤ V 9 r ∧ V 9 r ≤ 9) ∧ (0 ≤ V 10 r ∧ V 10 r < 4)) ∧
  (∀ r s, 0 ≤ r → r < V 0 6 → 0 ≤ s → s < V 0 6 → V 7 r = V 7 s → V 8 r = V 8 s → r = s)
section WFA
variable {V : rx_St}
theorem wf_n (h : iv_Wf V) : 0 ≤ V 0 0 ∧ V 0 0 ≤ 8 := h.1
theorem wf_m (h : iv_Wf V) : 0 ≤ V 0 6 ∧ V 0 6 ≤ 18 := h.2.1
theorem wf_t (h : iv_Wf V) : 0 ≤ V 0 12 ∧ V 0 12 ≤ 14 := h.2.2.1
theorem wf_p (h : iv_Wf V) {p : Int} (h0 : 0 ≤ p) (h1 : p < V 0 0) : ((0 ≤ V 1 p ∧ V 1 p < 100) ∧ (0 ≤ V 2 p ∧ V 2 p < 100) ∧ (0 ≤ V 3 p ∧ V 3 p < 4)) ∧ (0 ≤ V 4 p ∧ V 4 p < V 0 0 ∧ V 5 (V 4 p) = p) ∧ (0 ≤ V 5 p ∧ V 5 p < V 0 0 ∧ V 4 (V 5 p) = p) := h.2.2.2.1 p h0 h1
theorem wf_pp (h : iv_Wf V) {p q : Int} (h0 : 0 ≤ p) (h1 : p < V 0 0) (h2 : 0 ≤ q) (h3 : q < V 0 0) (ex : V 1 p = V 1 q) (ey : V 2 p = V 2 q) : p = q := h.2.2.2.2.1 p q h0 h1 h2 h3 ex ey
theorem wf_r (h : iv_Wf V) {r : Int} (h0 : 0 ≤ r) (h1 : r < V 0 6) : (0 ≤ V 6 r ∧ V 6 r < 6) ∧ (0 ≤ V 7 r ∧ V 7 r < V 8 r ∧ V 8 r < V 0 0) ∧ (1 ≤ V 9 r ∧ V 9 r ≤ 9) ∧ (0 ≤ V 10 r ∧ V 10 r < 4) := h.2.2.2.2.2.1 r h0 h1
theorem wf_rr (h : iv_Wf V) {r s : Int} (h0 : 0 ≤ r) (h1 : r < V 0 6) (h2 : 0 ≤ s) (h3 : s < V 0 6) (e1 : V 7 r = V 7 s) (e2 : V 8 r = V 8 s) : r = s := h.2.2.2.2.2.2 r s h0 h1 h2 h3 e1 e2
end WFA
/-- the land in the cells from A on is V -/
def ld_C (A : Nat) (V σ : rx_St) : Prop := ∀ k, k ≤ 10 → σ (A + k) = V k
section LDC
variable {A : Nat} {V σ σ' : rx_St}
theorem ld_C0 (h : ld_C A V σ) : σ A = V 0 := h 0 (by omega)
theorem ld_Cup (h : ld_C A V σ) {k : Nat} (hk : k ≤ 10) (i v : Int) : ld_C A (rx_up V k i v) (rx_up σ (A + k) i v) := by
  intro j hj
  funext i'
  have e := h j hj
  by_cases c : j = k
  · subst c
    simp [rx_up, e]
  · have c2 : ¬ (A + j = A + k) := by omega
    simp [rx_up, e, c]
theorem ld_Cup0 (h : ld_C A V σ) (i v : Int) : ld_C A (rx_up V 0 i v) (rx_up σ A i v) := ld_Cup h (k := 0) (by omega) i v
theorem ld_Cfr (h : ld_C A V σ) (hc : ∀ c, A ≤ c → c ≤ A + 10 → σ' c = σ c) : ld_C A V σ' := fun k hk => by
  rw [hc (A + k) (by omega) (by omega)]
  exact h k hk
theorem ld_Cne (h : ld_C A V σ) {c : Nat} (hc : c < A ∨ A + 10 < c) (i v : Int) : ld_C A V (rx_up σ c i v) := ld_Cfr h (fun c' h1 h2 => up_c (by omega))
end LDC
/-- where the model keeps what V k i is -/
def ld_i (k : Nat) (i : Int) : Int := if k = 0 then (if i = 0 then 1 else if i = 6 then 2 else if i = 12 then 3 else 0) else if k ≤ 3 then 4 + 3 * i + (k - 1) else if k = 4 then 28 + i else 36 + 5 * i + (k - 6)
def ld_ok (k : Nat) (i : Int) : Prop := (k = 0 ∧ (i = 0 ∨ i = 6 ∨ i = 12 ∨ i = 13)) ∨ (1 ≤ k ∧ k ≤ 4 ∧ 0 ≤ i ∧ i < 8) ∨ (6 ≤ k ∧ k ≤ 10 ∧ 0 ≤ i ∧ i < 18)
def ld_M (V : rx_St) (M : Int → Int) : Prop := ∀ k i, ld_ok k i → M (ld_i k i) = V k i
section LDM
variable {V : rx_St} {M : Int → Int} {σ : rx_St}
theorem ld_inj {k k' : Nat} {i i' : Int} (h : ld_ok k i) (h' : ld_ok k' i') (e : ld_i k i = ld_i k' i') : k = k' ∧ i = i' := by
  unfold ld_ok at h h'
  unfold ld_i at e
  repeat' split at e
  all_goals omega
theorem ld_Mn (h : ld_M V M) : M 1 = V 0 0 := h 0 0 (by unfold ld_ok; omega)
theorem ld_Mm (h : ld_M V M) : M 2 = V 0 6 := h 0 6 (by unfold ld_ok; omega)
theorem ld_Mt (h : ld_M V M) : M 3 = V 0 12 := h 0 12 (by unfold ld_ok; omega)
theorem ld_Mz (h : ld_M V M) : M 0 = V 0 13 := h 0 13 (by unfold ld_ok; omega)
theorem ld_Mx (h : ld_M V M) {p : Int} (h0 : 0 ≤ p) (h1 : p < 8) : M (4 + 3 * p) = V 1 p := by
  rw [← h 1 p (by unfold ld_ok; omega)]
  congr 1
  unfold ld_i
  simp
theorem ld_My (h : ld_M V M) {p : Int} (h0 : 0 ≤ p) (h1 : p < 8) : M (4 + 3 * p + 1) = V 2 p := by
  rw [← h 2 p (by unfold ld_ok; omega)]
  rfl
theorem ld_Ml (h : ld_M V M) {p : Int} (h0 : 0 ≤ p) (h1 : p < 8) : M (4 + 3 * p + 2) = V 3 p := by
  rw [← h 3 p (by unfold ld_ok; omega)]
  rfl
theorem ld_Mli (h : ld_M V M) {p : Int} (h0 : 0 ≤ p) (h1 : p < 8) : M (28 + p) = V 4 p := by
  rw [← h 4 p (by unfold ld_ok; omega)]
  rfl
theorem ld_Mr (h : ld_M V M) {r w : Int} {k : Nat} (h0 : 0 ≤ r) (h1 : r < 18) (hk : k ≤ 4) (hw : w = k) : M (36 + 5 * r + w) = V (6 + k) r := by
  rw [← h (6 + k) r (by unfold ld_ok; omega)]
  congr 1
  unfold ld_i
  rw [if_neg (by omega), if_neg (by omega), if_neg (by omega)]
  omega
theorem ld_Mup (h : ld_M V (σ 126)) {k : Nat} {i j v : Int} (hk : ld_ok k i) (hj : j = ld_i k i) : ld_M (rx_up V k i v) (rx_up σ 126 j v 126) := by
  intro k' i' h'
  have e := h k' i' h'
  by_cases c : k' = k ∧ i' = i
  · obtain ⟨rfl, rfl⟩ := c
    rw [up_s, ← hj]
    exact up_s
  · rw [up_n c, up_i (fun q => c (ld_inj h' hk (by omega)))]
    exact e
theorem ld_Mno (h : ld_M V (σ 126)) {j v : Int} (hj : 126 ≤ j) : ld_M V (rx_up σ 126 j v 126) := by
  intro k i hk
  have e := h k i hk
  have : ld_i k i < 126 := by
    unfold ld_ok at hk
    unfold ld_i
    repeat' split
    all_goals omega
  rw [up_i (by omega)]
  exact e
theorem ld_MV5 (h : ld_M V M) (i v : Int) : ld_M (rx_up V 5 i v) M := by
  intro k j hk
  rw [up_n (by unfold ld_ok at hk; omega)]
  exact h k j hk
end LDM
/-! the leaves again, over V -/
section LEAF
variable {L d : Nat} {σ V : rx_St} {K : Int → rx_St → Prop} {KV : rx_St → Prop}
theorem c_isPost {A : Nat} (hA : rx_isO 1 A = true) (hV : ld_C A V σ) {p : Int} (h1 : 0 ≤ p ∧ p < V 0 0 → K 1 σ) (h0 : ¬ (0 ≤ p ∧ p < V 0 0) → K 0 σ) : rx_CI L d mX1_isPost [.inr A, .inl p] σ K := by
  rw [← ld_C0 hV] at h1 h0
  exact s_isPost hA h1 h0
theorem c_isRoad {A : Nat} (hA : rx_isO 1 A = true) (hV : ld_C A V σ) {p : Int} (h1 : 0 ≤ p ∧ p < V 0 6 → K 1 σ) (h0 : ¬ (0 ≤ p ∧ p < V 0 6) → K 0 σ) : rx_CI L d mX1_isRoad [.inr A, .inl p] σ K := by
  rw [← ld_C0 hV] at h1 h0
  exact s_isRoad hA h1 h0
theorem rs_at_congr {V W : rx_St} (hn : V 0 0 = W 0 0) (h : ∀ p, 0 ≤ p → p < W 0 0 → V 1 p = W 1 p ∧ V 2 p = W 2 p) (x y : Int) : rs_at V x y = rs_at W x y := by
  unfold rs_at
  rw [hn]
  apply rs_find_congr
  intro q h1 h2
  obtain ⟨e1, e2⟩ := h q (by omega) (by omega)
  rw [e1, e2]
theorem rs_at_lt {V : rx_St} {x y : Int} (hn : 0 ≤ V 0 0) : rs_at V x y < V 0 0 := by
  unfold rs_at
  rcases rs_find_spec (f := fun p => decide (V 1 p = x ∧ V 2 p = y)) (V 0 0).toNat 0 with ⟨h, -⟩ | ⟨-, h, -⟩ <;> omega
theorem rs_at_is {V : rx_St} {x y : Int} (h : 0 ≤ rs_at V x y) : V 1 (rs_at V x y) = x ∧ V 2 (rs_at V x y) = y := by
  unfold rs_at at h ⊢
  rcases rs_find_spec (f := fun p => decide (V 1 p = x ∧ V 2 p = y)) (V 0 0).toNat 0 with ⟨g, -⟩ | ⟨-, -, g⟩
  · omega
  · exact of_decide_eq_true g
theorem rs_at_none {V : rx_St} {x y : Int} (hn : 0 ≤ V 0 0) (h : rs_at V x y < 0) : ∀ p, 0 ≤ p → p < V 0 0 → ¬ (V 1 p = x ∧ V 2 p = y) := by
  intro p h0 h1 hc
  rcases rs_find_spec (f := fun p => decide (V 1 p = x ∧ V 2 p = y)) (V 0 0).toNat 0 with ⟨-, g⟩ | ⟨g, -, -⟩
  · have := g p (by omega) (by omega)
    simp [hc.1, hc.2] at this
  · unfold rs_at at h
    omega
theorem ld_C_at {A : Nat} (hV : ld_C A V σ) (hn : V 0 0 ≤ 8) (x y : Int) : rs_at (fun k => σ (A + k)) x y = rs_at V x y :=
  rs_at_congr (by show σ A 0 = _; rw [ld_C0 hV]) (fun p _ _ => by
    have e1 : σ (A + 1) = V 1 := hV 1 (by omega)
    have e2 : σ (A + 2) = V 2 := hV 2 (by omega)
    exact ⟨congrFun e1 p, congrFun e2 p⟩) x y
theorem c_postAt {A : Nat} (hA : rx_isO 1 A = true) (hV : ld_C A V σ) (hw : iv_Wf V) {x y : Int} (h : K (rs_at V x y) σ) : rx_CI L d mX1_postAt [.inr A, .inl x, .inl y] σ K :=
  s_postAt hA (by rw [ld_C0 hV]; exact wf_n hw) (by rw [ld_C_at hV (wf_n hw).2]; exact h)
theorem c_postRefusal {A : Nat} (hA : rx_isO 1 A = true) (hV : ld_C A V σ) (hw : iv_Wf V) {x y : Int}
    (hb : ¬ ((0 ≤ x ∧ x < 100) ∧ 0 ≤ y ∧ y < 100) → K (-1000000001) σ) (hno : ((0 ≤ x ∧ x < 100) ∧ 0 ≤ y ∧ y < 100) → 0 ≤ rs_at V x y → K (-1000000002) σ)
    (hf : ((0 ≤ x ∧ x < 100) ∧ 0 ≤ y ∧ y < 100) → rs_at V x y < 0 → V 0 0 = 8 → K (-1000000003) σ) (hk : ((0 ≤ x ∧ x < 100) ∧ 0 ≤ y ∧ y < 100) → rs_at V x y < 0 → V 0 0 < 8 → K 0 σ) :
    rx_CI L (d + 1) mX1_postRefusal [.inr A, .inl x, .inl y] σ K := by
  have e := ld_C_at hV (wf_n hw).2 x y
  have e0 := ld_C0 hV
  refine s_postRefusal hA (by rw [e0]; exact wf_n hw) hb ?_ ?_ ?_
  · rw [e]; exact hno
  · rw [e, e0]; exact hf
  · rw [e, e0]; exact hk
/-- one more post -/
def ld_post (V : rx_St) (x y : Int) : rx_St := rx_up (rx_up (rx_up (rx_up (rx_up (rx_up V 0 0 (V 0 0 + 1)) 1 (V 0 0) x) 2 (V 0 0) y) 3 (V 0 0) 0) 4 (V 0 0) (V 0 0)) 5 (V 0 0) (V 0 0)
theorem c_addPost {A : Nat} (hA : rx_isO 1 A = true) (hV : ld_C A V σ) (hw : iv_Wf V) {x y : Int} (hn : V 0 0 < 8)
    (h : ∀ σ', ld_C A (ld_post V x y) σ' → (∀ c, c < A ∨ A + 5 < c → σ' c = σ c) → K (V 0 0) σ') : rx_CI L (d + 1) mX1_addPost [.inr A, .inl x, .inl y] σ K := by
  have e0 := ld_C0 hV
  refine s_addPost hA (by rw [e0]; exact ⟨(wf_n hw).1, hn⟩) ?_
  rw [e0]
  refine h _ ?_ (fun c hc => ?_)
  · exact ld_Cup (ld_Cup (ld_Cup (ld_Cup (ld_Cup (ld_Cup0 hV _ _) (k := 1) (by omega) _ _) (k := 2) (by omega) _ _) (k := 3) (by omega) _ _) (k := 4) (by omega) _ _) (k := 5) (by omega) _ _
  · rw [up_c (by omega), up_c (by omega), up_c (by omega), up_c (by omega), up_c (by omega), up_c (by omega)]
theorem wf_post (hw : iv_Wf V) {x y : Int} (hn : V 0 0 < 8) (hx : 0 ≤ x ∧ x < 100) (hy : 0 ≤ y ∧ y < 100) (hno : rs_at V x y < 0) : iv_Wf (ld_post V x y) := by
  have hno := rs_at_none (wf_n hw).1 hno
  obtain ⟨a1, a2, a3, a5, a6, a7, a8⟩ := hw
  have c0 : ld_post V x y 0 0 = V 0 0 + 1 := by simp [ld_post, rx_up]
  have ci : ∀ i, i ≠ 0 → ld_post V x y 0 i = V 0 i := by intro i hi; simp [ld_post, rx_up, hi]
  have ck : ∀ k, 6 ≤ k → ld_post V x y k = V k := by
    intro k hk
    funext i
    unfold ld_post
    rw [up_c (by omega), up_c (by omega), up_c (by omega), up_c (by omega), up_c (by omega), up_c (by omega)]
  have ce : ∀ k i, 1 ≤ k → i ≠ V 0 0 → ld_post V x y k i = V k i := by
    intro k i hk hi
    unfold ld_post
    rw [up_n (by omega), up_n (by omega), up_n (by omega), up_n (by omega), up_n (by omega), up_n (by omega)]
  have n1 : ld_post V x y 1 (V 0 0) = x := by simp [ld_post, rx_up]
  have n2 : ld_post V x y 2 (V 0 0) = y := by simp [ld_post, rx_up]
  have n3 : ld_post V x y 3 (V 0 0) = 0 := by simp [ld_post, rx_up]
  have n4 : ld_post V x y 4 (V 0 0) = V 0 0 := by simp [ld_post, rx_up]
  have n5 : ld_post V x y 5 (V 0 0) = V 0 0 := by simp [ld_post, rx_up]
  unfold iv_Wf
  rw [c0, ci 6 (by decide), ci 12 (by decide), ck 6 (by decide), ck 7 (by decide), ck 8 (by decide), ck 9 (by decide), ck 10 (by decide)]
  refine ⟨by omega, a2, a3, ?_, ?_, ?_, a8⟩
  · intro p h0 h1
    by_cases e : p = V 0 0
    · subst e
      rw [n1, n2, n3, n4, n5, n4]
      omega
    · obtain ⟨b1, b2, b3⟩ := a5 p h0 (by omega)
      rw [ce 1 p (by omega) e, ce 2 p (by omega) e, ce 3 p (by omega) e, ce 4 p (by omega) e, ce 5 p (by omega) e, ce 5 (V 4 p) (by omega) (by omega), ce 4 (V 5 p) (by omega) (by omega)]
      omega
  · intro p q p0 p1 q0 q1 ex ey
    by_cases e1 : p = V 0 0 <;> by_cases e2 : q = V 0 0
    · omega
    · rw [e1, n1, ce 1 q (by omega) e2] at ex
      rw [e1, n2, ce 2 q (by omega) e2] at ey
      exact absurd ⟨ex.symm, ey.symm⟩ (hno q q0 (by omega))
    · rw [e2, n1, ce 1 p (by omega) e1] at ex
      rw [e2, n2, ce 2 p (by omega) e1] at ey
      exact absurd ⟨ex, ey⟩ (hno p p0 (by omega))
    · rw [ce 1 p (by omega) e1, ce 1 q (by omega) e2] at ex
      rw [ce 2 p (by omega) e1, ce 2 q (by omega) e2] at ey
      exact a6 p q p0 (by omega) q0 (by omega) ex ey
  · intro r h0 h1
    have := a7 r h0 h1
    omega
/-! the model's leaves over V -/
theorem n_isPost (hM : ld_M V (σ 126)) (hw : iv_Wf V) {p : Int} (h1 : 0 ≤ p ∧ p < V 0 0 → K 1 σ) (h0 : ¬ (0 ≤ p ∧ p < V 0 0) → K 0 σ) : rx_CI L (d + 1) mX11_isPost [.inr 125, .inl p] σ K := by
  have e := ld_Mn hM
  have := wf_n hw
  exact m_isPost (by omega) (fun g => h1 (by omega)) (fun g => h0 (by omega))
theorem n_isRoad (hM : ld_M V (σ 126)) (hw : iv_Wf V) {p : Int} (h1 : 0 ≤ p ∧ p < V 0 6 → K 1 σ) (h0 : ¬ (0 ≤ p ∧ p < V 0 6) → K 0 σ) : rx_CI L (d + 1) mX11_isRoad [.inr 125, .inl p] σ K := by
  have e := ld_Mm hM
  have := wf_m hw
  exact m_isRoad (by omega) (fun g => h1 (by omega)) (fun g => h0 (by omega))
theorem n_xOf (hM : ld_M V (σ 126)) {p : Int} (hp : 0 ≤ p ∧ p < 8) (h : K (V 1 p) σ) : rx_CI L d mX11_xOf [.inr 125, .inl p] σ K :=
  m_xOf hp (by rw [ld_Mx hM hp.1 hp.2]; exact h)
theorem n_yOf (hM : ld_M V (σ 126)) {p : Int} (hp : 0 ≤ p ∧ p < 8) (h : K (V 2 p) σ) : rx_CI L d mX11_yOf [.inr 125, .inl p] σ K :=
  m_yOf hp (by rw [ld_My hM hp.1 hp.2]; exact h)
theorem n_layerOf (hM : ld_M V (σ 126)) {p : Int} (hp : 0 ≤ p ∧ p < 8) (h : K (V 3 p) σ) : rx_CI L d mX11_layerOf [.inr 125, .inl p] σ K :=
  m_layerOf hp (by rw [ld_Ml hM hp.1 hp.2]; exact h)
theorem n_of (hM : ld_M V (σ 126)) {r w : Int} (k : Nat) (hr : 0 ≤ r ∧ r < 18) (hw : w = k) (hk : k ≤ 4) (h : K (V (6 + k) r) σ) : rx_CI L d mX11_of [.inr 125, .inl r, .inl w] σ K :=
  m_of hr (by omega) (by rw [ld_Mr hM hr.1 hr.2 hk hw]; exact h)
theorem n_lesser (hM : ld_M V (σ 126)) {r : Int} (hr : 0 ≤ r ∧ r < 18) (h : K (V 7 r) σ) : rx_CI L (d + 1) mX11_lesser [.inr 125, .inl r] σ K :=
  m_lesser hr (by rw [ld_Mr hM hr.1 hr.2 (k := 1) (w := 1) (by omega) rfl]; exact h)
theorem n_greater (hM : ld_M V (σ 126)) {r : Int} (hr : 0 ≤ r ∧ r < 18) (h : K (V 8 r) σ) : rx_CI L (d + 1) mX11_greater [.inr 125, .inl r] σ K :=
  m_greater hr (by rw [ld_Mr hM hr.1 hr.2 (k := 2) (w := 2) (by omega) rfl]; exact h)
theorem n_isFrom (hM : ld_M V (σ 126)) {r p : Int} (hr : 0 ≤ r ∧ r < 18) (h1 : V 7 r = p ∨ V 8 r = p → K 1 σ) (h0 : ¬ (V 7 r = p ∨ V 8 r = p) → K 0 σ) : rx_CI L (d + 2) mX11_isFrom [.inr 125, .inl r, .inl p] σ K :=
  m_isFrom hr (by rw [ld_Mr hM hr.1 hr.2 (k := 1) (w := 1) (by omega) rfl, ld_Mr hM hr.1 hr.2 (k := 2) (w := 2) (by omega) rfl]; exact h1) (by rw [ld_Mr hM hr.1 hr.2 (k := 1) (w := 1) (by omega) rfl, ld_Mr hM hr.1 hr.2 (k := 2) (w := 2) (by omega) rfl]; exact h0)
theorem n_postAt (hM : ld_M V (σ 126)) (hw : iv_Wf V) {x y : Int} (h : K (rs_at V x y) σ) : rx_CI L (d + 1) mX11_postAt [.inr 125, .inl x, .inl y] σ K := by
  have e := ld_Mn hM
  have hn := wf_n hw
  refine m_postAt (by omega) ?_
  rw [rs_at_congr (W := V) (by exact e) (fun p h0 h1 => ⟨ld_Mx hM h0 (by omega), ld_My hM h0 (by omega)⟩)]
  exact h
theorem n_comes (hM : ld_M V (σ 126)) (hw : iv_Wf V) {x y : Int} (hn : V 0 0 < 8)
    (h : ∀ σ', ld_M (ld_post V x y) (σ' 126) → (∀ c, c ≠ 126 → σ' c = σ c) → (∀ i, 126 ≤ i → σ' 126 i = σ 126 i) → K (V 0 0) σ') : rx_CI L d mX11_comes [.inr 125, .inl x, .inl y] σ K := by
  have e := ld_Mn hM
  have hn0 := wf_n hw
  refine m_comes (by omega) ?_
  rw [e]
  refine h _ ?_ (fun c hc => ?_) (fun i hi => ?_)
  · have h1 := ld_Mup hM (k := 1) (i := V 0 0) (v := x) (j := 4 + 3 * V 0 0) (by unfold ld_ok; omega) (by unfold ld_i; simp)
    have h2 := ld_Mup h1 (k := 2) (i := V 0 0) (v := y) (j := 4 + 3 * V 0 0 + 1) (by unfold ld_ok; omega) (by unfold ld_i; simp)
    have h3 := ld_Mup h2 (k := 3) (i := V 0 0) (v := 0) (j := 4 + 3 * V 0 0 + 2) (by unfold ld_ok; omega) (by unfold ld_i; simp)
    have h4 := ld_Mup h3 (k := 4) (i := V 0 0) (v := V 0 0) (j := 28 + V 0 0) (by unfold ld_ok; omega) (by unfold ld_i; simp)
    have h5 := ld_Mup h4 (k := 0) (i := 0) (v := V 0 0 + 1) (j := 1) (by unfold ld_ok; omega) (by unfold ld_i; simp)
    intro k i hk
    have h6 := ld_MV5 h5 (V 0 0) (V 0 0) k i hk
    rw [h6]
    unfold ld_post
    simp only [rx_up]
    by_cases e5 : k = 5 ∧ i = V 0 0
    · rw [if_pos e5, if_pos e5]
    · rw [if_neg e5, if_neg e5]
      by_cases e0 : k = 0 ∧ i = 0
      · obtain ⟨rfl, rfl⟩ := e0
        simp
      · simp [e0]
  · rw [up_c hc, up_c hc, up_c hc, up_c hc, up_c hc]
  · rw [up_i (by omega), up_i (by omega), up_i (by omega), up_i (by omega), up_i (by omega)]
end LEAF
