/-! ===== texts worked out ===== -/
def tx_ap (e a b : Int) : Int := if e = -38 then (if a = 0 ∨ b = 0 then 0 else 1) else if e = -42 then rx_w (a * b) else if e = -43 then rx_w (a + b) else if e = -45 then rx_w (a - b) else if e = -60 then (if a < b then 1 else 0) else if e = -61 then (if a = b then 1 else 0) else if e = -62 then (if b < a then 1 else 0) else if e = -124 then (if a = 0 ∧ b = 0 then 0 else 1) else if b = 0 then 0 else rx_w (a.tdiv b)
def tx_val (e f g h : Int) : Int := if e = -1 then f else if e = -2 then g else if e = -3 then h else e
def tx_st (c : Int → Int) (f g h : Int) : Nat → Int → Int
  | 0 => fun _ => 0
  | k + 1 => if -3 ≤ c k then (fun j => if j = tx_dep c k then tx_val (c k) f g h else tx_st c f g h k j) else if c k = -33 then (fun j => if j = tx_dep c k - 1 then (if tx_st c f g h k (tx_dep c k - 1) = 0 then 1 else 0) else tx_st c f g h k j) else (fun j => if j = tx_dep c k - 2 then tx_ap (c k) (tx_st c f g h k (tx_dep c k - 2)) (tx_st c f g h k (tx_dep c k - 1)) else tx_st c f g h k j)
theorem tx_st_leaf {c : Int → Int} {f g h : Int} {k : Nat} (q : -3 ≤ c k) (j : Int) : tx_st c f g h (k + 1) j = if j = tx_dep c k then tx_val (c k) f g h else tx_st c f g h k j := by
  show (if -3 ≤ c k then _ else _ : Int → Int) j = _
  rw [if_pos q]
theorem tx_st_not {c : Int → Int} {f g h : Int} {k : Nat} (q : c k = -33) (j : Int) : tx_st c f g h (k + 1) j = if j = tx_dep c k - 1 then (if tx_st c f g h k (tx_dep c k - 1) = 0 then 1 else 0) else tx_st c f g h k j := by
  show (if -3 ≤ c k then _ else _ : Int → Int) j = _
  rw [if_neg (show ¬ -3 ≤ c k by omega), if_pos q]
theorem tx_st_two {c : Int → Int} {f g h : Int} {k : Nat} (q : c k < -3) (q2 : c k ≠ -33) (j : Int) : tx_st c f g h (k + 1) j = if j = tx_dep c k - 2 then tx_ap (c k) (tx_st c f g h k (tx_dep c k - 2)) (tx_st c f g h k (tx_dep c k - 1)) else tx_st c f g h k j := by
  show (if -3 ≤ c k then _ else _ : Int → Int) j = _
  rw [if_neg (show ¬ -3 ≤ c k by omega), if_neg q2]
theorem tx_dep_leaf {c : Int → Int} {k : Nat} (q : -3 ≤ c k) : tx_dep c (k + 1) = tx_dep c k + 1 := by
  show (if -3 ≤ c k then _ else _) = _
  rw [if_pos q]
theorem tx_dep_not {c : Int → Int} {k : Nat} (q : c k = -33) : tx_dep c (k + 1) = tx_dep c k := by
  show (if -3 ≤ c k then _ else _) = _
  rw [if_neg (show ¬ -3 ≤ c k by omega), if_pos q]
theorem tx_dep_two {c : Int → Int} {k : Nat} (q : c k < -3) (q2 : c k ≠ -33) : tx_dep c (k + 1) = tx_dep c k - 1 := by
  show (if -3 ≤ c k then _ else _) = _
  rw [if_neg (show ¬ -3 ≤ c k by omega), if_neg q2]
/-- what text t gives -/
def rs_ans (T : rx_St) (t f g h : Int) : Int := tx_st (T (4 + t.toNat)) f g h (T 2 t).toNat 0
theorem tx_dep_b {key : Int} {c : Int → Int} {n : Nat} (h : tx_ok key c n) : ∀ k : Nat, k ≤ n → 0 ≤ tx_dep c k ∧ tx_dep c k ≤ k
  | 0, _ => ⟨Int.le_refl 0, Int.le_refl 0⟩
  | k + 1, hk => by
    have ih := tx_dep_b h k (by omega)
    unfold tx_dep
    rcases h.1 k (by omega) with g | g | g
    · rw [if_pos g.1]
      omega
    · rw [if_neg (by omega), if_pos g.1]
      omega
    · rw [if_neg (by unfold tx_two at g; omega), if_neg (by unfold tx_two at g; omega)]
      omega
/-- the last of the first n that f holds of; -1 -/
def rs_lst (f : Int → Bool) : Nat → Int
  | 0 => -1
  | k + 1 => if f k = true then k else rs_lst f k
theorem rs_lst_b {f : Int → Bool} : ∀ k : Nat, -1 ≤ rs_lst f k ∧ rs_lst f k < k
  | 0 => ⟨by unfold rs_lst; omega, by unfold rs_lst; omega⟩
  | k + 1 => by
    unfold rs_lst
    have := rs_lst_b (f := f) k
    split <;> omega
theorem rs_lst_t {f : Int → Bool} : ∀ k : Nat, 0 ≤ rs_lst f k → f (rs_lst f k) = true
  | 0, h => by unfold rs_lst at h; omega
  | k + 1, h => by
    unfold rs_lst at h ⊢
    by_cases c : f k = true
    · rw [if_pos c]
      exact c
    · rw [if_neg c] at h ⊢
      exact rs_lst_t k h
/-- the text that counts for a key -/
def rs_law (T : rx_St) (n key : Int) : Int := rs_lst (fun t => decide (T 0 t = key)) n.toNat
theorem rs_law_b {T : rx_St} {n key : Int} (hn : 0 ≤ n) : -1 ≤ rs_law T n key ∧ rs_law T n key < n := by
  have := rs_lst_b (f := fun t => decide (T 0 t = key)) n.toNat
  unfold rs_law
  omega
theorem rs_law_k {T : rx_St} {n key : Int} (h : 0 ≤ rs_law T n key) : T 0 (rs_law T n key) = key := of_decide_eq_true (rs_lst_t (f := fun t => decide (T 0 t = key)) n.toNat h)
section TEXTS
variable {L d : Nat} {σ V T : rx_St} {S : Int → Int} {Q : Int → Int → rx_St → Prop} {K : Int → rx_St → Prop} {KV : rx_St → Prop}
theorem c_lastOf (hT : tx_C T σ) {n key : Int} (hn : 0 ≤ n ∧ n ≤ 14) (h : K (rs_law T n key) σ) : rx_CI L d mX2_lastOf [.inr 38, .inl n, .inl key] σ K := by
  have e39 : σ 39 = T 0 := hT 0 (by omega)
  refine bX2_lastOf L d n key σ K ?_
  have e : rx_mn n 14 = n := by unfold rx_mn; split <;> omega
  rw [e, rx_w_of (by omega) (by omega)]
  have key2 : ∀ (k : Nat), (k : Int) ≤ 14 → K (rs_lst (fun t => decide (T 0 t = key)) k) σ → rx_Go L d mX2_lastOf 9 [some (.inr 38), some (.inl n), some (.inl key), some (.inl ((k : Int) - 1))] [] σ (rx_PI K) := by
    intro k
    induction k with
    | zero =>
      intro hk hK
      refine bX2_lastOf_9 L d _ key _ σ K ?_
      rw [if_pos (by omega)]
      exact hK
    | succ k ih =>
      intro hk hK
      refine bX2_lastOf_9 L d _ key _ σ K ?_
      rw [if_neg (by omega), e39, show ((k + 1 : Nat) : Int) - 1 = k by omega]
      refine ⟨by omega, ?_⟩
      unfold rs_lst at hK
      by_cases c : T 0 k = key
      · rw [if_neg (fun q => q c)]
        rw [if_pos (decide_eq_true c)] at hK
        exact hK
      · rw [if_pos c, rx_w_of (by omega) (by omega)]
        rw [if_neg (by simpa using c)] at hK
        exact ih (by omega) hK
  have := key2 n.toNat (by omega) h
  rw [show ((n.toNat : Nat) : Int) - 1 = n - 1 by omega] at this
  exact this
theorem n_counts (hM : ld_M V (σ 126)) (hw : iv_Wf V) (hT : tx_M T (V 0 12) (σ 126)) (hTw : tx_Wf T (V 0 12)) {key : Int} (h : K (rs_law T (V 0 12) key) σ) : rx_CI L d mX11_counts [.inr 125, .inl key] σ K := by
  have ht := wf_t hw
  refine bX11_counts L d key σ K ?_
  rw [ld_Mt hM, rx_w_of (by omega) (by omega)]
  have key2 : ∀ (k : Nat), (k : Int) ≤ V 0 12 → K (rs_lst (fun t => decide (T 0 t = key)) k) σ → rx_Go L d mX11_counts 9 [some (.inr 125), some (.inl key), some (.inl ((k : Int) - 1))] [] σ (rx_PI K) := by
    intro k
    induction k with
    | zero =>
      intro hk hK
      refine bX11_counts_9 L d key _ σ K ?_
      rw [if_pos (by omega)]
      exact hK
    | succ k ih =>
      intro hk hK
      refine bX11_counts_9 L d key _ σ K ?_
      obtain ⟨a1, -⟩ := hT k (by omega) (by omega)
      obtain ⟨b1, b2, -⟩ := hTw k (by omega) (by omega)
      rw [if_neg (by omega), show ((k + 1 : Nat) : Int) - 1 = k by omega]
      simp (disch := omega) only [rx_w_of]
      refine ⟨by omega, ?_⟩
      have ed : Int.tdiv (σ 126 (126 + 2 * (k : Int))) 1000 = T 0 k := by
        rw [a1, Int.tdiv_eq_ediv_of_nonneg (by omega)]
        omega
      rw [ed, rx_w_of (by omega) (by omega)]
      unfold rs_lst at hK
      by_cases c : T 0 k = key
      · rw [if_neg (fun q => q c)]
        rw [if_pos (decide_eq_true c)] at hK
        exact hK
      · rw [if_pos c]
        rw [if_neg (by simpa using c)] at hK
        have := ih (by omega) hK
        rw [show (k : Int) + -1 = k - 1 by omega]
        exact this
  have := key2 (V 0 12).toNat (by omega) h
  rw [show (((V 0 12).toNat : Nat) : Int) - 1 = V 0 12 - 1 by omega] at this
  exact this
theorem c_apply {e a b : Int} (he : tx_two e) (h : K (tx_ap e a b) σ) : rx_CI L d mX2_apply [.inl (rx_w (-e)), .inl a, .inl b] σ K := by
  have hr : rx_w (-e) = -e := by unfold tx_two at he; exact rx_w_of (by omega) (by omega)
  rw [hr]
  refine bX2_apply L d _ a b σ K ?_
  unfold tx_two at he
  unfold tx_ap at h
  rcases he with rfl | rfl | rfl | rfl | rfl | rfl | rfl | rfl | rfl
  all_goals simp only [Int.neg_neg, Int.reduceNeg, Int.reduceEq, if_true, if_false, reduceIte] at h ⊢
  · by_cases c : a = 0
    · rw [if_neg (fun q => q c)]
      by_cases c2 : b = 0
      · rw [if_pos c2]
        rw [if_pos ⟨c, c2⟩] at h
        exact h
      · rw [if_neg c2]
        rw [if_neg (fun q => c2 q.2)] at h
        exact h
    · rw [if_pos c]
      rw [if_neg (fun q => c q.1)] at h
      exact h
  · by_cases c : a = 0
    · rw [if_pos c]
      rw [if_pos (Or.inl c)] at h
      exact h
    · rw [if_neg c]
      by_cases c2 : b = 0
      · rw [if_pos c2]
        rw [if_pos (Or.inr c2)] at h
        exact h
      · rw [if_neg c2]
        rw [if_neg (fun q => q.elim c c2)] at h
        exact h
  · by_cases c : a < b
    · rw [if_neg (by omega)]
      rw [if_pos c] at h
      exact h
    · rw [if_pos (by omega)]
      rw [if_neg c] at h
      exact h
  · by_cases c : a = b
    · rw [if_neg (fun q => q c)]
      rw [if_pos c] at h
      exact h
    · rw [if_pos c]
      rw [if_neg c] at h
      exact h
  · by_cases c : b < a
    · rw [if_neg (by omega)]
      rw [if_pos c] at h
      exact h
    · rw [if_pos (by omega)]
      rw [if_neg c] at h
      exact h
  · exact h
  · exact h
  · exact h
  · by_cases c : b = 0
    · rw [if_neg (fun q => q c)]
      rw [if_pos c] at h
      exact h
    · rw [if_pos c]
      rw [if_neg c] at h
      exact ⟨c, h⟩
theorem n_two {e a b : Int} (he : tx_two e) (h : K (tx_ap e a b) σ) : rx_CI L d mX11_two [.inl (tx_enc e), .inl a, .inl b] σ K := by
  refine bX11_two L d _ a b σ K ?_
  unfold tx_two at he
  unfold tx_ap at h
  unfold tx_enc
  rcases he with rfl | rfl | rfl | rfl | rfl | rfl | rfl | rfl | rfl
  all_goals simp only [Int.reduceNeg, Int.reduceEq, Int.reduceLE, if_true, if_false, reduceIte] at h ⊢
  · by_cases c : a = 0
    · rw [if_neg (fun q => q c)]
      by_cases c2 : b = 0
      · rw [if_pos c2]
        rw [if_pos ⟨c, c2⟩] at h
        exact h
      · rw [if_neg c2]
        rw [if_neg (fun q => c2 q.2)] at h
        exact h
    · rw [if_pos c]
      rw [if_neg (fun q => c q.1)] at h
      exact h
  · by_cases c : a = 0
    · rw [if_pos c]
      rw [if_pos (Or.inl c)] at h
      exact h
    · rw [if_neg c]
      by_cases c2 : b = 0
      · rw [if_pos c2]
        rw [if_pos (Or.inr c2)] at h
        exact h
      · rw [if_neg c2]
        rw [if_neg (fun q => q.elim c c2)] at h
        exact h
  · by_cases c : a < b
    · rw [if_neg (by omega)]
      rw [if_pos c] at h
      exact h
    · rw [if_pos (by omega)]
      rw [if_neg c] at h
      exact h
  · by_cases c : a = b
    · rw [if_neg (fun q => q c)]
      rw [if_pos c] at h
      exact h
    · rw [if_pos c]
      rw [if_neg c] at h
      exact h
  · by_cases c : b < a
    · rw [if_neg (by omega)]
      rw [if_pos c] at h
      exact h
    · rw [if_pos (by omega)]
      rw [if_neg c] at h
      exact h
  · exact h
  · exact h
  · exact h
  · by_cases c : b = 0
    · rw [if_neg (fun q => q c)]
      rw [if_pos c] at h
      exact h
    · rw [if_pos c]
      rw [if_neg c] at h
      exact ⟨c, h⟩
theorem c_answer (hT : tx_C T σ) {n t f g u : Int} (hn : n ≤ 14) (hTw : tx_Wf T n) (ht : 0 ≤ t ∧ t < n) (h : ∀ σ', (∀ c, c ≠ 57 → σ' c = σ c) → K (rs_ans T t f g u) σ') : rx_CI L (d + 1) mX2_answer [.inr 38, .inl t, .inl f, .inl g, .inl u] σ K := by
  obtain ⟨w1, w2, w3⟩ := hTw t ht.1 ht.2
  refine bX2_answer L d t f g u σ K ⟨by omega, fun A hA hl => ?_⟩
  have eA : σ A = T (4 + t.toNat) := by rw [hA, show 43 + t.toNat = 39 + (4 + t.toNat) by omega]; exact hT _ (by omega)
  have e41 : σ 41 = T 2 := hT 2 (by omega)
  have key : ∀ (m k : Nat) (q8 : Option rx_V) (σ1 : rx_St), (k : Int) + m = T 2 t → (∀ c, c ≠ 57 → σ1 c = σ c) → (∀ j, 0 ≤ j → j < tx_dep (T (4 + t.toNat)) k → σ1 57 j = tx_st (T (4 + t.toNat)) f g u k j) → rx_Go L (d + 1) mX2_answer 14 [some (.inr 38), some (.inl t), some (.inl f), some (.inl g), some (.inl u), some (.inr A), some (.inl (tx_dep (T (4 + t.toNat)) k)), some (.inl (k : Int)), q8] [] σ1 (rx_PI K) := by
    intro m
    induction m with
    | zero =>
      intro k q8 σ1 hk hc hs
      refine bX2_answer_14 L d t f g u A hl _ _ q8 σ1 K ⟨by omega, ?_⟩
      rw [hc 41 (by decide), e41, if_pos (by omega)]
      have ek : k = (T 2 t).toNat := by omega
      subst ek
      rw [hs 0 (by omega) (by have := w3.2; omega)]
      exact h σ1 hc
    | succ m ih =>
      intro k q8 σ1 hk hc hs
      have hb := tx_dep_b w3 k (by omega)
      have hstep := w3.1 k (by omega)
      refine bX2_answer_14 L d t f g u A hl _ _ q8 σ1 K ⟨by omega, ?_⟩
      rw [hc 41 (by decide), e41, if_neg (by omega), hc A (by omega), eA]
      refine ⟨by omega, ?_⟩
      have next : ∀ (q8 : Option rx_V) (σ2 : rx_St), (∀ c, c ≠ 57 → σ2 c = σ c) → (∀ j, 0 ≤ j → j < tx_dep (T (4 + t.toNat)) (k + 1) → σ2 57 j = tx_st (T (4 + t.toNat)) f g u (k + 1) j) → rx_Go L (d + 1) mX2_answer 149 [some (.inr 38), some (.inl t), some (.inl f), some (.inl g), some (.inl u), some (.inr A), some (.inl (tx_dep (T (4 + t.toNat)) (k + 1))), some (.inl (k : Int)), q8] [] σ2 (rx_PI K) := by
        intro q8 σ2 h1 h2
        refine bX2_answer_149 L d t f g u A hl _ _ q8 σ2 K ?_
        rw [rx_w_of (by omega) (by omega)]
        exact ih (k + 1) q8 σ2 (by omega) h1 h2
      generalize hc' : T (4 + t.toNat) = c at *
      rcases hstep with g1 | g1 | g1
      · rw [if_neg (by omega), if_neg (by omega)]
        refine bX2_valueOf L d _ f g u σ1 _ ?_
        have ed : tx_dep c (k + 1) = tx_dep c k + 1 := by show (if -3 ≤ c k then _ else _) = _; rw [if_pos g1.1]
        have fin : ∀ v, v = tx_val (c k) f g u → ((0 ≤ tx_dep c k ∧ tx_dep c k < 96) ∧ rx_Go L (d + 1) mX2_answer 149 [some (.inr 38), some (.inl t), some (.inl f), some (.inl g), some (.inl u), some (.inr A), some (.inl (rx_w (tx_dep c k + 1))), some (.inl (k : Int)), some (.inl (c k))] [] (rx_up σ1 57 (tx_dep c k) v) (rx_PI K)) := by
          rintro v rfl
          refine ⟨by omega, ?_⟩
          rw [rx_w_of (by omega) (by omega), ← ed]
          refine next _ _ (fun c' h9 => by rw [up_c h9]; exact hc c' h9) (fun j j0 j1 => ?_)
          rw [tx_st_leaf g1.1]
          by_cases e : j = tx_dep c k
          · rw [up_e e, if_pos e]
          · rw [up_i e, if_neg e]
            exact hs j j0 (by omega)
        unfold tx_val at fin
        by_cases q3 : c k = -3
        · rw [if_pos q3]
          exact fin _ (by rw [if_neg (by omega), if_neg (by omega), if_pos q3])
        rw [if_neg q3]
        by_cases q2 : c k = -2
        · rw [if_pos q2]
          exact fin _ (by rw [if_neg (by omega), if_pos q2])
        rw [if_neg q2]
        by_cases q1 : c k = -1
        · rw [if_pos q1]
          exact fin _ (by rw [if_pos q1])
        rw [if_neg q1]
        exact fin _ (by rw [if_neg q1, if_neg q2, if_neg q3])
      · rw [if_pos (by omega), if_neg (fun q => q g1.1), if_neg (by omega), rx_w_of (by omega) (by omega), hs _ (by omega) (by omega)]
        refine ⟨by omega, ?_⟩
        have ed : tx_dep c (k + 1) = tx_dep c k := by show (if -3 ≤ c k then _ else _) = _; rw [if_neg (by omega), if_pos g1.1]
        have fin : ∀ v, v = (if tx_st c f g u k (tx_dep c k - 1) = 0 then 1 else 0) → rx_Go L (d + 1) mX2_answer 106 [some (.inr 38), some (.inl t), some (.inl f), some (.inl g), some (.inl u), some (.inr A), some (.inl (tx_dep c k)), some (.inl (k : Int)), some (.inl (c k))] [] (rx_up σ1 57 (tx_dep c k - 1) v) (rx_PI K) := by
          rintro v rfl
          refine bX2_answer_106 L d t f g u A hl _ _ _ _ K ?_
          rw [← ed]
          refine next _ _ (fun c' h9 => by rw [up_c h9]; exact hc c' h9) (fun j j0 j1 => ?_)
          rw [ed, tx_st_not g1.1]
          by_cases e : j = tx_dep c k - 1
          · rw [up_e e, if_pos e]
          · rw [up_i e, if_neg e]
            exact hs j j0 (by omega)
        by_cases q : tx_st c f g u k (tx_dep c k - 1) = 0
        · rw [if_neg (fun z => z q)]
          exact fin 1 (by rw [if_pos q])
        · rw [if_pos q]
          exact fin 0 (by rw [if_neg q])
      · have htw : c k < -3 ∧ c k ≠ -33 := by have := g1.1; unfold tx_two at this; omega
        rw [if_pos (by omega), if_pos htw.2, if_neg (by omega), rx_w_of (x := tx_dep c k + -1) (by omega) (by omega), rx_w_of (x := tx_dep c k + -1 - 1) (by omega) (by omega), hs _ (by omega) (by omega), hs _ (by omega) (by omega)]
        refine ⟨by omega, by omega, ?_⟩
        refine c_apply g1.1 ?_
        have ed : tx_dep c (k + 1) = tx_dep c k + -1 := by show (if -3 ≤ c k then _ else _) = _; rw [if_neg (by omega), if_neg htw.2]; omega
        rw [← ed]
        refine next _ _ (fun c' h9 => by rw [up_c h9]; exact hc c' h9) (fun j j0 j1 => ?_)
        rw [tx_st_two htw.1 htw.2]
        by_cases e : j = tx_dep c (k + 1) - 1
        · rw [up_e e, if_pos (by omega), ed, show tx_dep c k + -1 - 1 = tx_dep c k - 2 by omega, show tx_dep c k + -1 = tx_dep c k - 1 by omega]
        · rw [up_i e, if_neg (by omega)]
          exact hs j j0 (by omega)
  have := key (T 2 t).toNat 0 none σ (by omega) (fun _ _ => rfl) (fun j j0 j1 => by unfold tx_dep at j1; omega)
  exact this
theorem n_worksOut (hM : ld_M V (σ 126)) (hT : tx_M T (V 0 12) (σ 126)) {t f g u : Int} (hn : V 0 12 ≤ 14) (hTw : tx_Wf T (V 0 12)) (ht : 0 ≤ t ∧ t < V 0 12) (h0 : σ 149 0 = f) (h1 : σ 149 1 = g) (h2 : T 0 t = 0 → σ 149 2 = u) (h : ∀ σ', (∀ c, c ≠ 148 → σ' c = σ c) → K (rs_ans T t f g u) σ') : rx_CI L (d + 1) mX11_worksOut [.inr 125, .inl t] σ K := by
  obtain ⟨w1, w2, w3⟩ := hTw t ht.1 ht.2
  obtain ⟨a1, a2, a3⟩ := hT t ht.1 ht.2
  refine bX11_worksOut L d t σ K ?_
  simp (disch := omega) only [rx_w_of]
  refine ⟨by omega, ?_⟩
  have em : Int.tmod (σ 126 (126 + 2 * t)) 1000 = T 2 t := by
    rw [a1, Int.tmod_eq_emod_of_nonneg (by omega)]
    omega
  rw [em]
  have key : ∀ (m k : Nat) (q5 : Option rx_V) (σ1 : rx_St), (k : Int) + m = T 2 t → (∀ c, c ≠ 148 → σ1 c = σ c) → (∀ j, 0 ≤ j → j < tx_dep (T (4 + t.toNat)) k → σ1 148 j = tx_st (T (4 + t.toNat)) f g u k j) → rx_Go L (d + 1) mX11_worksOut 21 [some (.inr 125), some (.inl t), some (.inl (tx_dep (T (4 + t.toNat)) k)), some (.inl (T 2 t)), some (.inl (k : Int)), q5] [] σ1 (rx_PI K) := by
    intro m
    induction m with
    | zero =>
      intro k q5 σ1 hk hc hs
      refine bX11_worksOut_21 L d t _ _ _ q5 σ1 K ?_
      rw [if_pos (by omega)]
      have ek : k = (T 2 t).toNat := by omega
      subst ek
      rw [hs 0 (by omega) (by have := w3.2; omega)]
      exact h σ1 hc
    | succ m ih =>
      intro k q5 σ1 hk hc hs
      have hb := tx_dep_b w3 k (by omega)
      have hstep := w3.1 k (by omega)
      have ea := a3 k (by omega) (by omega)
      refine bX11_worksOut_21 L d t _ _ _ q5 σ1 K ?_
      rw [if_neg (by omega), hc 126 (by decide), hc 149 (by decide), rx_w_of (x := 96 * t) (by omega) (by omega), rx_w_of (x := 154 + 96 * t) (by omega) (by omega), rx_w_of (x := 154 + 96 * t + (k : Int)) (by omega) (by omega), ea]
      refine ⟨by omega, ?_⟩
      generalize hc' : T (4 + t.toNat) = c at *
      have next : ∀ (q5 : Option rx_V) (σ2 : rx_St), (∀ c, c ≠ 148 → σ2 c = σ c) → (∀ j, 0 ≤ j → j < tx_dep c (k + 1) → σ2 148 j = tx_st c f g u (k + 1) j) → rx_Go L (d + 1) mX11_worksOut 21 [some (.inr 125), some (.inl t), some (.inl (tx_dep c (k + 1))), some (.inl (T 2 t)), some (.inl (rx_w ((k : Int) + 1))), q5] [] σ2 (rx_PI K) := by
        intro q5 σ2 h1 h2
        rw [rx_w_of (by omega) (by omega)]
        exact ih (k + 1) q5 σ2 (by omega) h1 h2
      rcases hstep with g1 | g1 | g1
      · have ed := tx_dep_leaf g1.1
        have fin : ∀ (v : Int) (q5 : Option rx_V), v = tx_val (c k) f g u → rx_Go L (d + 1) mX11_worksOut 21 [some (.inr 125), some (.inl t), some (.inl (rx_w (tx_dep c k + 1))), some (.inl (T 2 t)), some (.inl (rx_w ((k : Int) + 1))), q5] [] (rx_up σ1 148 (tx_dep c k) v) (rx_PI K) := by
          rintro v q5 rfl
          rw [rx_w_of (x := tx_dep c k + 1) (by omega) (by omega), ← ed]
          refine next _ _ (fun c' h9 => by rw [up_c h9]; exact hc c' h9) (fun j j0 j1 => ?_)
          rw [tx_st_leaf g1.1]
          by_cases e : j = tx_dep c k
          · rw [up_e e, if_pos e]
          · rw [up_i e, if_neg e]
            exact hs j j0 (by omega)
        have he : tx_enc (c k) = (if 0 ≤ c k then c k else 9999 - c k) := by
          unfold tx_enc
          by_cases q : 0 ≤ c k
          · rw [if_pos q, if_pos q]
          · rw [if_neg q, if_neg q, if_pos g1.1]
        unfold tx_val at fin
        rw [he]
        by_cases q : 0 ≤ c k
        · rw [if_pos q, if_neg (by omega), if_neg (by omega)]
          exact ⟨by omega, fin _ _ (by rw [if_neg (by omega), if_neg (by omega), if_neg (by omega)])⟩
        · rw [if_neg q, if_neg (by omega), if_pos (by omega), rx_w_of (x := 9999 - c k - 10000) (by omega) (by omega)]
          refine ⟨by omega, by omega, fin _ _ ?_⟩
          by_cases q1 : c k = -1
          · rw [if_pos q1, q1]
            exact h0
          rw [if_neg q1]
          by_cases q2 : c k = -2
          · rw [if_pos q2, q2]
            exact h1
          rw [if_neg q2]
          have q3 : c k = -3 := by omega
          rw [if_pos q3, q3]
          exact h2 (g1.2.2 q3)
      · have ed := tx_dep_not g1.1
        have he : tx_enc (c k) = -10 := by unfold tx_enc; rw [g1.1]; rfl
        rw [he, if_pos (by decide), if_neg (by decide), rx_w_of (x := tx_dep c k - 1) (by omega) (by omega), hs _ (by omega) (by omega)]
        refine ⟨by omega, ?_⟩
        have fin : ∀ (v : Int) (q5 : Option rx_V), v = (if tx_st c f g u k (tx_dep c k - 1) = 0 then 1 else 0) → rx_Go L (d + 1) mX11_worksOut 21 [some (.inr 125), some (.inl t), some (.inl (tx_dep c k)), some (.inl (T 2 t)), some (.inl (rx_w ((k : Int) + 1))), q5] [] (rx_up σ1 148 (tx_dep c k - 1) v) (rx_PI K) := by
          rintro v q5 rfl
          rw [← ed]
          refine next _ _ (fun c' h9 => by rw [up_c h9]; exact hc c' h9) (fun j j0 j1 => ?_)
          rw [ed, tx_st_not g1.1]
          by_cases e : j = tx_dep c k - 1
          · rw [up_e e, if_pos e]
          · rw [up_i e, if_neg e]
            exact hs j j0 (by omega)
        by_cases q : tx_st c f g u k (tx_dep c k - 1) = 0
        · rw [if_neg (fun z => z q)]
          exact fin 1 _ (by rw [if_pos q])
        · rw [if_pos q]
          exact fin 0 _ (by rw [if_neg q])
      · have htw : c k < -3 ∧ c k ≠ -33 := by have := g1.1; unfold tx_two at this; omega
        have ed := tx_dep_two htw.1 htw.2
        have he : tx_enc (c k) < 0 ∧ tx_enc (c k) ≠ -10 := by
          have := g1.1
          unfold tx_two at this
          rcases this with q | q | q | q | q | q | q | q | q <;> rw [q] <;> decide
        rw [if_pos he.1, if_pos he.2, rx_w_of (x := tx_dep c k + -1) (by omega) (by omega), rx_w_of (x := tx_dep c k + -1 - 1) (by omega) (by omega), hs _ (by omega) (by omega), hs _ (by omega) (by omega)]
        refine ⟨by omega, by omega, ?_⟩
        refine n_two g1.1 ?_
        rw [show tx_dep c k + -1 = tx_dep c (k + 1) by omega]
        refine next _ _ (fun c' h9 => by rw [up_c h9]; exact hc c' h9) (fun j j0 j1 => ?_)
        rw [tx_st_two htw.1 htw.2]
        by_cases e : j = tx_dep c (k + 1) - 1
        · rw [up_e e, if_pos (by omega), ed, show tx_dep c k - 1 - 1 = tx_dep c k - 2 by omega]
        · rw [up_i e, if_neg (by omega)]
          exact hs j j0 (by omega)
  exact key (T 2 t).toNat 0 none σ (by omega) (fun _ _ => rfl) (fun j j0 j1 => by unfold tx_dep at j1; omega)
end TEXTS
