/-! ===== the line, the book, layers ===== -/
/-- no more than n numbers below n are unlike -/
theorem php : ∀ (n : Nat) (f : Int → Int), (∀ i, 0 ≤ i → i < (n : Int) + 1 → 0 ≤ f i ∧ f i < n) → (∀ i j, 0 ≤ i → i < (n : Int) + 1 → 0 ≤ j → j < (n : Int) + 1 → f i = f j → i = j) → False
  | 0, f, h, _ => by
    have := h 0 (by omega) (by omega)
    omega
  | n + 1, f, h, hi => by
    have hl := h ((n : Int) + 1) (by omega) (by omega)
    refine php n (fun i => if f ((n : Int) + 1) < f i then f i - 1 else f i) (fun i i0 i1 => ?_) (fun i j i0 i1 j0 j1 e => ?_)
    · have h1 := h i i0 (by omega)
      have h2 : f i ≠ f ((n : Int) + 1) := fun q => by
        have := hi i ((n : Int) + 1) i0 (by omega) (by omega) (by omega) q
        omega
      show 0 ≤ (if f ((n : Int) + 1) < f i then f i - 1 else f i) ∧ (if f ((n : Int) + 1) < f i then f i - 1 else f i) < (n : Int)
      split <;> omega
    · have h2 : f i ≠ f ((n : Int) + 1) := fun q => by
        have := hi i ((n : Int) + 1) i0 (by omega) (by omega) (by omega) q
        omega
      have h3 : f j ≠ f ((n : Int) + 1) := fun q => by
        have := hi j ((n : Int) + 1) j0 (by omega) (by omega) (by omega) q
        omega
      have e : (if f ((n : Int) + 1) < f i then f i - 1 else f i) = (if f ((n : Int) + 1) < f j then f j - 1 else f j) := e
      refine hi i j i0 (by omega) j0 (by omega) ?_
      revert e
      split <;> split <;> omega
/-- a row of all numbers below n has each -/
theorem php_on {n : Int} {f : Int → Int} (hn : 0 ≤ n) (h : ∀ i, 0 ≤ i → i < n → 0 ≤ f i ∧ f i < n) (hi : ∀ i j, 0 ≤ i → i < n → 0 ≤ j → j < n → f i = f j → i = j) {p : Int} (p0 : 0 ≤ p) (p1 : p < n) : ∃ j, 0 ≤ j ∧ j < n ∧ f j = p := by
  refine Classical.byContradiction (fun hc => ?_)
  have hne : ∀ j, 0 ≤ j → j < n → f j ≠ p := fun j j0 j1 q => hc ⟨j, j0, j1, q⟩
  have e : (((n - 1).toNat : Nat) : Int) = n - 1 := by omega
  refine php (n - 1).toNat (fun i => if p < f i then f i - 1 else f i) (fun i i0 i1 => ?_) (fun i j i0 i1 j0 j1 eq => ?_)
  · have h1 := h i i0 (by omega)
    have h2 := hne i i0 (by omega)
    show 0 ≤ (if p < f i then f i - 1 else f i) ∧ (if p < f i then f i - 1 else f i) < _
    split <;> omega
  · have h2 := hne i i0 (by omega)
    have h3 := hne j j0 (by omega)
    have eq : (if p < f i then f i - 1 else f i) = (if p < f j then f j - 1 else f j) := eq
    refine hi i j i0 (by omega) j0 (by omega) ?_
    revert eq
    split <;> split <;> omega
/-- the line becomes a row, place by place -/
def ln_to (V : rx_St) (f : Int → Int) : Nat → rx_St
  | 0 => V
  | j + 1 => rx_up (rx_up (ln_to V f j) 4 j (f j)) 5 (f j) j
def li_ok (f : Int → Int) (n : Int) : Prop := (∀ i, 0 ≤ i → i < n → 0 ≤ f i ∧ f i < n) ∧ (∀ i j, 0 ≤ i → i < n → 0 ≤ j → j < n → f i = f j → i = j)
theorem lnt_k {V : rx_St} {f : Int → Int} {k : Nat} (h : k ≠ 4) (h' : k ≠ 5) : ∀ j : Nat, ln_to V f j k = V k
  | 0 => rfl
  | j + 1 => by
    unfold ln_to
    rw [up_c h', up_c h]
    exact lnt_k h h' j
theorem lnt_4 {V : rx_St} {f : Int → Int} : ∀ (j : Nat) (i : Int), ln_to V f j 4 i = if 0 ≤ i ∧ i < j then f i else V 4 i
  | 0, i => by
    unfold ln_to
    rw [if_neg (by omega)]
  | j + 1, i => by
    unfold ln_to
    rw [up_c (by decide)]
    by_cases e : i = j
    · rw [up_e e, if_pos (by omega), e]
    · rw [up_i e, lnt_4 j i]
      by_cases c : 0 ≤ i ∧ i < j
      · rw [if_pos c, if_pos (by omega)]
      · rw [if_neg c, if_neg (by omega)]
theorem lnt_5 {V : rx_St} {f : Int → Int} {n : Int} (hf : li_ok f n) : ∀ (j : Nat), (j : Int) ≤ n → ∀ i : Int, 0 ≤ i → i < j → ln_to V f j 5 (f i) = i
  | 0, _, i, i0, i1 => by omega
  | j + 1, hj, i, i0, i1 => by
    unfold ln_to
    by_cases e : i = j
    · rw [e, up_s]
    · have : f i ≠ f j := fun q => e (hf.2 i j i0 (by omega) (by omega) (by omega) q)
      rw [up_i this, up_c (by decide)]
      exact lnt_5 hf j (by omega) i i0 (by omega)
theorem ln_wf {V : rx_St} {f : Int → Int} (hw : iv_Wf V) (hf : li_ok f (V 0 0)) : iv_Wf (ln_to V f (V 0 0).toNat) := by
  have hn := wf_n hw
  obtain ⟨a1, a2, a3, a5, a6, a7, a8⟩ := hw
  unfold iv_Wf
  rw [lnt_k (k := 0) (by omega) (by omega), lnt_k (k := 1) (by omega) (by omega), lnt_k (k := 2) (by omega) (by omega), lnt_k (k := 3) (by omega) (by omega), lnt_k (k := 6) (by omega) (by omega), lnt_k (k := 7) (by omega) (by omega), lnt_k (k := 8) (by omega) (by omega), lnt_k (k := 9) (by omega) (by omega), lnt_k (k := 10) (by omega) (by omega)]
  refine ⟨a1, a2, a3, fun p p0 p1 => ⟨(a5 p p0 p1).1, ?_, ?_⟩, a6, a7, a8⟩
  · rw [lnt_4, if_pos (by omega)]
    have := hf.1 p p0 p1
    refine ⟨this.1, this.2, lnt_5 hf _ (by omega) p p0 (by omega)⟩
  · obtain ⟨j, j0, j1, rfl⟩ := php_on hn.1 hf.1 hf.2 p0 p1
    rw [lnt_5 hf _ (by omega) j j0 (by omega), lnt_4, if_pos (by omega)]
    exact ⟨j0, j1, rfl⟩
section LINE
variable {L d : Nat} {σ V T : rx_St} {S : Int → Int} {Q : Int → Int → rx_St → Prop} {K : Int → rx_St → Prop} {KV : rx_St → Prop} {C : Int → Int → Int}
theorem c_hasNoNumber {A : Nat} (hA : rx_isO 7 A = true) (hs : 0 ≤ σ A 1 ∧ σ A 1 ≤ 24) (h1 : (∃ i, 0 ≤ i ∧ i < σ A 1 ∧ σ (A + 1) i = -1000000005) → K 1 σ) (h0 : (∀ i, 0 ≤ i → i < σ A 1 → σ (A + 1) i ≠ -1000000005) → K 0 σ) : rx_CI L d mX7_hasNoNumber [.inr A] σ K := by
  refine bX7_hasNoNumber L d A hA σ K ?_
  have key : ∀ (k : Nat) (i : Int), 0 ≤ i → i + k = σ A 1 → (∀ j, 0 ≤ j → j < i → σ (A + 1) j ≠ -1000000005) → rx_Go L d mX7_hasNoNumber 2 [some (.inr A), some (.inl i)] [] σ (rx_PI K) := by
    intro k
    induction k with
    | zero =>
      intro i i0 hi hp
      refine bX7_hasNoNumber_2 L d A hA i σ K ?_
      rw [if_pos (by omega)]
      exact h0 (fun j j0 j1 => hp j j0 (by omega))
    | succ k ih =>
      intro i i0 hi hp
      refine bX7_hasNoNumber_2 L d A hA i σ K ?_
      rw [if_neg (by omega)]
      refine ⟨by omega, ?_⟩
      by_cases c : σ (A + 1) i = -1000000005
      · rw [if_neg (fun q => q c)]
        exact h1 ⟨i, i0, by omega, c⟩
      · rw [if_pos c, rx_w_of (by omega) (by omega)]
        refine ih (i + 1) (by omega) (by omega) (fun j j0 j1 => ?_)
        by_cases e : j = i
        · rw [e]
          exact c
        · exact hp j j0 (by omega)
  exact key (σ A 1).toNat 0 (by omega) (by omega) (fun j j0 j1 => by omega)
theorem c_isOrderOf {A : Nat} (hA : rx_isO 7 A = true) {n : Int} (hn : 0 ≤ n ∧ n ≤ 8) (hs : σ A 1 = n) (h1 : li_ok (σ (A + 1)) n → K 1 σ) (h0 : ¬ li_ok (σ (A + 1)) n → K 0 σ) : rx_CI L d mX7_isOrderOf [.inr A, .inl n] σ K := by
  refine bX7_isOrderOf L d A hA n σ K ?_
  have key : ∀ (k : Nat) (i m : Int) (q : Option rx_V), 0 ≤ i → i + k = n → (∀ j, 0 ≤ j → j < i → 0 ≤ σ (A + 1) j ∧ σ (A + 1) j < n) → (∀ j l, 0 ≤ j → j < i → 0 ≤ l → l < i → σ (A + 1) j = σ (A + 1) l → j = l) → (∀ b : Nat, b < 32 → (tb m b = true ↔ ∃ j, 0 ≤ j ∧ j < i ∧ σ (A + 1) j = b)) → rx_Go L d mX7_isOrderOf 4 [some (.inr A), some (.inl n), some (.inl m), some (.inl i), q] [] σ (rx_PI K) := by
    intro k
    induction k with
    | zero =>
      intro i m q i0 hi hr hd hb
      refine bX7_isOrderOf_4 L d A hA n m i q σ K ?_
      rw [hs, if_pos (by omega), if_neg (fun z => z rfl)]
      exact h1 ⟨fun j j0 j1 => hr j j0 (by omega), fun j l j0 j1 l0 l1 e => hd j l j0 (by omega) l0 (by omega) e⟩
    | succ k ih =>
      intro i m q i0 hi hr hd hb
      refine bX7_isOrderOf_4 L d A hA n m i q σ K ?_
      rw [hs, if_neg (by omega)]
      refine ⟨by omega, ?_⟩
      by_cases c1 : σ (A + 1) i < 0
      · rw [if_pos c1]
        exact h0 (fun z => by have := z.1 i i0 (by omega); omega)
      rw [if_neg c1]
      by_cases c2 : n ≤ σ (A + 1) i
      · rw [if_pos c2]
        exact h0 (fun z => by have := z.1 i i0 (by omega); omega)
      rw [if_neg c2, alu_bit m (by omega) (by omega)]
      have hbi := hb (σ (A + 1) i).toNat (by omega)
      rw [show (((σ (A + 1) i).toNat : Nat) : Int) = σ (A + 1) i by omega] at hbi
      by_cases c3 : tb m (σ (A + 1) i).toNat = true
      · rw [if_pos c3, if_neg (fun z => z rfl)]
        obtain ⟨j, j0, j1, e⟩ := hbi.mp c3
        exact h0 (fun z => by have := z.2 j i j0 (by omega) i0 (by omega) e; omega)
      · rw [if_neg c3, if_pos (by decide), rx_w_of (by omega) (by omega)]
        have hno : ∀ j, 0 ≤ j → j < i → σ (A + 1) j ≠ σ (A + 1) i := fun j j0 j1 e => c3 (hbi.mpr ⟨j, j0, j1, e⟩)
        refine ih (i + 1) _ _ (by omega) (by omega) (fun j j0 j1 => ?_) (fun j l j0 j1 l0 l1 e => ?_) (fun b hb32 => ?_)
        · by_cases e : j = i
          · rw [e]
            omega
          · exact hr j j0 (by omega)
        · by_cases e1 : j = i <;> by_cases e2 : l = i
          · omega
          · rw [e1] at e
            exact absurd e.symm (hno l l0 (by omega))
          · rw [e2] at e
            exact absurd e (hno j j0 (by omega))
          · exact hd j l j0 (by omega) l0 (by omega) e
        · rw [tb_or, tb_shl (by omega) (by omega)]
          constructor
          · intro z
            rcases Bool.or_eq_true _ _ |>.mp z with z | z
            · obtain ⟨j, j0, j1, e⟩ := (hb b hb32).mp z
              exact ⟨j, j0, by omega, e⟩
            · exact ⟨i, i0, by omega, (of_decide_eq_true z).symm⟩
          · rintro ⟨j, j0, j1, e⟩
            by_cases e1 : j = i
            · rw [e1] at e
              rw [decide_eq_true e.symm, Bool.or_true]
            · rw [(hb b hb32).mpr ⟨j, j0, by omega, e⟩, Bool.true_or]
  exact key n.toNat 0 0 none (by omega) (by omega) (fun j j0 j1 => by omega) (fun j l j0 j1 => by omega) (fun b _ => ⟨(fun z => by rw [tb_zero] at z; cases z), (fun ⟨j, j0, j1, _⟩ => by omega)⟩)
theorem o_line {x : Int} (h : iv_A S V T σ) (hQ : ∀ v σ', Inv S σ' → Q v v σ') :
    rx_CI L (d + 3) mX10_line [.inr 0, .inl x] σ (fun v1 σ1 => rx_CI L (d + 3) mX11_line [.inr 125, .inl x] σ1 (fun v2 σ2 => Q v1 v2 σ2)) := by
  have hw := h.1
  have hC := h.2.1
  have hM := h.2.2.1
  have hn := wf_n hw
  have hR := iv_R_of h
  refine bX10_line L (d + 2) x σ _ ?_
  refine s_isSheet (fun c => ?_) (fun c => ?_)
  · rw [if_pos (by decide)]
    refine ⟨c, fun A hA hO => ?_⟩
    obtain ⟨s1, s2, s3, s4, s5⟩ := iv_sh hR.2.2.2.1 c hA
    -- the model, from a store in which sheets and counts are as they were
    have hmod : ∀ (v : Int) (σ1 : rx_St), ld_M V (σ1 126) → (∀ c, c = 150 ∨ c = 151 ∨ c = 152 → σ1 c = σ c) → (σ A 0 = -1 → Q v (-1000000011) σ1) → (σ A 0 ≠ -1 → σ A 1 ≠ V 0 0 → Q v (-1000000014) σ1) → (∀ σ2, (∀ c, c ≠ 132 → σ2 c = σ1 c) → σ A 0 ≠ -1 → σ A 1 = V 0 0 → (∃ i, 0 ≤ i ∧ i < V 0 0 ∧ σ (A + 1) i = -1000000005) → Q v (-1000000012) σ2) → (∀ σ2, (∀ c, c ≠ 132 → σ2 c = σ1 c) → σ A 0 ≠ -1 → σ A 1 = V 0 0 → (∀ i, 0 ≤ i → i < V 0 0 → σ (A + 1) i ≠ -1000000005) → ¬ li_ok (σ (A + 1)) (V 0 0) → Q v (-1000000001) σ2) → (∀ σ2, (∀ c, c ≠ 132 → c ≠ 126 → σ2 c = σ1 c) → (∀ i, 126 ≤ i → σ2 126 i = σ1 126 i) → ld_M (ln_to V (σ (A + 1)) (V 0 0).toNat) (σ2 126) → σ A 0 ≠ -1 → σ A 1 = V 0 0 → li_ok (σ (A + 1)) (V 0 0) → Q v (V 0 0) σ2) → rx_CI L (d + 3) mX11_line [.inr 125, .inl x] σ1 (fun v2 σ2 => Q v v2 σ2) := by
      intro v σ1 hM1 hs q1 q2 q3 q4 q5
      refine bX11_line L (d + 2) x σ1 _ ?_
      refine n_isSheet (fun _ => ?_) (fun c1 => absurd c c1)
      rw [if_pos (by decide), hs 150 (by omega), hs 151 (by omega), s2, s4, ld_Mn hM1]
      refine ⟨c, ?_⟩
      by_cases g : σ A 0 = -1
      · rw [if_neg (by omega)]
        exact q1 g
      rw [if_pos (by omega)]
      by_cases g2 : σ A 1 = V 0 0
      · rw [if_pos g2]
        have h152 : ∀ i, 0 ≤ i → i < V 0 0 → σ1 152 (24 * x + i) = σ (A + 1) i := fun i i0 i1 => by rw [hs 152 (by omega)]; exact (s5 i i0 (by omega)).1
        -- the last loop
        have f191 : ∀ (k : Nat) (j : Nat) (q2 q3 q5' : Option rx_V) (σ2 : rx_St), (j : Int) + k = V 0 0 → li_ok (σ (A + 1)) (V 0 0) → (∀ c, c ≠ 132 → c ≠ 126 → σ2 c = σ1 c) → (∀ i, 126 ≤ i → σ2 126 i = σ1 126 i) → ld_M (ln_to V (σ (A + 1)) j) (σ2 126) → rx_Go L (d + 3) mX11_line 191 [some (.inr 125), some (.inl x), q2, q3, some (.inl (j : Int)), q5'] [] σ2 (rx_PI (fun v2 σ2 => Q v v2 σ2)) := by
          intro k
          induction k with
          | zero =>
            intro j q2 q3 q5' σ2 hj hok hf hi hM2
            have e1 : σ2 126 1 = V 0 0 := by rw [ld_Mn hM2, lnt_k (by omega) (by omega)]
            refine bX11_line_191 L (d + 2) x q2 q3 _ q5' σ2 _ ?_
            rw [e1, if_pos (by omega)]
            have ej : j = (V 0 0).toNat := by omega
            rw [ej] at hM2
            exact q5 σ2 hf hi hM2 g g2 hok
          | succ k ih =>
            intro j q2 q3 q5' σ2 hj hok hf hi hM2
            have e1 : σ2 126 1 = V 0 0 := by rw [ld_Mn hM2, lnt_k (by omega) (by omega)]
            refine bX11_line_191 L (d + 2) x q2 q3 _ q5' σ2 _ ?_
            rw [e1, if_neg (by omega)]
            simp (disch := omega) only [rx_w_of]
            rw [hf 152 (by decide) (by decide), h152 j (by omega) (by omega)]
            refine ⟨by omega, by omega, ?_⟩
            have hM3 := ld_MV5 (ld_Mup hM2 (k := 4) (i := (j : Int)) (v := σ (A + 1) j) (j := 28 + (j : Int)) (by unfold ld_ok; omega) (by unfold ld_i; simp)) (σ (A + 1) j) j
            exact ih (j + 1) q2 q3 q5' _ (by omega) hok (fun c c1 c2 => by rw [up_c c2]; exact hf c c1 c2) (fun i h9 => by rw [up_i (by omega)]; exact hi i h9) hM3
        -- the loop that looks at each place
        have f71 : ∀ (k : Nat) (j lk gd : Int) (q5' : Option rx_V) (σ2 : rx_St), 0 ≤ j → j + k = V 0 0 → (∀ c, c ≠ 132 → σ2 c = σ1 c) → (lk = 0 ∨ lk = 1) → (gd = 0 ∨ gd = 1) → (lk = 1 ↔ ∃ i, 0 ≤ i ∧ i < j ∧ σ (A + 1) i = -1000000005) → (gd = 1 ↔ (∀ i, 0 ≤ i → i < j → 0 ≤ σ (A + 1) i ∧ σ (A + 1) i < V 0 0) ∧ (∀ i l, 0 ≤ i → i < j → 0 ≤ l → l < j → σ (A + 1) i = σ (A + 1) l → i = l)) → (gd = 1 → ∀ p, 0 ≤ p → p < 8 → (σ2 132 p ≠ 0 ↔ ∃ i, 0 ≤ i ∧ i < j ∧ σ (A + 1) i = p)) → rx_Go L (d + 3) mX11_line 71 [some (.inr 125), some (.inl x), some (.inl lk), some (.inl gd), some (.inl j), q5'] [] σ2 (rx_PI (fun v2 σ2 => Q v v2 σ2)) := by
          intro k
          induction k with
          | zero =>
            intro j lk gd q5' σ2 j0 hj hf hlk hgd hl hg hmet
            refine bX11_line_71 L (d + 2) x lk gd j q5' σ2 _ ?_
            rw [hf 126 (by decide), ld_Mn hM1, if_pos (by omega)]
            have ej : j = V 0 0 := by omega
            rw [ej] at hl hg
            by_cases l1 : lk = 0
            · rw [if_neg (fun z => z l1)]
              have hnone : ∀ i, 0 ≤ i → i < V 0 0 → σ (A + 1) i ≠ -1000000005 := fun i i0 i1 e => by
                have := hl.mpr ⟨i, i0, i1, e⟩
                omega
              by_cases g1 : gd = 0
              · rw [if_neg (fun z => z g1)]
                refine bX11_line_176 L (d + 2) _ _ lk _ _ _ σ2 _ ?_
                rw [if_pos l1]
                refine q4 σ2 hf g g2 hnone (fun z => ?_)
                have := hg.mpr z
                omega
              · rw [if_pos g1]
                have hok : li_ok (σ (A + 1)) (V 0 0) := hg.mp (by omega)
                exact f191 (V 0 0).toNat 0 _ _ _ σ2 (by omega) hok (fun c c1 _ => hf c c1) (fun i _ => by rw [hf 126 (by decide)]) (by rw [hf 126 (by decide)]; exact hM1)
            · rw [if_pos l1]
              refine bX11_line_176 L (d + 2) _ _ lk _ _ _ σ2 _ ?_
              rw [if_neg l1]
              exact q3 σ2 hf g g2 (hl.mp (by omega))
          | succ k ih =>
            intro j lk gd q5' σ2 j0 hj hf hlk hgd hl hg hmet
            have hpc := s5 j j0 (by omega)
            refine bX11_line_71 L (d + 2) x lk gd j q5' σ2 _ ?_
            rw [hf 126 (by decide), ld_Mn hM1, if_neg (by omega)]
            simp (disch := omega) only [rx_w_of]
            rw [hf 152 (by decide), h152 j j0 (by omega)]
            refine ⟨by omega, ?_⟩
            generalize hfj : σ (A + 1) j = w at *
            -- what comes behind, with what is known of this place
            have f113 : ∀ lk2, (lk2 = 0 ∨ lk2 = 1) → (lk2 = 1 ↔ ∃ i, 0 ≤ i ∧ i < j + 1 ∧ σ (A + 1) i = -1000000005) → rx_Go L (d + 3) mX11_line 113 [some (.inr 125), some (.inl x), some (.inl lk2), some (.inl gd), some (.inl j), some (.inl w)] [] σ2 (rx_PI (fun v2 σ2 => Q v v2 σ2)) := by
              intro lk2 hlk2 hl2
              have f148 : ∀ gd2, (gd2 = 0 ∨ gd2 = 1) → (gd2 = 1 ↔ (∀ i, 0 ≤ i → i < j + 1 → 0 ≤ σ (A + 1) i ∧ σ (A + 1) i < V 0 0) ∧ (∀ i l, 0 ≤ i → i < j + 1 → 0 ≤ l → l < j + 1 → σ (A + 1) i = σ (A + 1) l → i = l)) → rx_Go L (d + 3) mX11_line 148 [some (.inr 125), some (.inl x), some (.inl lk2), some (.inl gd2), some (.inl j), some (.inl w)] [] σ2 (rx_PI (fun v2 σ2 => Q v v2 σ2)) := by
                intro gd2 hgd2 hg2
                refine bX11_line_148 L (d + 2) x lk2 gd2 j w σ2 _ ?_
                refine n_within (by omega) ?_
                have hcl := rs_cl_b w (show (0 : Int) ≤ 7 by omega)
                rw [rx_w_of (by omega) (by omega)]
                refine ⟨by omega, ih (j + 1) lk2 gd2 _ _ (by omega) (by omega) (fun c hc => by rw [up_c hc]; exact hf c hc) hlk2 hgd2 hl2 hg2 (fun g1 p p0 p1 => ?_)⟩
                have hgo := hg2.mp g1
                have hwr := hgo.1 j j0 (by omega)
                rw [hfj] at hwr
                have ecl : rs_cl w 7 = w := by unfold rs_cl; rw [if_neg (by omega), if_neg (by omega)]
                have hgd1 : gd = 1 := hg.mpr ⟨fun i i0 i1 => hgo.1 i i0 (by omega), fun i l i0 i1 l0 l1 e => hgo.2 i l i0 (by omega) l0 (by omega) e⟩
                rw [ecl]
                by_cases e : p = w
                · rw [up_e e]
                  exact ⟨fun _ => ⟨j, j0, by omega, by rw [hfj, e]⟩, fun _ => by decide⟩
                · rw [up_i e, hmet hgd1 p p0 p1]
                  constructor
                  · rintro ⟨i, i0, i1, ei⟩
                    exact ⟨i, i0, by omega, ei⟩
                  · rintro ⟨i, i0, i1, ei⟩
                    by_cases e2 : i = j
                    · rw [e2, hfj] at ei
                      exact absurd ei.symm e
                    · exact ⟨i, i0, by omega, ei⟩
              have hno : ¬ ((∀ i, 0 ≤ i → i < j + 1 → 0 ≤ σ (A + 1) i ∧ σ (A + 1) i < V 0 0) ∧ (∀ i l, 0 ≤ i → i < j + 1 → 0 ≤ l → l < j + 1 → σ (A + 1) i = σ (A + 1) l → i = l)) → rx_Go L (d + 3) mX11_line 146 [some (.inr 125), some (.inl x), some (.inl lk2), some (.inl gd), some (.inl j), some (.inl w)] [] σ2 (rx_PI (fun v2 σ2 => Q v v2 σ2)) := by
                intro hh
                refine bX11_line_146 L (d + 2) x lk2 _ j w σ2 _ ?_
                exact f148 0 (Or.inl rfl) ⟨fun z => by omega, fun z => absurd z hh⟩
              refine bX11_line_113 L (d + 2) x lk2 gd j w σ2 _ ?_
              by_cases g1 : gd = 0
              · rw [if_pos g1]
                refine hno (fun z => ?_)
                have := hg.mpr ⟨fun i i0 i1 => z.1 i i0 (by omega), fun i l i0 i1 l0 l1 e => z.2 i l i0 (by omega) l0 (by omega) e⟩
                omega
              · rw [if_neg g1]
                have g11 : gd = 1 := hgd.resolve_left g1
                refine n_isPost (V := V) (by rw [hf 126 (by decide)]; exact hM1) hw (fun z => ?_) (fun z => ?_)
                · rw [if_neg (by decide)]
                  refine n_within (by omega) ?_
                  have ecl : rs_cl w 7 = w := by unfold rs_cl; rw [if_neg (by omega), if_neg (by omega)]
                  rw [ecl]
                  refine ⟨by omega, ?_⟩
                  have hm := hmet g11 w (by omega) (by omega)
                  have hgo := hg.mp g11
                  by_cases e : σ2 132 w = 0
                  · rw [if_neg (fun z => z e)]
                    have hfresh : ∀ i, 0 ≤ i → i < j → σ (A + 1) i ≠ w := fun i i0 i1 ei => (hm.mpr ⟨i, i0, i1, ei⟩) e
                    refine f148 1 (Or.inr rfl) ⟨fun _ => ⟨fun i i0 i1 => ?_, fun i l i0 i1 l0 l1 ei => ?_⟩, fun _ => rfl⟩
                    · by_cases e2 : i = j
                      · rw [e2, hfj]
                        exact z
                      · exact hgo.1 i i0 (by omega)
                    · by_cases e2 : i = j <;> by_cases e3 : l = j
                      · omega
                      · rw [e2, hfj] at ei
                        exact absurd ei.symm (hfresh l l0 (by omega))
                      · rw [e3, hfj] at ei
                        exact absurd ei (hfresh i i0 (by omega))
                      · exact hgo.2 i l i0 (by omega) l0 (by omega) ei
                  · rw [if_pos e]
                    refine hno (fun z2 => ?_)
                    obtain ⟨i, i0, i1, ei⟩ := hm.mp e
                    have := z2.2 i j i0 (by omega) j0 (by omega) (by rw [ei, hfj])
                    omega
                · rw [if_pos rfl]
                  refine hno (fun z2 => z ?_)
                  have := z2.1 j j0 (by omega)
                  rw [hfj] at this
                  exact this
            have hl1 : (∃ i, 0 ≤ i ∧ i < j + 1 ∧ σ (A + 1) i = -1000000005) → rx_Go L (d + 3) mX11_line 107 [some (.inr 125), some (.inl x), some (.inl lk), some (.inl gd), some (.inl j), some (.inl w)] [] σ2 (rx_PI (fun v2 σ2 => Q v v2 σ2)) := by
              intro hh
              refine bX11_line_107 L (d + 2) x _ gd j w σ2 _ ?_
              exact f113 1 (Or.inr rfl) ⟨fun _ => hh, fun _ => rfl⟩
            by_cases l1 : lk = 0
            · rw [if_neg (fun z => z l1)]
              have hnone : ∀ i, 0 ≤ i → i < j → σ (A + 1) i ≠ -1000000005 := fun i i0 i1 e => by
                have := hl.mpr ⟨i, i0, i1, e⟩
                omega
              by_cases wn : w = -1000000005
              · rw [if_neg (fun z => z wn)]
                exact hl1 ⟨j, j0, by omega, by rw [hfj]; exact wn⟩
              · rw [if_pos wn]
                refine f113 0 (Or.inl rfl) ⟨fun z => by omega, fun ⟨i, i0, i1, ei⟩ => ?_⟩
                by_cases e2 : i = j
                · rw [e2, hfj] at ei
                  exact absurd ei wn
                · exact absurd ei (hnone i i0 (by omega))
            · rw [if_pos l1]
              obtain ⟨i, i0, i1, ei⟩ := hl.mp (by omega)
              exact hl1 ⟨i, i0, by omega, ei⟩
        -- the loop that empties
        have f47 : ∀ (k : Nat) (j : Int) (q5' : Option rx_V) (σ2 : rx_St), 0 ≤ j → j + k = 8 → (∀ c, c ≠ 132 → σ2 c = σ1 c) → (∀ p, 0 ≤ p → p < j → σ2 132 p = 0) → rx_Go L (d + 3) mX11_line 47 [some (.inr 125), some (.inl x), some (.inl 0), some (.inl 1), some (.inl j), q5'] [] σ2 (rx_PI (fun v2 σ2 => Q v v2 σ2)) := by
          intro k
          induction k with
          | zero =>
            intro j q5' σ2 j0 hj hf hz
            refine bX11_line_47 L (d + 2) x 0 1 j q5' σ2 _ ?_
            rw [if_pos (by omega)]
            refine f71 (V 0 0).toNat 0 0 1 _ σ2 (by omega) (by omega) hf (Or.inl rfl) (Or.inr rfl) ⟨fun z => by omega, fun ⟨i, i0, i1, _⟩ => by omega⟩ ⟨fun _ => ⟨fun i i0 i1 => by omega, fun i l i0 i1 => by omega⟩, fun _ => rfl⟩ (fun _ p p0 p1 => ⟨fun z => absurd (hz p p0 (by omega)) z, fun ⟨i, i0, i1, _⟩ => by omega⟩)
          | succ k ih =>
            intro j q5' σ2 j0 hj hf hz
            refine bX11_line_47 L (d + 2) x 0 1 j q5' σ2 _ ?_
            rw [if_neg (by omega), rx_w_of (by omega) (by omega)]
            refine ⟨by omega, ih (j + 1) _ _ (by omega) (by omega) (fun c hc => by rw [up_c hc]; exact hf c hc) (fun p p0 p1 => ?_)⟩
            by_cases e : p = j
            · rw [up_e e]
            · rw [up_i e]
              exact hz p p0 (by omega)
        exact f47 8 0 _ σ1 (by omega) (by omega) (fun _ _ => rfl) (fun p p0 p1 => by omega)
      · rw [if_neg g2]
        exact q2 g g2
    have fin : ∀ v σ2, (∀ c, c ≠ 132 → σ2 c = σ c) → Q v v σ2 := fun v σ2 hf => hQ _ _ ⟨V, T, iv_fr h (fun c i hk => by rw [hf c (by unfold fr_k at hk; omega)])⟩
    refine c_isMissing hO (fun g => ?_) (fun g => ?_)
    · rw [if_neg (by decide)]
      exact hmod _ σ hM (fun _ _ => rfl) (fun _ => o_same h hQ _) (fun q => absurd g q) (fun _ _ q => absurd g q) (fun _ _ q => absurd g q) (fun _ _ _ _ q => absurd g q)
    rw [if_pos rfl]
    have e1 : σ 1 = V 0 := ld_C0 hC
    rw [e1]
    by_cases g2 : σ A 1 = V 0 0
    · rw [if_pos g2]
      refine c_hasNoNumber hO s3 (fun hh => ?_) (fun hh => ?_)
      · rw [if_neg (by decide)]
        rw [g2] at hh
        exact hmod _ σ hM (fun _ _ => rfl) (fun q => absurd q g) (fun _ q => absurd g2 q) (fun σ2 hf _ _ _ => fin _ σ2 hf) (fun _ _ _ _ q _ => by
          obtain ⟨i, i0, i1, e⟩ := hh
          exact absurd e (q i i0 i1)) (fun _ _ _ _ _ _ q => by
          obtain ⟨i, i0, i1, e⟩ := hh
          have := q.1 i i0 i1
          omega)
      · rw [if_pos rfl, e1]
        rw [g2] at hh
        refine c_isOrderOf hO hn g2 (fun hok => ?_) (fun hok => ?_)
        · rw [if_pos (by decide)]
          -- the class puts them in line
          have key : ∀ (k j : Nat) (q1 : Option rx_V) (σ1 : rx_St) (K : Int → rx_St → Prop), (j : Int) + k = V 0 0 → ld_C 1 (ln_to V (σ (A + 1)) j) σ1 → (∀ c, c ≠ 5 → c ≠ 6 → σ1 c = σ c) → (∀ σ', ld_C 1 (ln_to V (σ (A + 1)) (V 0 0).toNat) σ' → (∀ c, c ≠ 5 → c ≠ 6 → σ' c = σ c) → K (V 0 0) σ') → rx_Go L (d + 3) mX10_line 73 [some (.inr 0), q1, some (.inr A), some (.inl (j : Int))] [] σ1 (rx_PI K) := by
            intro k
            induction k with
            | zero =>
              intro j q1 σ1 K hj hC1 hf hK
              refine bX10_line_73 L (d + 2) q1 A hO _ σ1 K ?_
              have e10 : σ1 1 0 = V 0 0 := by rw [show σ1 1 = ln_to V (σ (A + 1)) j 0 from ld_C0 hC1, lnt_k (by omega) (by omega)]
              rw [e10, if_pos (by omega)]
              have ej : j = (V 0 0).toNat := by omega
              rw [ej] at hC1
              exact hK σ1 hC1 hf
            | succ k ih =>
              intro j q1 σ1 K hj hC1 hf hK
              refine bX10_line_73 L (d + 2) q1 A hO _ σ1 K ?_
              have e10 : σ1 1 0 = V 0 0 := by rw [show σ1 1 = ln_to V (σ (A + 1)) j 0 from ld_C0 hC1, lnt_k (by omega) (by omega)]
              have hr := hok.1 j (by omega) (by omega)
              rw [e10, if_neg (by omega), hf (A + 1) (by omega) (by omega)]
              refine ⟨by omega, ?_⟩
              refine s_putInLine rfl (by omega) (by omega) ?_
              rw [rx_w_of (by omega) (by omega)]
              refine ih (j + 1) q1 _ K (by omega) (ld_Cup (ld_Cup hC1 (k := 4) (by omega) j (σ (A + 1) j)) (k := 5) (by omega) (σ (A + 1) j) j) (fun c c1 c2 => by rw [up_c (by omega), up_c (by omega)]; exact hf c c1 c2) hK
          refine key (V 0 0).toNat 0 _ σ _ (by omega) hC (fun _ _ _ => rfl) (fun σ1 hC1 hf1 => ?_)
          refine hmod _ σ1 (by rw [hf1 126 (by decide) (by decide)]; exact hM) (fun c hc => hf1 c (by omega) (by omega)) (fun q => absurd q g) (fun _ q => absurd g2 q) (fun _ _ _ _ q => by
            obtain ⟨i, i0, i1, e⟩ := q
            exact absurd e (hh i i0 i1)) (fun _ _ _ _ _ q => absurd hok q) (fun σ2 hf2 hi2 hM2 _ _ _ => ?_)
          refine hQ _ _ ⟨_, T, iv_land h (fun c i hk => ?_) (ln_wf hw hok) (ld_Cfr hC1 (fun c h1 h2 => hf2 c (by omega) (by omega))) hM2 (by rw [lnt_k (by omega) (by omega)])⟩
          unfold fr_v fr_k at hk
          by_cases e : c = 126
          · subst e
            rw [hi2 i (by omega), hf1 126 (by decide) (by decide)]
          · rw [hf2 c (by omega) e, hf1 c (by omega) (by omega)]
        · rw [if_neg (by decide)]
          exact hmod _ σ hM (fun _ _ => rfl) (fun q => absurd q g) (fun _ q => absurd g2 q) (fun _ _ _ _ q => by
            obtain ⟨i, i0, i1, e⟩ := q
            exact absurd e (hh i i0 i1)) (fun σ2 hf _ _ _ _ => fin _ σ2 hf) (fun _ _ _ _ _ _ q => absurd q hok)
    · rw [if_neg g2]
      exact hmod _ σ hM (fun _ _ => rfl) (fun q => absurd q g) (fun _ _ => o_same h hQ _) (fun _ _ _ q => absurd q g2) (fun _ _ _ q => absurd q g2) (fun _ _ _ _ _ q => absurd q g2)
  · rw [if_neg (by decide)]
    refine bX11_line L (d + 2) x σ _ ?_
    refine n_isSheet (fun c1 => absurd c1 c) (fun _ => ?_)
    rw [if_neg (by decide)]
    exact o_same h hQ _
end LINE
