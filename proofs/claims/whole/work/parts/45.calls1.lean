/-! ===== the calls, one by one: the class answers, then the model, alike; and all holds again ===== -/
section WFS
variable {V : rx_St}
theorem wf_k (hw : iv_Wf V) {k : Nat} {i v : Int} (h : (k = 3 ∧ 0 ≤ v ∧ v < 4) ∨ (k = 6 ∧ 0 ≤ v ∧ v < 6) ∨ (k = 9 ∧ 1 ≤ v ∧ v ≤ 9) ∨ (k = 10 ∧ 0 ≤ v ∧ v < 4)) : iv_Wf (rx_up V k i v) := by
  obtain ⟨a1, a2, a3, a5, a6, a7, a8⟩ := hw
  have e : ∀ j, j ≠ k → rx_up V k i v j = V j := fun j h => up_c h
  unfold iv_Wf
  rw [e 0 (by omega), e 1 (by omega), e 2 (by omega), e 4 (by omega), e 5 (by omega), e 7 (by omega), e 8 (by omega)]
  refine ⟨a1, a2, a3, fun p h0 h1 => ?_, a6, fun r h0 h1 => ?_, a8⟩
  · have := a5 p h0 h1
    refine ⟨⟨this.1.1, this.1.2.1, ?_⟩, this.2⟩
    by_cases c : k = 3 ∧ p = i
    · rw [up_x ⟨c.1.symm, c.2⟩]
      omega
    · rw [up_n (by omega)]
      exact this.1.2.2
  · have := a7 r h0 h1
    refine ⟨?_, this.2.1, ?_, ?_⟩
    · by_cases c : k = 6 ∧ r = i
      · rw [up_x ⟨c.1.symm, c.2⟩]
        omega
      · rw [up_n (by omega)]
        exact this.1
    · by_cases c : k = 9 ∧ r = i
      · rw [up_x ⟨c.1.symm, c.2⟩]
        omega
      · rw [up_n (by omega)]
        exact this.2.2.1
    · by_cases c : k = 10 ∧ r = i
      · rw [up_x ⟨c.1.symm, c.2⟩]
        omega
      · rw [up_n (by omega)]
        exact this.2.2.2
/-- a post goes to a place where none stands -/
theorem wf_move (hw : iv_Wf V) {p x y : Int} (hx : 0 ≤ x ∧ x < 100) (hy : 0 ≤ y ∧ y < 100) (hno : ∀ q, 0 ≤ q → q < V 0 0 → V 1 q = x → V 2 q = y → q = p) : iv_Wf (rx_up (rx_up V 1 p x) 2 p y) := by
  obtain ⟨a1, a2, a3, a5, a6, a7, a8⟩ := hw
  have e : ∀ j, j ≠ 1 → j ≠ 2 → rx_up (rx_up V 1 p x) 2 p y j = V j := fun j h h' => by rw [up_c h', up_c h]
  have e1 : rx_up (rx_up V 1 p x) 2 p y 1 = rx_up V 1 p x 1 := up_c (by decide)
  have e2 : ∀ i, rx_up (rx_up V 1 p x) 2 p y 2 i = if i = p then y else V 2 i := fun i => by simp [rx_up]
  have e3 : ∀ i, rx_up (rx_up V 1 p x) 2 p y 1 i = if i = p then x else V 1 i := fun i => by rw [e1]; simp [rx_up]
  unfold iv_Wf
  rw [e 0 (by decide) (by decide), e 3 (by decide) (by decide), e 4 (by decide) (by decide), e 5 (by decide) (by decide), e 6 (by decide) (by decide), e 7 (by decide) (by decide), e 8 (by decide) (by decide), e 9 (by decide) (by decide), e 10 (by decide) (by decide)]
  refine ⟨a1, a2, a3, fun q h0 h1 => ?_, fun q r q0 q1 r0 r1 ex ey => ?_, a7, a8⟩
  · have := a5 q h0 h1
    rw [e2, e3]
    refine ⟨⟨?_, ?_, this.1.2.2⟩, this.2⟩ <;> split <;> omega
  · rw [e3, e3] at ex
    rw [e2, e2] at ey
    by_cases c1 : q = p <;> by_cases c2 : r = p
    · omega
    · rw [if_pos c1, if_neg c2] at ex ey
      have := hno r r0 r1 ex.symm ey.symm
      omega
    · rw [if_neg c1, if_pos c2] at ex ey
      have := hno q q0 q1 ex ey
      omega
    · rw [if_neg c1, if_neg c2] at ex ey
      exact a6 q r q0 q1 r0 r1 ex ey
/-- one more road -/
def ld_road (V : rx_St) (k a b w : Int) : rx_St := rx_up (rx_up (rx_up (rx_up (rx_up (rx_up V 0 6 (V 0 6 + 1)) 6 (V 0 6) k) 7 (V 0 6) (rx_mn a b)) 8 (V 0 6) (rx_mx a b)) 9 (V 0 6) w) 10 (V 0 6) 0
theorem rs_has_none {V : rx_St} {a b : Int} (hm : 0 ≤ V 0 6) (h : rs_has V a b = false) : ∀ r, 0 ≤ r → r < V 0 6 → ¬ (V 7 r = rx_mn a b ∧ V 8 r = rx_mx a b) := by
  intro r h0 h1 hc
  have := (rs_any_iff (f := fun r => decide (V 7 r = rx_mn a b ∧ V 8 r = rx_mx a b)) (V 0 6).toNat 0).mpr ⟨r, h0, by omega, by simp [hc.1, hc.2]⟩
  unfold rs_has at h
  rw [this] at h
  cases h
theorem wf_road (hw : iv_Wf V) {k a b w : Int} (hm : V 0 6 < 18) (hk : 0 ≤ k ∧ k < 6) (ha : 0 ≤ a ∧ a < V 0 0) (hb : 0 ≤ b ∧ b < V 0 0) (hab : a ≠ b) (hwt : 1 ≤ w ∧ w ≤ 9) (hno : rs_has V a b = false) : iv_Wf (ld_road V k a b w) := by
  have hno := rs_has_none (wf_m hw).1 hno
  obtain ⟨a1, a2, a3, a5, a6, a7, a8⟩ := hw
  have c6 : ld_road V k a b w 0 6 = V 0 6 + 1 := by simp [ld_road, rx_up]
  have ci : ∀ i, i ≠ 6 → ld_road V k a b w 0 i = V 0 i := by intro i hi; simp [ld_road, rx_up, hi]
  have ck : ∀ j, 1 ≤ j → j ≤ 5 → ld_road V k a b w j = V j := by
    intro j h1 h2
    funext i
    unfold ld_road
    rw [up_c (by omega), up_c (by omega), up_c (by omega), up_c (by omega), up_c (by omega), up_c (by omega)]
  have ce : ∀ j i, 1 ≤ j → i ≠ V 0 6 → ld_road V k a b w j i = V j i := by
    intro j i hj hi
    unfold ld_road
    rw [up_n (by omega), up_n (by omega), up_n (by omega), up_n (by omega), up_n (by omega), up_n (by omega)]
  have n6 : ld_road V k a b w 6 (V 0 6) = k := by simp [ld_road, rx_up]
  have n7 : ld_road V k a b w 7 (V 0 6) = rx_mn a b := by simp [ld_road, rx_up]
  have n8 : ld_road V k a b w 8 (V 0 6) = rx_mx a b := by simp [ld_road, rx_up]
  have n9 : ld_road V k a b w 9 (V 0 6) = w := by simp [ld_road, rx_up]
  have n10 : ld_road V k a b w 10 (V 0 6) = 0 := by simp [ld_road, rx_up]
  have hmn : rx_mn a b = a ∧ rx_mx a b = b ∧ a < b ∨ rx_mn a b = b ∧ rx_mx a b = a ∧ b < a := by
    unfold rx_mn rx_mx
    repeat' split
    all_goals omega
  unfold iv_Wf
  rw [c6, ci 0 (by decide), ci 12 (by decide), ck 1 (by decide) (by decide), ck 2 (by decide) (by decide), ck 3 (by decide) (by decide), ck 4 (by decide) (by decide), ck 5 (by decide) (by decide)]
  refine ⟨a1, by omega, a3, a5, a6, fun r h0 h1 => ?_, fun r s r0 r1 s0 s1 e1 e2 => ?_⟩
  · by_cases e : r = V 0 6
    · subst e
      rw [n6, n7, n8, n9, n10]
      omega
    · rw [ce 6 r (by omega) e, ce 7 r (by omega) e, ce 8 r (by omega) e, ce 9 r (by omega) e, ce 10 r (by omega) e]
      exact a7 r h0 (by omega)
  · by_cases c1 : r = V 0 6 <;> by_cases c2 : s = V 0 6
    · omega
    · rw [c1, n7, ce 7 s (by omega) c2] at e1
      rw [c1, n8, ce 8 s (by omega) c2] at e2
      exact absurd ⟨e1.symm, e2.symm⟩ (hno s s0 (by omega))
    · rw [c2, n7, ce 7 r (by omega) c1] at e1
      rw [c2, n8, ce 8 r (by omega) c1] at e2
      exact absurd ⟨e1, e2⟩ (hno r r0 (by omega))
    · rw [ce 7 r (by omega) c1, ce 7 s (by omega) c2] at e1
      rw [ce 8 r (by omega) c1, ce 8 s (by omega) c2] at e2
      exact a8 r s r0 (by omega) s0 (by omega) e1 e2
/-- a road goes -/
def ld_drop (V : rx_St) (q : Int) : rx_St := fun k i => if k = 0 ∧ i = 6 then V 0 6 - 1 else if (6 ≤ k ∧ k ≤ 10) ∧ q ≤ i ∧ i < V 0 6 - 1 then V k (i + 1) else V k i
theorem wf_drop (hw : iv_Wf V) {q : Int} (hq : 0 ≤ q ∧ q < V 0 6) : iv_Wf (ld_drop V q) := by
  obtain ⟨a1, a2, a3, a5, a6, a7, a8⟩ := hw
  have c6 : ld_drop V q 0 6 = V 0 6 - 1 := by simp [ld_drop]
  have ci : ∀ i, i ≠ 6 → ld_drop V q 0 i = V 0 i := by intro i hi; simp [ld_drop, hi]
  have ck : ∀ j, 1 ≤ j → j ≤ 5 → ld_drop V q j = V j := by
    intro j h1 h2
    funext i
    unfold ld_drop
    rw [if_neg (by omega), if_neg (by omega)]
  have ce : ∀ j i, 6 ≤ j → j ≤ 10 → i < V 0 6 - 1 → ld_drop V q j i = V j (if q ≤ i then i + 1 else i) := by
    intro j i h1 h2 h3
    unfold ld_drop
    rw [if_neg (by omega)]
    by_cases c : q ≤ i
    · rw [if_pos ⟨⟨h1, h2⟩, c, h3⟩, if_pos c]
    · rw [if_neg (by omega), if_neg c]
  unfold iv_Wf
  rw [c6, ci 0 (by decide), ci 12 (by decide), ck 1 (by decide) (by decide), ck 2 (by decide) (by decide), ck 3 (by decide) (by decide), ck 4 (by decide) (by decide), ck 5 (by decide) (by decide)]
  refine ⟨a1, by omega, a3, a5, a6, fun r h0 h1 => ?_, fun r s r0 r1 s0 s1 e1 e2 => ?_⟩
  · rw [ce 6 r (by omega) (by omega) h1, ce 7 r (by omega) (by omega) h1, ce 8 r (by omega) (by omega) h1, ce 9 r (by omega) (by omega) h1, ce 10 r (by omega) (by omega) h1]
    exact a7 _ (by split <;> omega) (by split <;> omega)
  · rw [ce 7 r (by omega) (by omega) r1, ce 7 s (by omega) (by omega) s1] at e1
    rw [ce 8 r (by omega) (by omega) r1, ce 8 s (by omega) (by omega) s1] at e2
    have := a8 _ _ (by split <;> omega) (by split <;> omega) (by split <;> omega) (by split <;> omega) e1 e2
    split at this <;> split at this <;> omega
end WFS
section CALLS
variable {L d : Nat} {σ V T : rx_St} {S : Int → Int} {Q : Int → Int → rx_St → Prop} {K : Int → rx_St → Prop} {KV : rx_St → Prop}
/-- the class has not changed a thing, the model neither -/
theorem o_same (h : iv_A S V T σ) (hQ : ∀ v σ', Inv S σ' → Q v v σ') (v : Int) : Q v v σ := hQ v σ ⟨V, T, h⟩
theorem o_post {x y : Int} (h : iv_A S V T σ) (hQ : ∀ v σ', Inv S σ' → Q v v σ') :
    rx_CI L (d + 2) mX10_post [.inr 0, .inl x, .inl y] σ (fun v1 σ1 => rx_CI L (d + 2) mX11_post [.inr 125, .inl x, .inl y] σ1 (fun v2 σ2 => Q v1 v2 σ2)) := by
  have hw := h.1
  have hC := h.2.1
  have hM := h.2.2.1
  have hn := wf_n hw
  have e1 := ld_Mn hM
  refine bX10_post L (d + 1) x y σ _ ?_
  refine c_postRefusal rfl hC hw (fun c => ?_) (fun c g => ?_) (fun c g f => ?_) (fun c g f => ?_)
  · rw [if_neg (by decide)]
    refine bX11_post L (d + 1) x y σ _ ?_
    refine m_isPlace (fun c2 => absurd c2 c) (fun c2 => ?_)
    rw [if_neg (by decide)]
    exact o_same h hQ _
  · rw [if_neg (by decide)]
    refine bX11_post L (d + 1) x y σ _ ?_
    refine m_isPlace (fun c2 => ?_) (fun c2 => absurd c c2)
    rw [if_pos (by decide)]
    refine n_postAt hM hw ?_
    rw [if_neg (by omega)]
    exact o_same h hQ _
  · rw [if_neg (by decide)]
    refine bX11_post L (d + 1) x y σ _ ?_
    refine m_isPlace (fun c2 => ?_) (fun c2 => absurd c c2)
    rw [if_pos (by decide)]
    refine n_postAt hM hw ?_
    rw [if_pos g, if_neg (by omega)]
    exact o_same h hQ _
  · rw [if_pos rfl]
    refine c_addPost rfl hC hw f (fun σ1 hC1 hf1 => ?_)
    have hM1 : ld_M V (σ1 126) := by rw [hf1 126 (by omega)]; exact hM
    refine bX11_post L (d + 1) x y σ1 _ ?_
    refine m_isPlace (fun c2 => ?_) (fun c2 => absurd c c2)
    rw [if_pos (by decide)]
    refine n_postAt hM1 hw ?_
    rw [if_pos g, ld_Mn hM1, if_pos (by omega)]
    refine n_comes hM1 hw f (fun σ2 hM2 hf2 hi2 => ?_)
    refine hQ _ σ2 ⟨_, T, iv_land h (fun c i hk => ?_) (wf_post hw f c.1 c.2 g) (ld_Cfr hC1 (fun c h1 h2 => hf2 c (by omega))) hM2 (by simp [ld_post, rx_up])⟩
    unfold fr_v at hk
    by_cases c126 : c = 126
    · subst c126
      rw [hi2 i (by omega), hf1 126 (by omega)]
    · rw [hf2 c c126, hf1 c (by omega)]
theorem n_placeOf (hM : ld_M V (σ 126)) (hw : iv_Wf V) {p : Int} (hp : 0 ≤ p ∧ p < V 0 0) (h : K (V 5 p) σ) : rx_CI L d mX11_placeOf [.inr 125, .inl p] σ K := by
  have hn := wf_n hw
  have hpp := wf_p hw hp.1 hp.2
  refine bX11_placeOf L d p σ K ?_
  have key : ∀ (k : Nat) (i : Int), 0 ≤ i → i + k = V 5 p → rx_Go L d mX11_placeOf 2 [some (.inr 125), some (.inl p), some (.inl i)] [] σ (rx_PI K) := by
    intro k
    induction k with
    | zero =>
      intro i h0 hi
      refine bX11_placeOf_2 L d p i σ K ?_
      rw [rx_w_of (by omega) (by omega)]
      refine ⟨by omega, ?_⟩
      have e : i = V 5 p := by omega
      rw [ld_Mli hM h0 (by omega), if_pos (by rw [e]; exact hpp.2.2.2.2), e]
      exact h
    | succ k ih =>
      intro i h0 hi
      refine bX11_placeOf_2 L d p i σ K ?_
      rw [rx_w_of (x := 28 + i) (by omega) (by omega)]
      refine ⟨by omega, ?_⟩
      rw [ld_Mli hM h0 (by omega), if_neg, rx_w_of (by omega) (by omega)]
      · exact ih (i + 1) (by omega) (by omega)
      · intro e
        have := (wf_p hw h0 (show i < V 0 0 by omega)).2.1.2.2
        rw [e] at this
        omega
  exact key (V 5 p).toNat 0 (by omega) (by omega)
theorem c_roadsFrom {A : Nat} (hA : rx_isO 1 A = true) (hV : ld_C A V σ) (hw : iv_Wf V) {x : Int} (h : K (rs_cnt (fun r => decide (V 7 r = x ∨ V 8 r = x)) 0 (V 0 6).toNat) σ) : rx_CI L d mX1_roadsFrom [.inr A, .inl x] σ K := by
  have e0 := ld_C0 hV
  refine s_roadsFrom hA (by rw [e0]; exact wf_m hw) ?_
  rw [e0, hV 7 (by omega), hV 8 (by omega)]
  exact h
theorem o_postTold {p w : Int} (h : iv_A S V T σ) (hQ : ∀ v σ', Inv S σ' → Q v v σ') :
    rx_CI L (d + 3) mX10_postTold [.inr 0, .inl p, .inl w] σ (fun v1 σ1 => rx_CI L (d + 3) mX11_postTold [.inr 125, .inl p, .inl w] σ1 (fun v2 σ2 => Q v1 v2 σ2)) := by
  have hw := h.1
  have hC := h.2.1
  have hM := h.2.2.1
  have hn := wf_n hw
  have hm := wf_m hw
  have hbad : ¬ ((0 ≤ p ∧ p < V 0 0) ∧ 0 ≤ w ∧ w ≤ 4) → rx_CI L (d + 3) mX11_postTold [.inr 125, .inl p, .inl w] σ (fun v2 σ2 => Q (-1000000001) v2 σ2) := by
    intro c
    refine bX11_postTold L (d + 2) p w σ _ ?_
    refine n_isPost hM hw (fun c1 => ?_) (fun c1 => ?_)
    · rw [if_neg (by decide)]
      refine m_in (fun c2 => absurd ⟨c1, c2⟩ c) (fun c2 => ?_)
      rw [if_neg (by decide)]
      exact o_same h hQ _
    · rw [if_pos rfl]
      exact o_same h hQ _
  have hin : (0 ≤ p ∧ p < V 0 0) → 0 ≤ w → w < 3 → ∀ v, σ 126 (4 + 3 * p + w) = v → rx_CI L (d + 3) mX11_postTold [.inr 125, .inl p, .inl w] σ (fun v2 σ2 => Q v v2 σ2) := by
    intro c w0 w1 v hv
    refine bX11_postTold L (d + 2) p w σ _ ?_
    refine n_isPost hM hw (fun c1 => ?_) (fun c1 => absurd c c1)
    rw [if_neg (by decide)]
    refine m_in (fun c2 => ?_) (fun c2 => absurd ⟨w0, by omega⟩ c2)
    rw [if_pos (by decide), if_neg (by omega)]
    simp (disch := omega) only [rx_w_of]
    rw [hv]
    exact ⟨by omega, o_same h hQ _⟩
  refine bX10_postTold L (d + 2) p w σ _ ?_
  refine c_isPost rfl hC (fun c => ?_) (fun c => ?_)
  · rw [if_pos (by decide)]
    have e2 : σ 2 = V 1 := hC 1 (by omega)
    have e3 : σ 3 = V 2 := hC 2 (by omega)
    have e4 : σ 4 = V 3 := hC 3 (by omega)
    have e6 : σ 6 = V 5 := hC 5 (by omega)
    by_cases c0 : w = 0
    · rw [if_pos c0]
      refine ⟨by omega, hin c (by omega) (by omega) _ ?_⟩
      rw [e2, c0, Int.add_zero, ld_Mx hM (by omega) (by omega)]
    rw [if_neg c0]
    by_cases c1 : w = 1
    · rw [if_pos c1]
      refine ⟨by omega, hin c (by omega) (by omega) _ ?_⟩
      rw [e3, c1, ld_My hM (by omega) (by omega)]
    rw [if_neg c1]
    by_cases c2 : w = 2
    · rw [if_pos c2]
      refine ⟨by omega, hin c (by omega) (by omega) _ ?_⟩
      rw [e4, c2, ld_Ml hM (by omega) (by omega)]
    rw [if_neg c2]
    by_cases c3 : w = 3
    · rw [if_pos c3]
      refine ⟨by omega, ?_⟩
      refine bX11_postTold L (d + 2) p w σ _ ?_
      refine n_isPost hM hw (fun c1 => ?_) (fun c1 => absurd c c1)
      rw [if_neg (by decide)]
      refine m_in (fun c2 => ?_) (fun c2 => absurd ⟨by omega, by omega⟩ c2)
      rw [if_pos (by decide), if_pos (by omega), if_neg (fun q => q c3)]
      refine n_placeOf hM hw c ?_
      rw [e6]
      exact o_same h hQ _
    rw [if_neg c3]
    by_cases c4 : w = 4
    · rw [if_pos c4]
      refine c_roadsFrom rfl hC hw ?_
      refine bX11_postTold L (d + 2) p w σ _ ?_
      refine n_isPost hM hw (fun c1 => ?_) (fun c1 => absurd c c1)
      rw [if_neg (by decide)]
      refine m_in (fun c2 => ?_) (fun c2 => absurd ⟨by omega, by omega⟩ c2)
      rw [if_pos (by decide), if_pos (by omega), if_pos c3]
      have key : ∀ (k : Nat) (r n : Int), 0 ≤ r → r + k = V 0 6 → 0 ≤ n → n ≤ r → rx_Go L (d + 3) mX11_postTold 54 [some (.inr 125), some (.inl p), some (.inl w), some (.inl n), some (.inl r)] [] σ (rx_PI (fun v2 σ2 => Q (n + rs_cnt (fun r => decide (V 7 r = p ∨ V 8 r = p)) r k) v2 σ2)) := by
        intro k
        induction k with
        | zero =>
          intro r n h0 hr n0 n1
          refine bX11_postTold_54 L (d + 2) p _ n r σ _ ?_
          rw [ld_Mm hM, if_pos (by omega)]
          simp only [rs_cnt, Int.add_zero]
          exact o_same h hQ _
        | succ k ih =>
          intro r n h0 hr n0 n1
          refine bX11_postTold_54 L (d + 2) p _ n r σ _ ?_
          rw [ld_Mm hM, if_neg (by omega)]
          refine n_isFrom hM (by omega) (fun g => ?_) (fun g => ?_)
          · rw [if_neg (by decide), rx_w_of (by omega) (by omega), rx_w_of (by omega) (by omega)]
            unfold rs_cnt
            rw [if_pos (by simpa using g), ← Int.add_assoc]
            exact ih (r + 1) (n + 1) (by omega) (by omega) (by omega) (by omega)
          · rw [if_pos rfl, rx_w_of (by omega) (by omega), rx_w_of (by omega) (by omega)]
            unfold rs_cnt
            rw [if_neg (by simpa using g), Int.zero_add, Int.add_zero]
            exact ih (r + 1) n (by omega) (by omega) (by omega) (by omega)
      have := key (V 0 6).toNat 0 0 (by omega) (by omega) (by omega) (by omega)
      rw [Int.zero_add] at this
      exact this
    · rw [if_neg c4]
      exact hbad (by omega)
  · rw [if_neg (by decide)]
    exact hbad (fun q => c q.1)
theorem o_move {p x y : Int} (h : iv_A S V T σ) (hQ : ∀ v σ', Inv S σ' → Q v v σ') :
    rx_CI L (d + 2) mX10_move [.inr 0, .inl p, .inl x, .inl y] σ (fun v1 σ1 => rx_CI L (d + 2) mX11_move [.inr 125, .inl p, .inl x, .inl y] σ1 (fun v2 σ2 => Q v1 v2 σ2)) := by
  have hw := h.1
  have hC := h.2.1
  have hM := h.2.2.1
  have hn := wf_n hw
  have hbad : ¬ ((0 ≤ p ∧ p < V 0 0) ∧ (0 ≤ x ∧ x < 100) ∧ 0 ≤ y ∧ y < 100) → rx_CI L (d + 2) mX11_move [.inr 125, .inl p, .inl x, .inl y] σ (fun v2 σ2 => Q (-1000000001) v2 σ2) := by
    intro c
    refine bX11_move L (d + 1) p x y σ _ ?_
    refine n_isPost hM hw (fun c1 => ?_) (fun c1 => ?_)
    · rw [if_neg (by decide)]
      refine m_isPlace (fun c2 => absurd ⟨c1, c2⟩ c) (fun c2 => ?_)
      rw [if_neg (by decide)]
      exact o_same h hQ _
    · rw [if_pos rfl]
      exact o_same h hQ _
  refine bX10_move L (d + 1) p x y σ _ ?_
  refine c_isPost rfl hC (fun c => ?_) (fun c => ?_)
  · rw [if_neg (by decide)]
    refine s_isPlace (fun c2 => ?_) (fun c2 => ?_)
    · rw [if_pos (by decide)]
      refine c_postAt rfl hC hw ?_
      have hlt := rs_at_lt (x := x) (y := y) hn.1
      by_cases e : rs_at V x y = p
      · rw [if_neg (fun q => q e)]
        refine bX11_move L (d + 1) p x y σ _ ?_
        refine n_isPost hM hw (fun _ => ?_) (fun c1 => absurd c c1)
        rw [if_neg (by decide)]
        refine m_isPlace (fun _ => ?_) (fun c3 => absurd c2 c3)
        rw [if_pos (by decide)]
        refine n_postAt hM hw ?_
        rw [if_neg (by omega), if_pos e]
        simp (disch := omega) only [rx_w_of]
        refine ⟨by omega, by omega, ?_⟩
        have hxy := rs_at_is (V := V) (x := x) (y := y) (by omega)
        rw [e] at hxy
        refine hQ _ _ ⟨V, T, iv_land h (fun c i hk => ?_) hw (ld_Cne (ld_Cne hC (by omega) _ _) (by omega) _ _) ?_ rfl⟩
        · unfold fr_v at hk
          rw [up_n (by omega), up_n (by omega)]
        · have h1 := ld_Mup hM (k := 1) (i := p) (v := x) (j := 4 + 3 * p) (by unfold ld_ok; omega) (by unfold ld_i; simp)
          have h2 := ld_Mup h1 (k := 2) (i := p) (v := y) (j := 4 + 3 * p + 1) (by unfold ld_ok; omega) (by unfold ld_i; simp)
          intro k i hk
          rw [h2 k i hk]
          by_cases e2 : k = 2 ∧ i = p
          · rw [up_x e2, e2.1, e2.2, hxy.2]
          · rw [up_n e2]
            by_cases e1 : k = 1 ∧ i = p
            · rw [up_x e1, e1.1, e1.2, hxy.1]
            · rw [up_n e1]
      · rw [if_pos e]
        by_cases g : rs_at V x y < 0
        · rw [if_pos g]
          refine ⟨by omega, ?_⟩
          have hM1 : ld_M V ((rx_up (rx_up σ 2 p x) 3 p y) 126) := by rw [up_c (by decide), up_c (by decide)]; exact hM
          refine bX11_move L (d + 1) p x y _ _ ?_
          refine n_isPost hM1 hw (fun _ => ?_) (fun c1 => absurd c c1)
          rw [if_neg (by decide)]
          refine m_isPlace (fun _ => ?_) (fun c3 => absurd c2 c3)
          rw [if_pos (by decide)]
          refine n_postAt hM1 hw ?_
          rw [if_pos g, if_pos e]
          simp (disch := omega) only [rx_w_of]
          refine ⟨by omega, by omega, ?_⟩
          have h1 := ld_Mup hM1 (k := 1) (i := p) (v := x) (j := 4 + 3 * p) (by unfold ld_ok; omega) (by unfold ld_i; simp)
          have h2 := ld_Mup h1 (k := 2) (i := p) (v := y) (j := 4 + 3 * p + 1) (by unfold ld_ok; omega) (by unfold ld_i; simp)
          have hno := rs_at_none hn.1 g
          refine hQ _ _ ⟨_, T, iv_land h (fun c i hk => ?_) (wf_move hw c2.1 c2.2 (fun q q0 q1 e1 e2 => absurd ⟨e1, e2⟩ (hno q q0 q1))) (ld_Cne (ld_Cne (ld_Cup (ld_Cup hC (k := 1) (by omega) p x) (k := 2) (by omega) p y) (by omega) _ _) (by omega) _ _) h2 (by rw [up_c (by decide), up_c (by decide)])⟩
          unfold fr_v at hk
          rw [up_n (by omega), up_n (by omega), up_n (by omega), up_n (by omega)]
        · rw [if_neg g]
          refine bX11_move L (d + 1) p x y σ _ ?_
          refine n_isPost hM hw (fun _ => ?_) (fun c1 => absurd c c1)
          rw [if_neg (by decide)]
          refine m_isPlace (fun _ => ?_) (fun c3 => absurd c2 c3)
          rw [if_pos (by decide)]
          refine n_postAt hM hw ?_
          rw [if_neg g, if_neg e]
          exact o_same h hQ _
    · rw [if_neg (by decide)]
      exact hbad (fun q => c2 q.2)
  · rw [if_pos rfl]
    exact hbad (fun q => c q.1)
theorem o_layer {p v : Int} (h : iv_A S V T σ) (hQ : ∀ v σ', Inv S σ' → Q v v σ') :
    rx_CI L (d + 2) mX10_layer [.inr 0, .inl p, .inl v] σ (fun v1 σ1 => rx_CI L (d + 2) mX11_layer [.inr 125, .inl p, .inl v] σ1 (fun v2 σ2 => Q v1 v2 σ2)) := by
  have hw := h.1
  have hC := h.2.1
  have hM := h.2.2.1
  have hn := wf_n hw
  have hbad : ¬ ((0 ≤ p ∧ p < V 0 0) ∧ 0 ≤ v ∧ v < 4) → rx_CI L (d + 2) mX11_layer [.inr 125, .inl p, .inl v] σ (fun v2 σ2 => Q (-1000000001) v2 σ2) := by
    intro c
    refine bX11_layer L (d + 1) p v σ _ ?_
    refine n_isPost hM hw (fun c1 => ?_) (fun c1 => ?_)
    · rw [if_neg (by decide)]
      refine m_in (fun c2 => absurd ⟨c1, by omega⟩ c) (fun c2 => ?_)
      rw [if_neg (by decide)]
      exact o_same h hQ _
    · rw [if_pos rfl]
      exact o_same h hQ _
  refine bX10_layer L (d + 1) p v σ _ ?_
  refine c_isPost rfl hC (fun c => ?_) (fun c => ?_)
  · rw [if_neg (by decide)]
    refine s_isLayer (fun c2 => ?_) (fun c2 => ?_)
    · rw [if_pos (by decide)]
      refine ⟨by omega, ?_⟩
      have e4 : σ 4 = V 3 := hC 3 (by omega)
      have hM1 : ld_M V ((rx_up σ 4 p v) 126) := by rw [up_c (by decide)]; exact hM
      refine bX11_layer L (d + 1) p v _ _ ?_
      refine n_isPost hM1 hw (fun _ => ?_) (fun c1 => absurd c c1)
      rw [if_neg (by decide)]
      refine m_in (fun _ => ?_) (fun c3 => absurd ⟨c2.1, by omega⟩ c3)
      rw [if_pos (by decide)]
      refine n_layerOf hM1 (by omega) ?_
      simp (disch := omega) only [rx_w_of]
      refine ⟨by omega, ?_⟩
      have h1 := ld_Mup hM1 (k := 3) (i := p) (v := v) (j := 4 + 3 * p + 2) (by unfold ld_ok; omega) (by unfold ld_i; simp)
      rw [e4]
      refine hQ _ _ ⟨_, T, iv_land h (fun c i hk => ?_) (wf_k hw (k := 3) (i := p) (v := v) (by omega)) (ld_Cne (ld_Cup hC (k := 3) (by omega) p v) (by omega) _ _) h1 (by rw [up_c (by decide)])⟩
      unfold fr_v at hk
      rw [up_n (by omega), up_n (by omega)]
    · rw [if_neg (by decide)]
      exact hbad (fun q => c2 q.2)
  · rw [if_pos rfl]
    exact hbad (fun q => c q.1)
end CALLS
