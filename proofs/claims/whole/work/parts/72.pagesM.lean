/-! ===== pages: the model ===== -/
theorem alu_or0 (a b : Int) : rx_alu 4 a b = 0 ↔ ∀ i, i < 32 → tb (rx_alu 4 a b) i = false := by
  constructor
  · intro h i hi
    rw [h]
    exact tb_zero i
  · intro h
    have e : Int32.ofInt a ||| Int32.ofInt b = 0 := by
      apply tb_ext
      intro i hi
      rw [show (0 : Int32).toBitVec.getLsbD i = false from tb_zero i, ← h i hi]
      exact (tb_of _ i).symm
    show (Int32.ofInt a ||| Int32.ofInt b).toInt = 0
    rw [e]
    rfl
section PGM
variable {L d : Nat} {σ V T : rx_St} {S : Int → Int} {Q : Int → Int → rx_St → Prop} {K : Int → rx_St → Prop} {KV : rx_St → Prop}
def pm_y (V : rx_St) (r s x : Int) : Prop := (∀ b : Nat, b < 32 → (tb x b = true ↔ (b : Int) < s ∧ rs_X V r b)) ∧ (x = 0 ↔ ∀ b : Nat, b < 32 → tb x b = false)
def pm_x (V σ : rx_St) : Prop := ∀ r, 0 ≤ r → r < V 0 6 → pc_x V r (σ 134 r)
theorem pm_y0 (V : rx_St) (r : Int) : pm_y V r 0 0 := ⟨fun b _ => ⟨(fun z => by rw [tb_zero] at z; cases z), (fun z => by omega)⟩, ⟨fun _ b _ => tb_zero b, fun _ => rfl⟩⟩
theorem pm_yn {r s x : Int} (h : pm_y V r s x) (hx : ¬ rs_X V r s) : pm_y V r (s + 1) (rx_alu 4 x 0) := by
  refine ⟨fun b b32 => ?_, alu_or0 _ _⟩
  rw [tb_or, tb_zero, Bool.or_false, h.1 b b32]
  constructor
  · rintro ⟨a1, a2⟩
    exact ⟨by omega, a2⟩
  · rintro ⟨a1, a2⟩
    refine ⟨?_, a2⟩
    have : (b : Int) ≠ s := fun e => hx (e ▸ a2)
    omega
theorem pm_yy {r s x : Int} (h : pm_y V r s x) (h0 : 0 ≤ s) (h1 : s < 32) (hx : rs_X V r s) : pm_y V r (s + 1) (rx_alu 4 x (rx_alu 6 1 s)) := by
  refine ⟨fun b b32 => ?_, alu_or0 _ _⟩
  rw [tb_or, tb_shl h0 h1, Bool.or_eq_true, h.1 b b32]
  constructor
  · rintro (⟨a1, a2⟩ | a)
    · exact ⟨by omega, a2⟩
    · have e := of_decide_eq_true a
      rw [e]
      exact ⟨by omega, hx⟩
  · rintro ⟨a1, a2⟩
    by_cases e : (b : Int) = s
    · exact Or.inr (decide_eq_true e)
    · exact Or.inl ⟨by omega, a2⟩
theorem pm_yx (hw : iv_Wf V) {r x : Int} (h : pm_y V r (V 0 6) x) : pc_x V r x := by
  have hm := wf_m hw
  refine ⟨h.1, ?_⟩
  rw [h.2]
  constructor
  · intro g s s0 s1 hx
    have h1 := (h.1 s.toNat (by omega)).mpr ⟨by omega, by rw [show ((s.toNat : Nat) : Int) = s by omega]; exact hx⟩
    rw [g s.toNat (by omega)] at h1
    cases h1
  · intro g b b32
    cases hb : tb x b with
    | false => rfl
    | true =>
      have := (h.1 b b32).mp hb
      exact absurd this.2 (g b (by omega) this.1)
theorem n_findPasses (hM : ld_M V (σ 126)) (hw : iv_Wf V) (h : ∀ σ', pm_x V σ' → (∀ c, c ≠ 133 → c ≠ 134 → σ' c = σ c) → KV σ') : rx_CV L (d + 5) mX11_findPasses [.inr 125] σ KV := by
  have hm := wf_m hw
  refine bX11_findPasses L (d + 4) σ KV ?_
  refine n_findPlaces hM hw (fun σ0 hP0 hf0 => ?_)
  have hst : ∀ σ1 : rx_St, (∀ c, c ≠ 134 → σ1 c = σ0 c) → ld_M V (σ1 126) ∧ pl_M (V 5) (V 0 0) σ1 := fun σ1 hf => by
    refine ⟨by rw [hf 126 (by decide), hf0 126 (by decide)]; exact hM, fun p p0 p1 => ?_⟩
    rw [hf 133 (by decide)]
    exact hP0 p p0 p1
  have inner : ∀ (k : Nat) (r s : Int) (σ1 : rx_St), 0 ≤ r → r < V 0 6 → 0 ≤ s → s + k = V 0 6 → (∀ c, c ≠ 134 → σ1 c = σ0 c) → (∀ q, 0 ≤ q → q < r → pc_x V q (σ1 134 q)) → pm_y V r s (σ1 134 r) → (∀ σ2 q2, (∀ c, c ≠ 134 → σ2 c = σ0 c) → (∀ q, 0 ≤ q → q < r + 1 → pc_x V q (σ2 134 q)) → rx_Go L (d + 5) mX11_findPasses 6 [some (.inr 125), some (.inl (r + 1)), q2] [] σ2 (rx_PV KV)) → rx_Go L (d + 5) mX11_findPasses 25 [some (.inr 125), some (.inl r), some (.inl s)] [] σ1 (rx_PV KV) := by
    intro k
    induction k with
    | zero =>
      intro r s σ1 r0 r1 s0 hs hf hq hy hnext
      refine bX11_findPasses_25 L (d + 4) r s σ1 KV ?_
      rw [ld_Mm (hst σ1 hf).1, if_pos (by omega), rx_w_of (by omega) (by omega)]
      refine hnext σ1 _ hf (fun q q0 q1 => ?_)
      by_cases e : q = r
      · rw [e]
        rw [show s = V 0 6 by omega] at hy
        exact pm_yx hw hy
      · exact hq q q0 (by omega)
    | succ k ih =>
      intro r s σ1 r0 r1 s0 hs hf hq hy hnext
      refine bX11_findPasses_25 L (d + 4) r s σ1 KV ?_
      rw [ld_Mm (hst σ1 hf).1, if_neg (by omega), rx_w_of (by omega) (by omega)]
      refine ⟨by omega, ?_⟩
      have go : ∀ x, pm_y V r (s + 1) x → rx_Go L (d + 5) mX11_findPasses 25 [some (.inr 125), some (.inl r), some (.inl (s + 1))] [] (rx_up σ1 134 r x) (rx_PV KV) := by
        intro x hx
        refine ih r (s + 1) _ r0 r1 (by omega) (by omega) (fun c hc => by rw [up_c hc]; exact hf c hc) (fun q q0 q1 => ?_) ?_ hnext
        · rw [up_i (by omega)]
          exact hq q q0 q1
        · rw [up_s]
          exact hx
      by_cases c : s = r
      · rw [if_pos c]
        exact go _ (pm_yn hy (fun q => q.1 c.symm))
      · rw [if_neg c]
        refine n_doPass (hst σ1 hf).1 hw (hst σ1 hf).2 ⟨r0, r1⟩ ⟨s0, by omega⟩ (fun g => ?_) (fun g => ?_)
        · rw [if_neg (by decide)]
          exact go _ (pm_yy hy s0 (by omega) ⟨fun q => c q.symm, g.1, g.2⟩)
        · rw [if_pos rfl]
          exact go _ (pm_yn hy (fun q => g ⟨q.2.1, q.2.2⟩))
  have outer : ∀ (k : Nat) (r : Int) (q2 : Option rx_V) (σ1 : rx_St), 0 ≤ r → r + k = V 0 6 → (∀ c, c ≠ 134 → σ1 c = σ0 c) → (∀ q, 0 ≤ q → q < r → pc_x V q (σ1 134 q)) → rx_Go L (d + 5) mX11_findPasses 6 [some (.inr 125), some (.inl r), q2] [] σ1 (rx_PV KV) := by
    intro k
    induction k with
    | zero =>
      intro r q2 σ1 r0 hr hf hq
      refine bX11_findPasses_6 L (d + 4) r q2 σ1 KV ?_
      rw [ld_Mm (hst σ1 hf).1, if_pos (by omega)]
      exact h σ1 (fun q q0 q1 => hq q q0 (by omega)) (fun c h1 h2 => by rw [hf c h2, hf0 c h1])
    | succ k ih =>
      intro r q2 σ1 r0 hr hf hq
      refine bX11_findPasses_6 L (d + 4) r q2 σ1 KV ?_
      rw [ld_Mm (hst σ1 hf).1, if_neg (by omega)]
      refine ⟨by omega, inner (V 0 6).toNat r 0 _ r0 (by omega) (by omega) (by omega) (fun c hc => by rw [up_c hc]; exact hf c hc) (fun q q0 q1 => ?_) ?_ (fun σ2 q2 hf2 hq2 => ih (r + 1) q2 σ2 (by omega) (by omega) hf2 hq2)⟩
      · rw [up_i (by omega)]
        exact hq q q0 q1
      · rw [up_s]
        exact pm_y0 V r
  exact outer (V 0 6).toNat 0 _ σ0 (by omega) (by omega) (fun _ _ => rfl) (fun q q0 q1 => by omega)
theorem n_hasTwo (hM : ld_M V (σ 126)) (hw : iv_Wf V) (hX : pm_x V σ) {x : Int} (h1 : (∃ r s, (0 ≤ r ∧ r < V 0 6) ∧ (0 ≤ s ∧ s < V 0 6) ∧ tb x r.toNat = true ∧ tb x s.toNat = true ∧ rs_X V r s) → K 1 σ) (h0 : K 0 σ) : rx_CI L d mX11_hasTwo [.inr 125, .inl x] σ K := by
  have hm := wf_m hw
  refine bX11_hasTwo L d x σ K ?_
  have key : ∀ (k : Nat) (r : Int), 0 ≤ r → r + k = V 0 6 → rx_Go L d mX11_hasTwo 2 [some (.inr 125), some (.inl x), some (.inl r)] [] σ (rx_PI K) := by
    intro k
    induction k with
    | zero =>
      intro r r0 hr
      refine bX11_hasTwo_2 L d x r σ K ?_
      rw [ld_Mm hM, if_pos (by omega)]
      exact h0
    | succ k ih =>
      intro r r0 hr
      refine bX11_hasTwo_2 L d x r σ K ?_
      rw [ld_Mm hM, if_neg (by omega), rx_w_of (by omega) (by omega), alu_bit x r0 (by omega)]
      have nx := ih (r + 1) (by omega) (by omega)
      by_cases b : tb x r.toNat = true
      · rw [if_pos b, if_neg (fun q => q rfl)]
        refine ⟨by omega, ?_⟩
        by_cases z : rx_alu 3 x (σ 134 r) = 0
        · rw [if_pos z]
          exact nx
        · rw [if_neg z]
          obtain ⟨i, i32, i1, i2⟩ := alu_ne _ _ z
          have := ((hX r r0 (by omega)).1 i i32).mp i2
          exact h1 ⟨r, i, by omega, by omega, b, i1, this.2⟩
      · rw [if_neg b, if_pos (by decide)]
        exact nx
  exact key (V 0 6).toNat 0 (by omega) (by omega)
/-- the roads on q pages, none crossing another on its page -/
def pm_way (V : rx_St) (q : Int) (e : Int → Int) : Prop := (∀ i, 0 ≤ i → i < V 0 6 → 0 ≤ e i ∧ e i < q) ∧ (∀ i j, 0 ≤ i → i < V 0 6 → 0 ≤ j → j < V 0 6 → rs_X V i j → e i ≠ e j)
theorem pm_way_of (hw : iv_Wf V) {q : Int} {e c : Int → Int} (h : pg_F (rs_X V) q (V 0 6).toNat 0 c = some e) : pm_way V q e := by
  have hm := wf_m hw
  obtain ⟨a1, a2, a3⟩ := pg_sound _ _ _ _ (Int.le_refl 0) h
  refine ⟨fun i i0 i1 => a2 i i0 (by omega), fun i j i0 i1 j0 j1 hx => ?_⟩
  by_cases c : j < i
  · exact fun g => a3 i j i0 (by omega) j0 c hx g.symm
  · have hne : i ≠ j := hx.1
    exact a3 j i j0 (by omega) i0 (by omega) (rs_X_sym hw ⟨i0, i1⟩ ⟨j0, j1⟩ hx)
theorem n_mutual (hM : ld_M V (σ 126)) (hw : iv_Wf V) (hX : pm_x V σ) {q : Int} {e : Int → Int} (he : pm_way V q e) (hq : 0 ≤ q) (h : ∀ v, 0 ≤ v → v ≤ q → K v σ) : rx_CI L (d + 1) mX11_mutual [.inr 125] σ K := by
  have hm := wf_m hw
  obtain ⟨w1, w2⟩ := he
  have inner : ∀ (k : Nat) (v r s : Int) (q4 : Option rx_V), 0 ≤ v → v ≤ q → 0 ≤ r → r < V 0 6 → r < s → s + k = V 0 6 → (∀ v' q3 q4, 0 ≤ v' → v' ≤ q → rx_Go L (d + 1) mX11_mutual 17 [some (.inr 125), some (.inl v'), some (.inl (r + 1)), q3, q4] [] σ (rx_PI K)) → rx_Go L (d + 1) mX11_mutual 50 [some (.inr 125), some (.inl v), some (.inl r), some (.inl s), q4] [] σ (rx_PI K) := by
    intro k
    induction k with
    | zero =>
      intro v r s q4 v0 v1 r0 r1 rs hs hnext
      refine bX11_mutual_50 L d v r s q4 σ K ?_
      rw [ld_Mm hM, if_pos (by omega), rx_w_of (by omega) (by omega)]
      exact hnext v _ _ v0 v1
    | succ k ih =>
      intro v r s q4 v0 v1 r0 r1 rs hs hnext
      refine bX11_mutual_50 L d v r s q4 σ K ?_
      rw [ld_Mm hM, if_neg (by omega), rx_w_of (by omega) (by omega), alu_bit _ (by omega) (by omega)]
      have xr := hX r r0 r1
      have xs := hX s (by omega) (by omega)
      refine ⟨by omega, ?_⟩
      by_cases b : tb (σ 134 r) s.toNat = true
      · rw [if_pos b, if_neg (fun q => q rfl)]
        refine ⟨by omega, ?_⟩
        have hrs := (xr.1 s.toNat (by omega)).mp b
        rw [show ((s.toNat : Nat) : Int) = s by omega] at hrs
        have e1 := w2 r s r0 r1 (by omega) (by omega) hrs.2
        have br := w1 r r0 r1
        have bs := w1 s (by omega) (by omega)
        by_cases z : rx_alu 3 (σ 134 r) (σ 134 s) = 0
        · rw [if_pos z]
          exact ih v r (s + 1) _ v0 v1 r0 r1 (by omega) (by omega) hnext
        · rw [if_neg z]
          refine n_hasTwo hM hw hX (fun g => ?_) ?_
          · rw [if_neg (by decide)]
            refine ih 4 r (s + 1) _ (by omega) ?_ r0 r1 (by omega) (by omega) hnext
            obtain ⟨t, u, ⟨t0, t1⟩, ⟨u0, u1⟩, bt, bu, htu⟩ := g
            rw [tb_and, Bool.and_eq_true] at bt bu
            have f1 := (xr.1 t.toNat (by omega)).mp bt.1
            have f2 := (xs.1 t.toNat (by omega)).mp bt.2
            have f3 := (xr.1 u.toNat (by omega)).mp bu.1
            have f4 := (xs.1 u.toNat (by omega)).mp bu.2
            rw [show ((t.toNat : Nat) : Int) = t by omega] at f1 f2
            rw [show ((u.toNat : Nat) : Int) = u by omega] at f3 f4
            have g1 := w2 r t r0 r1 t0 t1 f1.2
            have g2 := w2 s t (by omega) (by omega) t0 t1 f2.2
            have g3 := w2 r u r0 r1 u0 u1 f3.2
            have g4 := w2 s u (by omega) (by omega) u0 u1 f4.2
            have g5 := w2 t u t0 t1 u0 u1 htu
            have bt := w1 t t0 t1
            have bu := w1 u u0 u1
            omega
          · rw [if_pos rfl]
            obtain ⟨i, i32, i1, i2⟩ := alu_ne _ _ z
            have f1 := (xr.1 i i32).mp i1
            have f2 := (xs.1 i i32).mp i2
            have g1 := w2 r i r0 r1 (by omega) f1.1 f1.2
            have g2 := w2 s i (by omega) (by omega) (by omega) f1.1 f2.2
            have bi := w1 i (by omega) f1.1
            refine ih (rx_mx v 3) r (s + 1) _ ?_ ?_ r0 r1 (by omega) (by omega) hnext
            · unfold rx_mx
              split <;> omega
            · unfold rx_mx
              split <;> omega
      · rw [if_neg b, if_pos (by decide)]
        exact ih v r (s + 1) _ v0 v1 r0 r1 (by omega) (by omega) hnext
  have outer : ∀ (k : Nat) (v r : Int) (q3 q4 : Option rx_V), 0 ≤ v → v ≤ q → 0 ≤ r → r + k = V 0 6 → rx_Go L (d + 1) mX11_mutual 17 [some (.inr 125), some (.inl v), some (.inl r), q3, q4] [] σ (rx_PI K) := by
    intro k
    induction k with
    | zero =>
      intro v r q3 q4 v0 v1 r0 hr
      refine bX11_mutual_17 L d v r q3 q4 σ K ?_
      rw [ld_Mm hM, if_pos (by omega)]
      exact h v v0 v1
    | succ k ih =>
      intro v r q3 q4 v0 v1 r0 hr
      refine bX11_mutual_17 L d v r q3 q4 σ K ?_
      rw [ld_Mm hM, if_neg (by omega), rx_w_of (by omega) (by omega)]
      refine ⟨by omega, ?_⟩
      have xr := hX r r0 (by omega)
      by_cases z : σ 134 r = 0
      · rw [if_pos z]
        exact inner k v r (r + 1) q4 v0 v1 r0 (by omega) (by omega) (by omega) (fun v' q3 q4 a b => ih v' (r + 1) q3 q4 a b (by omega) (by omega))
      · rw [if_neg z]
        have : ∃ s, 0 ≤ s ∧ s < V 0 6 ∧ rs_X V r s := by
          refine Classical.byContradiction (fun hc => z (xr.2.mpr (fun s s0 s1 hx => hc ⟨s, s0, s1, hx⟩)))
        have : 2 ≤ q := by
          obtain ⟨s, s0, s1, hx⟩ := this
          have := w2 r s r0 (by omega) s0 s1 hx
          have := w1 r r0 (by omega)
          have := w1 s s0 s1
          omega
        refine inner k (rx_mx v 2) r (r + 1) q4 ?_ ?_ r0 (by omega) (by omega) (by omega) (fun v' q3 q4 a b => ih v' (r + 1) q3 q4 a b (by omega) (by omega))
        · unfold rx_mx
          split <;> omega
        · unfold rx_mx
          split <;> omega
  refine bX11_mutual L d σ K ?_
  rw [ld_Mm hM]
  by_cases z : V 0 6 ≤ 0
  · rw [if_pos z]
    exact outer (V 0 6).toNat 0 0 _ _ (by omega) hq (by omega) (by omega)
  · rw [if_neg z]
    have := w1 0 (by omega) (by omega)
    exact outer (V 0 6).toNat 1 0 _ _ (by omega) (by omega) (by omega) (by omega)
theorem n_lastPage {c : Int → Int} {r : Int} (hr : 0 ≤ r ∧ r ≤ 18) (hc : ∀ i, 0 ≤ i → i < r → σ 135 i = c i) (h : K (pg_last c r.toNat) σ) : rx_CI L d mX11_lastPage [.inr 125, .inl r] σ K := by
  refine bX11_lastPage L d r σ K ?_
  have key : ∀ (k : Nat) (i : Int), 0 ≤ i → i + k = r → rx_Go L d mX11_lastPage 4 [some (.inr 125), some (.inl r), some (.inl (pg_last c i.toNat)), some (.inl i)] [] σ (rx_PI K) := by
    intro k
    induction k with
    | zero =>
      intro i i0 hi
      refine bX11_lastPage_4 L d r _ i σ K ?_
      rw [if_pos (by omega), show i = r by omega]
      exact h
    | succ k ih =>
      intro i i0 hi
      refine bX11_lastPage_4 L d r _ i σ K ?_
      rw [if_neg (by omega), rx_w_of (by omega) (by omega), hc i i0 (by omega)]
      refine ⟨by omega, ?_⟩
      have := ih (i + 1) (by omega) (by omega)
      rw [show (i + 1).toNat = i.toNat + 1 by omega] at this
      unfold pg_last at this
      rw [show ((i.toNat : Nat) : Int) = i by omega] at this
      exact this
  exact key r.toNat 0 (by omega) (by omega)
theorem n_fitsPage (hw : iv_Wf V) (hX : pm_x V σ) {c : Int → Int} {r : Int} (hr : 0 ≤ r ∧ r < V 0 6) (hc : ∀ i, 0 ≤ i → i < r → σ 135 i = c i) (h1 : pg_fit (rs_X V) c r (σ 135 r) → K 1 σ) (h0 : ¬ pg_fit (rs_X V) c r (σ 135 r) → K 0 σ) : rx_CI L d mX11_fitsPage [.inr 125, .inl r] σ K := by
  have hm := wf_m hw
  refine bX11_fitsPage L d r σ K ?_
  have no : ∀ (k : Nat) (i : Int), 0 ≤ i → i + k = r → ¬ pg_fit (rs_X V) c r (σ 135 r) → rx_Go L d mX11_fitsPage 4 [some (.inr 125), some (.inl r), some (.inl 0), some (.inl i)] [] σ (rx_PI K) := by
    intro k
    induction k with
    | zero =>
      intro i i0 hi hn
      refine bX11_fitsPage_4 L d r _ i σ K ?_
      rw [if_pos (by omega)]
      exact ⟨Or.inl rfl, h0 hn⟩
    | succ k ih =>
      intro i i0 hi hn
      refine bX11_fitsPage_4 L d r _ i σ K ?_
      rw [if_neg (by omega), if_pos rfl, rx_w_of (by omega) (by omega)]
      exact ih (i + 1) (by omega) (by omega) hn
  have yes : ∀ (k : Nat) (i : Int), 0 ≤ i → i + k = r → (∀ s, 0 ≤ s → s < i → c s = σ 135 r → ¬ rs_X V r s) → rx_Go L d mX11_fitsPage 4 [some (.inr 125), some (.inl r), some (.inl 1), some (.inl i)] [] σ (rx_PI K) := by
    intro k
    induction k with
    | zero =>
      intro i i0 hi hn
      refine bX11_fitsPage_4 L d r _ i σ K ?_
      rw [if_pos (by omega)]
      exact ⟨Or.inr rfl, h1 (fun s s0 s1 => hn s s0 (by omega))⟩
    | succ k ih =>
      intro i i0 hi hn
      refine bX11_fitsPage_4 L d r _ i σ K ?_
      rw [if_neg (by omega), if_neg (by decide), rx_w_of (by omega) (by omega), hc i i0 (by omega), alu_bit _ i0 (by omega)]
      refine ⟨by omega, by omega, ?_⟩
      have ok : (c i = σ 135 r → ¬ rs_X V r i) → rx_Go L d mX11_fitsPage 4 [some (.inr 125), some (.inl r), some (.inl 1), some (.inl (i + 1))] [] σ (rx_PI K) := by
        intro hi'
        refine ih (i + 1) (by omega) (by omega) (fun s s0 s1 es => ?_)
        by_cases e : s = i
        · rw [e] at es ⊢
          exact hi' es
        · exact hn s s0 (by omega) es
      by_cases z : c i = σ 135 r
      · rw [if_neg (fun q => q z)]
        have xb := (hX r hr.1 hr.2).1 i.toNat (by omega)
        rw [show ((i.toNat : Nat) : Int) = i by omega] at xb
        by_cases b : tb (σ 134 r) i.toNat = true
        · rw [if_pos b, if_pos (by decide)]
          exact no k (i + 1) (by omega) (by omega) (fun q => q i i0 (by omega) z (xb.mp b).2)
        · rw [if_neg b, if_neg (by decide)]
          exact ok (fun _ hx => b (xb.mpr ⟨by omega, hx⟩))
      · rw [if_pos z]
        exact ok (fun q => absurd q z)
  exact yes r.toNat 0 (by omega) (by omega) (fun s s0 s1 => by omega)
theorem n_fill (hM : ld_M V (σ 126)) (hw : iv_Wf V) (hX : pm_x V σ) {many : Int} (hmo : 0 ≤ many ∧ many ≤ 17) : ∀ (k : Nat) (r : Int) (c : Int → Int) (q3 : Option rx_V) (σ1 : rx_St), 0 ≤ r → r + k = V 0 6 → (∀ i, 0 ≤ i → i < r → σ1 135 i = c i) → (r < V 0 6 → σ1 135 r = -1) → (∀ i, 0 ≤ i → i < r → 0 ≤ c i ∧ c i < many) → (∀ x, x ≠ 135 → σ1 x = σ x) →
    (∀ e σ', pg_F (rs_X V) many k r c = some e → (∀ i, 0 ≤ i → i < V 0 6 → σ' 135 i = e i) → (∀ x, x ≠ 135 → σ' x = σ x) → K 1 σ') → (∀ σ' q3, pg_F (rs_X V) many k r c = none → (∀ i, 0 ≤ i → i < r → σ' 135 i = c i) → (∀ x, x ≠ 135 → σ' x = σ x) → rx_Go L (d + 1) mX11_fillsPages 18 [some (.inr 125), some (.inl many), some (.inl (r - 1)), q3] [] σ' (rx_PI K)) → rx_Go L (d + 1) mX11_fillsPages 18 [some (.inr 125), some (.inl many), some (.inl r), q3] [] σ1 (rx_PI K) := by
  have hm := wf_m hw
  intro k
  induction k with
  | zero =>
    intro r c q3 σ1 r0 hr hc hg hcb hf hsome hnone
    refine bX11_fillsPages_18 L d many r q3 σ1 K ?_
    rw [if_neg (by omega), hf 126 (by decide), ld_Mm hM, if_pos (by omega)]
    exact hsome c σ1 rfl (fun i i0 i1 => hc i i0 (by omega)) hf
  | succ k ih =>
    intro r c q3 σ1 r0 hr hc hg hcb hf hsome hnone
    have hL := pg_last_ge (c := c) r.toNat
    have hLm := pg_last_lt (c := c) (many := many) r.toNat hmo.1 (fun i i0 i1 => (hcb i i0 (by omega)).2)
    -- the head, with the page of r one below g
    have head : ∀ (g : Int) (q3 : Option rx_V) (σ1 : rx_St), 0 ≤ g → g ≤ 18 → (∀ i, 0 ≤ i → i < r → σ1 135 i = c i) → σ1 135 r = g - 1 → (∀ x, x ≠ 135 → σ1 x = σ x) → (∀ σ2 : rx_St, (∀ i, 0 ≤ i → i < r → σ2 135 i = c i) → σ2 135 r = g → (∀ x, x ≠ 135 → σ2 x = σ x) → rx_Go L (d + 1) mX11_fillsPages 56 [some (.inr 125), some (.inl many), some (.inl r), some (.inl (rx_mn many (pg_last c r.toNat + 2) - 1))] [] σ2 (rx_PI K)) → rx_Go L (d + 1) mX11_fillsPages 18 [some (.inr 125), some (.inl many), some (.inl r), q3] [] σ1 (rx_PI K) := by
      intro g q3 σ1 g0 g1 hc hg hf hk
      refine bX11_fillsPages_18 L d many r q3 σ1 K ?_
      rw [if_neg (by omega), hf 126 (by decide), ld_Mm hM, if_neg (by omega)]
      refine n_lastPage (c := c) (by omega) hc ?_
      refine ⟨by omega, ?_⟩
      rw [hg, rx_w_of (x := g - 1 + 1) (by omega) (by omega), rx_w_of (x := many - 1) (by omega) (by omega), rx_w_of (x := pg_last c r.toNat + 1) (by omega) (by omega)]
      have e : rx_mn (many - 1) (pg_last c r.toNat + 1) = rx_mn many (pg_last c r.toNat + 2) - 1 := by
        unfold rx_mn
        split <;> split <;> omega
      rw [e]
      refine hk _ (fun i i0 i1 => ?_) ?_ (fun x hx => ?_)
      · rw [up_i (by omega)]
        exact hc i i0 i1
      · rw [up_s]
        omega
      · rw [up_c hx]
        exact hf x hx
    have loop : ∀ (n : Nat) (g : Int) (σ1 : rx_St), 0 ≤ g → g + n = rx_mn many (pg_last c r.toNat + 2) → (∀ i, 0 ≤ i → i < r → σ1 135 i = c i) → σ1 135 r = g → (∀ x, x ≠ 135 → σ1 x = σ x) → (∀ e σ', pg_T (fun g => if bo (pg_fit (rs_X V) c r g) = true then pg_F (rs_X V) many k (r + 1) (pg_put c r g) else none) n g = some e → (∀ i, 0 ≤ i → i < V 0 6 → σ' 135 i = e i) → (∀ x, x ≠ 135 → σ' x = σ x) → K 1 σ') → (∀ σ' q3, pg_T (fun g => if bo (pg_fit (rs_X V) c r g) = true then pg_F (rs_X V) many k (r + 1) (pg_put c r g) else none) n g = none → (∀ i, 0 ≤ i → i < r → σ' 135 i = c i) → (∀ x, x ≠ 135 → σ' x = σ x) → rx_Go L (d + 1) mX11_fillsPages 18 [some (.inr 125), some (.inl many), some (.inl (r - 1)), q3] [] σ' (rx_PI K)) → rx_Go L (d + 1) mX11_fillsPages 56 [some (.inr 125), some (.inl many), some (.inl r), some (.inl (rx_mn many (pg_last c r.toNat + 2) - 1))] [] σ1 (rx_PI K) := by
      have hmn : rx_mn many (pg_last c r.toNat + 2) ≤ many := by unfold rx_mn; split <;> omega
      intro n
      induction n with
      | zero =>
        intro g σ1 g0 gn hc hg hf hsome hnone
        refine bX11_fillsPages_56 L d many r _ σ1 K ?_
        rw [hg, if_pos (by omega), rx_w_of (x := r + -1) (by omega) (by omega)]
        exact ⟨by omega, hnone σ1 _ rfl hc hf⟩
      | succ n ihn =>
        intro g σ1 g0 gn hc hg hf hsome hnone
        refine bX11_fillsPages_56 L d many r _ σ1 K ?_
        rw [hg, if_neg (by omega)]
        refine ⟨by omega, ?_⟩
        have hX1 : pm_x V σ1 := fun q q0 q1 => by rw [hf 134 (by decide)]; exact hX q q0 q1
        refine n_fitsPage hw hX1 (c := c) (by omega) hc (fun hfit => ?_) (fun hfit => ?_)
        · rw [hg] at hfit
          rw [if_pos (by decide), hg, if_pos (by omega), hf 126 (by decide), ld_Mm hM, rx_w_of (x := r + 1) (by omega) (by omega)]
          have hF : (if bo (pg_fit (rs_X V) c r g) = true then pg_F (rs_X V) many k (r + 1) (pg_put c r g) else none) = pg_F (rs_X V) many k (r + 1) (pg_put c r g) := if_pos (bo_t hfit)
          have hput : ∀ i, i ≠ r → pg_put c r g i = c i := fun i hi => if_neg hi
          have hputr : pg_put c r g r = g := if_pos rfl
          have deep : ∀ (σ2 : rx_St) (q3 : Option rx_V), (∀ i, 0 ≤ i → i ≤ r → σ2 135 i = σ1 135 i) → (r + 1 < V 0 6 → σ2 135 (r + 1) = -1) → (∀ x, x ≠ 135 → σ2 x = σ x) → rx_Go L (d + 1) mX11_fillsPages 18 [some (.inr 125), some (.inl many), some (.inl (r + 1)), q3] [] σ2 (rx_PI K) := by
            intro σ2 q3 h2 h2m h2f
            refine ih (r + 1) (pg_put c r g) q3 σ2 (by omega) (by omega) (fun i i0 i1 => ?_) h2m (fun i i0 i1 => ?_) h2f (fun e σ' he h1 h3 => ?_) (fun σ' q3' he h1 h3 => ?_)
            · rw [h2 i i0 (by omega)]
              by_cases e : i = r
              · rw [e, hputr]
                exact hg
              · rw [hput i e]
                exact hc i i0 (by omega)
            · by_cases e : i = r
              · rw [e, hputr]
                omega
              · rw [hput i e]
                exact hcb i i0 (by omega)
            · refine hsome e σ' ?_ h1 h3
              unfold pg_T
              rw [hF, he]
            · rw [show r + 1 - 1 = r by omega]
              have h1c : ∀ i, 0 ≤ i → i < r → σ' 135 i = c i := fun i i0 i1 => by
                rw [h1 i i0 (by omega)]
                exact hput i (by omega)
              refine head (g + 1) q3' σ' (by omega) (by omega) h1c ?_ h3 (fun σ3 a1 a2 a3 => ?_)
              · rw [h1 r r0 (by omega), hputr]
                omega
              · refine ihn (g + 1) σ3 (by omega) (by omega) a1 a2 a3 (fun e σ' he2 => hsome e σ' ?_) (fun σ' q3 he2 => hnone σ' q3 ?_)
                · unfold pg_T
                  rw [hF, he]
                  exact he2
                · unfold pg_T
                  rw [hF, he]
                  exact he2
          by_cases z : V 0 6 ≤ r + 1
          · rw [if_pos z]
            exact deep σ1 _ (fun _ _ _ => rfl) (fun q => by omega) hf
          · rw [if_neg z]
            refine ⟨by omega, deep _ _ (fun i i0 i1 => up_i (by omega)) (fun _ => up_s) (fun x hx => by rw [up_c hx]; exact hf x hx)⟩
        · rw [hg] at hfit
          rw [if_neg (by decide), hg, rx_w_of (x := g + 1) (by omega) (by omega)]
          have hF : (if bo (pg_fit (rs_X V) c r g) = true then pg_F (rs_X V) many k (r + 1) (pg_put c r g) else none) = none := if_neg (by rw [bo_f hfit]; decide)
          refine ihn (g + 1) _ (by omega) (by omega) (fun i i0 i1 => by rw [up_i (by omega)]; exact hc i i0 i1) up_s (fun x hx => by rw [up_c hx]; exact hf x hx) (fun e σ' he2 => hsome e σ' ?_) (fun σ' q3 he2 => hnone σ' q3 ?_)
          · unfold pg_T
            rw [hF]
            exact he2
          · unfold pg_T
            rw [hF]
            exact he2
    have hmn : 0 ≤ rx_mn many (pg_last c r.toNat + 2) := by unfold rx_mn; split <;> omega
    refine head 0 q3 σ1 (by omega) (by omega) hc (by rw [hg (by omega)]; rfl) hf (fun σ2 a1 a2 a3 => ?_)
    exact loop (rx_mn many (pg_last c r.toNat + 2)).toNat 0 σ2 (by omega) (by omega) a1 a2 a3 hsome hnone
theorem n_fillsPages (hM : ld_M V (σ 126)) (hw : iv_Wf V) (hX : pm_x V σ) {many : Int} (hmo : 0 ≤ many ∧ many ≤ 17) (hsome : ∀ e σ', pg_F (rs_X V) many (V 0 6).toNat 0 (fun _ => 0) = some e → (∀ i, 0 ≤ i → i < V 0 6 → σ' 135 i = e i) → (∀ x, x ≠ 135 → σ' x = σ x) → K 1 σ') (hnone : ∀ σ', pg_F (rs_X V) many (V 0 6).toNat 0 (fun _ => 0) = none → (∀ x, x ≠ 135 → σ' x = σ x) → K 0 σ') : rx_CI L (d + 1) mX11_fillsPages [.inr 125, .inl many] σ K := by
  have hm := wf_m hw
  refine bX11_fillsPages L d many σ K ?_
  have fin : ∀ σ1 : rx_St, (0 < V 0 6 → σ1 135 0 = -1) → (∀ x, x ≠ 135 → σ1 x = σ x) → rx_Go L (d + 1) mX11_fillsPages 18 [some (.inr 125), some (.inl many), some (.inl 0), none] [] σ1 (rx_PI K) := by
    intro σ1 h1 hf
    refine n_fill hM hw hX hmo (V 0 6).toNat 0 (fun _ => 0) none σ1 (by omega) (by omega) (fun i i0 i1 => by omega) h1 (fun i i0 i1 => by omega) hf hsome (fun σ' q3 he _ hf' => ?_)
    refine bX11_fillsPages_18 L d many (0 - 1) q3 σ' K ?_
    rw [if_pos (by decide)]
    exact hnone σ' he hf'
  rw [ld_Mm hM]
  by_cases z : V 0 6 ≤ 0
  · rw [if_pos z]
    exact fin σ (fun q => by omega) (fun _ _ => rfl)
  · rw [if_neg z]
    exact fin _ (fun _ => up_s) (fun x hx => up_c hx)
theorem o_pages {k : Int} (h : iv_A S V T σ) (hQ : ∀ v σ', Inv S σ' → Q v v σ') :
    rx_CI L (d + 21) mX10_pages [.inr 0, .inl k] σ (fun v1 σ1 => rx_CI L (d + 21) mX11_pages [.inr 125, .inl k] σ1 (fun v2 σ2 => Q v1 v2 σ2)) := by
  have hw := h.1
  have hC := h.2.1
  have hM := h.2.2.1
  have hm := wf_m hw
  -- the model, when the class has found q and e
  have mod : ∀ (q : Int) (e : Int → Int) (σ1 : rx_St) (v : Int), 0 ≤ q → q ≤ 8 → pg_F (rs_X V) q (V 0 6).toNat 0 (fun _ => 0) = some e → (∀ q', 0 ≤ q' → q' < q → pg_F (rs_X V) q' (V 0 6).toNat 0 (fun _ => 0) = none) → (∀ x, x < 79 ∨ 82 < x → σ1 x = σ x) → -1 ≤ k → k < V 0 6 → (k = -1 → v = q) → (0 ≤ k → v = e k) → rx_CI L (d + 21) mX11_pages [.inr 125, .inl k] σ1 (fun v2 σ2 => Q v v2 σ2) := by
    intro q e σ1 v q0 q8 he hno hf k0 k1 v1 v2
    have e126 : σ1 126 = σ 126 := hf 126 (by omega)
    refine bX11_pages L (d + 20) k σ1 _ ?_
    rw [e126, ld_Mm hM, rx_w_of (by omega) (by omega)]
    refine m_in (fun c => ?_) (fun c => by omega)
    rw [if_pos (by decide)]
    refine n_findPasses (V := V) (by rw [e126]; exact hM) hw (fun σ2 hX2 hf2 => ?_)
    have e2 : σ2 126 = σ 126 := by rw [hf2 126 (by decide) (by decide), e126]
    refine n_mutual (V := V) (by rw [e2]; exact hM) hw hX2 (pm_way_of hw he) q0 (fun w w0 w1 => ?_)
    have key : ∀ (n : Nat) (w : Int) (σ3 : rx_St), 0 ≤ w → w + n = q → (∀ x, x ≠ 135 → σ3 x = σ2 x) → rx_Go L (d + 21) mX11_pages 28 [some (.inr 125), some (.inl k), some (.inl w)] [] σ3 (rx_PI fun v2 σ2 => Q v v2 σ2) := by
      intro n
      induction n with
      | zero =>
        intro w σ3 w0 hn hf3
        rw [show w = q by omega]
        refine bX11_pages_28 L (d + 20) k q σ3 _ ?_
        refine n_fillsPages (V := V) (by rw [hf3 126 (by decide), e2]; exact hM) hw (fun r r0 r1 => by rw [hf3 134 (by decide)]; exact hX2 r r0 r1) (by omega) (fun e' σ' he' h5 hf4 => ?_) (fun σ' he' => ?_)
        · rw [he] at he'
          cases he'
          rw [if_pos (by decide)]
          have fin : Inv S σ' := ⟨V, T, iv_fr h (fun c i hk => by
            unfold fr_k at hk
            rw [hf4 c (by omega), hf3 c (by omega), hf2 c (by omega) (by omega), hf c (by omega)])⟩
          by_cases z : 0 ≤ k
          · rw [if_pos z, h5 k z k1, v2 z]
            exact ⟨by omega, hQ _ _ fin⟩
          · rw [if_neg z, v1 (by omega)]
            exact hQ _ _ fin
        · rw [he] at he'
          cases he'
      | succ n ih =>
        intro w σ3 w0 hn hf3
        refine bX11_pages_28 L (d + 20) k w σ3 _ ?_
        refine n_fillsPages (V := V) (by rw [hf3 126 (by decide), e2]; exact hM) hw (fun r r0 r1 => by rw [hf3 134 (by decide)]; exact hX2 r r0 r1) (by omega) (fun e' σ' he' h5 hf4 => ?_) (fun σ' he' hf4 => ?_)
        · rw [hno w w0 (by omega)] at he'
          cases he'
        · rw [if_neg (by decide), rx_w_of (by omega) (by omega)]
          exact ih (w + 1) σ' (by omega) (by omega) (fun x hx => by rw [hf4 x hx]; exact hf3 x hx)
    exact key (q - w).toNat w σ2 w0 (by omega) (fun _ _ => rfl)
  refine bX10_pages L (d + 20) k σ _ ?_
  by_cases c : k = -1
  · rw [if_pos c]
    refine c_search4 hC hw (fun q e σ1 q0 q8 he hno h80 hf => ?_)
    exact mod q e σ1 q q0 q8 he hno hf (by omega) (by omega) (fun _ => rfl) (fun z => by omega)
  · rw [if_neg c]
    refine c_isRoad rfl hC (fun g => ?_) (fun g => ?_)
    · rw [if_pos (by decide)]
      refine c_search4 hC hw (fun q e σ1 q0 q8 he hno h80 hf => ?_)
      refine ⟨by omega, ?_⟩
      exact mod q e σ1 _ q0 q8 he hno hf (by omega) (by omega) (fun z => by omega) (fun z => h80 k z g.2)
    · rw [if_neg (by decide)]
      refine bX11_pages L (d + 20) k σ _ ?_
      rw [ld_Mm hM, rx_w_of (by omega) (by omega)]
      refine m_in (fun c => by omega) (fun c => ?_)
      rw [if_neg (by decide)]
      exact o_same h hQ _
end PGM
