/-! ===== the best row: who is in it, what it costs ===== -/
def rw_n (f : Int → Int) (ly p : Int) : Int := rs_sum (fun q => if f q = ly then 1 else 0) 0 p.toNat
theorem rw_nS {f : Int → Int} {ly p : Int} (h : 0 ≤ p) : rw_n f ly (p + 1) = rw_n f ly p + (if f p = ly then 1 else 0) := by
  unfold rw_n
  rw [show (p + 1).toNat = p.toNat + 1 by omega, rs_sum_app]
  show _ + ((if f (0 + (p.toNat : Int)) = ly then 1 else 0) + 0) = _
  rw [show 0 + ((p.toNat : Nat) : Int) = p by omega, Int.add_zero]
theorem rw_n0 {f : Int → Int} {ly : Int} : rw_n f ly 0 = 0 := rfl
theorem rw_nb {f : Int → Int} {ly : Int} : ∀ (k : Nat), 0 ≤ rw_n f ly k ∧ rw_n f ly k ≤ k
  | 0 => ⟨Int.le_refl 0, Int.le_refl 0⟩
  | k + 1 => by
    have ih := rw_nb (f := f) (ly := ly) k
    rw [show ((k + 1 : Nat) : Int) = (k : Int) + 1 by omega, rw_nS (by omega)]
    split <;> omega
theorem rw_nB {f : Int → Int} {ly p : Int} (h : 0 ≤ p) : 0 ≤ rw_n f ly p ∧ rw_n f ly p ≤ p := by
  have := rw_nb (f := f) (ly := ly) p.toNat
  rw [show ((p.toNat : Nat) : Int) = p by omega] at this
  exact this
theorem rw_nM {f : Int → Int} {ly : Int} : ∀ (k : Nat) (p : Int), 0 ≤ p → rw_n f ly p ≤ rw_n f ly (p + k)
  | 0, p, _ => by rw [show p + ((0 : Nat) : Int) = p by omega]; exact Int.le_refl _
  | k + 1, p, h => by
    have ih := rw_nM (f := f) (ly := ly) k p h
    rw [show p + ((k + 1 : Nat) : Int) = p + k + 1 by omega, rw_nS (by omega)]
    split <;> omega
theorem rw_nL {f : Int → Int} {ly p q : Int} (h0 : 0 ≤ p) (h1 : p < q) (hf : f p = ly) : rw_n f ly p < rw_n f ly q := by
  have := rw_nM (f := f) (ly := ly) (q - p - 1).toNat (p + 1) (by omega)
  rw [show p + 1 + (((q - p - 1).toNat : Nat) : Int) = q by omega, rw_nS h0, if_pos hf] at this
  omega
theorem rw_nE {f : Int → Int} {ly : Int} : ∀ (k : Nat) (i : Int), 0 ≤ i → i < rw_n f ly k → ∃ p : Int, 0 ≤ p ∧ p < k ∧ f p = ly ∧ rw_n f ly p = i
  | 0, i, h0, h1 => by
    have : rw_n f ly (0 : Nat) = 0 := rfl
    omega
  | k + 1, i, h0, h1 => by
    rw [show ((k + 1 : Nat) : Int) = (k : Int) + 1 by omega, rw_nS (by omega)] at h1
    by_cases c : i < rw_n f ly k
    · obtain ⟨p, p0, p1, p2, p3⟩ := rw_nE k i h0 c
      exact ⟨p, p0, by omega, p2, p3⟩
    · by_cases e : f k = ly
      · rw [if_pos e] at h1
        exact ⟨k, by omega, by omega, e, by omega⟩
      · rw [if_neg e] at h1
        omega
/-- a row of those that f puts into ly -/
def rw_A (f : Int → Int) (ly n : Int) (a : Int → Int) : Prop := ∀ p, 0 ≤ p → p < n → f p = ly → a (rw_n f ly p) = p
theorem rw_Ai {f : Int → Int} {ly n : Int} {a : Int → Int} (h : rw_A f ly n a) (hn : 0 ≤ n) {i : Int} (i0 : 0 ≤ i) (i1 : i < rw_n f ly n) : 0 ≤ a i ∧ a i < n ∧ f (a i) = ly ∧ rw_n f ly (a i) = i := by
  obtain ⟨p, p0, p1, p2, p3⟩ := rw_nE (f := f) (ly := ly) n.toNat i i0 (by rw [show ((n.toNat : Nat) : Int) = n by omega]; exact i1)
  have := h p p0 (by omega) p2
  rw [p3] at this
  rw [this]
  exact ⟨p0, by omega, p2, p3⟩
theorem rw_Am {f : Int → Int} {ly n : Int} {a : Int → Int} (h : rw_A f ly n a) (hn : 0 ≤ n) {i j : Int} (i0 : 0 ≤ i) (i1 : i < rw_n f ly n) (j0 : 0 ≤ j) (j1 : j < rw_n f ly n) : a i ≤ a j ↔ i ≤ j := by
  have h1 := rw_Ai h hn i0 i1
  have h2 := rw_Ai h hn j0 j1
  by_cases c : a i < a j
  · have := rw_nL (f := f) (ly := ly) h1.1 c h1.2.2.1
    omega
  · by_cases c2 : a j < a i
    · have := rw_nL (f := f) (ly := ly) h2.1 c2 h2.2.2.1
      omega
    · have e : a i = a j := by omega
      rw [e] at h1
      omega
theorem rw_Ae {f : Int → Int} {ly n : Int} {a b : Int → Int} (h : rw_A f ly n a) (h' : rw_A f ly n b) (hn : 0 ≤ n) {i : Int} (i0 : 0 ≤ i) (i1 : i < rw_n f ly n) : a i = b i := by
  have h1 := rw_Ai h hn i0 i1
  have := h' (a i) h1.1 h1.2.1 h1.2.2.1
  rw [h1.2.2.2] at this
  exact this.symm
theorem rw_seats {V : rx_St} (hw : iv_Wf V) (ly : Int) : rw_n (fun i => V 3 (V 4 i)) ly (V 0 0) = rw_n (V 3) ly (V 0 0) := by
  have hn := wf_n hw
  unfold rw_n
  have := rs_re1 (k := (V 0 0).toNat) (m := (V 0 0).toNat) (b := V 4) (w := V 5) (G := fun p => if V 3 p = ly then 1 else 0) (fun i i0 i1 hb => ?_) (fun s s0 s1 hs => ?_)
  · have e1 : rs_sum (fun i => if 0 ≤ V 4 i then (fun p => if V 3 p = ly then (1 : Int) else 0) (V 4 i) else 0) 0 (V 0 0).toNat = rs_sum (fun i => if V 3 (V 4 i) = ly then 1 else 0) 0 (V 0 0).toNat := by
      refine rs_sum_congr _ _ (fun i i0 i1 => ?_)
      have := wf_p hw i0 (show i < V 0 0 by omega)
      show (if 0 ≤ V 4 i then (if V 3 (V 4 i) = ly then (1 : Int) else 0) else 0) = _
      rw [if_pos (by omega)]
    have e2 : rs_sum (fun s => if 0 ≤ V 5 s then (fun p => if V 3 p = ly then (1 : Int) else 0) s else 0) 0 (V 0 0).toNat = rs_sum (fun s => if V 3 s = ly then 1 else 0) 0 (V 0 0).toNat := by
      refine rs_sum_congr _ _ (fun i i0 i1 => ?_)
      have := wf_p hw i0 (show i < V 0 0 by omega)
      show (if 0 ≤ V 5 i then (if V 3 i = ly then (1 : Int) else 0) else 0) = _
      rw [if_pos (by omega)]
    rw [e1, e2] at this
    exact this
  · have := wf_p hw i0 (show i < V 0 0 by omega)
    exact ⟨by omega, this.2.1.2.2⟩
  · have := wf_p hw s0 (show s < V 0 0 by omega)
    exact ⟨by omega, this.2.2.2.2⟩
theorem ls_P_at {c : Int → Int} : ∀ (k : Nat) (i : Int), 0 ≤ i → i < k → (∀ j : Int, 0 ≤ j → j < k → c j = c i → j = i) → ls_P c k (c i) = i
  | 0, i, h0, h1, _ => by omega
  | k + 1, i, h0, h1, h => by
    unfold ls_P
    by_cases e : c k = c i
    · rw [if_pos e]
      exact h k (by omega) (by omega) e
    · rw [if_neg e]
      have : i ≠ k := fun q => e (by rw [q])
      exact ls_P_at k i h0 (by omega) (fun j j0 j1 => h j j0 (by omega))
/-- where posts stand when a layer sits by o -/
def rw_P (V : rx_St) (ly : Int) (seat : Int → Int) (s : Nat) (o : Int → Int) (q : Int) : Int := if V 3 q = ly then seat (ls_P o s q) else V 5 q
theorem rw_tot {V W : rx_St} {P P' : Int → Int} {C : Int → Int → Int} (hw : iv_Wf V) (hW : ∀ k i, ld_w k i → k ≠ 4 → k ≠ 5 → W k i = V k i) (hP : ∀ q, 0 ≤ q → q < V 0 0 → P' q = P q) : rs_tot P' W 2 C = rs_tot P V 2 C := by
  have hm := wf_m hw
  have hn := wf_n hw
  have e6 : W 0 6 = V 0 6 := hW 0 6 (by unfold ld_w; omega) (by decide) (by decide)
  have hup : ∀ r, 0 ≤ r → r < V 0 6 → W 7 r = V 7 r ∧ W 8 r = V 8 r ∧ W 3 (V 7 r) = V 3 (V 7 r) ∧ W 3 (V 8 r) = V 3 (V 8 r) := fun r r0 r1 => by
    have qr := wf_r hw r0 r1
    exact ⟨hW 7 r (by unfold ld_w; omega) (by decide) (by decide), hW 8 r (by unfold ld_w; omega) (by decide) (by decide), hW 3 _ (by unfold ld_w; omega) (by decide) (by decide), hW 3 _ (by unfold ld_w; omega) (by decide) (by decide)⟩
  have u1 : ∀ r, 0 ≤ r → r < V 0 6 → rs_up W r = rs_up V r := fun r r0 r1 => by
    obtain ⟨g1, g2, g3, g4⟩ := hup r r0 r1
    unfold rs_up
    rw [g1, g2, g3, g4]
  have u2 : ∀ r l, 0 ≤ r → r < V 0 6 → P' (rs_end W r l) = P (rs_end V r l) := fun r l r0 r1 => by
    obtain ⟨g1, g2, g3, g4⟩ := hup r r0 r1
    have qr := wf_r hw r0 r1
    unfold rs_end
    rw [g1, g2, g3]
    split
    · exact hP _ (by omega) (by omega)
    · exact hP _ (by omega) (by omega)
  unfold rs_tot
  rw [e6]
  refine rs_ps_congr (fun r s r0 rs s1 => ?_)
  have hr := hup r r0 (by omega)
  have hs := hup s (by omega) s1
  have e : rs_meet P' W 2 r s = rs_meet P V 2 r s := by
    unfold rs_meet
    refine bo_iff ?_
    rw [if_neg (by decide), if_neg (by decide), if_neg (by decide), if_neg (by decide)]
    unfold rs_mY rs_sh
    rw [hr.1, hr.2.1, hs.1, hs.2.1, u1 r r0 (by omega), u1 s (by omega) s1, u2 r _ r0 (by omega), u2 s _ (by omega) s1, u2 r _ r0 (by omega), u2 s _ (by omega) s1]
  rw [e]
def rw_B (v : Nat → Int) (o : Nat → Int → Int) : Nat → Option (Int × (Int → Int))
  | 0 => none
  | w + 1 => if (match rw_B v o w with
      | none => true
      | some b => decide (v w < b.1)) = true then some (v w, o w) else rw_B v o w
theorem rw_Bne {v : Nat → Int} {o : Nat → Int → Int} (w : Nat) : rw_B v o (w + 1) ≠ none := by
  unfold rw_B
  cases h : rw_B v o w with
  | none =>
    intro q
    cases q
  | some b =>
    by_cases c : decide (v w < b.1) = true
    · simp only [if_pos c]
      intro q
      cases q
    · simp only [if_neg c]
      intro q
      cases q
theorem rw_B0 {v : Nat → Int} {o : Nat → Int → Int} {w : Nat} (h : rw_B v o w = none) : rw_B v o (w + 1) = some (v w, o w) := by
  unfold rw_B
  rw [h]
  rfl
theorem rw_By {v : Nat → Int} {o : Nat → Int → Int} {w : Nat} {b : Int × (Int → Int)} (h : rw_B v o w = some b) (c : v w < b.1) : rw_B v o (w + 1) = some (v w, o w) := by
  unfold rw_B
  rw [h]
  exact if_pos (decide_eq_true c)
theorem rw_Bn {v : Nat → Int} {o : Nat → Int → Int} {w : Nat} {b : Int × (Int → Int)} (h : rw_B v o w = some b) (c : ¬ v w < b.1) : rw_B v o (w + 1) = some b := by
  rw [← h]
  show (if _ then _ else rw_B v o w) = _
  rw [if_neg]
  rw [h]
  simp [c]
