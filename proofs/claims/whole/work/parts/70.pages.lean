/-! ===== pages: the first way ===== -/
/-- the greatest page of the first j roads; -1 -/
def pg_last (c : Int → Int) : Nat → Int
  | 0 => -1
  | j + 1 => rx_mx (pg_last c j) (c j)
def pg_fit (X : Int → Int → Prop) (c : Int → Int) (r g : Int) : Prop := ∀ s, 0 ≤ s → s < r → c s = g → ¬ X r s
def pg_T (F : Int → Option (Int → Int)) : Nat → Int → Option (Int → Int)
  | 0, _ => none
  | n + 1, g => match F g with
    | some c => some c
    | none => pg_T F n (g + 1)
def pg_put (c : Int → Int) (r g : Int) : Int → Int := fun i => if i = r then g else c i
noncomputable def pg_F (X : Int → Int → Prop) (many : Int) : Nat → Int → (Int → Int) → Option (Int → Int)
  | 0, _, c => some c
  | k + 1, r, c => pg_T (fun g => if bo (pg_fit X c r g) = true then pg_F X many k (r + 1) (pg_put c r g) else none) (rx_mn many (pg_last c r.toNat + 2)).toNat 0
theorem pg_last_congr {c e : Int → Int} : ∀ j : Nat, (∀ i : Int, 0 ≤ i → i < j → c i = e i) → pg_last c j = pg_last e j
  | 0, _ => rfl
  | j + 1, h => by
    unfold pg_last
    rw [pg_last_congr j (fun i i0 i1 => h i i0 (by omega)), h j (by omega) (by omega)]
theorem pg_last_ge {c : Int → Int} : ∀ (j : Nat), -1 ≤ pg_last c j ∧ (∀ i : Int, 0 ≤ i → i < j → c i ≤ pg_last c j)
  | 0 => ⟨Int.le_refl _, fun i i0 i1 => by omega⟩
  | j + 1 => by
    have ih := pg_last_ge (c := c) j
    unfold pg_last rx_mx
    refine ⟨by split <;> omega, fun i i0 i1 => ?_⟩
    by_cases e : i = j
    · rw [e]
      split <;> omega
    · have := ih.2 i i0 (by omega)
      split <;> omega
theorem pg_last_lt {c : Int → Int} {many : Int} : ∀ (j : Nat), 0 ≤ many → (∀ i : Int, 0 ≤ i → i < j → c i < many) → pg_last c j < many
  | 0, h0, _ => by unfold pg_last; omega
  | j + 1, h0, h => by
    have ih := pg_last_lt (c := c) j h0 (fun i i0 i1 => h i i0 (by omega))
    have := h j (by omega) (by omega)
    unfold pg_last rx_mx
    split <;> omega
theorem pg_last_put {c : Int → Int} {r g : Int} (hr : 0 ≤ r) : pg_last (pg_put c r g) (r + 1).toNat = rx_mx (pg_last c r.toNat) g := by
  rw [show (r + 1).toNat = r.toNat + 1 by omega]
  show rx_mx (pg_last (pg_put c r g) r.toNat) (pg_put c r g (r.toNat : Int)) = _
  rw [pg_last_congr (c := pg_put c r g) (e := c) r.toNat (fun i i0 i1 => if_neg (by omega))]
  congr 1
  exact if_pos (by omega)
theorem pg_T_some {F : Int → Option (Int → Int)} {c : Int → Int} : ∀ (n : Nat) (g : Int), pg_T F n g = some c → ∃ h, g ≤ h ∧ h < g + n ∧ F h = some c
  | 0, _, e => by cases e
  | n + 1, g, e => by
    unfold pg_T at e
    split at e
    · next c' hc =>
      cases e
      exact ⟨g, by omega, by omega, hc⟩
    · obtain ⟨h, h1, h2, h3⟩ := pg_T_some n (g + 1) e
      exact ⟨h, by omega, by omega, h3⟩
theorem pg_T_ne {F : Int → Option (Int → Int)} : ∀ (n : Nat) (g h : Int), g ≤ h → h < g + n → F h ≠ none → pg_T F n g ≠ none
  | 0, _, _, h1, h2, _ => by omega
  | n + 1, g, h, h1, h2, h3 => by
    unfold pg_T
    split
    · intro q
      cases q
    · next hn =>
      refine pg_T_ne n (g + 1) h ?_ (by omega) h3
      have : h ≠ g := fun e => h3 (by rw [e]; exact hn)
      omega
theorem pg_T_none {F : Int → Option (Int → Int)} (h : ∀ g, F g = none) : ∀ (n : Nat) (g : Int), pg_T F n g = none
  | 0, _ => rfl
  | n + 1, g => by
    unfold pg_T
    rw [h g]
    exact pg_T_none h n (g + 1)
/-- a way that goes on from c -/
def pg_way (X : Int → Int → Prop) (many : Int) (k : Nat) (r : Int) (c e : Int → Int) : Prop := (∀ i, ¬ (r ≤ i ∧ i < r + k) → e i = c i) ∧ (∀ i, r ≤ i → i < r + k → 0 ≤ e i ∧ e i < many) ∧ (∀ i j, r ≤ i → i < r + k → 0 ≤ j → j < i → X i j → e j ≠ e i)
theorem pg_sound {X : Int → Int → Prop} {many : Int} : ∀ (k : Nat) (r : Int) (c e : Int → Int), 0 ≤ r → pg_F X many k r c = some e → pg_way X many k r c e
  | 0, r, c, e, _, h => by
    cases h
    exact ⟨fun _ _ => rfl, fun i i0 i1 => by omega, fun i j i0 i1 => by omega⟩
  | k + 1, r, c, e, r0, h => by
    obtain ⟨g, g0, g1, hg⟩ := pg_T_some _ _ h
    have g1 : g < 0 + ((rx_mn many (pg_last c r.toNat + 2)).toNat : Int) := g1
    have hgm : g < many := by
      have : rx_mn many (pg_last c r.toNat + 2) ≤ many := by unfold rx_mn; split <;> omega
      omega
    have hg : (if bo (pg_fit X c r g) = true then pg_F X many k (r + 1) (pg_put c r g) else none) = some e := hg
    by_cases hf : bo (pg_fit X c r g) = true
    · rw [if_pos hf] at hg
      obtain ⟨a1, a2, a3⟩ := pg_sound k (r + 1) (pg_put c r g) e (by omega) hg
      have er : e r = g := by rw [a1 r (by omega)]; exact if_pos rfl
      have eo : ∀ i, ¬ (r ≤ i ∧ i < r + (k + 1 : Nat)) → e i = c i := fun i hi => by
        rw [a1 i (by omega)]
        exact if_neg (by omega)
      refine ⟨eo, fun i i0 i1 => ?_, fun i j i0 i1 j0 j1 hx => ?_⟩
      · by_cases ei : i = r
        · rw [ei, er]
          omega
        · exact a2 i (by omega) (by omega)
      · by_cases ei : i = r
        · rw [ei] at hx j1 ⊢
          rw [er, eo j (by omega)]
          exact fun q => (bo_of hf) j j0 j1 q hx
        · exact a3 i j (by omega) (by omega) j0 j1 hx
    · rw [if_neg hf] at hg
      cases hg
theorem pg_sem {X : Int → Int → Prop} {many : Int} : ∀ (k : Nat) (r : Int) (c e : Int → Int), 0 ≤ r → 0 ≤ many → (∀ i, 0 ≤ i → i < r → 0 ≤ c i ∧ c i < many) → (∀ i, 0 ≤ i → i < r → e i = c i) → (∀ i, r ≤ i → i < r + k → 0 ≤ e i ∧ e i < many) → (∀ i j, r ≤ i → i < r + k → 0 ≤ j → j < i → X i j → e j ≠ e i) → pg_F X many k r c ≠ none
  | 0, _, _, _, _, _, _, _, _, _ => fun q => by cases q
  | k + 1, r, c, e, r0, hm, hc, he, hb, hp => by
    have hL := pg_last_ge (c := c) r.toNat
    have hLm := pg_last_lt (c := c) (many := many) r.toNat hm (fun i i0 i1 => (hc i i0 (by omega)).2)
    -- with a way whose page of r is no more than one above all so far
    have key : ∀ e : Int → Int, (∀ i, 0 ≤ i → i < r → e i = c i) → (∀ i, r ≤ i → i < r + (k + 1 : Nat) → 0 ≤ e i ∧ e i < many) → (∀ i j, r ≤ i → i < r + (k + 1 : Nat) → 0 ≤ j → j < i → X i j → e j ≠ e i) → e r ≤ pg_last c r.toNat + 1 → pg_F X many (k + 1) r c ≠ none := by
      intro e he hb hp hr
      have hbr := hb r (by omega) (by omega)
      refine pg_T_ne _ 0 (e r) (by omega) ?_ ?_
      · unfold rx_mn
        split <;> omega
      · have hf : bo (pg_fit X c r (e r)) = true := bo_t (fun s s0 s1 es hx => hp r s (by omega) (by omega) s0 s1 hx (by rw [he s s0 s1]; exact es))
        show (if bo (pg_fit X c r (e r)) = true then pg_F X many k (r + 1) (pg_put c r (e r)) else none) ≠ none
        rw [if_pos hf]
        refine pg_sem k (r + 1) (pg_put c r (e r)) e (by omega) hm (fun i i0 i1 => ?_) (fun i i0 i1 => ?_) (fun i i0 i1 => hb i (by omega) (by omega)) (fun i j i0 i1 j0 j1 hx => hp i j (by omega) (by omega) j0 j1 hx)
        · unfold pg_put
          by_cases ei : i = r
          · rw [if_pos ei]
            exact hbr
          · rw [if_neg ei]
            exact hc i i0 (by omega)
        · unfold pg_put
          by_cases ei : i = r
          · rw [if_pos ei, ei]
          · rw [if_neg ei]
            exact he i i0 (by omega)
    by_cases hr : e r ≤ pg_last c r.toNat + 1
    · exact key e he hb hp hr
    · have hbr := hb r (by omega) (by omega)
      have hsw : ∀ x y : Int, (if x = e r then pg_last c r.toNat + 1 else if x = pg_last c r.toNat + 1 then e r else x) = (if y = e r then pg_last c r.toNat + 1 else if y = pg_last c r.toNat + 1 then e r else y) → x = y := by
        intro x y
        repeat' split
        all_goals omega
      refine key (fun i => if e i = e r then pg_last c r.toNat + 1 else if e i = pg_last c r.toNat + 1 then e r else e i) (fun i i0 i1 => ?_) (fun i i0 i1 => ?_) (fun i j i0 i1 j0 j1 hx q => hp i j i0 i1 j0 j1 hx (hsw _ _ q)) ?_
      · have h1 := hL.2 i i0 (by omega)
        have h2 := he i i0 i1
        show (if e i = e r then _ else _) = _
        rw [if_neg (by omega), if_neg (by omega)]
        exact h2
      · have h1 := hb i i0 i1
        show 0 ≤ (if e i = e r then pg_last c r.toNat + 1 else if e i = pg_last c r.toNat + 1 then e r else e i) ∧ (if e i = e r then pg_last c r.toNat + 1 else if e i = pg_last c r.toNat + 1 then e r else e i) < many
        repeat' split
        all_goals omega
      · show (if e r = e r then pg_last c r.toNat + 1 else _) ≤ _
        rw [if_pos rfl]
        exact Int.le_refl _
/-- a road that none crosses: only page 0 need be tried -/
theorem pg_free {X : Int → Int → Prop} {many : Int} {k : Nat} {r : Int} {c : Int → Int} (r0 : 0 ≤ r) (hm : 0 ≤ many) (hc : ∀ i, 0 ≤ i → i < r → 0 ≤ c i ∧ c i < many) (hX : ∀ s, 0 ≤ s → s < r + (k + 1 : Nat) → ¬ X r s) (hX2 : ∀ s, 0 ≤ s → s < r + (k + 1 : Nat) → ¬ X s r) : pg_F X many (k + 1) r c = pg_T (fun g => if bo (pg_fit X c r g) = true then pg_F X many k (r + 1) (pg_put c r g) else none) (rx_mn 1 many).toNat 0 := by
  have hL := pg_last_ge (c := c) r.toNat
  by_cases m0 : many = 0
  · have e1 : (rx_mn many (pg_last c r.toNat + 2)).toNat = 0 := by unfold rx_mn; split <;> omega
    have e2 : (rx_mn 1 many).toNat = 0 := by unfold rx_mn; split <;> omega
    unfold pg_F
    rw [e1, e2]
    rfl
  · have e2 : (rx_mn 1 many).toNat = 1 := by unfold rx_mn; split <;> omega
    have e1 : (rx_mn many (pg_last c r.toNat + 2)).toNat = ((rx_mn many (pg_last c r.toNat + 2)).toNat - 1) + 1 := by
      have : 1 ≤ rx_mn many (pg_last c r.toNat + 2) := by unfold rx_mn; split <;> omega
      omega
    rw [e2]
    show pg_T (fun g => if bo (pg_fit X c r g) = true then pg_F X many k (r + 1) (pg_put c r g) else none) (rx_mn many (pg_last c r.toNat + 2)).toNat 0 = _
    rw [e1]
    have hf : ∀ g, bo (pg_fit X c r g) = true := fun g => bo_t (fun s s0 s1 _ => hX s s0 (by omega))
    cases h : pg_F X many k (r + 1) (pg_put c r 0) with
    | some e =>
      unfold pg_T
      simp only [hf, if_true, h]
    | none =>
      have hall : ∀ g, pg_F X many k (r + 1) (pg_put c r g) = none := by
        intro g
        cases hg : pg_F X many k (r + 1) (pg_put c r g) with
        | none => rfl
        | some e =>
          refine absurd h ?_
          obtain ⟨a1, a2, a3⟩ := pg_sound k (r + 1) _ e (by omega) hg
          refine pg_sem k (r + 1) (pg_put c r 0) (fun i => if i = r then 0 else e i) (by omega) hm (fun i i0 i1 => ?_) (fun i i0 i1 => ?_) (fun i i0 i1 => ?_) (fun i j i0 i1 j0 j1 hx => ?_)
          · unfold pg_put
            by_cases ei : i = r
            · rw [if_pos ei]
              omega
            · rw [if_neg ei]
              exact hc i i0 (by omega)
          · unfold pg_put
            show (if i = r then 0 else e i) = _
            by_cases ei : i = r
            · rw [if_pos ei, if_pos ei]
            · rw [if_neg ei, if_neg ei, a1 i (by omega)]
              exact if_neg ei
          · show 0 ≤ (if i = r then 0 else e i) ∧ (if i = r then 0 else e i) < many
            rw [if_neg (by omega)]
            exact a2 i i0 i1
          · show (if j = r then 0 else e j) ≠ (if i = r then 0 else e i)
            by_cases ej : j = r
            · rw [ej] at hx
              exact absurd hx (hX2 i (by omega) (by omega))
            · rw [if_neg ej, if_neg (by omega)]
              exact a3 i j i0 i1 j0 j1 hx
      have hF : ∀ g, (fun g => if bo (pg_fit X c r g) = true then pg_F X many k (r + 1) (pg_put c r g) else none) g = none := fun g => by
        show (if bo (pg_fit X c r g) = true then pg_F X many k (r + 1) (pg_put c r g) else none) = none
        rw [if_pos (hf g), hall g]
      rw [pg_T_none hF, pg_T_none hF]
/-- two roads that cross in the book, were they on one page -/
def rs_X (V : rx_St) (r s : Int) : Prop := r ≠ s ∧ ¬ rs_sh V r s ∧ rs_mL (V 5) V r s
theorem rs_X_sym {V : rx_St} (hw : iv_Wf V) {r s : Int} (hr : 0 ≤ r ∧ r < V 0 6) (hs : 0 ≤ s ∧ s < V 0 6) (h : rs_X V r s) : rs_X V s r := by
  obtain ⟨h1, h2, h3⟩ := h
  have qr := wf_r hw hr.1 hr.2
  have qs := wf_r hw hs.1 hs.2
  have inj : ∀ p q, 0 ≤ p → p < V 0 0 → 0 ≤ q → q < V 0 0 → p ≠ q → V 5 p ≠ V 5 q := fun p q p0 p1 q0 q1 hpq e => by
    have hp := (wf_p hw p0 p1).2.2.2.2
    have hq := (wf_p hw q0 q1).2.2.2.2
    rw [e] at hp
    omega
  have h2' : ¬ (V 7 r = V 7 s ∨ V 7 r = V 8 s ∨ V 8 r = V 7 s ∨ V 8 r = V 8 s) := h2
  have d1 := inj (V 7 r) (V 8 r) (by omega) (by omega) (by omega) (by omega) (by omega)
  have d2 := inj (V 7 s) (V 8 s) (by omega) (by omega) (by omega) (by omega) (by omega)
  have d3 := inj (V 7 r) (V 7 s) (by omega) (by omega) (by omega) (by omega) (by omega)
  have d4 := inj (V 7 r) (V 8 s) (by omega) (by omega) (by omega) (by omega) (by omega)
  have d5 := inj (V 8 r) (V 7 s) (by omega) (by omega) (by omega) (by omega) (by omega)
  have d6 := inj (V 8 r) (V 8 s) (by omega) (by omega) (by omega) (by omega) (by omega)
  refine ⟨fun q => h1 q.symm, fun q => h2 (by unfold rs_sh at q ⊢; omega), ?_⟩
  unfold rs_mL rs_in at h3 ⊢
  generalize V 5 (V 7 r) = a at *
  generalize V 5 (V 8 r) = b at *
  generalize V 5 (V 7 s) = c at *
  generalize V 5 (V 8 s) = e at *
  clear inj qr qs h2' h2 h1
  omega
