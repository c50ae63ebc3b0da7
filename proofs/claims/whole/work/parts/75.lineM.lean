/-! ===== the best line: the model ===== -/
theorem ls_T_keep {F : Int → Option (Int × (Int → Int)) → Option (Int × (Int → Int))} (hF : ∀ g B, B ≠ none → F g B ≠ none) : ∀ (n : Nat) (g : Int) (B : Option (Int × (Int → Int))), B ≠ none → ls_T F n g B ≠ none
  | 0, _, _, h => h
  | n + 1, g, B, h => ls_T_keep hF n (g + 1) (F g B) (hF g B h)
theorem ls_T_ne {F : Int → Option (Int × (Int → Int)) → Option (Int × (Int → Int))} (hF : ∀ g B, B ≠ none → F g B ≠ none) {h : Int} (hh : ∀ B, F h B ≠ none) : ∀ (n : Nat) (g : Int) (B : Option (Int × (Int → Int))), g ≤ h → h < g + n → ls_T F n g B ≠ none
  | 0, _, _, h1, h2 => by omega
  | n + 1, g, B, h1, h2 => by
    unfold ls_T
    by_cases e : g = h
    · rw [e]
      exact ls_T_keep hF n _ _ (hh B)
    · exact ls_T_ne hF hh n (g + 1) _ (by omega) (by omega)
theorem ls_F_keep {V : rx_St} {C : Int → Int → Int} : ∀ (j : Nat) (k : Int) (c : Int → Int) (x : Int) (B : Option (Int × (Int → Int))), B ≠ none → ls_F V C j k c x B ≠ none
  | 0, _, _, _, _, _ => fun q => by cases q
  | j + 1, k, c, x, B, h => by
    unfold ls_F
    refine ls_T_keep (fun g B hB => ?_) _ _ _ h
    by_cases z : 0 ≤ ls_P c k.toNat g
    · rw [if_pos z]
      exact hB
    · rw [if_neg z]
      by_cases y : bo (ls_less (x + ls_cost (ls_P c k.toNat) V C k g) B) = true
      · rw [if_pos y]
        exact ls_F_keep j _ _ _ _ hB
      · rw [if_neg y]
        exact hB
theorem ls_F_ne {V : rx_St} {C : Int → Int → Int} : ∀ (j : Nat) (k : Int) (c : Int → Int) (x : Int) (B : Option (Int × (Int → Int))), 1 ≤ k → k + j = V 0 0 → ls_ok V (ls_P c k.toNat) c k → c 0 = 0 → ls_F V C j k c x B ≠ none
  | 0, _, _, _, _, _, _, _, _ => fun q => by cases q
  | j + 1, k, c, x, B, k1, hk, ho, c0 => by
    have free : ∃ g, 1 ≤ g ∧ g < V 0 0 ∧ ls_P c k.toNat g < 0 := by
      refine Classical.byContradiction (fun hc => ?_)
      have all : ∀ q, 0 ≤ q → q < V 0 0 → 0 ≤ ls_P c k.toNat q := fun q q0 q1 => by
        by_cases e : q = 0
        · have := (ho.1 0 (by omega) (by omega)).2.2
          rw [c0] at this
          rw [e, this]
          exact Int.le_refl 0
        · refine Classical.byContradiction (fun z => hc ⟨q, by omega, q1, by omega⟩)
      refine php (V 0 0 - 1).toNat (ls_P c k.toNat) (fun q q0 q1 => ?_) (fun p q p0 p1 q0 q1 e => ?_)
      · have := ho.2 q q0 (by omega) (all q q0 (by omega))
        have := all q q0 (by omega)
        omega
      · have e1 := (ho.2 p p0 (by omega) (all p p0 (by omega))).2
        have e2 := (ho.2 q q0 (by omega) (all q q0 (by omega))).2
        rw [e] at e1
        omega
    obtain ⟨g, g1, g2, g3⟩ := free
    unfold ls_F
    refine ls_T_ne (h := g) (fun g B hB => ?_) (fun B => ?_) _ _ _ g1 (by omega)
    · by_cases z : 0 ≤ ls_P c k.toNat g
      · rw [if_pos z]
        exact hB
      · rw [if_neg z]
        by_cases y : bo (ls_less (x + ls_cost (ls_P c k.toNat) V C k g) B) = true
        · rw [if_pos y]
          exact ls_F_keep j _ _ _ _ hB
        · rw [if_neg y]
          exact hB
    · rw [if_neg (by omega)]
      by_cases y : bo (ls_less (x + ls_cost (ls_P c k.toNat) V C k g) B) = true
      · rw [if_pos y]
        refine ls_F_ne j _ _ _ _ (by omega) (by omega) (ls_ok_put (by omega) ⟨by omega, g2⟩ ho g3) ?_
        exact (if_neg (by omega) : pg_put c k g 0 = c 0).trans c0
      · rw [if_neg y]
        intro q
        rw [q] at y
        exact y (bo_t trivial)
section LNM
variable {L d : Nat} {σ V T : rx_St} {S : Int → Int} {Q : Int → Int → rx_St → Prop} {K : Int → rx_St → Prop} {KV : rx_St → Prop} {C : Int → Int → Int} {P c : Int → Int}
theorem n_closes (hM : ld_M V (σ 126)) (hw : iv_Wf V) (hP : pl_M P (V 0 0) σ) (hC : rk_M C (V 0 6) σ) (hCb : ∀ r s, 0 ≤ C r s ∧ C r s ≤ 999) {k p : Int} (h : K (ls_cost P V C k p) σ) : rx_CI L (d + 4) mX11_closes [.inr 125, .inl p, .inl k] σ K := by
  have hn := wf_n hw
  have hm := wf_m hw
  have e0 := ld_Mm hM
  have ib : ∀ r s, 0 ≤ ls_in P V C k p r s ∧ ls_in P V C k p r s ≤ 999 := fun r s => by
    have := hCb r s
    unfold ls_in
    split <;> omega
  refine bX11_closes L (d + 3) p k σ K ?_
  have inner : ∀ (j : Nat) (s acc r : Int) (q7 q8 q9 : Option rx_V), 0 ≤ r → r < V 0 6 → 0 ≤ s → s + j = V 0 6 → 0 ≤ acc → acc ≤ 20000 * r + 1000 * s → (0 ≤ ls_o V r p ∧ ls_o V r p < V 0 0) → (∀ acc' q5 q6 q7 q8 q9, 0 ≤ acc' → acc' ≤ 20000 * (r + 1) → acc' = acc + rs_sum (fun s => ls_in P V C k p r s) s j → rx_Go L (d + 4) mX11_closes 5 [some (.inr 125), some (.inl p), some (.inl k), some (.inl acc'), some (.inl (r + 1)), q5, q6, q7, q8, q9] [] σ (rx_PI K)) → rx_Go L (d + 4) mX11_closes 66 [some (.inr 125), some (.inl p), some (.inl k), some (.inl acc), some (.inl r), some (.inl (ls_o V r p)), some (.inl s), q7, q8, q9] [] σ (rx_PI K) := by
    intro j
    induction j with
    | zero =>
      intro s acc r q7 q8 q9 r0 r1 s0 hs a0 a1 ob hnext
      refine bX11_closes_66 L (d + 3) p k acc r _ s q7 q8 q9 σ K ?_
      rw [e0, if_pos (by omega)]
      refine bX11_closes_203 L (d + 3) p k acc r _ _ _ _ _ σ K ?_
      rw [rx_w_of (by omega) (by omega)]
      exact hnext acc _ _ _ _ _ a0 (by omega) (Int.add_zero acc).symm
    | succ j ih =>
      intro s acc r q7 q8 q9 r0 r1 s0 hs a0 a1 ob hnext
      have qs := wf_r hw s0 (show s < V 0 6 by omega)
      have f161 : ∀ (x : Int) q7 q8, (x = 0 ∨ x = 1) → (x = 1 ↔ ls_on P V (P (ls_o V r p)) k s) → rx_Go L (d + 4) mX11_closes 161 [some (.inr 125), some (.inl p), some (.inl k), some (.inl acc), some (.inl r), some (.inl (ls_o V r p)), some (.inl s), q7, q8, some (.inl x)] [] σ (rx_PI K) := by
        intro x q7 q8 hx hxy
        have go : ∀ a q9, a = acc + ls_in P V C k p r s → rx_Go L (d + 4) mX11_closes 66 [some (.inr 125), some (.inl p), some (.inl k), some (.inl a), some (.inl r), some (.inl (ls_o V r p)), some (.inl (s + 1)), q7, q8, q9] [] σ (rx_PI K) := by
          rintro a q9 rfl
          have := ib r s
          refine ih (s + 1) _ r q7 q8 q9 r0 r1 (by omega) (by omega) (by omega) (by omega) ob (fun acc' q5 q6 q7 q8 q9 b0 b1 e => hnext acc' q5 q6 q7 q8 q9 b0 b1 ?_)
          rw [e, Int.add_assoc]
          rfl
        refine bX11_closes_161 L (d + 3) p k acc r _ s q7 q8 x σ K ?_
        rw [Int.add_zero, rx_w_of (x := acc) (by omega) (by omega), rx_w_of (x := s + 1) (by omega) (by omega)]
        have hno : ¬ (ls_on P V (P (ls_o V r p)) k s ∧ ¬ rs_sh V r s) → acc = acc + ls_in P V C k p r s := fun q => by
          unfold ls_in
          rw [if_neg (by rw [bo_f q]; decide), Int.add_zero]
        rcases hx with rfl | rfl
        · rw [if_pos rfl]
          exact go _ _ (hno (fun q => by have := hxy.mpr q.1; omega))
        · rw [if_neg (by decide)]
          refine n_areApart hM (by omega) (by omega) (fun g => ?_) (fun g => ?_)
          · rw [if_neg (by decide), rx_w_of (x := 18 * r) (by omega) (by omega), rx_w_of (x := 18 * r + s) (by omega) (by omega)]
            have hrs : r ≠ s := fun e => g (by rw [e]; exact Or.inl rfl)
            have := hCb r s
            rw [hC r s r0 r1 s0 (by omega) hrs, rx_w_of (by omega) (by omega)]
            refine ⟨by omega, go _ _ ?_⟩
            unfold ls_in
            rw [if_pos (bo_t ⟨hxy.mp rfl, g⟩)]
          · rw [if_pos rfl]
            exact go _ _ (hno (fun q => q.2 g))
      have f158 : ∀ q7 q8 q9, ¬ ls_on P V (P (ls_o V r p)) k s → rx_Go L (d + 4) mX11_closes 158 [some (.inr 125), some (.inl p), some (.inl k), some (.inl acc), some (.inl r), some (.inl (ls_o V r p)), some (.inl s), q7, q8, q9] [] σ (rx_PI K) := by
        intro q7 q8 q9 hq
        refine bX11_closes_158 L (d + 3) p k acc r _ s q7 q8 q9 σ K ?_
        exact f161 0 q7 q8 (Or.inl rfl) ⟨fun q => by omega, fun q => absurd q hq⟩
      refine bX11_closes_66 L (d + 3) p k acc r _ s q7 q8 q9 σ K ?_
      rw [e0, if_neg (by omega)]
      refine n_lesser hM (by omega) ⟨by omega, ?_⟩
      refine n_greater hM (by omega) ⟨by omega, ?_⟩
      rw [hP (V 7 s) (by omega) (by omega), hP (V 8 s) (by omega) (by omega), hP (ls_o V r p) ob.1 ob.2]
      by_cases c1 : 0 ≤ P (V 7 s)
      · rw [if_pos c1]
        by_cases c2 : 0 ≤ P (V 8 s)
        · rw [if_pos c2]
          exact f158 _ _ _ (fun q => q.1 (by omega))
        · rw [if_neg c2]
          refine ⟨by omega, ?_⟩
          by_cases c3 : rx_mx (P (V 7 s)) (P (V 8 s)) ≤ P (ls_o V r p)
          · rw [if_pos c3]
            exact f158 _ _ _ (fun q => by have := q.2.1; omega)
          rw [if_neg c3]
          by_cases c4 : k ≤ rx_mx (P (V 7 s)) (P (V 8 s))
          · rw [if_pos c4]
            exact f158 _ _ _ (fun q => by have := q.2.2; omega)
          · rw [if_neg c4]
            exact f161 1 _ _ (Or.inr rfl) ⟨fun _ => ⟨by omega, by omega, by omega⟩, fun _ => rfl⟩
      · rw [if_neg c1]
        by_cases c2 : 0 ≤ P (V 8 s)
        · rw [if_pos c2]
          refine ⟨by omega, ?_⟩
          by_cases c3 : rx_mx (P (V 7 s)) (P (V 8 s)) ≤ P (ls_o V r p)
          · rw [if_pos c3]
            exact f158 _ _ _ (fun q => by have := q.2.1; omega)
          rw [if_neg c3]
          by_cases c4 : k ≤ rx_mx (P (V 7 s)) (P (V 8 s))
          · rw [if_pos c4]
            exact f158 _ _ _ (fun q => by have := q.2.2; omega)
          · rw [if_neg c4]
            exact f161 1 _ _ (Or.inr rfl) ⟨fun _ => ⟨by omega, by omega, by omega⟩, fun _ => rfl⟩
        · rw [if_neg c2]
          exact f158 _ _ _ (fun q => q.1 (by omega))
  have outer : ∀ (j : Nat) (r acc : Int) (q5 q6 q7 q8 q9 : Option rx_V), 0 ≤ r → r + j = V 0 6 → 0 ≤ acc → acc ≤ 20000 * r → K (acc + rs_sum (fun r => if bo ((V 7 r = p ∨ V 8 r = p) ∧ 0 ≤ P (ls_o V r p)) = true then rs_sum (fun s => ls_in P V C k p r s) 0 (V 0 6).toNat else 0) r j) σ → rx_Go L (d + 4) mX11_closes 5 [some (.inr 125), some (.inl p), some (.inl k), some (.inl acc), some (.inl r), q5, q6, q7, q8, q9] [] σ (rx_PI K) := by
    intro j
    induction j with
    | zero =>
      intro r acc q5 q6 q7 q8 q9 r0 hr a0 a1 h
      refine bX11_closes_5 L (d + 3) p k acc r q5 q6 q7 q8 q9 σ K ?_
      rw [e0, if_pos (by omega), ← Int.add_zero acc]
      exact h
    | succ j ih =>
      intro r acc q5 q6 q7 q8 q9 r0 hr a0 a1 h
      have qr := wf_r hw r0 (show r < V 0 6 by omega)
      have hh : K (acc + ((if bo ((V 7 r = p ∨ V 8 r = p) ∧ 0 ≤ P (ls_o V r p)) = true then rs_sum (fun s => ls_in P V C k p r s) 0 (V 0 6).toNat else 0) + rs_sum (fun r => if bo ((V 7 r = p ∨ V 8 r = p) ∧ 0 ≤ P (ls_o V r p)) = true then rs_sum (fun s => ls_in P V C k p r s) 0 (V 0 6).toNat else 0) (r + 1) j)) σ := h
      have ob : 0 ≤ ls_o V r p ∧ ls_o V r p < V 0 0 := by
        unfold ls_o
        split <;> omega
      have f203 : ∀ q5 q6 q7 q8 q9, ¬ ((V 7 r = p ∨ V 8 r = p) ∧ 0 ≤ P (ls_o V r p)) → rx_Go L (d + 4) mX11_closes 203 [some (.inr 125), some (.inl p), some (.inl k), some (.inl acc), some (.inl r), q5, q6, q7, q8, q9] [] σ (rx_PI K) := by
        intro q5 q6 q7 q8 q9 hq
        refine bX11_closes_203 L (d + 3) p k acc r _ _ _ _ _ σ K ?_
        rw [rx_w_of (by omega) (by omega)]
        refine ih (r + 1) acc _ _ _ _ _ (by omega) (by omega) a0 (by omega) ?_
        rw [if_neg (by rw [bo_f hq]; decide), Int.zero_add] at hh
        exact hh
      have f43 : ∀ q6 q7 q8 q9, rx_Go L (d + 4) mX11_closes 43 [some (.inr 125), some (.inl p), some (.inl k), some (.inl acc), some (.inl r), some (.inl (ls_o V r p)), q6, q7, q8, q9] [] σ (rx_PI K) := by
        intro q6 q7 q8 q9
        refine bX11_closes_43 L (d + 3) p k acc r _ q6 q7 q8 q9 σ K ?_
        refine n_isFrom hM (by omega) (fun g => ?_) (fun g => ?_)
        · rw [if_neg (by decide), hP _ ob.1 ob.2]
          refine ⟨by omega, ?_⟩
          by_cases c : P (ls_o V r p) < 0
          · rw [if_pos c]
            exact f203 _ _ _ _ _ (fun q => by have := q.2; omega)
          · rw [if_neg c]
            refine inner (V 0 6).toNat 0 acc r q7 q8 q9 r0 (by omega) (by omega) (by omega) a0 (by omega) ob (fun acc' q5 q6 q7 q8 q9 b0 b1 e => ?_)
            refine ih (r + 1) acc' _ _ _ _ _ (by omega) (by omega) b0 b1 ?_
            rw [if_pos (bo_t ⟨g, by omega⟩), ← Int.add_assoc] at hh
            rw [e]
            exact hh
        · rw [if_pos rfl]
          exact f203 _ _ _ _ _ (fun q => g q.1)
      refine bX11_closes_5 L (d + 3) p k acc r q5 q6 q7 q8 q9 σ K ?_
      rw [e0, if_neg (by omega)]
      refine n_lesser hM (by omega) ?_
      by_cases e : V 7 r = p
      · rw [if_neg (fun q => q e)]
        refine n_greater hM (by omega) ?_
        have eo : ls_o V r p = V 8 r := if_pos e
        rw [eo] at f43
        exact f43 _ _ _ _
      · rw [if_pos e]
        refine n_lesser hM (by omega) ?_
        have eo : ls_o V r p = V 7 r := if_neg e
        rw [eo] at f43
        exact f43 _ _ _ _
  refine outer (V 0 6).toNat 0 0 none none none none none (by omega) (by omega) (by omega) (by omega) ?_
  rw [Int.zero_add]
  exact h
/-- what is best so far, in the model -/
def lm_R (V : rx_St) (B : Option (Int × (Int → Int))) (σ : rx_St) : Prop := (B = none → σ 125 16 = -1) ∧ (∀ b, B = some b → σ 125 16 = b.1 ∧ 0 ≤ b.1 ∧ ∀ i, 0 ≤ i → i < V 0 0 → σ 138 i = b.2 i)
theorem lm_Rfr {B : Option (Int × (Int → Int))} {σ' : rx_St} (h : lm_R V B σ) (h1 : σ' 125 16 = σ 125 16) (h2 : σ' 138 = σ 138) : lm_R V B σ' := by
  unfold lm_R
  rw [h1, h2]
  exact h
def lm_f (σ σ' : rx_St) : Prop := (∀ x, x ≠ 125 → x ≠ 133 → x ≠ 136 → x ≠ 137 → x ≠ 138 → σ' x = σ x) ∧ ∀ i, i ≠ 16 → σ' 125 i = σ 125 i
theorem lm_fup {σ σ1 : rx_St} {x : Nat} {i v : Int} (h : lm_f σ σ1) (hx : x = 133 ∨ x = 136 ∨ x = 137 ∨ x = 138) : lm_f σ (rx_up σ1 x i v) := by
  refine ⟨fun y h1 h2 h3 h4 h5 => ?_, fun j hj => ?_⟩
  · rw [up_c (by omega)]
    exact h.1 y h1 h2 h3 h4 h5
  · rw [up_c (by omega)]
    exact h.2 j hj
theorem lm_fup16 {σ σ1 : rx_St} {v : Int} (h : lm_f σ σ1) : lm_f σ (rx_up σ1 125 16 v) := by
  refine ⟨fun y h1 h2 h3 h4 h5 => ?_, fun j hj => ?_⟩
  · rw [up_c (by omega)]
    exact h.1 y h1 h2 h3 h4 h5
  · rw [up_i hj]
    exact h.2 j hj
/-- where it goes on behind a level -/
def lm_K (L d : Nat) (V : rx_St) (KV : rx_St → Prop) (y : Int) (σ : rx_St) : Prop := (y ≤ 0 → KV σ) ∧ (0 < y → ∀ q3, rx_Go L (d + 5) mX11_findBestLine 114 [some (.inr 125), some (.inl (V 0 0)), some (.inl y), q3] [] σ (rx_PV KV))
theorem lm_67 {y : Int} (hy : y < V 0 0) (h : lm_K L d V KV y σ) (q3 : Option rx_V) : rx_Go L (d + 5) mX11_findBestLine 67 [some (.inr 125), some (.inl (V 0 0)), some (.inl y), q3] [] σ (rx_PV KV) := by
  refine bX11_findBestLine_67 L (d + 4) _ y q3 σ KV ?_
  by_cases z : y ≤ 0
  · rw [if_pos z]
    exact h.1 z
  · rw [if_neg z, if_pos (by omega)]
    exact h.2 (by omega) q3
theorem lm_114 {y : Int} (hy : y < V 0 0) (h : lm_K L d V KV y σ) (q3 : Option rx_V) : rx_Go L (d + 5) mX11_findBestLine 114 [some (.inr 125), some (.inl (V 0 0)), some (.inl y), q3] [] σ (rx_PV KV) := by
  by_cases z : y ≤ 0
  · refine bX11_findBestLine_114 L (d + 4) _ y q3 σ KV ?_
    rw [if_pos z]
    exact lm_67 hy h q3
  · exact h.2 (by omega) q3
theorem n_ext (hM : ld_M V (σ 126)) (hw : iv_Wf V) (hC : rk_M C (V 0 6) σ) (hCb : ∀ r s, 0 ≤ C r s ∧ C r s ≤ 999) : ∀ (j : Nat) (k : Int) (c X : Int → Int) (B : Option (Int × (Int → Int))) (q3 : Option rx_V) (σ1 : rx_St), 1 ≤ k → k + j = V 0 0 → ls_ok V (ls_P c k.toNat) c k → c 0 = 0 → pl_M (ls_P c k.toNat) (V 0 0) σ1 → (∀ i, 0 ≤ i → i < k → σ1 136 i = c i) → (k < V 0 0 → σ1 136 k = 0) → (∀ i, 0 ≤ i → i ≤ k → σ1 137 i = X i) → 0 ≤ X k → X k ≤ 323676 * k → lm_R V B σ1 → lm_f σ σ1 →
    (∀ σ', lm_R V (ls_F V C j k c (X k) B) σ' → pl_M (ls_P c k.toNat) (V 0 0) σ' → (∀ i, 0 ≤ i → i < k → σ' 136 i = c i) → (∀ i, 0 ≤ i → i < k → σ' 137 i = X i) → lm_f σ σ' → lm_K L d V KV (k - 1) σ') → rx_Go L (d + 5) mX11_findBestLine 67 [some (.inr 125), some (.inl (V 0 0)), some (.inl k), q3] [] σ1 (rx_PV KV) := by
  have hn := wf_n hw
  intro j
  induction j with
  | zero =>
    intro k c X B q3 σ1 k1 hk ho c0 hP hc hg hX x0 x1 hR hf hK
    refine bX11_findBestLine_67 L (d + 4) _ k q3 σ1 KV ?_
    rw [if_neg (by omega), if_neg (fun q => q (by omega))]
    refine ⟨by omega, ?_⟩
    have e : σ1 137 (V 0 0) = X k := by rw [show V 0 0 = k by omega]; exact hX k (by omega) (by omega)
    rw [e]
    have loop : ∀ (n : Nat) (i : Int) (σ2 : rx_St), 0 ≤ i → i + n = V 0 0 → pl_M (ls_P c k.toNat) (V 0 0) σ2 → (∀ i, 0 ≤ i → i < k → σ2 136 i = c i) → (∀ i, 0 ≤ i → i < k → σ2 137 i = X i) → σ2 125 16 = X k → (∀ a, 0 ≤ a → a < i → σ2 138 a = c a) → lm_f σ σ2 → rx_Go L (d + 5) mX11_findBestLine 88 [some (.inr 125), some (.inl (V 0 0)), some (.inl k), some (.inl i)] [] σ2 (rx_PV KV) := by
      intro n
      induction n with
      | zero =>
        intro i σ2 i0 hi hP hc hX h16 h138 hf
        refine bX11_findBestLine_88 L (d + 4) _ k i σ2 KV ?_
        rw [if_pos (by omega), rx_w_of (by omega) (by omega)]
        refine lm_114 (show k + -1 < V 0 0 by omega) (hK σ2 ⟨(fun q => by cases q), (fun b q => ?_)⟩ hP hc hX hf) _
        cases q
        exact ⟨h16, x0, fun i i0 i1 => h138 i i0 (by omega)⟩
      | succ n ihn =>
        intro i σ2 i0 hi hP hc hX h16 h138 hf
        refine bX11_findBestLine_88 L (d + 4) _ k i σ2 KV ?_
        rw [if_neg (by omega), rx_w_of (by omega) (by omega)]
        refine ⟨by omega, by omega, ihn (i + 1) _ (by omega) (by omega) (fun q q0 q1 => by rw [up_c (by decide)]; exact hP q q0 q1) (fun a a0 a1 => by rw [up_c (by decide)]; exact hc a a0 a1) (fun a a0 a1 => by rw [up_c (by decide)]; exact hX a a0 a1) (by rw [up_c (by decide)]; exact h16) (fun a a0 a1 => ?_) (lm_fup hf (by decide))⟩
        by_cases e : a = i
        · rw [up_e e, e]
          exact hc i i0 (by omega)
        · rw [up_i e]
          exact h138 a a0 (by omega)
    refine loop (V 0 0).toNat 0 _ (by omega) (by omega) (fun q q0 q1 => by rw [up_c (by decide)]; exact hP q q0 q1) (fun a a0 a1 => by rw [up_c (by decide)]; exact hc a a0 a1) (fun a a0 a1 => by rw [up_c (by decide)]; exact hX a a0 (by omega)) up_s (fun a a0 a1 => by omega) (lm_fup16 hf)
  | succ j ih =>
    intro k c X B q3 σ1 k1 hk ho c0 hP hc hg hX x0 x1 hR hf hK
    have hput : ∀ g i, i ≠ k → pg_put c k g i = c i := fun g i hi => if_neg hi
    have hputk : ∀ g, pg_put c k g k = g := fun g => if_pos rfl
    have loop : ∀ (n : Nat) (g : Int) (B : Option (Int × (Int → Int))) (q3 : Option rx_V) (σ1 : rx_St), 1 ≤ g → g + n = V 0 0 → pl_M (ls_P c k.toNat) (V 0 0) σ1 → (∀ i, 0 ≤ i → i < k → σ1 136 i = c i) → σ1 136 k = g → (∀ i, 0 ≤ i → i ≤ k → σ1 137 i = X i) → lm_R V B σ1 → lm_f σ σ1 → (∀ σ', lm_R V (ls_T (fun g B => if 0 ≤ ls_P c k.toNat g then B else if bo (ls_less (X k + ls_cost (ls_P c k.toNat) V C k g) B) = true then ls_F V C j (k + 1) (pg_put c k g) (X k + ls_cost (ls_P c k.toNat) V C k g) B else B) n g B) σ' → pl_M (ls_P c k.toNat) (V 0 0) σ' → (∀ i, 0 ≤ i → i < k → σ' 136 i = c i) → (∀ i, 0 ≤ i → i < k → σ' 137 i = X i) → lm_f σ σ' → lm_K L d V KV (k - 1) σ') → rx_Go L (d + 5) mX11_findBestLine 153 [some (.inr 125), some (.inl (V 0 0)), some (.inl k), q3] [] σ1 (rx_PV KV) := by
      intro n
      induction n with
      | zero =>
        intro g B q3 σ1 g1 hg hP hc h136 hX hR hf hK
        refine bX11_findBestLine_153 L (d + 4) _ k q3 σ1 KV ⟨by omega, ?_⟩
        rw [h136, if_pos (by omega)]
        refine bX11_findBestLine_190 L (d + 4) _ k q3 σ1 KV ⟨by omega, ?_⟩
        rw [h136, if_neg (fun q => q (by omega)), rx_w_of (by omega) (by omega)]
        refine lm_67 (show k + -1 < V 0 0 by omega) (hK _ ?_ (fun q q0 q1 => by rw [up_c (by decide)]; exact hP q q0 q1) (fun i i0 i1 => by rw [up_i (by omega)]; exact hc i i0 i1) (fun i i0 i1 => by rw [up_c (by decide)]; exact hX i i0 (by omega)) (lm_fup hf (by decide))) _
        exact lm_Rfr hR (by rw [up_c (by decide)]) (by rw [up_c (by decide)])
      | succ n ihn =>
        intro g B q3 σ1 g1 hg hP hc h136 hX hR hf hK
        refine bX11_findBestLine_153 L (d + 4) _ k q3 σ1 KV ⟨by omega, ?_⟩
        rw [h136, if_neg (by omega), hP g (by omega) (by omega)]
        refine ⟨by omega, ?_⟩
        have go : ∀ (B' : Option (Int × (Int → Int))) (q3 : Option rx_V) (σ2 : rx_St), B' = (if 0 ≤ ls_P c k.toNat g then B else if bo (ls_less (X k + ls_cost (ls_P c k.toNat) V C k g) B) = true then ls_F V C j (k + 1) (pg_put c k g) (X k + ls_cost (ls_P c k.toNat) V C k g) B else B) → pl_M (ls_P c k.toNat) (V 0 0) σ2 → (∀ i, 0 ≤ i → i < k → σ2 136 i = c i) → σ2 136 k = g → (∀ i, 0 ≤ i → i ≤ k → σ2 137 i = X i) → lm_R V B' σ2 → lm_f σ σ2 → rx_Go L (d + 5) mX11_findBestLine 153 [some (.inr 125), some (.inl (V 0 0)), some (.inl k), q3] [] (rx_up σ2 136 k (g + 1)) (rx_PV KV) := by
          rintro B' q3 σ2 rfl a1 a2 a3 a4 a5 a6
          exact ihn (g + 1) _ q3 _ (by omega) (by omega) (fun q q0 q1 => by rw [up_c (by decide)]; exact a1 q q0 q1) (fun i i0 i1 => by rw [up_i (by omega)]; exact a2 i i0 i1) up_s (fun i i0 i1 => by rw [up_c (by decide)]; exact a4 i i0 i1) (lm_Rfr a5 (by rw [up_c (by decide)]) (by rw [up_c (by decide)])) (lm_fup a6 (by decide)) hK
        by_cases z : ls_P c k.toNat g < 0
        · rw [if_pos z]
          rw [if_neg (show ¬ 0 ≤ ls_P c k.toNat g by omega)] at go
          refine bX11_findBestLine_190 L (d + 4) _ k q3 σ1 KV ⟨by omega, ?_⟩
          rw [h136, if_pos (by omega)]
          have hM1 : ld_M V (σ1 126) := by rw [hf.1 126 (by decide) (by decide) (by decide) (by decide) (by decide)]; exact hM
          have hC1 : rk_M C (V 0 6) σ1 := fun r s r0 r1 s0 s1 rs => by rw [hf.1 130 (by decide) (by decide) (by decide) (by decide) (by decide)]; exact hC r s r0 r1 s0 s1 rs
          refine n_closes hM1 hw hP hC1 hCb ?_
          have cb := ls_cost_b (V := V) (P := ls_P c k.toNat) (C := C) (k := k) (p := g) hw hCb
          generalize ls_cost (ls_P c k.toNat) V C k g = v at *
          rw [h136, hX k (by omega) (by omega), up_c (show (125 : Nat) ≠ 133 by decide), rx_w_of (x := X k + v) (by omega) (by omega)]
          refine ⟨by omega, ?_⟩
          have hPp : pl_M (ls_P (pg_put c k g) (k + 1).toNat) (V 0 0) (rx_up σ1 133 g k) := fun q q0 q1 => by
            rw [ls_P_put (by omega)]
            by_cases e : q = g
            · rw [up_e e, if_pos e]
            · rw [up_i e, if_neg e]
              exact hP q q0 q1
          -- back at this level with g set
          have again : ∀ (B' : Option (Int × (Int → Int))) (q3 : Option rx_V) (σ2 : rx_St), B' = (if bo (ls_less (X k + v) B) = true then ls_F V C j (k + 1) (pg_put c k g) (X k + v) B else B) → pl_M (ls_P (pg_put c k g) (k + 1).toNat) (V 0 0) σ2 → (∀ i, 0 ≤ i → i < k → σ2 136 i = c i) → σ2 136 k = g → (∀ i, 0 ≤ i → i ≤ k → σ2 137 i = X i) → lm_R V B' σ2 → lm_f σ σ2 → rx_Go L (d + 5) mX11_findBestLine 114 [some (.inr 125), some (.inl (V 0 0)), some (.inl k), q3] [] σ2 (rx_PV KV) := by
            intro B' q3 σ2 eB a1 a2 a3 a4 a5 a6
            refine bX11_findBestLine_114 L (d + 4) _ k q3 σ2 KV ?_
            rw [if_neg (by omega), a3, if_neg (by omega)]
            refine ⟨by omega, by omega, ?_⟩
            refine bX11_findBestLine_143 L (d + 4) _ k q3 _ KV ⟨by omega, ?_⟩
            rw [up_c (show (136 : Nat) ≠ 133 by decide), a3, rx_w_of (by omega) (by omega)]
            refine go B' q3 _ eB (fun q q0 q1 => ?_) (fun i i0 i1 => by rw [up_c (by decide)]; exact a2 i i0 i1) (by rw [up_c (by decide)]; exact a3) (fun i i0 i1 => by rw [up_c (by decide)]; exact a4 i i0 i1) (lm_Rfr a5 (by rw [up_c (by decide)]) (by rw [up_c (by decide)])) (lm_fup a6 (by decide))
            by_cases e : q = g
            · rw [up_e e, e]
              have hz : ls_P c k.toNat g = -1 := by
                have : ∀ (n : Nat) p, -1 ≤ ls_P c n p := fun n p => by
                  induction n with
                  | zero => exact Int.le_refl _
                  | succ n ih =>
                    unfold ls_P
                    split <;> omega
                have := this k.toNat g
                omega
              exact hz.symm
            · rw [up_i e, a1 q q0 q1, ls_P_put (by omega), if_neg e]
          have deep : bo (ls_less (X k + v) B) = true → rx_Go L (d + 5) mX11_findBestLine 259 [some (.inr 125), some (.inl (V 0 0)), some (.inl k), some (.inl (X k + v))] [] (rx_up σ1 133 g k) (rx_PV KV) := by
            intro hl
            rw [if_pos hl] at again
            refine bX11_findBestLine_259 L (d + 4) _ k _ _ KV ?_
            rw [rx_w_of (x := k + 1) (by omega) (by omega)]
            refine ⟨by omega, ?_⟩
            refine bX11_findBestLine_276 L (d + 4) _ _ _ _ KV ?_
            have eX : pg_put X (k + 1) (X k + v) (k + 1) = X k + v := if_pos rfl
            refine ih (k + 1) (pg_put c k g) (pg_put X (k + 1) (X k + v)) B _ _ (by omega) (by omega) (ls_ok_put (by omega) ⟨by omega, by omega⟩ ho (by omega)) (by rw [hput g 0 (by omega)]; exact c0) (fun q q0 q1 => by rw [up_c (by decide), up_c (by decide)]; exact hPp q q0 q1) (fun i i0 i1 => ?_) (fun _ => up_s) (fun i i0 i1 => ?_) (by rw [eX]; omega) (by rw [eX]; omega) (lm_Rfr hR (by rw [up_c (by decide), up_c (by decide), up_c (by decide)]) (by rw [up_c (by decide), up_c (by decide), up_c (by decide)])) (lm_fup (lm_fup (lm_fup hf (by decide)) (by decide)) (by decide)) (fun σ' a1 a2 a3 a4 a5 => ?_)
            · rw [up_i (by omega), up_c (by decide), up_c (by decide)]
              by_cases e : i = k
              · rw [e, hputk]
                exact h136
              · rw [hput g i e]
                exact hc i i0 (by omega)
            · rw [up_c (by decide)]
              by_cases e : i = k + 1
              · rw [up_e e, e, eX]
              · rw [up_i e, up_c (by decide), hX i i0 (by omega)]
                exact (if_neg e : pg_put X (k + 1) (X k + v) i = X i).symm
            · rw [eX] at a1
              refine ⟨fun q => by omega, fun _ q3 => ?_⟩
              rw [show k + 1 - 1 = k by omega]
              refine again _ q3 σ' rfl a2 (fun i i0 i1 => by rw [a3 i i0 (by omega)]; exact hput g i (by omega)) (by rw [a3 k (by omega) (by omega)]; exact hputk g) (fun i i0 i1 => ?_) a1 a5
              rw [a4 i i0 (by omega)]
              exact if_neg (by omega)
          cases B with
          | none =>
            rw [hR.1 rfl, if_pos (by decide)]
            exact deep (bo_t trivial)
          | some b =>
            have hb := hR.2 b rfl
            rw [hb.1, if_neg (by omega)]
            by_cases y : b.1 ≤ X k + v
            · rw [if_pos y]
              refine bX11_findBestLine_276 L (d + 4) _ _ _ _ KV ?_
              refine lm_67 (show k < V 0 0 by omega) ⟨fun q => by omega, fun _ q3 => ?_⟩ _
              refine again (some b) q3 _ ?_ hPp (fun i i0 i1 => by rw [up_c (by decide)]; exact hc i i0 i1) (by rw [up_c (by decide)]; exact h136) (fun i i0 i1 => by rw [up_c (by decide)]; exact hX i i0 i1) (lm_Rfr hR (by rw [up_c (by decide)]) (by rw [up_c (by decide)])) (lm_fup hf (by decide))
              rw [if_neg]
              intro q
              have : X k + v < b.1 := bo_of q
              omega
            · rw [if_neg y]
              exact deep (bo_t (show X k + v < b.1 by omega))
        · rw [if_neg z, rx_w_of (by omega) (by omega)]
          rw [if_pos (show 0 ≤ ls_P c k.toNat g by omega)] at go
          exact go B q3 σ1 rfl hP hc h136 hX hR hf
    refine lm_67 (show k < V 0 0 by omega) ⟨fun q => by omega, fun _ q3 => ?_⟩ q3
    have h0 := (ho.1 0 (by omega) (by omega)).2.2
    rw [c0] at h0
    refine bX11_findBestLine_114 L (d + 4) _ k q3 σ1 KV ?_
    rw [if_neg (by omega), hg (by omega), if_pos (by omega)]
    refine ⟨by omega, by omega, ?_⟩
    refine bX11_findBestLine_143 L (d + 4) _ k q3 _ KV ⟨by omega, ?_⟩
    rw [up_c (show (136 : Nat) ≠ 133 by decide), hg (by omega), rx_w_of (by omega) (by omega)]
    refine loop (V 0 0 - 1).toNat 1 B q3 _ (by omega) (by omega) (fun q q0 q1 => ?_) (fun i i0 i1 => ?_) up_s (fun i i0 i1 => ?_) (lm_Rfr hR ?_ ?_) (lm_fup (lm_fup hf (by decide)) (by decide)) hK
    · rw [up_c (by decide)]
      by_cases e : q = 0
      · rw [up_e e, e]
        exact h0.symm
      · rw [up_i e]
        exact hP q q0 q1
    · rw [up_i (by omega), up_c (by decide)]
      exact hc i i0 i1
    · rw [up_c (by decide), up_c (by decide)]
      exact hX i i0 i1
    · rw [up_c (by decide), up_c (by decide)]
    · rw [up_c (by decide), up_c (by decide)]
theorem n_findBestLine (hM : ld_M V (σ 126)) (hw : iv_Wf V) (hT : tx_M T (V 0 12) (σ 126)) (hTw : tx_Wf T (V 0 12)) (hn1 : 1 ≤ V 0 0) (h : ∀ σ', lm_R V (ls_F V (rs_c2 V T) (V 0 0 - 1).toNat 1 (fun _ => 0) 0 none) σ' → (∀ c i, fr_k c i → σ' c i = σ c i) → KV σ') : rx_CV L (d + 5) mX11_findBestLine [.inr 125] σ KV := by
  have hn := wf_n hw
  have hm := wf_m hw
  refine bX11_findBestLine L (d + 4) σ KV ?_
  refine n_findPairs (V := V) (T := T) hM hw hT hTw (fun σ0 hC0 hf0 => ?_)
  have e126 : σ0 126 = σ 126 := hf0 126 (by decide) (by decide) (by decide) (by decide)
  have hM0 : ld_M V (σ0 126) := by rw [e126]; exact hM
  rw [ld_Mn hM0]
  have loop : ∀ (n : Nat) (p : Int) (σ1 : rx_St), 0 ≤ p → p + n = 8 → lm_f σ0 σ1 → (∀ q, 0 ≤ q → q < p → σ1 133 q = -1) → rx_Go L (d + 5) mX11_findBestLine 13 [some (.inr 125), some (.inl (V 0 0)), some (.inl p), none] [] σ1 (rx_PV KV) := by
    intro n
    induction n with
    | zero =>
      intro p σ1 p0 hp hf hz
      refine bX11_findBestLine_13 L (d + 4) _ p none σ1 KV ?_
      rw [if_pos (by omega)]
      have key := n_ext (L := L) (d := d) (σ := σ0) (V := V) (KV := KV) (C := rs_c2 V T) hM0 hw hC0 (fun r s => rs_c2_b r s) (V 0 0 - 1).toNat 1 (fun _ => 0) (fun i => rx_up (rx_up (rx_up (rx_up (rx_up σ1 125 16 (-1)) 136 0 0) 133 0 0) 137 1 0) 136 1 0 137 i) none none (rx_up (rx_up (rx_up (rx_up (rx_up σ1 125 16 (-1)) 136 0 0) 133 0 0) 137 1 0) 136 1 0) (by omega) (by omega) (ls_ok1 hn1) rfl (fun q q0 q1 => ?_) (fun i i0 i1 => ?_) (fun _ => up_s) (fun _ _ _ => rfl) ?_ ?_ ⟨(fun _ => ?_), (fun b q => by cases q)⟩ (lm_fup (lm_fup (lm_fup (lm_fup (lm_fup16 hf) (by decide)) (by decide)) (by decide)) (by decide)) (fun σ' a1 a2 a3 a4 a5 => ⟨fun _ => ?_, fun q => by omega⟩)
      · exact key
      · rw [up_c (by decide), up_c (by decide)]
        show _ = if 0 = q then (0 : Int) else -1
        by_cases e : q = 0
        · rw [up_e e, if_pos e.symm]
        · rw [up_i e, if_neg (fun z => e z.symm), up_c (by decide), up_c (by decide)]
          exact hz q q0 (by omega)
      · rw [show i = 0 by omega, up_i (by decide), up_c (by decide), up_c (by decide), up_s]
      · show 0 ≤ rx_up (rx_up (rx_up (rx_up (rx_up σ1 125 16 (-1)) 136 0 0) 133 0 0) 137 1 0) 136 1 0 137 1
        rw [up_c (by decide), up_s]
        exact Int.le_refl 0
      · show rx_up (rx_up (rx_up (rx_up (rx_up σ1 125 16 (-1)) 136 0 0) 133 0 0) 137 1 0) 136 1 0 137 1 ≤ _
        rw [up_c (by decide), up_s]
        decide
      · rw [up_c (by decide), up_c (by decide), up_c (by decide), up_c (by decide), up_s]
      · have e0 : rx_up (rx_up (rx_up (rx_up (rx_up σ1 125 16 (-1)) 136 0 0) 133 0 0) 137 1 0) 136 1 0 137 1 = 0 := by rw [up_c (by decide), up_s]
        have a1' : lm_R V (ls_F V (rs_c2 V T) (V 0 0 - 1).toNat 1 (fun _ => 0) (rx_up (rx_up (rx_up (rx_up (rx_up σ1 125 16 (-1)) 136 0 0) 133 0 0) 137 1 0) 136 1 0 137 1) none) σ' := a1
        rw [e0] at a1'
        refine h σ' a1' (fun x i hk => ?_)
        unfold fr_k at hk
        by_cases e : x = 125
        · rw [e, a5.2 i (by omega), hf0 125 (by decide) (by decide) (by decide) (by decide)]
        · rw [a5.1 x e (by omega) (by omega) (by omega) (by omega), hf0 x (by omega) (by omega) (by omega) (by omega)]
    | succ n ihn =>
      intro p σ1 p0 hp hf hz
      refine bX11_findBestLine_13 L (d + 4) _ p none σ1 KV ?_
      rw [if_neg (by omega), rx_w_of (by omega) (by omega)]
      refine ⟨by omega, ihn (p + 1) _ (by omega) (by omega) (lm_fup hf (by decide)) (fun q q0 q1 => ?_)⟩
      by_cases e : q = p
      · rw [up_e e]
      · rw [up_i e]
        exact hz q q0 (by omega)
  exact loop 8 0 σ0 (by omega) (by omega) ⟨fun _ _ _ _ _ _ => rfl, fun _ _ => rfl⟩ (fun q q0 q1 => by omega)
theorem o_bestLine {k : Int} (h : iv_A S V T σ) (hQ : ∀ v σ', Inv S σ' → Q v v σ') :
    rx_CI L (d + 11) mX10_bestLine [.inr 0, .inl k] σ (fun v1 σ1 => rx_CI L (d + 11) mX11_bestLine [.inr 125, .inl k] σ1 (fun v2 σ2 => Q v1 v2 σ2)) := by
  have hw := h.1
  have hC := h.2.1
  have hM := h.2.2.1
  have hn := wf_n hw
  obtain ⟨b1, b2, b3, b4⟩ := h.2.2.2.2.1
  have hCb : ∀ r s, 0 ≤ rs_c2 V T r s ∧ rs_c2 V T r s ≤ 999 := fun r s => rs_c2_b r s
  refine bX10_bestLine L (d + 10) k σ _ ?_
  rw [ld_C0 hC]
  by_cases c1 : -1 ≤ k
  · rw [if_pos c1]
    by_cases c2 : V 0 0 = 0
    · rw [if_neg (fun q => q c2)]
      refine bX11_bestLine L (d + 10) k σ _ ?_
      rw [ld_Mn hM, if_pos c1, if_neg (fun q => q c2)]
      exact o_same h hQ _
    · rw [if_pos c2]
      by_cases c3 : k < V 0 0
      · rw [if_pos c3]
        refine c_reckon rfl hC hw b1 b2 (fun σ1 hC1 hf1 => ?_)
        have hV1 : ld_C 1 V σ1 := ld_Cfr hC (fun c h1 h2 => hf1 c (by omega) (by omega) (by omega))
        refine c_search3 hV1 hw hC1 hCb (by omega) (fun σ2 hR2 hf2 => ?_)
        have fin : ∀ c i, fr_k c i → σ2 c i = σ c i := fun c i hk => by
          unfold fr_k at hk
          rw [hf2 c (by omega), hf1 c (by omega) (by omega) (by omega)]
        have hA2 : iv_A S V T σ2 := iv_fr h fin
        have hM2 := hA2.2.2.1
        have hmod : ∀ v, (k = -1 → v = σ2 83 1) → (0 ≤ k → v = σ2 84 k) → rx_CI L (d + 11) mX11_bestLine [.inr 125, .inl k] σ2 (fun v2 σ2 => Q v v2 σ2) := by
          intro v v1 v2
          refine bX11_bestLine L (d + 10) k σ2 _ ?_
          rw [ld_Mn hM2, if_pos c1, if_pos c2, if_pos c3]
          refine n_findBestLine (V := V) (T := T) hM2 hw hA2.2.2.2.2.1.2.2.1 b2 (by omega) (fun σ3 hR3 hf3 => ?_)
          have hI : Inv S σ3 := ⟨V, T, iv_fr hA2 hf3⟩
          have hne : ls_F V (rs_c2 V T) (V 0 0 - 1).toNat 1 (fun _ => 0) 0 none ≠ none := ls_F_ne _ _ _ _ _ (by omega) (by omega) (ls_ok1 (by omega)) rfl
          cases hB : ls_F V (rs_c2 V T) (V 0 0 - 1).toNat 1 (fun _ => 0) 0 none with
          | none => exact absurd hB hne
          | some b =>
            obtain ⟨x1, x2, x3, x4⟩ := hR2.2 b hB
            obtain ⟨y1, y2, y3⟩ := hR3.2 b hB
            by_cases z : 0 ≤ k
            · rw [if_pos z, y3 k z c3, v2 z, x4 k z c3]
              exact ⟨by omega, hQ _ _ hI⟩
            · rw [if_neg z, y1, v1 (by omega), x1]
              exact hQ _ _ hI
        by_cases z : k = -1
        · rw [if_neg (fun q => q z)]
          exact hmod _ (fun _ => rfl) (fun q => by omega)
        · rw [if_pos z]
          exact ⟨by omega, hmod _ (fun q => absurd q z) (fun _ => rfl)⟩
      · rw [if_neg c3]
        refine bX11_bestLine L (d + 10) k σ _ ?_
        rw [ld_Mn hM, if_pos c1, if_pos c2, if_neg c3]
        exact o_same h hQ _
  · rw [if_neg c1]
    refine bX11_bestLine L (d + 10) k σ _ ?_
    rw [ld_Mn hM, if_neg c1]
    exact o_same h hQ _
end LNM
