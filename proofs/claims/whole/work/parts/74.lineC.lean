/-! ===== the best line: the class ===== -/
theorem al_60 {L : Nat} {j : Nat} (h : j < 18) : (rx_len L 0 (60 + j) = 18 ∧ 60 + j < 159) ∧ rx_alen L (60 + j) = some 18 := by
  have hj : j = 0 ∨ j = 1 ∨ j = 2 ∨ j = 3 ∨ j = 4 ∨ j = 5 ∨ j = 6 ∨ j = 7 ∨ j = 8 ∨ j = 9 ∨ j = 10 ∨ j = 11 ∨ j = 12 ∨ j = 13 ∨ j = 14 ∨ j = 15 ∨ j = 16 ∨ j = 17 := by omega
  rcases hj with rfl | rfl | rfl | rfl | rfl | rfl | rfl | rfl | rfl | rfl | rfl | rfl | rfl | rfl | rfl | rfl | rfl | rfl
  all_goals exact ⟨⟨rx_len_eq (n := 18) (by decide +kernel), by decide⟩, al_eq (n := 18) (t := 0) (by decide +kernel) (by decide) (by decide)⟩
theorem al_87 {L : Nat} {j : Nat} (h : j < 8) : (rx_len L 0 (87 + j) = 8 ∧ 87 + j < 159) ∧ rx_alen L (87 + j) = some 8 := by
  have hj : j = 0 ∨ j = 1 ∨ j = 2 ∨ j = 3 ∨ j = 4 ∨ j = 5 ∨ j = 6 ∨ j = 7 := by omega
  rcases hj with rfl | rfl | rfl | rfl | rfl | rfl | rfl | rfl
  all_goals exact ⟨⟨rx_len_eq (n := 8) (by decide +kernel), by decide⟩, al_eq (n := 8) (t := 0) (by decide +kernel) (by decide) (by decide)⟩
section LNC
variable {L d : Nat} {σ V T : rx_St} {K : Int → rx_St → Prop} {KV : rx_St → Prop} {C bt : Int → Int → Int} {P c : Int → Int}
def lc_B (V : rx_St) (bt : Int → Int → Int) (σ : rx_St) : Prop := σ 83 4 = V 0 0 ∧ ∀ p q, 0 ≤ p → p < V 0 0 → 0 ≤ q → q < V 0 0 → σ (87 + p.toNat) q = bt p q
def lc_S (P : Int → Int) (σ : rx_St) : Prop := ∀ b : Nat, b < 8 → (tb (σ 83 3) b = true ↔ 0 ≤ P b)
theorem c_costOfOpen (hw : iv_Wf V) (hb : lc_B V bt σ) (hB : ls_B V bt) (hS : lc_S P σ) (hC : rk_C C (V 0 6) σ) (hCb : ∀ r s, 0 ≤ C r s ∧ C r s ≤ 999) {r f p : Int} (hr : 0 ≤ r ∧ r < V 0 6) (hf : 0 ≤ f ∧ f < V 0 0) (hp : 0 ≤ p ∧ p < V 0 0) (hrp : V 7 r = p ∨ V 8 r = p) (hfp : f ≠ p) (h : K (rs_sum (fun far => if 0 ≤ bt f far ∧ far ≠ p ∧ P far < 0 then C r (bt f far) else 0) 0 (V 0 0).toNat) σ) : rx_CI L d mX3_costOfOpen [.inr 83, .inr (60 + r.toNat), .inl f, .inl p] σ K := by
  have hn := wf_n hw
  have hm := wf_m hw
  have al := al_60 (L := L) (j := r.toNat) (by omega)
  refine bX3_costOfOpen L d (60 + r.toNat) 18 al.1 al.2 f p σ K ?_
  have key : ∀ (k : Nat) (far acc : Int) (q6 : Option rx_V), 0 ≤ far → far + k = V 0 0 → 0 ≤ acc → acc ≤ 999 * far → K (acc + rs_sum (fun far => if 0 ≤ bt f far ∧ far ≠ p ∧ P far < 0 then C r (bt f far) else 0) far k) σ → rx_Go L d mX3_costOfOpen 6 [some (.inr 83), some (.inr (60 + r.toNat)), some (.inl f), some (.inl p), some (.inl acc), some (.inl far), q6] [] σ (rx_PI K) := by
    intro k
    induction k with
    | zero =>
      intro far acc q6 f0 hk a0 a1 h
      refine bX3_costOfOpen_6 L d (60 + r.toNat) 18 al.1 f p acc far q6 σ K ?_
      rw [hb.1, if_pos (by omega)]
      have e : acc + rs_sum (fun far => if 0 ≤ bt f far ∧ far ≠ p ∧ P far < 0 then C r (bt f far) else 0) far 0 = acc := Int.add_zero acc
      rw [e] at h
      exact h
    | succ k ih =>
      intro far acc q6 f0 hk a0 a1 h
      refine bX3_costOfOpen_6 L d (60 + r.toNat) 18 al.1 f p acc far q6 σ K ?_
      rw [hb.1, if_neg (by omega)]
      refine ⟨by omega, fun A2 hA2 _ => ⟨by omega, ?_⟩⟩
      subst hA2
      rw [hb.2 f far hf.1 hf.2 f0 (by omega), rx_w_of (x := far + 1) (by omega) (by omega)]
      have hno : ¬ (0 ≤ bt f far ∧ far ≠ p ∧ P far < 0) → ∀ q, rx_Go L d mX3_costOfOpen 6 [some (.inr 83), some (.inr (60 + r.toNat)), some (.inl f), some (.inl p), some (.inl acc), some (.inl (far + 1)), q] [] σ (rx_PI K) := by
        intro z q
        refine ih (far + 1) acc q (by omega) (by omega) a0 (by omega) ?_
        have e : rs_sum (fun far => if 0 ≤ bt f far ∧ far ≠ p ∧ P far < 0 then C r (bt f far) else 0) far (k + 1) = 0 + rs_sum (fun far => if 0 ≤ bt f far ∧ far ≠ p ∧ P far < 0 then C r (bt f far) else 0) (far + 1) k := by
          show (if 0 ≤ bt f far ∧ far ≠ p ∧ P far < 0 then C r (bt f far) else 0) + _ = _
          rw [if_neg z]
        rw [e, Int.zero_add] at h
        exact h
      by_cases c1 : bt f far < 0
      · rw [if_pos c1]
        exact hno (fun q => by omega) _
      rw [if_neg c1]
      by_cases c2 : far = p
      · rw [if_pos c2]
        exact hno (fun q => q.2.1 c2) _
      rw [if_neg c2, alu_bit _ f0 (by omega)]
      have hs := hS far.toNat (by omega)
      rw [show ((far.toNat : Nat) : Int) = far by omega] at hs
      by_cases c3 : tb (σ 83 3) far.toNat = true
      · rw [if_pos c3, if_pos (by decide)]
        have := hs.mp c3
        exact hno (fun q => by omega) _
      rw [if_neg c3, if_neg (by decide)]
      have c4 : P far < 0 := by
        have : ¬ 0 ≤ P far := fun q => c3 (hs.mpr q)
        omega
      obtain ⟨g1, g2⟩ := hB.1 f far hf.1 hf.2 f0 (by omega) (by omega)
      have hne : r ≠ bt f far := fun e => by
        rw [← e] at g2
        omega
      rw [hC r (bt f far) hr.1 hr.2 (by omega) g1 hne]
      have cb := hCb r (bt f far)
      rw [rx_w_of (x := acc + C r (bt f far)) (by omega) (by omega)]
      refine ⟨by omega, ih (far + 1) _ _ (by omega) (by omega) (by omega) (by omega) ?_⟩
      have e : rs_sum (fun far => if 0 ≤ bt f far ∧ far ≠ p ∧ P far < 0 then C r (bt f far) else 0) far (k + 1) = C r (bt f far) + rs_sum (fun far => if 0 ≤ bt f far ∧ far ≠ p ∧ P far < 0 then C r (bt f far) else 0) (far + 1) k := by
        show (if 0 ≤ bt f far ∧ far ≠ p ∧ P far < 0 then C r (bt f far) else 0) + _ = _
        rw [if_pos ⟨by omega, c2, c4⟩]
      rw [e, ← Int.add_assoc] at h
      exact h
  refine key (V 0 0).toNat 0 0 none (by omega) (by omega) (by omega) (by omega) ?_
  rw [Int.zero_add]
  exact h
theorem c_costOfNext (hw : iv_Wf V) (hb : lc_B V bt σ) (hB : ls_B V bt) (hS : lc_S P σ) (hC : rk_C C (V 0 6) σ) (hCb : ∀ r s, 0 ≤ C r s ∧ C r s ≤ 999) {k p : Int} (hk : 0 ≤ k ∧ k ≤ 8) (ho : ls_ok V P c k) (hc : ∀ i, 0 ≤ i → i < k → σ 85 i = c i) (hp : 0 ≤ p ∧ p < V 0 0) (hP : P p < 0) (h : K (ls_cost P V C k p) σ) : rx_CI L (d + 1) mX3_costOfNext [.inr 83, .inr 59, .inl k, .inl p] σ K := by
  have hn := wf_n hw
  have hm := wf_m hw
  rw [← ls_eq hw hB ho hk.1 hp hP] at h
  unfold ls_cC at h
  have vb : ∀ r f, 0 ≤ rs_sum (fun far => if 0 ≤ bt f far ∧ far ≠ p ∧ P far < 0 then C r (bt f far) else 0) 0 (V 0 0).toNat ∧ rs_sum (fun far => if 0 ≤ bt f far ∧ far ≠ p ∧ P far < 0 then C r (bt f far) else 0) 0 (V 0 0).toNat ≤ 8000 := by
    intro r f
    have hv : ∀ far, 0 ≤ (if 0 ≤ bt f far ∧ far ≠ p ∧ P far < 0 then C r (bt f far) else 0) ∧ (if 0 ≤ bt f far ∧ far ≠ p ∧ P far < 0 then C r (bt f far) else 0) ≤ 999 := fun far => by
      have := hCb r (bt f far)
      split <;> omega
    refine ⟨rs_sum_nn _ _ (fun far _ _ => (hv far).1), ?_⟩
    have := rs_sum_le (f := fun far => if 0 ≤ bt f far ∧ far ≠ p ∧ P far < 0 then C r (bt f far) else 0) (B := 999) (V 0 0).toNat 0 (fun far _ _ => (hv far).2)
    omega
  refine bX3_costOfNext L d k p σ K ?_
  have inner : ∀ (j : Nat) (i acc st r : Int), 0 ≤ st → st < k → st < i → i + j = k → 0 ≤ acc → acc ≤ 64000 * st + 8000 * i → 0 ≤ r → r < V 0 6 → (V 7 r = p ∨ V 8 r = p) → (∀ acc' q6 q7, 0 ≤ acc' → acc' ≤ 64000 * (st + 1) → acc' = acc + rs_sum (fun i => rs_sum (fun far => if 0 ≤ bt (c i) far ∧ far ≠ p ∧ P far < 0 then C r (bt (c i) far) else 0) 0 (V 0 0).toNat) i j → rx_Go L (d + 1) mX3_costOfNext 6 [some (.inr 83), some (.inr 59), some (.inl k), some (.inl p), some (.inl acc'), some (.inl (st + 1)), q6, q7] [] σ (rx_PI K)) → rx_Go L (d + 1) mX3_costOfNext 39 [some (.inr 83), some (.inr 59), some (.inl k), some (.inl p), some (.inl acc), some (.inl st), some (.inl r), some (.inl i)] [] σ (rx_PI K) := by
    intro j
    induction j with
    | zero =>
      intro i acc st r s0 s1 si hi a0 a1 r0 r1 hrp hnext
      refine bX3_costOfNext_39 L d k p acc st r i σ K ?_
      rw [if_pos (by omega), rx_w_of (by omega) (by omega)]
      exact hnext acc _ _ a0 (by omega) (Int.add_zero acc).symm
    | succ j ih =>
      intro i acc st r s0 s1 si hi a0 a1 r0 r1 hrp hnext
      refine bX3_costOfNext_39 L d k p acc st r i σ K ?_
      rw [if_neg (by omega)]
      refine ⟨by omega, fun A8 hA8 _ => ⟨by omega, ?_⟩⟩
      subst hA8
      have ci := ho.1 i (by omega) (by omega)
      rw [hc i (by omega) (by omega)]
      have hnp : c i ≠ p := fun e => by rw [← e, ci.2.2] at hP; omega
      refine c_costOfOpen hw hb hB hS hC hCb ⟨r0, r1⟩ ⟨ci.1, ci.2.1⟩ hp hrp hnp ?_
      have := vb r (c i)
      rw [rx_w_of (by omega) (by omega), rx_w_of (by omega) (by omega)]
      refine ih (i + 1) _ st r s0 s1 (by omega) (by omega) (by omega) (by omega) r0 r1 hrp (fun acc' q6 q7 b0 b1 e => hnext acc' q6 q7 b0 b1 ?_)
      rw [e, Int.add_assoc]
      rfl
  have outer : ∀ (j : Nat) (st acc : Int) (q6 q7 : Option rx_V), 0 ≤ st → st + j = k → 0 ≤ acc → acc ≤ 64000 * st → K (acc + rs_sum (fun st => if 0 ≤ bt (c st) p then rs_sum (fun i => rs_sum (fun far => if 0 ≤ bt (c i) far ∧ far ≠ p ∧ P far < 0 then C (bt (c st) p) (bt (c i) far) else 0) 0 (V 0 0).toNat) (st + 1) (k - st - 1).toNat else 0) st j) σ → rx_Go L (d + 1) mX3_costOfNext 6 [some (.inr 83), some (.inr 59), some (.inl k), some (.inl p), some (.inl acc), some (.inl st), q6, q7] [] σ (rx_PI K) := by
    intro j
    induction j with
    | zero =>
      intro st acc q6 q7 s0 hs a0 a1 h
      refine bX3_costOfNext_6 L d k p acc st q6 q7 σ K ?_
      rw [if_pos (by omega)]
      rw [← Int.add_zero acc]
      exact h
    | succ j ih =>
      intro st acc q6 q7 s0 hs a0 a1 h
      refine bX3_costOfNext_6 L d k p acc st q6 q7 σ K ?_
      rw [if_neg (by omega), hc st s0 (by omega)]
      have cs := ho.1 st s0 (by omega)
      refine ⟨by omega, by omega, fun A3 hA3 _ => ⟨by omega, ?_⟩⟩
      subst hA3
      rw [hb.2 (c st) p cs.1 cs.2.1 hp.1 hp.2, rx_w_of (by omega) (by omega)]
      have hh : K (acc + ((if 0 ≤ bt (c st) p then rs_sum (fun i => rs_sum (fun far => if 0 ≤ bt (c i) far ∧ far ≠ p ∧ P far < 0 then C (bt (c st) p) (bt (c i) far) else 0) 0 (V 0 0).toNat) (st + 1) (k - st - 1).toNat else 0) + rs_sum (fun st => if 0 ≤ bt (c st) p then rs_sum (fun i => rs_sum (fun far => if 0 ≤ bt (c i) far ∧ far ≠ p ∧ P far < 0 then C (bt (c st) p) (bt (c i) far) else 0) 0 (V 0 0).toNat) (st + 1) (k - st - 1).toNat else 0) (st + 1) j)) σ := h
      by_cases z : bt (c st) p < 0
      · rw [if_pos z]
        refine ih (st + 1) acc _ _ (by omega) (by omega) a0 (by omega) ?_
        rw [if_neg (by omega), Int.zero_add] at hh
        exact hh
      · rw [if_neg z]
        obtain ⟨g1, g2⟩ := hB.1 (c st) p cs.1 cs.2.1 hp.1 hp.2 (by omega)
        refine inner (k - st - 1).toNat (st + 1) acc st (bt (c st) p) s0 (by omega) (by omega) (by omega) a0 (by omega) (by omega) g1 (by omega) (fun acc' q6 q7 b0 b1 e => ?_)
        refine ih (st + 1) acc' q6 q7 (by omega) (by omega) b0 b1 ?_
        rw [if_pos (by omega), ← Int.add_assoc] at hh
        rw [e]
        exact hh
  refine outer k.toNat 0 0 none none (by omega) (by omega) (by omega) (by omega) ?_
  rw [Int.zero_add]
  exact h
/-- what is best so far, in the class -/
def lc_R (V : rx_St) (B : Option (Int × (Int → Int))) (σ : rx_St) : Prop := (B = none → σ 83 1 = 2147483647) ∧ (∀ b, B = some b → σ 83 1 = b.1 ∧ 0 ≤ b.1 ∧ b.1 ≤ 3000000 ∧ ∀ i, 0 ≤ i → i < V 0 0 → σ 84 i = b.2 i)
theorem lc_less {B : Option (Int × (Int → Int))} (h : lc_R V B σ) {x : Int} (hx : x ≤ 3000000) : ls_less x B ↔ x < σ 83 1 := by
  cases B with
  | none =>
    rw [h.1 rfl]
    show True ↔ _
    exact ⟨fun _ => by omega, fun _ => trivial⟩
  | some b =>
    rw [(h.2 b rfl).1]
    exact Iff.rfl
theorem lc_Rfr {B : Option (Int × (Int → Int))} {σ' : rx_St} (h : lc_R V B σ) (h1 : σ' 83 1 = σ 83 1) (h2 : σ' 84 = σ 84) : lc_R V B σ' := by
  unfold lc_R
  rw [h1, h2]
  exact h
theorem c_extend (hw : iv_Wf V) (hb : ∀ p q, 0 ≤ p → p < V 0 0 → 0 ≤ q → q < V 0 0 → σ (87 + p.toNat) q = bt p q) (hB : ls_B V bt) (hC : rk_C C (V 0 6) σ) (hCb : ∀ r s, 0 ≤ C r s ∧ C r s ≤ 999) : ∀ (j : Nat) (k : Int) (c : Int → Int) (x : Int) (B : Option (Int × (Int → Int))) (σ1 : rx_St) (KV : rx_St → Prop), 1 ≤ k → k + j = V 0 0 → ls_ok V (ls_P c k.toNat) c k → (∀ i, 0 ≤ i → i < k → σ1 85 i = c i) → lc_S (ls_P c k.toNat) σ1 → σ1 83 4 = V 0 0 → lc_R V B σ1 → 0 ≤ x → x ≤ 323676 * k → (∀ y, y < 83 ∨ 85 < y → σ1 y = σ y) →
    (∀ σ', lc_R V (ls_F V C j k c x B) σ' → (∀ i, 0 ≤ i → i < k → σ' 85 i = c i) → lc_S (ls_P c k.toNat) σ' → σ' 83 4 = V 0 0 → (∀ y, y < 83 ∨ 85 < y → σ' y = σ y) → KV σ') → rx_CV L (d + j + 2) mX3_extend [.inr 83, .inr 59, .inl k, .inl x] σ1 KV := by
  have hn := wf_n hw
  intro j
  induction j with
  | zero =>
    intro k c x B σ1 KV k1 hk ho hc hS h4 hR x0 x1 hf hK
    refine bX3_extend L (d + 1) k x σ1 KV ?_
    rw [h4, if_pos (by omega)]
    refine ⟨by unfold rx_cpOK; omega, ?_⟩
    refine hK _ ⟨(fun q => by cases q), (fun b q => ?_)⟩ (fun i i0 i1 => ?_) (fun b hb8 => ?_) ?_ (fun y hy => ?_)
    · cases q
      refine ⟨?_, x0, by omega, fun i i0 i1 => ?_⟩
      · rw [cp_c (by decide), up_s]
      · rw [cp_i (by omega), up_c (by decide), show 0 + (i - 0) = i by omega]
        exact hc i i0 (by omega)
    · rw [cp_c (by decide), up_c (by decide)]
      exact hc i i0 i1
    · rw [cp_c (by decide), up_i (by decide)]
      exact hS b hb8
    · rw [cp_c (by decide), up_i (by decide)]
      exact h4
    · rw [cp_c (by omega), up_c (by omega)]
      exact hf y hy
  | succ j ih =>
    intro k c x B σ1 KV k1 hk ho hc hS h4 hR x0 x1 hf hK
    refine bX3_extend L (d + j + 2) k x σ1 KV ?_
    rw [h4, if_neg (by omega), if_pos (by omega)]
    have loop : ∀ (n : Nat) (g : Int) (q5 : Option rx_V) (B : Option (Int × (Int → Int))) (σ1 : rx_St), 1 ≤ g → g + n = V 0 0 → (∀ i, 0 ≤ i → i < k → σ1 85 i = c i) → lc_S (ls_P c k.toNat) σ1 → σ1 83 4 = V 0 0 → lc_R V B σ1 → (∀ y, y < 83 ∨ 85 < y → σ1 y = σ y) → (∀ σ', lc_R V (ls_T (fun g B => if 0 ≤ ls_P c k.toNat g then B else if bo (ls_less (x + ls_cost (ls_P c k.toNat) V C k g) B) = true then ls_F V C j (k + 1) (pg_put c k g) (x + ls_cost (ls_P c k.toNat) V C k g) B else B) n g B) σ' → (∀ i, 0 ≤ i → i < k → σ' 85 i = c i) → lc_S (ls_P c k.toNat) σ' → σ' 83 4 = V 0 0 → (∀ y, y < 83 ∨ 85 < y → σ' y = σ y) → KV σ') → rx_Go L (d + j + 2 + 1) mX3_extend 38 [some (.inr 83), some (.inr 59), some (.inl k), some (.inl x), some (.inl g), q5] [] σ1 (rx_PV KV) := by
      intro n
      induction n with
      | zero =>
        intro g q5 B σ1 g1 hg hc hS h4 hR hf hK
        refine bX3_extend_38 L (d + j + 2) k x g q5 σ1 KV ?_
        rw [h4, if_pos (by omega)]
        exact hK σ1 hR hc hS h4 hf
      | succ n ihn =>
        intro g q5 B σ1 g1 hg hc hS h4 hR hf hK
        refine bX3_extend_38 L (d + j + 2) k x g q5 σ1 KV ?_
        rw [h4, if_neg (by omega), alu_bit _ (by omega) (by omega), rx_w_of (x := g + 1) (by omega) (by omega)]
        have hs := hS g.toNat (by omega)
        rw [show ((g.toNat : Nat) : Int) = g by omega] at hs
        -- go on with a B'
        have go : ∀ (σ2 : rx_St) (q5 : Option rx_V), (∀ i, 0 ≤ i → i < k → σ2 85 i = c i) → lc_S (ls_P c k.toNat) σ2 → σ2 83 4 = V 0 0 → lc_R V (if 0 ≤ ls_P c k.toNat g then B else if bo (ls_less (x + ls_cost (ls_P c k.toNat) V C k g) B) = true then ls_F V C j (k + 1) (pg_put c k g) (x + ls_cost (ls_P c k.toNat) V C k g) B else B) σ2 → (∀ y, y < 83 ∨ 85 < y → σ2 y = σ y) → rx_Go L (d + j + 2 + 1) mX3_extend 38 [some (.inr 83), some (.inr 59), some (.inl k), some (.inl x), some (.inl (g + 1)), q5] [] σ2 (rx_PV KV) := fun σ2 q5 a1 a2 a3 a4 a5 => ihn (g + 1) q5 _ σ2 (by omega) (by omega) a1 a2 a3 a4 a5 hK
        by_cases z : tb (σ1 83 3) g.toNat = true
        · rw [if_pos z, if_pos (by decide)]
          refine go σ1 _ hc hS h4 ?_ hf
          rw [if_pos (hs.mp z)]
          exact hR
        · rw [if_neg z, if_neg (by decide)]
          have hP : ¬ 0 ≤ ls_P c k.toNat g := fun q => z (hs.mpr q)
          have hbb : lc_B V bt σ1 := ⟨h4, fun p q p0 p1 q0 q1 => by rw [hf _ (by omega)]; exact hb p q p0 p1 q0 q1⟩
          have hCC : rk_C C (V 0 6) σ1 := fun r s r0 r1 s0 s1 hrs => by
            have hm := wf_m hw
            rw [hf _ (by omega)]
            exact hC r s r0 r1 s0 s1 hrs
          refine c_costOfNext (d := d + j + 1) hw hbb hB hS hCC hCb ⟨by omega, by omega⟩ ho hc ⟨by omega, by omega⟩ (by omega) ?_
          have cb := ls_cost_b (V := V) (P := ls_P c k.toNat) (C := C) (k := k) (p := g) hw hCb
          rw [if_neg hP] at go
          have hl := lc_less hR (x := x + ls_cost (ls_P c k.toNat) V C k g) (by omega)
          generalize ls_cost (ls_P c k.toNat) V C k g = v at *
          rw [rx_w_of (x := x + v) (by omega) (by omega)]
          by_cases y : σ1 83 1 ≤ x + v
          · rw [if_pos y]
            refine go σ1 _ hc hS h4 ?_ hf
            rw [if_neg (by rw [bo_f (fun q => by have := hl.mp q; omega)]; decide)]
            exact hR
          · rw [if_neg y]
            rw [if_pos (bo_t (hl.mpr (by omega)))] at go
            rw [rx_w_of (x := k + 1) (by omega) (by omega), up_c (show (83 : Nat) ≠ 85 by decide)]
            refine ⟨by omega, ?_⟩
            have hput : ∀ i, i ≠ k → pg_put c k g i = c i := fun i hi => if_neg hi
            have hputk : pg_put c k g k = g := if_pos rfl
            refine ih (k + 1) (pg_put c k g) (x + v) B _ _ (by omega) (by omega) (ls_ok_put (by omega) ⟨by omega, by omega⟩ ho (by omega)) (fun i i0 i1 => ?_) (fun b hb8 => ?_) ?_ ?_ (by omega) (by omega) (fun w hw2 => ?_) (fun σ' a1 a2 a3 a4 a5 => ?_)
            · rw [up_c (by decide)]
              by_cases e : i = k
              · rw [e, up_s, hputk]
              · rw [up_i e, hput i e]
                exact hc i i0 (by omega)
            · rw [up_s, tb_or, tb_shl (by omega) (by omega), Bool.or_eq_true, hS b hb8, ls_P_put (by omega)]
              by_cases e : (b : Int) = g
              · rw [if_pos e]
                exact ⟨fun _ => by omega, fun _ => Or.inr (decide_eq_true e)⟩
              · rw [if_neg e]
                exact ⟨fun q => q.resolve_right (fun w => e (of_decide_eq_true w)), fun q => Or.inl q⟩
            · rw [up_i (by decide), up_c (by decide)]
              exact h4
            · exact lc_Rfr hR (by rw [up_i (by decide), up_c (by decide)]) (by rw [up_c (by decide), up_c (by decide)])
            · rw [up_c (by omega), up_c (by omega)]
              exact hf w hw2
            · refine go _ _ (fun i i0 i1 => ?_) (fun b hb8 => ?_) ?_ ?_ (fun w hw2 => ?_)
              · rw [up_c (by decide), a2 i i0 (by omega)]
                exact hput i (by omega)
              · rw [up_s, tb_and, tb_xor, tb_shl (by omega) (by omega), tb_m1 (by omega), Bool.and_eq_true, a3 b hb8, ls_P_put (by omega)]
                by_cases e : (b : Int) = g
                · rw [decide_eq_true e, e]
                  refine ⟨fun q => ?_, fun q => absurd q hP⟩
                  have := q.2
                  cases this
                · rw [if_neg e, decide_eq_false e]
                  exact ⟨fun q => q.1, fun q => ⟨q, rfl⟩⟩
              · rw [up_i (by decide)]
                exact a4
              · exact lc_Rfr a1 (up_i (by decide)) (up_c (by decide))
              · rw [up_c (by omega)]
                exact a5 w hw2
    refine loop (V 0 0 - 1).toNat 1 none B σ1 (by omega) (by omega) hc hS h4 hR hf hK
theorem ls_ok1 (hn : 1 ≤ V 0 0) : ls_ok V (ls_P (fun _ => 0) 1) (fun _ => 0) 1 := by
  have e : ∀ p, ls_P (fun _ => 0) 1 p = if 0 = p then 0 else -1 := fun p => rfl
  refine ⟨fun i i0 i1 => ⟨(Int.le_refl 0 : (0 : Int) ≤ 0), (show (0 : Int) < V 0 0 by omega), ?_⟩, fun q q0 q1 hq => ?_⟩
  · rw [e, if_pos rfl]
    omega
  · rw [e] at hq ⊢
    by_cases z : 0 = q
    · rw [if_pos z]
      exact ⟨by decide, z⟩
    · rw [if_neg z] at hq
      omega
theorem c_search3 (hV : ld_C 1 V σ) (hw : iv_Wf V) (hC : rk_C C (V 0 6) σ) (hCb : ∀ r s, 0 ≤ C r s ∧ C r s ≤ 999) (hn1 : 1 ≤ V 0 0) (h : ∀ σ', lc_R V (ls_F V C (V 0 0 - 1).toNat 1 (fun _ => 0) 0 none) σ' → (∀ x, x < 83 ∨ 94 < x → σ' x = σ x) → KV σ') : rx_CV L (d + 10) mX3_search [.inr 83, .inr 1, .inr 59] σ KV := by
  have hn := wf_n hw
  have hm := wf_m hw
  refine bX3_search L (d + 9) 1 rfl σ KV ?_
  have e1 : σ 1 = V 0 := ld_C0 hV
  rw [e1]
  have inv : ∀ σ1 : rx_St, (∀ x, x < 83 ∨ 94 < x → σ1 x = σ x) → ld_C 1 V σ1 := fun σ1 hf => ld_Cfr hV (fun c h1 h2 => hf c (by omega))
  have key2 : ∀ (k : Nat) (r : Int) (σ1 : rx_St), 0 ≤ r → r + k = V 0 6 → (∀ x, x < 83 ∨ 94 < x → σ1 x = σ x) → σ1 83 4 = V 0 0 → (∀ p q, 0 ≤ p → p < V 0 0 → 0 ≤ q → q < V 0 0 → 0 ≤ σ1 (87 + p.toNat) q → σ1 (87 + p.toNat) q < r ∧ ((V 7 (σ1 (87 + p.toNat) q) = p ∧ V 8 (σ1 (87 + p.toNat) q) = q) ∨ (V 7 (σ1 (87 + p.toNat) q) = q ∧ V 8 (σ1 (87 + p.toNat) q) = p))) → (∀ s, 0 ≤ s → s < r → σ1 (87 + (V 7 s).toNat) (V 8 s) = s ∧ σ1 (87 + (V 8 s).toNat) (V 7 s) = s) → rx_Go L (d + 10) mX3_search 36 [some (.inr 83), some (.inr 1), some (.inr 59), some (.inl r)] [] σ1 (rx_PV KV) := by
    intro k
    induction k with
    | zero =>
      intro r σ1 r0 hr hf h4 hb1 hb2
      refine bX3_search_36 L (d + 9) 1 rfl r σ1 KV ?_
      rw [ld_C0 (inv σ1 hf), if_pos (by omega)]
      have hext := c_extend (L := L) (d := d + 7 - (V 0 0 - 1).toNat) (σ := σ1) (V := V) (C := C) (bt := fun p q => σ1 (87 + p.toNat) q) hw (fun _ _ _ _ _ _ => rfl) ⟨fun p q p0 p1 q0 q1 hb => ?_, fun s s0 s1 => hb2 s s0 (by omega)⟩ (fun r' s r0 r1 s0 s1 hrs => by rw [hf _ (by omega)]; exact hC r' s r0 r1 s0 s1 hrs) hCb (V 0 0 - 1).toNat 1 (fun _ => 0) 0 none (rx_up (rx_up (rx_up σ1 83 1 2147483647) 85 0 0) 83 3 1) KV (by omega) (by omega) (ls_ok1 hn1) (fun i i0 i1 => ?_) (fun b hb8 => ?_) ?_ ⟨(fun _ => ?_), (fun b q => by cases q)⟩ (by omega) (by omega) (fun y hy => ?_) (fun σ' a1 a2 a3 a4 a5 => ?_)
      · rw [show d + 7 - (V 0 0 - 1).toNat + (V 0 0 - 1).toNat + 2 = d + 9 by omega] at hext
        exact hext
      · have := hb1 p q p0 p1 q0 q1 hb
        exact ⟨show σ1 (87 + p.toNat) q < V 0 6 by omega, this.2⟩
      · rw [up_c (by decide), show i = 0 by omega, up_s]
      · rw [up_s]
        have t1 : ∀ b : Fin 8, tb 1 b.val = decide (b.val = 0) := by decide
        rw [t1 ⟨b, hb8⟩]
        show decide (b = 0) = true ↔ 0 ≤ (if 0 = (b : Int) then (0 : Int) else -1)
        by_cases z : b = 0
        · rw [z]
          decide
        · rw [decide_eq_false z, if_neg (by omega)]
          decide
      · rw [up_i (by decide), up_c (by decide), up_i (by decide)]
        exact h4
      · rw [up_i (by decide), up_c (by decide), up_s]
      · rw [up_c (by omega), up_c (by omega), up_c (by omega)]
      · exact h σ' a1 (fun y hy => by rw [a5 y (by omega)]; exact hf y hy)
    | succ k ih =>
      intro r σ1 r0 hr hf h4 hb1 hb2
      refine bX3_search_36 L (d + 9) 1 rfl r σ1 KV ?_
      have hV1 := inv σ1 hf
      have e7 : σ1 (1 + 7) = V 7 := hV1 7 (by omega)
      have e8 : σ1 (1 + 8) = V 8 := hV1 8 (by omega)
      have qr := wf_r hw r0 (show r < V 0 6 by omega)
      rw [ld_C0 hV1, if_neg (by omega), e7, e8]
      refine ⟨by omega, by omega, fun A8 hA8 _ => ⟨by omega, ?_⟩⟩
      rw [up_c (by omega), up_c (by omega), e7, e8]
      refine ⟨by omega, fun A11 hA11 _ => ⟨by omega, ?_⟩⟩
      subst hA8 hA11
      rw [rx_w_of (by omega) (by omega)]
      -- the cells behind
      have cell : ∀ p q, 0 ≤ p → p < V 0 0 → 0 ≤ q → q < V 0 0 → rx_up (rx_up σ1 (87 + (V 7 r).toNat) (V 8 r) r) (87 + (V 8 r).toNat) (V 7 r) r (87 + p.toNat) q = if (p = V 8 r ∧ q = V 7 r) ∨ (p = V 7 r ∧ q = V 8 r) then r else σ1 (87 + p.toNat) q := by
        intro p q p0 p1 q0 q1
        by_cases z1 : p = V 8 r ∧ q = V 7 r
        · rw [if_pos (Or.inl z1), up_x ⟨by omega, z1.2⟩]
        · rw [up_n (by omega)]
          by_cases z2 : p = V 7 r ∧ q = V 8 r
          · rw [if_pos (Or.inr z2), up_x ⟨by omega, z2.2⟩]
          · rw [if_neg (by omega), up_n (by omega)]
      refine ih (r + 1) _ (by omega) (by omega) (fun y hy => by rw [up_c (by omega), up_c (by omega)]; exact hf y hy) (by rw [up_c (by omega), up_c (by omega)]; exact h4) (fun p q p0 p1 q0 q1 => ?_) (fun s s0 s1 => ?_)
      · rw [cell p q p0 p1 q0 q1]
        by_cases z : (p = V 8 r ∧ q = V 7 r) ∨ (p = V 7 r ∧ q = V 8 r)
        · rw [if_pos z]
          intro _
          omega
        · rw [if_neg z]
          intro hb
          have := hb1 p q p0 p1 q0 q1 hb
          exact ⟨by omega, this.2⟩
      · have qs := wf_r hw s0 (show s < V 0 6 by omega)
        rw [cell _ _ (by omega) (by omega) (by omega) (by omega), cell _ _ (by omega) (by omega) (by omega) (by omega)]
        by_cases e : s = r
        · rw [e, if_pos (Or.inr ⟨rfl, rfl⟩), if_pos (Or.inl ⟨rfl, rfl⟩)]
          exact ⟨rfl, rfl⟩
        · have hne : ¬ (V 7 s = V 7 r ∧ V 8 s = V 8 r) := fun q => e (wf_rr hw s0 (by omega) r0 (by omega) q.1 q.2)
          rw [if_neg (by omega), if_neg (by omega)]
          exact hb2 s s0 (by omega)
  have key1 : ∀ (k : Nat) (p : Int) (σ1 : rx_St), 0 ≤ p → p + k = V 0 0 → (∀ x, x < 83 ∨ 94 < x → σ1 x = σ x) → σ1 83 4 = V 0 0 → (∀ q i, 0 ≤ q → q < p → 0 ≤ i → i < 8 → σ1 (87 + q.toNat) i = -1) → rx_Go L (d + 10) mX3_search 10 [some (.inr 83), some (.inr 1), some (.inr 59), some (.inl p)] [] σ1 (rx_PV KV) := by
    intro k
    induction k with
    | zero =>
      intro p σ1 p0 hp hf h4 hz
      refine bX3_search_10 L (d + 9) 1 rfl p σ1 KV ?_
      rw [h4, if_pos (by omega)]
      refine key2 (V 0 6).toNat 0 σ1 (by omega) (by omega) hf h4 (fun p' q p0 p1 q0 q1 hb => ?_) (fun s s0 s1 => by omega)
      rw [hz p' q p0 (by omega) q0 (by omega)] at hb
      omega
    | succ k ih =>
      intro p σ1 p0 hp hf h4 hz
      refine bX3_search_10 L (d + 9) 1 rfl p σ1 KV ?_
      rw [h4, if_neg (by omega)]
      refine ⟨by omega, fun A2 hA2 _ => ?_⟩
      subst hA2
      have al := al_87 (L := L) (j := p.toNat) (by omega)
      refine c_fill al.1 al.2 (by omega) (fun σ2 hz2 hf2 => ?_)
      rw [rx_w_of (by omega) (by omega)]
      refine ih (p + 1) σ2 (by omega) (by omega) (fun y hy => by rw [hf2 y (by omega)]; exact hf y hy) (by rw [hf2 83 (by omega)]; exact h4) (fun q i q0 q1 i0 i1 => ?_)
      by_cases e : q = p
      · rw [e]
        exact hz2 i i0 i1
      · rw [hf2 _ (by omega)]
        exact hz q i q0 (by omega) i0 i1
  exact key1 (V 0 0).toNat 0 _ (by omega) (by omega) (fun x hx => up_c (by omega)) up_s (fun q i q0 q1 => by omega)
end LNC
