/-! ===== the best line: sums, and the first best row ===== -/
theorem rs_sum_add {f g : Int → Int} : ∀ (k : Nat) (p : Int), rs_sum (fun i => f i + g i) p k = rs_sum f p k + rs_sum g p k
  | 0, _ => rfl
  | k + 1, p => by
    show f p + g p + rs_sum (fun i => f i + g i) (p + 1) k = (f p + rs_sum f (p + 1) k) + (g p + rs_sum g (p + 1) k)
    rw [rs_sum_add k (p + 1)]
    omega
theorem rs_sum_swap {f : Int → Int → Int} {q : Int} {j : Nat} : ∀ (k : Nat) (p : Int), rs_sum (fun a => rs_sum (fun b => f a b) q j) p k = rs_sum (fun b => rs_sum (fun a => f a b) p k) q j
  | 0, _ => (rs_sum_z j q (fun _ _ _ => rfl)).symm
  | k + 1, p => by
    show rs_sum (fun b => f p b) q j + rs_sum (fun a => rs_sum (fun b => f a b) q j) (p + 1) k = rs_sum (fun b => f p b + rs_sum (fun a => f a b) (p + 1) k) q j
    rw [rs_sum_swap k (p + 1), rs_sum_add]
theorem rs_re {a : Int} {k n m : Nat} {b : Int → Int → Int} {w1 w2 : Int → Int} {G : Int → Int} (a0 : 0 ≤ a) (h1 : ∀ i j : Int, a ≤ i → i < a + k → 0 ≤ j → j < n → 0 ≤ b i j → b i j < m ∧ w1 (b i j) = i ∧ w2 (b i j) = j) (h2 : ∀ s : Int, 0 ≤ s → s < m → 0 ≤ w1 s → a ≤ w1 s ∧ w1 s < a + k ∧ 0 ≤ w2 s ∧ w2 s < n ∧ b (w1 s) (w2 s) = s) : rs_sum (fun i => rs_sum (fun j => if 0 ≤ b i j then G (b i j) else 0) 0 n) a k = rs_sum (fun s => if 0 ≤ w1 s then G s else 0) 0 m := by
  have e1 : rs_sum (fun i => rs_sum (fun j => if 0 ≤ b i j then G (b i j) else 0) 0 n) a k = rs_sum (fun i => rs_sum (fun j => rs_sum (fun s => if b i j = s then G s else 0) 0 m) 0 n) a k := by
    refine rs_sum_congr _ _ (fun i i0 i1 => rs_sum_congr _ _ (fun j j0 j1 => ?_))
    show (if 0 ≤ b i j then G (b i j) else 0) = rs_sum (fun s => if b i j = s then G s else 0) 0 m
    by_cases c : 0 ≤ b i j
    · have := h1 i j i0 i1 j0 (by omega) c
      rw [if_pos c, rs_sum_one (q := b i j) c (by omega) (fun s s0 s1 hs => if_neg (fun q => hs q.symm)), if_pos rfl]
    · rw [if_neg c]
      exact (rs_sum_z _ _ (fun s s0 s1 => if_neg (by omega))).symm
  have e2 : rs_sum (fun i => rs_sum (fun j => rs_sum (fun s => if b i j = s then G s else 0) 0 m) 0 n) a k = rs_sum (fun i => rs_sum (fun s => rs_sum (fun j => if b i j = s then G s else 0) 0 n) 0 m) a k := rs_sum_congr _ _ (fun i i0 i1 => rs_sum_swap _ _)
  rw [e1, e2, rs_sum_swap]
  refine rs_sum_congr _ _ (fun s s0 s1 => ?_)
  show rs_sum (fun i => rs_sum (fun j => if b i j = s then G s else 0) 0 n) a k = if 0 ≤ w1 s then G s else 0
  have hz : ∀ i j : Int, a ≤ i → i < a + k → 0 ≤ j → j < n → b i j = s → w1 s = i ∧ w2 s = j := fun i j i0 i1 j0 j1 e => by
    have := h1 i j i0 i1 j0 j1 (by omega)
    rw [e] at this
    exact this.2
  by_cases c : 0 ≤ w1 s
  · obtain ⟨g1, g2, g3, g4, g5⟩ := h2 s s0 (by omega) c
    rw [if_pos c, rs_sum_one (q := w1 s) g1 g2 (fun i i0 i1 hi => rs_sum_z _ _ (fun j j0 j1 => if_neg (fun e => hi (hz i j i0 i1 j0 (by omega) e).1.symm)))]
    rw [rs_sum_one (q := w2 s) g3 (by omega) (fun j j0 j1 hj => if_neg (fun e => hj (hz _ j g1 g2 j0 (by omega) e).2.symm)), if_pos g5]
  · rw [if_neg c]
    exact rs_sum_z _ _ (fun i i0 i1 => rs_sum_z _ _ (fun j j0 j1 => if_neg (fun e => c (by have := (hz i j i0 i1 j0 (by omega) e).1; omega))))
theorem rs_re1 {k m : Nat} {b w : Int → Int} {G : Int → Int} (h1 : ∀ i : Int, 0 ≤ i → i < k → 0 ≤ b i → b i < m ∧ w (b i) = i) (h2 : ∀ s : Int, 0 ≤ s → s < m → 0 ≤ w s → w s < k ∧ b (w s) = s) : rs_sum (fun i => if 0 ≤ b i then G (b i) else 0) 0 k = rs_sum (fun s => if 0 ≤ w s then G s else 0) 0 m := by
  rw [← rs_re (a := 0) (k := k) (n := 1) (b := fun i _ => b i) (w1 := w) (w2 := fun _ => 0) (G := G) (Int.le_refl 0) (fun i j i0 i1 j0 j1 hb => ?_) (fun s s0 s1 hs => ?_)]
  · refine rs_sum_congr _ _ (fun i i0 i1 => ?_)
    show _ = (if 0 ≤ b i then G (b i) else 0) + 0
    rw [Int.add_zero]
  · have := h1 i i0 (by omega) hb
    exact ⟨this.1, this.2, by omega⟩
  · have := h2 s s0 s1 hs
    exact ⟨hs, by omega, by omega, by omega, this.2⟩
/-- the other end -/
def ls_o (V : rx_St) (r p : Int) : Int := if V 7 r = p then V 8 r else V 7 r
/-- a road begun behind i that goes on -/
def ls_on (P : Int → Int) (V : rx_St) (i k s : Int) : Prop := ¬ (P (V 7 s) < 0 ↔ P (V 8 s) < 0) ∧ i < rx_mx (P (V 7 s)) (P (V 8 s)) ∧ rx_mx (P (V 7 s)) (P (V 8 s)) < k
noncomputable def ls_in (P : Int → Int) (V : rx_St) (C : Int → Int → Int) (k p r s : Int) : Int := if bo (ls_on P V (P (ls_o V r p)) k s ∧ ¬ rs_sh V r s) = true then C r s else 0
/-- what is added when p comes to place k -/
noncomputable def ls_cost (P : Int → Int) (V : rx_St) (C : Int → Int → Int) (k p : Int) : Int := rs_sum (fun r => if bo ((V 7 r = p ∨ V 8 r = p) ∧ 0 ≤ P (ls_o V r p)) = true then rs_sum (fun s => ls_in P V C k p r s) 0 (V 0 6).toNat else 0) 0 (V 0 6).toNat
/-- the road between two posts -/
def ls_B (V : rx_St) (bt : Int → Int → Int) : Prop := (∀ p q, 0 ≤ p → p < V 0 0 → 0 ≤ q → q < V 0 0 → 0 ≤ bt p q → bt p q < V 0 6 ∧ ((V 7 (bt p q) = p ∧ V 8 (bt p q) = q) ∨ (V 7 (bt p q) = q ∧ V 8 (bt p q) = p))) ∧ (∀ r, 0 ≤ r → r < V 0 6 → bt (V 7 r) (V 8 r) = r ∧ bt (V 8 r) (V 7 r) = r)
/-- P says where in the row c of k posts a post stands -/
def ls_ok (V : rx_St) (P c : Int → Int) (k : Int) : Prop := (∀ i, 0 ≤ i → i < k → 0 ≤ c i ∧ c i < V 0 0 ∧ P (c i) = i) ∧ (∀ q, 0 ≤ q → q < V 0 0 → 0 ≤ P q → P q < k ∧ c (P q) = q)
noncomputable def ls_cC (P c : Int → Int) (V : rx_St) (C bt : Int → Int → Int) (k p : Int) : Int := rs_sum (fun st => if 0 ≤ bt (c st) p then rs_sum (fun i => rs_sum (fun far => if 0 ≤ bt (c i) far ∧ far ≠ p ∧ P far < 0 then C (bt (c st) p) (bt (c i) far) else 0) 0 (V 0 0).toNat) (st + 1) (k - st - 1).toNat else 0) 0 k.toNat
theorem ls_eq {V : rx_St} {P c : Int → Int} {C bt : Int → Int → Int} {k p : Int} (hw : iv_Wf V) (hB : ls_B V bt) (ho : ls_ok V P c k) (hk : 0 ≤ k) (hp : 0 ≤ p ∧ p < V 0 0) (hP : P p < 0) : ls_cC P c V C bt k p = ls_cost P V C k p := by
  have hn := wf_n hw
  have hm := wf_m hw
  obtain ⟨o1, o2⟩ := ho
  obtain ⟨b1, b2⟩ := hB
  -- the inner sums are one
  have inner : ∀ r, 0 ≤ r → r < V 0 6 → (V 7 r = p ∨ V 8 r = p) → 0 ≤ P (ls_o V r p) → rs_sum (fun i => rs_sum (fun far => if 0 ≤ bt (c i) far ∧ far ≠ p ∧ P far < 0 then C r (bt (c i) far) else 0) 0 (V 0 0).toNat) (P (ls_o V r p) + 1) (k - P (ls_o V r p) - 1).toNat = rs_sum (fun s => ls_in P V C k p r s) 0 (V 0 6).toNat := by
    intro r r0 r1 hf h0
    have qr := wf_r hw r0 r1
    have hoo : (V 7 r = p ∧ ls_o V r p = V 8 r) ∨ (V 7 r ≠ p ∧ V 8 r = p ∧ ls_o V r p = V 7 r) := by
      unfold ls_o
      by_cases e : V 7 r = p
      · rw [if_pos e]
        exact Or.inl ⟨e, rfl⟩
      · rw [if_neg e]
        exact Or.inr ⟨e, hf.resolve_left e, rfl⟩
    have hob : 0 ≤ ls_o V r p ∧ ls_o V r p < V 0 0 := by omega
    have hopk := o2 _ hob.1 hob.2 h0
    have e1 : rs_sum (fun i => rs_sum (fun far => if 0 ≤ bt (c i) far ∧ far ≠ p ∧ P far < 0 then C r (bt (c i) far) else 0) 0 (V 0 0).toNat) (P (ls_o V r p) + 1) (k - P (ls_o V r p) - 1).toNat = rs_sum (fun i => rs_sum (fun far => if 0 ≤ (if far ≠ p ∧ P far < 0 then bt (c i) far else -1) then C r (if far ≠ p ∧ P far < 0 then bt (c i) far else -1) else 0) 0 (V 0 0).toNat) (P (ls_o V r p) + 1) (k - P (ls_o V r p) - 1).toNat := by
      refine rs_sum_congr _ _ (fun i i0 i1 => rs_sum_congr _ _ (fun far f0 f1 => ?_))
      by_cases z : far ≠ p ∧ P far < 0
      · simp only [if_pos z]
        by_cases y : 0 ≤ bt (c i) far
        · rw [if_pos ⟨y, z⟩, if_pos y]
        · rw [if_neg (fun q => y q.1), if_neg y]
      · simp only [if_neg z]
        rw [if_neg (fun q => z q.2), if_neg (by decide)]
    have e2 : rs_sum (fun s => ls_in P V C k p r s) 0 (V 0 6).toNat = rs_sum (fun s => if 0 ≤ (if bo (ls_on P V (P (ls_o V r p)) k s ∧ ¬ rs_sh V r s) = true then rx_mx (P (V 7 s)) (P (V 8 s)) else -1) then C r s else 0) 0 (V 0 6).toNat := by
      refine rs_sum_congr _ _ (fun s s0 s1 => ?_)
      unfold ls_in
      by_cases z : bo (ls_on P V (P (ls_o V r p)) k s ∧ ¬ rs_sh V r s) = true
      · rw [if_pos z, if_pos z, if_pos (by have := (bo_of z).1.2.1; omega)]
      · rw [if_neg z, if_neg z, if_neg (by decide)]
    rw [e1, e2]
    refine rs_re (w2 := fun s => if P (V 7 s) < 0 then V 7 s else V 8 s) (G := fun s => C r s) (by omega) (fun i far i0 i1 f0 f1 hb => ?_) (fun s s0 s1 hs => ?_)
    · by_cases z : far ≠ p ∧ P far < 0
      · rw [if_pos z] at hb ⊢
        have ci := o1 i (by omega) (by omega)
        obtain ⟨g1, g2⟩ := b1 (c i) far ci.1 ci.2.1 f0 (by omega) hb
        have hne : c i ≠ far := fun e => by rw [← e, ci.2.2] at z; omega
        have hno : c i ≠ ls_o V r p := fun e => by rw [← e, ci.2.2] at i0; omega
        have hnp : c i ≠ p := fun e => by rw [← e, ci.2.2] at hP; omega
        have hfo : far ≠ ls_o V r p := fun e => by rw [← e] at h0; omega
        have hmx : rx_mx (P (V 7 (bt (c i) far))) (P (V 8 (bt (c i) far))) = i ∧ ¬ (P (V 7 (bt (c i) far)) < 0 ↔ P (V 8 (bt (c i) far)) < 0) ∧ (if P (V 7 (bt (c i) far)) < 0 then V 7 (bt (c i) far) else V 8 (bt (c i) far)) = far := by
          rcases g2 with ⟨e1, e2⟩ | ⟨e1, e2⟩
          · rw [e1, e2, ci.2.2]
            unfold rx_mx
            refine ⟨by split <;> omega, by omega, if_neg (by omega)⟩
          · rw [e1, e2, ci.2.2]
            unfold rx_mx
            refine ⟨by split <;> omega, by omega, if_pos z.2⟩
        have hb' : bo (ls_on P V (P (ls_o V r p)) k (bt (c i) far) ∧ ¬ rs_sh V r (bt (c i) far)) = true := by
          refine bo_t ⟨⟨hmx.2.1, by rw [hmx.1]; omega, by rw [hmx.1]; omega⟩, ?_⟩
          unfold rs_sh
          omega
        refine ⟨by omega, ?_, hmx.2.2⟩
        rw [if_pos hb']
        exact hmx.1
      · rw [if_neg z] at hb
        omega
    · by_cases z : bo (ls_on P V (P (ls_o V r p)) k s ∧ ¬ rs_sh V r s) = true
      · rw [if_pos z] at hs ⊢
        obtain ⟨⟨y1, y2, y3⟩, y4⟩ := bo_of z
        have qs := wf_r hw s0 (show s < V 0 6 by omega)
        have b3 := b2 s s0 (by omega)
        have y4' : ¬ (V 7 r = V 7 s ∨ V 7 r = V 8 s ∨ V 8 r = V 7 s ∨ V 8 r = V 8 s) := y4
        show P (ls_o V r p) + 1 ≤ _ ∧ _ ∧ 0 ≤ (if P (V 7 s) < 0 then V 7 s else V 8 s) ∧ (if P (V 7 s) < 0 then V 7 s else V 8 s) < _ ∧ (if (if P (V 7 s) < 0 then V 7 s else V 8 s) ≠ p ∧ P (if P (V 7 s) < 0 then V 7 s else V 8 s) < 0 then bt (c (rx_mx (P (V 7 s)) (P (V 8 s)))) (if P (V 7 s) < 0 then V 7 s else V 8 s) else -1) = s
        by_cases x : P (V 7 s) < 0
        · have e : rx_mx (P (V 7 s)) (P (V 8 s)) = P (V 8 s) := by unfold rx_mx; split <;> omega
          rw [e] at y2 y3 ⊢
          have := o2 (V 8 s) (by omega) (by omega) (by omega)
          simp only [if_pos x]
          refine ⟨by omega, by omega, by omega, by omega, ?_⟩
          rw [if_pos ⟨by omega, x⟩, this.2]
          exact b3.2
        · have e : rx_mx (P (V 7 s)) (P (V 8 s)) = P (V 7 s) := by unfold rx_mx; split <;> omega
          rw [e] at y2 y3 ⊢
          have := o2 (V 7 s) (by omega) (by omega) (by omega)
          simp only [if_neg x]
          refine ⟨by omega, by omega, by omega, by omega, ?_⟩
          rw [if_pos ⟨by omega, by omega⟩, this.2]
          exact b3.1
      · rw [if_neg z] at hs
        omega
  -- the outer sums
  let w : Int → Int := fun r => if (V 7 r = p ∨ V 8 r = p) then P (ls_o V r p) else -1
  let G : Int → Int := fun r => rs_sum (fun i => rs_sum (fun far => if 0 ≤ bt (c i) far ∧ far ≠ p ∧ P far < 0 then C r (bt (c i) far) else 0) 0 (V 0 0).toNat) (w r + 1) (k - w r - 1).toNat
  have hst : ∀ st, 0 ≤ st → st < k → 0 ≤ bt (c st) p → bt (c st) p < V 0 6 ∧ w (bt (c st) p) = st := by
    intro st s0 s1 hb
    have cs := o1 st s0 s1
    obtain ⟨g1, g2⟩ := b1 (c st) p cs.1 cs.2.1 hp.1 hp.2 hb
    have hnp : c st ≠ p := fun e => by rw [← e, cs.2.2] at hP; omega
    refine ⟨g1, ?_⟩
    show (if (V 7 (bt (c st) p) = p ∨ V 8 (bt (c st) p) = p) then P (ls_o V (bt (c st) p) p) else -1) = st
    unfold ls_o
    rcases g2 with ⟨e1, e2⟩ | ⟨e1, e2⟩
    · rw [e1, e2, if_pos (Or.inr rfl), if_neg hnp]
      exact cs.2.2
    · rw [e1, e2, if_pos (Or.inl rfl), if_pos rfl]
      exact cs.2.2
  have f1 : ls_cC P c V C bt k p = rs_sum (fun st => if 0 ≤ bt (c st) p then G (bt (c st) p) else 0) 0 k.toNat := by
    unfold ls_cC
    refine rs_sum_congr _ _ (fun st s0 s1 => ?_)
    show (if 0 ≤ bt (c st) p then _ else 0) = (if 0 ≤ bt (c st) p then _ else 0)
    by_cases z : 0 ≤ bt (c st) p
    · rw [if_pos z, if_pos z]
      show _ = rs_sum (fun i => rs_sum (fun far => if 0 ≤ bt (c i) far ∧ far ≠ p ∧ P far < 0 then C (bt (c st) p) (bt (c i) far) else 0) 0 (V 0 0).toNat) (w (bt (c st) p) + 1) (k - w (bt (c st) p) - 1).toNat
      rw [(hst st s0 (by omega) z).2]
    · rw [if_neg z, if_neg z]
  rw [f1, rs_re1 (w := w) (m := (V 0 6).toNat) (fun st s0 s1 hb => ?_) (fun r r0 r1 hr => ?_)]
  · unfold ls_cost
    refine rs_sum_congr _ _ (fun r r0 r1 => ?_)
    show (if 0 ≤ w r then G r else 0) = _
    by_cases z : V 7 r = p ∨ V 8 r = p
    · have ew : w r = P (ls_o V r p) := if_pos z
      by_cases y : 0 ≤ P (ls_o V r p)
      · rw [if_pos (by omega), if_pos (bo_t ⟨z, y⟩)]
        show rs_sum _ (w r + 1) (k - w r - 1).toNat = _
        rw [ew]
        exact inner r r0 (by omega) z y
      · rw [if_neg (by omega), if_neg (by rw [bo_f (fun q => y q.2)]; decide)]
    · have ew : w r = -1 := if_neg z
      rw [if_neg (by omega), if_neg (by rw [bo_f (fun q => z q.1)]; decide)]
  · have := hst st s0 (by omega) hb
    exact ⟨by omega, this.2⟩
  · have hr' : 0 ≤ (if (V 7 r = p ∨ V 8 r = p) then P (ls_o V r p) else -1) := hr
    have qr := wf_r hw r0 (show r < V 0 6 by omega)
    have b3 := b2 r r0 (by omega)
    show (if (V 7 r = p ∨ V 8 r = p) then P (ls_o V r p) else -1) < _ ∧ bt (c (if (V 7 r = p ∨ V 8 r = p) then P (ls_o V r p) else -1)) p = r
    by_cases z : V 7 r = p ∨ V 8 r = p
    · rw [if_pos z] at hr' ⊢
      unfold ls_o at hr' ⊢
      by_cases e : V 7 r = p
      · rw [if_pos e] at hr' ⊢
        have := o2 (V 8 r) (by omega) (by omega) hr'
        rw [this.2]
        refine ⟨by omega, ?_⟩
        rw [e] at b3
        exact b3.2
      · rw [if_neg e] at hr' ⊢
        have e2 := z.resolve_left e
        have := o2 (V 7 r) (by omega) (by omega) hr'
        rw [this.2]
        refine ⟨by omega, ?_⟩
        rw [e2] at b3
        exact b3.1
    · rw [if_neg z] at hr'
      omega
/-- the row where a post stands, of the first k -/
def ls_P (c : Int → Int) : Nat → Int → Int
  | 0, _ => -1
  | k + 1, p => if c k = p then k else ls_P c k p
theorem ls_P_congr {c e : Int → Int} : ∀ (k : Nat) (p : Int), (∀ i : Int, 0 ≤ i → i < k → c i = e i) → ls_P c k p = ls_P e k p
  | 0, _, _ => rfl
  | k + 1, p, h => by
    unfold ls_P
    rw [h k (by omega) (by omega), ls_P_congr k p (fun i i0 i1 => h i i0 (by omega))]
theorem ls_P_put {c : Int → Int} {k : Int} (hk : 0 ≤ k) (g p : Int) : ls_P (pg_put c k g) (k + 1).toNat p = if p = g then k else ls_P c k.toNat p := by
  rw [show (k + 1).toNat = k.toNat + 1 by omega]
  show (if pg_put c k g (k.toNat : Int) = p then ((k.toNat : Nat) : Int) else ls_P (pg_put c k g) k.toNat p) = _
  rw [show ((k.toNat : Nat) : Int) = k by omega, show pg_put c k g k = g from if_pos rfl]
  by_cases e : g = p
  · rw [if_pos e, if_pos e.symm]
  · rw [if_neg e, if_neg (fun q => e q.symm)]
    exact ls_P_congr _ _ (fun i i0 i1 => (if_neg (by omega) : pg_put c k g i = c i))
theorem ls_ok_put {V : rx_St} {c : Int → Int} {k g : Int} (hk : 0 ≤ k) (hg : 0 ≤ g ∧ g < V 0 0) (h : ls_ok V (ls_P c k.toNat) c k) (hn : ls_P c k.toNat g < 0) : ls_ok V (ls_P (pg_put c k g) (k + 1).toNat) (pg_put c k g) (k + 1) := by
  refine ⟨fun i i0 i1 => ?_, fun q q0 q1 hq => ?_⟩
  · rw [ls_P_put hk]
    by_cases e : i = k
    · rw [e, show pg_put c k g k = g from if_pos rfl, if_pos rfl]
      exact ⟨hg.1, hg.2, rfl⟩
    · have := h.1 i i0 (by omega)
      rw [show pg_put c k g i = c i from if_neg e]
      refine ⟨this.1, this.2.1, ?_⟩
      rw [if_neg (fun q => by rw [← q, this.2.2] at hn; omega)]
      exact this.2.2
  · rw [ls_P_put hk] at hq ⊢
    by_cases e : q = g
    · rw [if_pos e, show pg_put c k g k = g from if_pos rfl]
      exact ⟨by omega, e.symm⟩
    · rw [if_neg e] at hq ⊢
      have := h.2 q q0 q1 hq
      rw [show pg_put c k g (ls_P c k.toNat q) = c (ls_P c k.toNat q) from if_neg (by omega)]
      exact ⟨by omega, this.2⟩
theorem ls_cost_b {V : rx_St} {P : Int → Int} {C : Int → Int → Int} {k p : Int} (hw : iv_Wf V) (hC : ∀ r s, 0 ≤ C r s ∧ C r s ≤ 999) : 0 ≤ ls_cost P V C k p ∧ ls_cost P V C k p ≤ 323676 := by
  have hm := wf_m hw
  have hi : ∀ r s, 0 ≤ ls_in P V C k p r s ∧ ls_in P V C k p r s ≤ 999 := fun r s => by
    have := hC r s
    unfold ls_in
    split <;> omega
  have h1 : ∀ r, 0 ≤ rs_sum (fun s => ls_in P V C k p r s) 0 (V 0 6).toNat ∧ rs_sum (fun s => ls_in P V C k p r s) 0 (V 0 6).toNat ≤ 17982 := fun r => by
    refine ⟨rs_sum_nn _ _ (fun s _ _ => (hi r s).1), ?_⟩
    have := rs_sum_le (f := fun s => ls_in P V C k p r s) (B := 999) (V 0 6).toNat 0 (fun s _ _ => (hi r s).2)
    omega
  unfold ls_cost
  refine ⟨rs_sum_nn _ _ (fun r _ _ => ?_), ?_⟩
  · have := h1 r
    by_cases z : bo ((V 7 r = p ∨ V 8 r = p) ∧ 0 ≤ P (ls_o V r p)) = true
    · simp only [if_pos z]
      exact this.1
    · simp only [if_neg z]
      exact Int.le_refl 0
  · have := rs_sum_le (f := fun r => if bo ((V 7 r = p ∨ V 8 r = p) ∧ 0 ≤ P (ls_o V r p)) = true then rs_sum (fun s => ls_in P V C k p r s) 0 (V 0 6).toNat else 0) (B := 17982) (V 0 6).toNat 0 (fun r _ _ => by
      have := h1 r
      by_cases z : bo ((V 7 r = p ∨ V 8 r = p) ∧ 0 ≤ P (ls_o V r p)) = true
      · simp only [if_pos z]
        exact this.2
      · simp only [if_neg z]
        decide)
    omega
/-- the search: what is best so far goes through -/
def ls_T (F : Int → Option (Int × (Int → Int)) → Option (Int × (Int → Int))) : Nat → Int → Option (Int × (Int → Int)) → Option (Int × (Int → Int))
  | 0, _, B => B
  | n + 1, g, B => ls_T F n (g + 1) (F g B)
def ls_less (x : Int) : Option (Int × (Int → Int)) → Prop
  | none => True
  | some b => x < b.1
noncomputable def ls_F (V : rx_St) (C : Int → Int → Int) : Nat → Int → (Int → Int) → Int → Option (Int × (Int → Int)) → Option (Int × (Int → Int))
  | 0, _, c, x, _ => some (x, c)
  | j + 1, k, c, x, B => ls_T (fun g B => if 0 ≤ ls_P c k.toNat g then B else if bo (ls_less (x + ls_cost (ls_P c k.toNat) V C k g) B) = true then ls_F V C j (k + 1) (pg_put c k g) (x + ls_cost (ls_P c k.toNat) V C k g) B else B) (V 0 0 - 1).toNat 1 B
