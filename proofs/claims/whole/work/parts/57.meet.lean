section GEO3
variable {a1 a2 b1 b2 c1 c2 d1 d2 : Int}
theorem geo (hab : a1 ≠ b1 ∨ a2 ≠ b2) (hcd : c1 ≠ d1 ∨ c2 ≠ d2) (hac : a1 ≠ c1 ∨ a2 ≠ c2) (had : a1 ≠ d1 ∨ a2 ≠ d2) (hbc : b1 ≠ c1 ∨ b2 ≠ c2) (hbd : b1 ≠ d1 ∨ b2 ≠ d2) :
    (¬ ap a1 b1 c1 d1 ∧ ¬ ap a2 b2 c2 d2 ∧ sd a1 a2 b1 b2 c1 c2 * sd a1 a2 b1 b2 d1 d2 ≤ 0 ∧ sd c1 c2 d1 d2 a1 a2 * sd c1 c2 d1 d2 b1 b2 ≤ 0) ↔
    ((sd a1 a2 b1 b2 c1 c2 * sd a1 a2 b1 b2 d1 d2 < 0 ∧ sd c1 c2 d1 d2 a1 a2 * sd c1 c2 d1 d2 b1 b2 < 0) ∨ (sd a1 a2 b1 b2 c1 c2 = 0 ∧ btw c1 a1 b1 ∧ btw c2 a2 b2) ∨ (sd a1 a2 b1 b2 d1 d2 = 0 ∧ btw d1 a1 b1 ∧ btw d2 a2 b2) ∨ (sd c1 c2 d1 d2 a1 a2 = 0 ∧ btw a1 c1 d1 ∧ btw a2 c2 d2) ∨ (sd c1 c2 d1 d2 b1 b2 = 0 ∧ btw b1 c1 d1 ∧ btw b2 c2 d2)) := by
  constructor
  · rintro ⟨hx, hy, h12, h34⟩
    by_cases z1 : sd a1 a2 b1 b2 c1 c2 = 0
    · by_cases z2 : sd a1 a2 b1 b2 d1 d2 = 0
      · rcases geo_C z1 z2 hab hx hy with g | g | g
        · exact Or.inr (Or.inl ⟨z1, g⟩)
        · exact Or.inr (Or.inr (Or.inl ⟨z2, g⟩))
        · exact Or.inr (Or.inr (Or.inr (Or.inl g)))
      · exact Or.inr (Or.inl ⟨z1, geo_I z1 z2 h34 hac hbc⟩)
    · by_cases z2 : sd a1 a2 b1 b2 d1 d2 = 0
      · refine Or.inr (Or.inr (Or.inl ⟨z2, geo_I z2 z1 ?_ had hbd⟩))
        rw [sd_rev (c1 := c1), sd_rev (c1 := c1), Int.neg_mul_neg]
        exact h34
      · have l12 : sd a1 a2 b1 b2 c1 c2 * sd a1 a2 b1 b2 d1 d2 < 0 := by
          rcases Int.lt_or_eq_of_le h12 with g | g
          · exact g
          · rcases Int.mul_eq_zero.mp g with k | k
            · exact absurd k z1
            · exact absurd k z2
        by_cases z3 : sd c1 c2 d1 d2 a1 a2 = 0
        · by_cases z4 : sd c1 c2 d1 d2 b1 b2 = 0
          · rcases geo_C z3 z4 hcd (ap_sym hx) (ap_sym hy) with g | g | g
            · exact Or.inr (Or.inr (Or.inr (Or.inl ⟨z3, g⟩)))
            · exact Or.inr (Or.inr (Or.inr (Or.inr ⟨z4, g⟩)))
            · exact absurd g.1 z1
          · exact Or.inr (Or.inr (Or.inr (Or.inl ⟨z3, geo_I z3 z4 h12 (by omega) (by omega)⟩)))
        · by_cases z4 : sd c1 c2 d1 d2 b1 b2 = 0
          · refine Or.inr (Or.inr (Or.inr (Or.inr ⟨z4, geo_I z4 z3 ?_ (by omega) (by omega)⟩)))
            rw [sd_rev (c1 := a1), sd_rev (c1 := a1), Int.neg_mul_neg]
            exact h12
          · refine Or.inl ⟨l12, ?_⟩
            rcases Int.lt_or_eq_of_le h34 with g | g
            · exact g
            · rcases Int.mul_eq_zero.mp g with k | k
              · exact absurd k z3
              · exact absurd k z4
  · rintro (⟨p1, p2⟩ | ⟨z, k1, k2⟩ | ⟨z, k1, k2⟩ | ⟨z, k1, k2⟩ | ⟨z, k1, k2⟩)
    · have q1 := geo_P1 p1 p2
      have q2 := geo_P1 p2 p1
      have p1' : sd a2 a1 b2 b1 c2 c1 * sd a2 a1 b2 b1 d2 d1 < 0 := by
        rw [sd_swap (a1 := a1), sd_swap (a1 := a1), Int.neg_mul_neg]
        exact p1
      have p2' : sd c2 c1 d2 d1 a2 a1 * sd c2 c1 d2 d1 b2 b1 < 0 := by
        rw [sd_swap (a1 := c1), sd_swap (a1 := c1), Int.neg_mul_neg]
        exact p2
      have q3 := geo_P1 p1' p2'
      have q4 := geo_P1 p2' p1'
      refine ⟨?_, ?_, by omega, by omega⟩
      · unfold ap
        omega
      · unfold ap
        omega
    · refine ⟨?_, ?_, ?_, geo_J z k1 k2⟩
      · unfold btw at k1
        unfold ap
        omega
      · unfold btw at k2
        unfold ap
        omega
      · rw [z, Int.zero_mul]
        exact Int.le_refl 0
    · refine ⟨?_, ?_, ?_, ?_⟩
      · unfold btw at k1
        unfold ap
        omega
      · unfold btw at k2
        unfold ap
        omega
      · rw [z, Int.mul_zero]
        exact Int.le_refl 0
      · have := geo_J (d1 := c1) (d2 := c2) z k1 k2
        rw [sd_rev (c1 := c1), sd_rev (c1 := c1), Int.neg_mul_neg] at this
        exact this
    · refine ⟨?_, ?_, geo_J z k1 k2, ?_⟩
      · unfold btw at k1
        unfold ap
        omega
      · unfold btw at k2
        unfold ap
        omega
      · rw [z, Int.zero_mul]
        exact Int.le_refl 0
    · refine ⟨?_, ?_, ?_, ?_⟩
      · unfold btw at k1
        unfold ap
        omega
      · unfold btw at k2
        unfold ap
        omega
      · have := geo_J (d1 := a1) (d2 := a2) z k1 k2
        rw [sd_rev (c1 := a1), sd_rev (c1 := a1), Int.neg_mul_neg] at this
        exact this
      · rw [z, Int.mul_zero]
        exact Int.le_refl 0
/-- small coordinates: what is worked out doesn't wrap -/
theorem sd_b (ha1 : 0 ≤ a1 ∧ a1 < 100) (ha2 : 0 ≤ a2 ∧ a2 < 100) (hb1 : 0 ≤ b1 ∧ b1 < 100) (hb2 : 0 ≤ b2 ∧ b2 < 100) (hc1 : 0 ≤ c1 ∧ c1 < 100) (hc2 : 0 ≤ c2 ∧ c2 < 100) : (-9801 ≤ (b1 - a1) * (c2 - a2) ∧ (b1 - a1) * (c2 - a2) ≤ 9801) ∧ (-9801 ≤ (b2 - a2) * (c1 - a1) ∧ (b2 - a2) * (c1 - a1) ≤ 9801) := by
  have key : ∀ x y : Int, -99 ≤ x → x ≤ 99 → -99 ≤ y → y ≤ 99 → -9801 ≤ x * y ∧ x * y ≤ 9801 := by
    intro x y x0 x1 y0 y1
    have p1 := Int.mul_nonneg (show 0 ≤ 99 - x by omega) (show 0 ≤ 99 - y by omega)
    have p2 := Int.mul_nonneg (show 0 ≤ 99 + x by omega) (show 0 ≤ 99 + y by omega)
    have p3 := Int.mul_nonneg (show 0 ≤ 99 - x by omega) (show 0 ≤ 99 + y by omega)
    have p4 := Int.mul_nonneg (show 0 ≤ 99 + x by omega) (show 0 ≤ 99 - y by omega)
    have e1 : (99 - x) * (99 - y) = 9801 - 99 * x - 99 * y + x * y := by grind
    have e2 : (99 + x) * (99 + y) = 9801 + 99 * x + 99 * y + x * y := by grind
    have e3 : (99 - x) * (99 + y) = 9801 - 99 * x + 99 * y - x * y := by grind
    have e4 : (99 + x) * (99 - y) = 9801 + 99 * x - 99 * y - x * y := by grind
    omega
  exact ⟨key _ _ (by omega) (by omega) (by omega) (by omega), key _ _ (by omega) (by omega) (by omega) (by omega)⟩
theorem prod_b {x y : Int} (hx : -19602 ≤ x ∧ x ≤ 19602) (hy : -19602 ≤ y ∧ y ≤ 19602) : -2147483648 ≤ x * y ∧ x * y < 2147483648 := by
  have p1 := Int.mul_nonneg (show 0 ≤ 19602 - x by omega) (show 0 ≤ 19602 - y by omega)
  have p2 := Int.mul_nonneg (show 0 ≤ 19602 + x by omega) (show 0 ≤ 19602 + y by omega)
  have p3 := Int.mul_nonneg (show 0 ≤ 19602 - x by omega) (show 0 ≤ 19602 + y by omega)
  have p4 := Int.mul_nonneg (show 0 ≤ 19602 + x by omega) (show 0 ≤ 19602 - y by omega)
  have e1 : (19602 - x) * (19602 - y) = 384238404 - 19602 * x - 19602 * y + x * y := by grind
  have e2 : (19602 + x) * (19602 + y) = 384238404 + 19602 * x + 19602 * y + x * y := by grind
  have e3 : (19602 - x) * (19602 + y) = 384238404 - 19602 * x + 19602 * y - x * y := by grind
  have e4 : (19602 + x) * (19602 - y) = 384238404 + 19602 * x - 19602 * y - x * y := by grind
  omega
end GEO3
/-- a word for whether -/
noncomputable def bo (P : Prop) : Bool := @decide P (Classical.propDecidable P)
theorem bo_t {P : Prop} (h : P) : bo P = true := @decide_eq_true P (Classical.propDecidable P) h
theorem bo_f {P : Prop} (h : ¬ P) : bo P = false := @decide_eq_false P (Classical.propDecidable P) h
theorem bo_of {P : Prop} (h : bo P = true) : P := @of_decide_eq_true P (Classical.propDecidable P) h
theorem bo_no {P : Prop} (h : bo P = false) : ¬ P := fun g => by rw [bo_t g] at h; cases h
theorem bo_iff {P R : Prop} (h : P ↔ R) : bo P = bo R := by rw [propext h]
def b01 (b : Bool) : Int := if b = true then 1 else 0
theorem b01_b (b : Bool) : 0 ≤ b01 b ∧ b01 b ≤ 1 := by unfold b01; split <;> omega
/-! how two roads meet -/
def rs_sd (V : rx_St) (a b c : Int) : Int := sd (V 1 a) (V 2 a) (V 1 b) (V 2 b) (V 1 c) (V 2 c)
def rs_sh (V : rx_St) (r s : Int) : Prop := V 7 r = V 7 s ∨ V 7 r = V 8 s ∨ V 8 r = V 7 s ∨ V 8 r = V 8 s
def rs_mS (V : rx_St) (a b c d : Int) : Prop := ¬ ap (V 1 a) (V 1 b) (V 1 c) (V 1 d) ∧ ¬ ap (V 2 a) (V 2 b) (V 2 c) (V 2 d) ∧ rs_sd V a b c * rs_sd V a b d ≤ 0 ∧ rs_sd V c d a * rs_sd V c d b ≤ 0
/-- strictly within two places -/
def rs_in (p a b : Int) : Prop := (a < p ∧ p < b) ∨ (b < p ∧ p < a)
def rs_mL (P : Int → Int) (V : rx_St) (r s : Int) : Prop := ¬ (rs_in (P (V 7 s)) (P (V 7 r)) (P (V 8 r)) ↔ rs_in (P (V 8 s)) (P (V 7 r)) (P (V 8 r)))
/-- the layer from which a road goes to the next one; -1 -/
def rs_up (V : rx_St) (r : Int) : Int := if V 3 (V 7 r) = V 3 (V 8 r) + 1 then V 3 (V 8 r) else if V 3 (V 8 r) = V 3 (V 7 r) + 1 then V 3 (V 7 r) else -1
/-- a road's end in a layer -/
def rs_end (V : rx_St) (r l : Int) : Int := if V 3 (V 7 r) = l then V 7 r else V 8 r
def rs_mY (P : Int → Int) (V : rx_St) (r s : Int) : Prop := 0 ≤ rs_up V r ∧ rs_up V r = rs_up V s ∧ ¬ (P (rs_end V r (rs_up V r)) < P (rs_end V s (rs_up V r)) ↔ P (rs_end V r (rs_up V r + 1)) < P (rs_end V s (rs_up V r + 1)))
/-- whether two roads meet: 0 straight, 1 in the book, 2 in layers; P says where posts stand in the line -/
noncomputable def rs_meet (P : Int → Int) (V : rx_St) (w r s : Int) : Bool := bo (¬ rs_sh V r s ∧ (if w = 0 then rs_mS V (V 7 r) (V 8 r) (V 7 s) (V 8 s) else if w = 1 then V 10 r = V 10 s ∧ rs_mL P V r s else rs_mY P V r s))
section MEET
variable {L d : Nat} {σ V T : rx_St} {K : Int → rx_St → Prop} {KV : rx_St → Prop}
theorem c_shareEnd {A : Nat} (hA : rx_isO 1 A = true) (hV : ld_C A V σ) {r s : Int} (hr : 0 ≤ r ∧ r < 18) (hs : 0 ≤ s ∧ s < 18) (h1 : rs_sh V r s → K 1 σ) (h0 : ¬ rs_sh V r s → K 0 σ) : rx_CI L d mX1_shareEnd [.inr A, .inl r, .inl s] σ K := by
  refine bX1_shareEnd L d A hA r s σ K ⟨hr, hs, ?_⟩
  rw [hV 7 (by omega), hV 8 (by omega)]
  unfold rs_sh at h1 h0
  by_cases c1 : V 7 r = V 7 s
  · rw [if_pos c1]
    exact h1 (Or.inl c1)
  rw [if_neg c1]
  by_cases c2 : V 7 r = V 8 s
  · rw [if_pos c2]
    exact h1 (Or.inr (Or.inl c2))
  rw [if_neg c2]
  by_cases c3 : V 8 r = V 7 s
  · rw [if_pos c3]
    exact h1 (Or.inr (Or.inr (Or.inl c3)))
  rw [if_neg c3]
  by_cases c4 : V 8 r = V 8 s
  · rw [if_neg (fun q => q c4)]
    exact h1 (Or.inr (Or.inr (Or.inr c4)))
  · rw [if_pos c4]
    exact h0 (by omega)
theorem c_areApart {a b c e : Int} (h1 : ap a b c e → K 1 σ) (h0 : ¬ ap a b c e → K 0 σ) : rx_CI L d mX1_areApart [.inl a, .inl b, .inl c, .inl e] σ K := by
  refine bX1_areApart L d a b c e σ K ?_
  unfold ap at h1 h0
  repeat' split
  all_goals first | exact h1 (by omega) | exact h0 (by omega)
theorem c_side {A : Nat} (hA : rx_isO 1 A = true) (hV : ld_C A V σ) (hw : iv_Wf V) {a b c : Int} (ha : 0 ≤ a ∧ a < V 0 0) (hb : 0 ≤ b ∧ b < V 0 0) (hc : 0 ≤ c ∧ c < V 0 0) (h : K (rs_sd V a b c) σ) : rx_CI L d mX1_side [.inr A, .inl a, .inl b, .inl c] σ K := by
  have hn := wf_n hw
  have pa := (wf_p hw ha.1 ha.2).1
  have pb := (wf_p hw hb.1 hb.2).1
  have pc := (wf_p hw hc.1 hc.2).1
  refine bX1_side L d A hA a b c σ K ⟨by omega, by omega, by omega, ?_⟩
  rw [hV 1 (by omega), hV 2 (by omega)]
  obtain ⟨q1, q2⟩ := sd_b pa.1 pa.2.1 pb.1 pb.2.1 pc.1 pc.2.1
  rw [rx_w_of (x := V 1 b - V 1 a) (by omega) (by omega), rx_w_of (x := V 2 c - V 2 a) (by omega) (by omega), rx_w_of (x := V 2 b - V 2 a) (by omega) (by omega), rx_w_of (x := V 1 c - V 1 a) (by omega) (by omega), rx_w_of (x := (V 1 b - V 1 a) * (V 2 c - V 2 a)) (by omega) (by omega), rx_w_of (x := (V 2 b - V 2 a) * (V 1 c - V 1 a)) (by omega) (by omega), rx_w_of (by omega) (by omega)]
  exact h
theorem rs_sd_b (hw : iv_Wf V) {a b c : Int} (ha : 0 ≤ a ∧ a < V 0 0) (hb : 0 ≤ b ∧ b < V 0 0) (hc : 0 ≤ c ∧ c < V 0 0) : -19602 ≤ rs_sd V a b c ∧ rs_sd V a b c ≤ 19602 := by
  have pa := (wf_p hw ha.1 ha.2).1
  have pb := (wf_p hw hb.1 hb.2).1
  have pc := (wf_p hw hc.1 hc.2).1
  obtain ⟨q1, q2⟩ := sd_b pa.1 pa.2.1 pb.1 pb.2.1 pc.1 pc.2.1
  unfold rs_sd sd
  omega
theorem c_meetStraight {A : Nat} (hA : rx_isO 1 A = true) (hV : ld_C A V σ) (hw : iv_Wf V) {a b c e : Int} (ha : 0 ≤ a ∧ a < V 0 0) (hb : 0 ≤ b ∧ b < V 0 0) (hc : 0 ≤ c ∧ c < V 0 0) (he : 0 ≤ e ∧ e < V 0 0) (h1 : rs_mS V a b c e → K 1 σ) (h0 : ¬ rs_mS V a b c e → K 0 σ) : rx_CI L (d + 1) mX1_meetStraight [.inr A, .inl a, .inl b, .inl c, .inl e] σ K := by
  have hn := wf_n hw
  refine bX1_meetStraight L d A hA a b c e σ K ⟨by omega, by omega, by omega, by omega, ?_⟩
  rw [hV 1 (by omega)]
  refine c_areApart (fun g => ?_) (fun g => ?_)
  · rw [if_pos (by decide)]
    exact h0 (fun q => q.1 g)
  rw [if_neg (by decide), hV 2 (by omega)]
  refine c_areApart (fun g2 => ?_) (fun g2 => ?_)
  · rw [if_pos (by decide)]
    exact h0 (fun q => q.2.1 g2)
  rw [if_neg (by decide)]
  refine c_side hA hV hw ha hb hc ?_
  refine c_side hA hV hw ha hb he ?_
  have p1 := prod_b (rs_sd_b hw ha hb hc) (rs_sd_b hw ha hb he)
  have p2 := prod_b (rs_sd_b hw hc he ha) (rs_sd_b hw hc he hb)
  rw [rx_w_of (x := rs_sd V a b c * rs_sd V a b e) p1.1 p1.2]
  by_cases g3 : rs_sd V a b c * rs_sd V a b e ≤ 0
  · rw [if_neg (by omega)]
    refine c_side hA hV hw hc he ha ?_
    refine c_side hA hV hw hc he hb ?_
    rw [rx_w_of (x := rs_sd V c e a * rs_sd V c e b) p2.1 p2.2]
    by_cases g4 : rs_sd V c e a * rs_sd V c e b ≤ 0
    · rw [if_neg (by omega)]
      exact h1 ⟨g, g2, g3, g4⟩
    · rw [if_pos (by omega)]
      exact h0 (fun q => g4 q.2.2.2)
  · rw [if_pos (by omega)]
    exact h0 (fun q => g3 q.2.2.1)
end MEET
