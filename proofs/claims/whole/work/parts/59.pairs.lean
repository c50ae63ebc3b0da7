/-! ===== costs of pairs in both, and what crosses straight ===== -/
def rk_C (C : Int → Int → Int) (m : Int) (σ : rx_St) : Prop := ∀ r s, 0 ≤ r → r < m → 0 ≤ s → s < m → r ≠ s → σ (60 + r.toNat) s = C r s
def rk_M (C : Int → Int → Int) (m : Int) (σ : rx_St) : Prop := ∀ r s, 0 ≤ r → r < m → 0 ≤ s → s < m → r ≠ s → σ 130 (18 * r + s) = C r s
theorem mul_lt0 {x y : Int} : x * y < 0 ↔ (x < 0 ∧ 0 < y) ∨ (0 < x ∧ y < 0) := by
  constructor
  · intro h
    rcases Int.lt_trichotomy x 0 with g | g | g
    · rcases Int.lt_or_le 0 y with k | k
      · exact Or.inl ⟨g, k⟩
      · have := Int.mul_nonneg (show 0 ≤ -x by omega) (show 0 ≤ -y by omega)
        rw [Int.neg_mul_neg] at this
        omega
    · subst g
      simp at h
    · rcases Int.lt_or_le y 0 with k | k
      · exact Or.inr ⟨g, k⟩
      · have := Int.mul_nonneg (show 0 ≤ x by omega) k
        omega
  · rintro (⟨g, k⟩ | ⟨g, k⟩)
    · exact Int.mul_neg_of_neg_of_pos g k
    · exact Int.mul_neg_of_pos_of_neg g k
def sg (x : Int) : Int := if x ≤ 0 then (if 0 ≤ x then 0 else -1) else 1
theorem sg_mul (x y : Int) : (¬ 0 ≤ rx_w (sg x * sg y)) ↔ x * y < 0 := by
  rw [mul_lt0]
  unfold sg
  by_cases a : x ≤ 0
  · rw [if_pos a]
    by_cases b : 0 ≤ x
    · rw [if_pos b, Int.zero_mul, rx_w_of (by omega) (by omega)]
      omega
    · rw [if_neg b]
      by_cases c : y ≤ 0
      · rw [if_pos c]
        by_cases e : 0 ≤ y
        · rw [if_pos e, Int.mul_zero, rx_w_of (by omega) (by omega)]
          omega
        · rw [if_neg e]
          have : rx_w (-1 * -1) = 1 := by decide
          rw [this]
          omega
      · rw [if_neg c]
        have : rx_w (-1 * 1) = -1 := by decide
        rw [this]
        omega
  · rw [if_neg a]
    by_cases c : y ≤ 0
    · rw [if_pos c]
      by_cases e : 0 ≤ y
      · rw [if_pos e, Int.mul_zero, rx_w_of (by omega) (by omega)]
        omega
      · rw [if_neg e]
        have : rx_w (1 * -1) = -1 := by decide
        rw [this]
        omega
    · rw [if_neg c]
      have : rx_w (1 * 1) = 1 := by decide
      rw [this]
      omega
theorem sg_0 (x : Int) : sg x = 0 ↔ x = 0 := by
  unfold sg
  repeat' split
  all_goals omega
noncomputable def rs_tot (P : Int → Int) (V : rx_St) (w : Int) (C : Int → Int → Int) : Int := rs_ps (V 0 6) (fun r s => if rs_meet P V w r s = true then C r s else 0)
theorem rs_tot_b {P : Int → Int} {V : rx_St} {w : Int} {C : Int → Int → Int} (hw : iv_Wf V) (hC : ∀ r s, 0 ≤ C r s ∧ C r s ≤ 999) : 0 ≤ rs_tot P V w C ∧ rs_tot P V w C ≤ 400000 := by
  refine rs_ps_b (wf_m hw) (fun r s _ _ _ => ?_)
  have := hC r s
  split <;> omega
section PAIRS
variable {L d : Nat} {σ V T : rx_St} {S : Int → Int} {Q : Int → Int → rx_St → Prop} {K : Int → rx_St → Prop} {KV : rx_St → Prop} {C : Int → Int → Int}
theorem c_reckon {A : Nat} (hA : rx_isO 1 A = true) (hV : ld_C A V σ) (hw : iv_Wf V) (hT : tx_C T σ) (hTw : tx_Wf T (V 0 12)) (h : ∀ σ', rk_C (rs_c2 V T) (V 0 6) σ' → (∀ c, c ≠ 57 → c ≠ 58 → (c < 60 ∨ 77 < c) → σ' c = σ c) → KV σ') : rx_CV L (d + 3) mX0_reckon [.inr 37, .inr A] σ KV := by
  have hm := wf_m hw
  have ht := wf_t hw
  have hA57 : A + 10 < 57 := by rcases sh_1 hA with rfl | rfl | rfl <;> omega
  have hb := rs_law_b (T := T) (n := V 0 12) (key := 1) ht.1
  refine bX0_reckon L (d + 2) A hA σ KV ?_
  have inv : ∀ σ1 : rx_St, (∀ c, c ≠ 57 → c ≠ 58 → (c < 60 ∨ 77 < c) → σ1 c = σ c) → ld_C A V σ1 ∧ tx_C T σ1 := fun σ1 hf => ⟨ld_Cfr hV (fun c h1 h2 => hf c (by omega) (by omega) (by omega)), fun k hk => by rw [hf (39 + k) (by omega) (by omega) (by omega)]; exact hT k hk⟩
  -- the second pair of loops
  have key2 : ∀ (k : Nat) (r : Int) (q4 q5 : Option rx_V) (σ1 : rx_St), 0 ≤ r → r + k = V 0 6 → (∀ c, c ≠ 57 → c ≠ 58 → (c < 60 ∨ 77 < c) → σ1 c = σ c) → (∀ i, 0 ≤ i → i < V 0 6 → σ1 58 i = rs_harm V T i) → (∀ a b, 0 ≤ a → a < b → b < V 0 6 → a < r → σ1 (60 + a.toNat) b = rs_cost V T a b ∧ σ1 (60 + b.toNat) a = rs_cost V T a b) → rx_Go L (d + 3) mX0_reckon 43 [some (.inr 37), some (.inr A), some (.inl (rs_law T (V 0 12) 1)), some (.inl r), q4, q5] [] σ1 (rx_PV KV) := by
    intro k
    induction k with
    | zero =>
      intro r q4 q5 σ1 r0 hr hf hh hp
      refine bX0_reckon_43 L (d + 2) A hA _ r q4 q5 σ1 KV ?_
      rw [ld_C0 (inv σ1 hf).1, if_pos (by omega)]
      refine h σ1 (fun a b a0 a1 b0 b1 hab => ?_) hf
      unfold rs_c2
      by_cases c : a < b
      · rw [if_pos c]
        exact (hp a b a0 c b1 (by omega)).1
      · rw [if_neg c]
        exact (hp b a b0 (by omega) a1 (by omega)).2
    | succ k ih =>
      intro r q4 q5 σ1 r0 hr hf hh hp
      refine bX0_reckon_43 L (d + 2) A hA _ r q4 q5 σ1 KV ?_
      rw [ld_C0 (inv σ1 hf).1, if_neg (by omega), rx_w_of (by omega) (by omega)]
      have inner : ∀ (j : Nat) (s : Int) (q5 : Option rx_V) (σ1 : rx_St), r < s → s + j = V 0 6 → (∀ c, c ≠ 57 → c ≠ 58 → (c < 60 ∨ 77 < c) → σ1 c = σ c) → (∀ i, 0 ≤ i → i < V 0 6 → σ1 58 i = rs_harm V T i) → (∀ a b, 0 ≤ a → a < b → b < V 0 6 → a < r ∨ (a = r ∧ b < s) → σ1 (60 + a.toNat) b = rs_cost V T a b ∧ σ1 (60 + b.toNat) a = rs_cost V T a b) → rx_Go L (d + 3) mX0_reckon 56 [some (.inr 37), some (.inr A), some (.inl (rs_law T (V 0 12) 1)), some (.inl r), some (.inl s), q5] [] σ1 (rx_PV KV) := by
        intro j
        induction j with
        | zero =>
          intro s q5 σ1 rs hs hf hh hp
          refine bX0_reckon_56 L (d + 2) A hA _ r s q5 σ1 KV ?_
          rw [ld_C0 (inv σ1 hf).1, if_pos (by omega), rx_w_of (by omega) (by omega)]
          exact ih (r + 1) _ _ σ1 (by omega) (by omega) hf hh (fun a b a0 ab b1 ar => hp a b a0 ab b1 (by omega))
        | succ j ihj =>
          intro s q5 σ1 rs hs hf hh hp
          have f110 : ∀ (x : Int) (σ2 : rx_St), rs_cl x 999 = rs_cost V T r s → (∀ c, c ≠ 57 → σ2 c = σ1 c) → rx_Go L (d + 3) mX0_reckon 110 [some (.inr 37), some (.inr A), some (.inl (rs_law T (V 0 12) 1)), some (.inl r), some (.inl s), some (.inl x)] [] σ2 (rx_PV KV) := by
            intro x σ2 hx hf2
            refine bX0_reckon_110 L (d + 2) A hA _ r s x σ2 KV ⟨by omega, fun A16 hA16 _ => ?_⟩
            refine c_within (by omega) ?_
            refine ⟨by omega, by omega, fun A21 hA21 _ => ⟨by omega, fun A23 hA23 _ => ⟨by omega, ?_⟩⟩⟩
            have e16 : A23 = A16 := by omega
            rw [hx, e16, up_s, rx_w_of (by omega) (by omega)]
            refine ihj (s + 1) _ _ (by omega) (by omega) (fun c c1 c2 c3 => ?_) (fun i i0 i1 => ?_) (fun a b a0 ab b1 hab => ?_)
            · rw [up_c (by omega), up_c (by omega), hf2 c c1]
              exact hf c c1 c2 c3
            · rw [up_c (by omega), up_c (by omega), hf2 58 (by decide)]
              exact hh i i0 i1
            · by_cases e : a = r ∧ b = s
              · obtain ⟨rfl, rfl⟩ := e
                rw [← hA16, ← hA21]
                constructor
                · rw [up_c (by omega), up_s]
                · rw [up_s]
              · have := hp a b a0 ab b1 (by omega)
                rw [up_n (by omega), up_n (by omega), up_n (by omega), up_n (by omega), hf2 _ (by omega), hf2 _ (by omega)]
                exact this
          refine bX0_reckon_56 L (d + 2) A hA _ r s q5 σ1 KV ?_
          have hi := inv σ1 hf
          rw [ld_C0 hi.1, if_neg (by omega)]
          unfold rs_cost at f110
          by_cases c : 0 ≤ rs_law T (V 0 12) 1
          · rw [if_pos c]
            refine ⟨by omega, by omega, ?_⟩
            rw [hh r r0 (by omega), hh s (by omega) (by omega)]
            refine c_answer hi.2 ht.2 hTw ⟨c, hb.2⟩ (fun σ2 hf2 => ?_)
            exact f110 _ σ2 (by rw [if_neg (show ¬ rs_law T (V 0 12) 1 < 0 by omega)]) hf2
          · rw [if_neg c]
            refine ⟨by omega, by omega, ?_⟩
            rw [hh r r0 (by omega), hh s (by omega) (by omega)]
            have b1 := rs_harm_b (T := T) hw r0 (show r < V 0 6 by omega)
            have b2 := rs_harm_b (T := T) hw (show 0 ≤ s by omega) (show s < V 0 6 by omega)
            rw [rx_w_of (by omega) (by omega)]
            exact f110 _ σ1 (by rw [if_pos (show rs_law T (V 0 12) 1 < 0 by omega)]) (fun _ _ => rfl)
      exact inner k (r + 1) _ σ1 (by omega) (by omega) hf hh (fun a b a0 ab b1 hab => hp a b a0 ab b1 (by omega))
  have key1 : ∀ (k : Nat) (r : Int) (q3 q4 q5 : Option rx_V) (σ1 : rx_St), 0 ≤ r → r + k = V 0 6 → (∀ c, c ≠ 57 → c ≠ 58 → (c < 60 ∨ 77 < c) → σ1 c = σ c) → (∀ i, 0 ≤ i → i < r → σ1 58 i = rs_harm V T i) → rx_Go L (d + 3) mX0_reckon 2 [some (.inr 37), some (.inr A), some (.inl r), q3, q4, q5] [] σ1 (rx_PV KV) := by
    intro k
    induction k with
    | zero =>
      intro r q3 q4 q5 σ1 r0 hr hf hh
      refine bX0_reckon_2 L (d + 2) A hA r q3 q4 q5 σ1 KV ?_
      have hi := inv σ1 hf
      rw [ld_C0 hi.1, if_pos (by omega)]
      refine c_lastOf hi.2 ht ?_
      exact key2 (V 0 6).toNat 0 _ _ σ1 (by omega) (by omega) hf (fun i i0 i1 => hh i i0 (by omega)) (fun a b a0 ab b1 ar => by omega)
    | succ k ih =>
      intro r q3 q4 q5 σ1 r0 hr hf hh
      refine bX0_reckon_2 L (d + 2) A hA r q3 q4 q5 σ1 KV ?_
      have hi := inv σ1 hf
      rw [ld_C0 hi.1, if_neg (by omega)]
      refine c_harmOf hA hi.1 hw hi.2 hTw ⟨r0, by omega⟩ (fun σ2 hf2 => ?_)
      rw [rx_w_of (by omega) (by omega)]
      refine ⟨by omega, ih (r + 1) _ _ _ _ (by omega) (by omega) (fun c c1 c2 c3 => ?_) (fun i i0 i1 => ?_)⟩
      · rw [up_c c2, hf2 c c1]
        exact hf c c1 c2 c3
      · by_cases e : i = r
        · rw [up_e e, e]
        · rw [up_i e, hf2 58 (by decide)]
          exact hh i i0 (by omega)
  exact key1 (V 0 6).toNat 0 _ _ _ σ (by omega) (by omega) (fun _ _ _ _ => rfl) (fun i i0 i1 => by omega)
theorem c_sum {A : Nat} (hA : rx_isO 1 A = true) (hV : ld_C A V σ) (hw : iv_Wf V) (hC : rk_C C (V 0 6) σ) (hCb : ∀ r s, 0 ≤ C r s ∧ C r s ≤ 999) {w lim : Int} (h : ∀ v, 0 ≤ v → (v = rs_tot (V 5) V w C ∨ (lim ≤ v ∧ v ≤ rs_tot (V 5) V w C)) → K v σ) : rx_CI L (d + 3) mX0_sum [.inr 37, .inr A, .inl w, .inl lim] σ K := by
  have hm := wf_m hw
  have e0 := ld_C0 hV
  refine bX0_sum L (d + 2) A hA w lim σ K ?_
  refine dl_loop (m := V 0 6) (lim := lim) (g := fun r s => if rs_meet (V 5) V w r s = true then C r s else 0) (K' := fun v => K v σ) (Out := fun r acc => ∀ q, rx_Go L (d + 3) mX0_sum 6 [some (.inr 37), some (.inr A), some (.inl w), some (.inl lim), some (.inl acc), some (.inl r), q] [] σ (rx_PI K)) (In := fun r s acc => rx_Go L (d + 3) mX0_sum 27 [some (.inr 37), some (.inr A), some (.inl w), some (.inl lim), some (.inl acc), some (.inl r), some (.inl s)] [] σ (rx_PI K)) hm (fun r s _ _ _ => by have := hCb r s; show 0 ≤ (if rs_meet (V 5) V w r s = true then C r s else 0) ∧ (if rs_meet (V 5) V w r s = true then C r s else 0) ≤ 999; split <;> omega) ?_ ?_ h none
  · intro r acc r0 r1 a0 a1 k1 k2 k3 q
    refine bX0_sum_6 L (d + 2) A hA w lim acc r q σ K ?_
    rw [e0]
    by_cases c : V 0 6 ≤ r
    · rw [if_pos c]
      exact k1 c
    · rw [if_neg c]
      by_cases c2 : lim ≤ acc
      · rw [if_pos c2]
        exact k2 (by omega) c2
      · rw [if_neg c2, rx_w_of (by omega) (by omega)]
        exact k3 (by omega) (by omega)
  · intro r s acc r0 rs s1 a0 a1 k1 k2
    refine bX0_sum_27 L (d + 2) A hA w lim acc r s σ K ?_
    rw [e0]
    by_cases c : V 0 6 ≤ s
    · rw [if_pos c, rx_w_of (by omega) (by omega)]
      exact k1 (by omega) _
    · rw [if_neg c]
      have k2 := k2 (by omega)
      refine ⟨by omega, fun A4 hA4 _ => ⟨by omega, ?_⟩⟩
      have eC : σ A4 s = C r s := by rw [hA4]; exact hC r s r0 (by omega) (by omega) (by omega) (by omega)
      rw [eC]
      by_cases z : C r s = 0
      · rw [if_pos z, rx_w_of (by omega) (by omega)]
        have e : acc + (if rs_meet (V 5) V w r s = true then C r s else 0) = acc := by split <;> omega
        rw [e] at k2
        exact k2
      · rw [if_neg z]
        refine c_meet hA hV hw (by omega) (by omega) (fun g => ?_) (fun g => ?_)
        · rw [if_neg (by decide)]
          refine ⟨by omega, fun A11 hA11 _ => ?_⟩
          have eC2 : σ A11 s = C r s := by rw [hA11]; exact hC r s r0 (by omega) (by omega) (by omega) (by omega)
          have := hCb r s
          rw [eC2, rx_w_of (by omega) (by omega), rx_w_of (by omega) (by omega)]
          rw [if_pos g] at k2
          exact k2
        · rw [if_pos rfl, rx_w_of (by omega) (by omega)]
          rw [if_neg (by rw [g]; decide), Int.add_zero] at k2
          exact k2
/-- with no limit -/
theorem c_sum0 {A : Nat} (hA : rx_isO 1 A = true) (hV : ld_C A V σ) (hw : iv_Wf V) (hC : rk_C C (V 0 6) σ) (hCb : ∀ r s, 0 ≤ C r s ∧ C r s ≤ 999) {w : Int} (h : K (rs_tot (V 5) V w C) σ) : rx_CI L (d + 3) mX0_sum [.inr 37, .inr A, .inl w, .inl 2147483647] σ K := by
  refine c_sum hA hV hw hC hCb (fun v v0 hv => ?_)
  have := rs_tot_b (P := V 5) (w := w) hw hCb
  rcases hv with rfl | hv
  · exact h
  · omega
end PAIRS
