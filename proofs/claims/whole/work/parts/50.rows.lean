section RFR
variable {σ σ' : rx_St} {S : Int → Int}
theorem iv_constfr (h : iv_const S σ) (hf : ∀ c, c = 143 ∨ c = 144 ∨ c = 159 ∨ c = 160 → σ' c = σ c) : iv_const S σ' := by
  unfold iv_const
  rw [hf 159 (by omega), hf 160 (by omega), hf 143 (by omega), hf 144 (by omega)]
  exact h
theorem iv_tapefr (h : iv_tape σ) (h1 : σ' 34 0 = σ 34 0) (h2 : σ' 125 22 = σ 125 22) (h3 : σ' 36 = σ 36) (h4 : σ' 142 = σ 142) : iv_tape σ' := by
  unfold iv_tape
  rw [h1, h2, h3, h4]
  exact h
theorem iv_waitfr (h : iv_wait σ) (h1 : σ' 0 13 = σ 0 13) (h2 : σ' 125 48 = σ 125 48) (h3 : σ' 101 = σ 101) (h4 : σ' 158 = σ 158) : iv_wait σ' := by
  unfold iv_wait
  rw [h1, h2, h3, h4]
  exact h
theorem iv_sheetfr (h : iv_sheet σ) (hf : ∀ c, (102 ≤ c ∧ c ≤ 109) ∨ (150 ≤ c ∧ c ≤ 152) → σ' c = σ c) : iv_sheet σ' := by
  intro s hs
  rw [hf (102 + 2 * s) (by omega), hf (102 + 2 * s + 1) (by omega), hf 150 (by omega), hf 151 (by omega), hf 152 (by omega)]
  exact h s hs
theorem iv_slotfr (h : iv_slot σ) (hf : ∀ c, (110 ≤ c ∧ c ≤ 124) ∨ (153 ≤ c ∧ c ≤ 156) → σ' c = σ c) : iv_slot σ' := by
  intro s hs
  rw [hf (110 + 3 * s) (by omega), hf (110 + 3 * s + 1) (by omega), hf (110 + 3 * s + 1 + 1) (by omega), hf 153 (by omega), hf 154 (by omega), hf 155 (by omega), hf 156 (by omega)]
  exact h s hs
/-- one sheet -/
def sh_is (σ : rx_St) (x : Int) (A : Nat) : Prop := (-1 ≤ σ A 0 ∧ σ A 0 ≤ 1) ∧ σ 150 x = σ A 0 ∧ (0 ≤ σ A 1 ∧ σ A 1 ≤ 24) ∧ σ 151 x = σ A 1 ∧ ∀ i : Int, 0 ≤ i → i < 24 → σ 152 (24 * x + i) = σ (A + 1) i ∧ rx_r (σ (A + 1) i)
theorem iv_sh (h : iv_sheet σ) {x : Int} (hx : 0 ≤ x ∧ x < 4) {A : Nat} (hA : A = 102 + 2 * x.toNat) : sh_is σ x A := by
  have := h x.toNat (by omega)
  rw [show ((x.toNat : Nat) : Int) = x by omega, ← hA] at this
  exact this
theorem iv_shset (h : iv_sheet σ) {x : Int} (hx : 0 ≤ x ∧ x < 4) {A : Nat} (hA : A = 102 + 2 * x.toNat) (ho : ∀ c, (102 ≤ c ∧ c ≤ 109) → c ≠ A → c ≠ A + 1 → σ' c = σ c) (h0 : ∀ y, y ≠ x → σ' 150 y = σ 150 y ∧ σ' 151 y = σ 151 y) (h2 : ∀ i, ¬ (24 * x ≤ i ∧ i < 24 * x + 24) → σ' 152 i = σ 152 i) (hm : sh_is σ' x A) : iv_sheet σ' := by
  intro s hs
  by_cases c : (s : Int) = x
  · have : A = 102 + 2 * s := by omega
    rw [c, ← this]
    exact hm
  · obtain ⟨a1, a2, a3, a4, a5⟩ := h s hs
    obtain ⟨b1, b2⟩ := h0 s c
    rw [b1, b2, ho (102 + 2 * s) (by omega) (by omega) (by omega), ho (102 + 2 * s + 1) (by omega) (by omega) (by omega)]
    exact ⟨a1, a2, a3, a4, fun i i0 i1 => by rw [h2 _ (by omega)]; exact a5 i i0 i1⟩
def sl_is (σ : rx_St) (x : Int) (A : Nat) : Prop := (0 ≤ σ A 0 ∧ σ A 0 ≤ 3) ∧ σ 153 x = σ A 0 ∧
  (σ A 0 = 1 → (0 ≤ σ A 1 ∧ σ A 1 < 6) ∧ (1 ≤ σ A 2 ∧ σ A 2 ≤ 9) ∧ σ 154 x = σ A 1 ∧ σ 155 x = rs_worth (σ A 1) (σ A 2)) ∧
  (σ A 0 = 2 → (0 ≤ σ (A + 1) 1 ∧ σ (A + 1) 1 ≤ 24) ∧ σ 154 x = σ (A + 1) 1 ∧ ∀ i : Int, 0 ≤ i → i < 24 → σ 156 (24 * x + i) = σ (A + 1 + 1) i) ∧
  (σ A 0 = 3 → σ 154 x = σ A 4)
theorem iv_sl (h : iv_slot σ) {x : Int} (hx : 0 ≤ x ∧ x < 5) {A : Nat} (hA : A = 110 + 3 * x.toNat) : sl_is σ x A := by
  have := h x.toNat (by omega)
  rw [show ((x.toNat : Nat) : Int) = x by omega, ← hA] at this
  exact this
theorem iv_slset (h : iv_slot σ) {x : Int} (hx : 0 ≤ x ∧ x < 5) {A : Nat} (hA : A = 110 + 3 * x.toNat) (ho : ∀ c, (110 ≤ c ∧ c ≤ 124) → c ≠ A → c ≠ A + 1 → c ≠ A + 1 + 1 → σ' c = σ c) (h0 : ∀ y, y ≠ x → σ' 153 y = σ 153 y ∧ σ' 154 y = σ 154 y ∧ σ' 155 y = σ 155 y) (h2 : ∀ i, ¬ (24 * x ≤ i ∧ i < 24 * x + 24) → σ' 156 i = σ 156 i) (hm : sl_is σ' x A) : iv_slot σ' := by
  intro s hs
  by_cases c : (s : Int) = x
  · have : A = 110 + 3 * s := by omega
    rw [c, ← this]
    exact hm
  · obtain ⟨a1, a2, a3, a4, a5⟩ := h s hs
    obtain ⟨b1, b2, b3⟩ := h0 s c
    rw [b1, b2, b3, ho (110 + 3 * s) (by omega) (by omega) (by omega) (by omega), ho (110 + 3 * s + 1) (by omega) (by omega) (by omega) (by omega), ho (110 + 3 * s + 1 + 1) (by omega) (by omega) (by omega) (by omega)]
    exact ⟨a1, a2, a3, fun g => ⟨(a4 g).1, (a4 g).2.1, fun i i0 i1 => by rw [h2 _ (by omega)]; exact (a4 g).2.2 i i0 i1⟩, a5⟩
end RFR
section ROWS
variable {L d : Nat} {σ V T : rx_St} {S : Int → Int} {Q : Int → Int → rx_St → Prop} {K : Int → rx_St → Prop} {KV : rx_St → Prop}
theorem o_tell {v : Int} (h : iv_A S V T σ) (hQ : ∀ v σ', Inv S σ' → Q v v σ') :
    rx_CI L d mX10_tell [.inr 0, .inl v] σ (fun v1 σ1 => rx_CI L d mX11_tell [.inr 125, .inl v] σ1 (fun v2 σ2 => Q v1 v2 σ2)) := by
  have hR := iv_R_of h
  obtain ⟨w1, w2, w3⟩ := hR.2.2.1
  refine bX10_tell L d v σ _ ?_
  by_cases c : σ 0 13 < 60
  · rw [if_pos c]
    refine ⟨by omega, ?_⟩
    simp (disch := omega) only [up_c, up_s, rx_w_of]
    refine bX11_tell L d v _ _ ?_
    simp (disch := omega) only [up_c, up_s, rx_w_of, w2]
    rw [if_pos (by omega)]
    refine ⟨by omega, hQ _ _ ⟨V, T, iv_rest h (fun c i h1 h2 => ?_) ⟨iv_constfr hR.1 (fun c hc => ?_), iv_tapefr hR.2.1 ?_ ?_ ?_ ?_, ?_, iv_sheetfr hR.2.2.2.1 (fun c hc => ?_), iv_slotfr hR.2.2.2.2 (fun c hc => ?_)⟩⟩⟩
    · unfold fr_r at h2
      rw [up_n (by omega), up_n (by omega), up_n (by omega), up_n (by omega)]
    · rw [up_c (by omega), up_c (by omega), up_c (by omega), up_c (by omega)]
    · rw [up_c (by omega), up_c (by omega), up_c (by omega), up_c (by omega)]
    · rw [up_i (by omega), up_c (by omega), up_c (by omega), up_c (by omega)]
    · rw [up_c (by omega), up_c (by omega), up_c (by omega), up_c (by omega)]
    · rw [up_c (by omega), up_c (by omega), up_c (by omega), up_c (by omega)]
    · unfold iv_wait
      simp (disch := omega) only [up_c, up_s]
      refine ⟨by omega, trivial, fun i i0 i1 => ?_⟩
      by_cases e : i = σ 0 13
      · rw [up_e e, up_e e]
      · rw [up_i e, up_i e]
        exact w3 i i0 (by omega)
    · rw [up_c (by omega), up_c (by omega), up_c (by omega), up_c (by omega)]
    · rw [up_c (by omega), up_c (by omega), up_c (by omega), up_c (by omega)]
  · rw [if_neg c]
    refine bX11_tell L d v _ _ ?_
    rw [if_neg (by omega)]
    exact o_same h hQ _
theorem n_isSheet {x : Int} (h1 : 0 ≤ x ∧ x < 4 → K 1 σ) (h0 : ¬ (0 ≤ x ∧ x < 4) → K 0 σ) : rx_CI L (d + 1) mX11_isSheet [.inl x] σ K := by
  refine bX11_isSheet L d x σ K ?_
  exact m_in (fun c => ⟨Or.inr rfl, h1 (by omega)⟩) (fun c => ⟨Or.inl rfl, h0 (by omega)⟩)
theorem n_isSlot {x : Int} (h1 : 0 ≤ x ∧ x < 5 → K 1 σ) (h0 : ¬ (0 ≤ x ∧ x < 5) → K 0 σ) : rx_CI L (d + 1) mX11_isSlot [.inl x] σ K := by
  refine bX11_isSlot L d x σ K ?_
  exact m_in (fun c => ⟨Or.inr rfl, h1 (by omega)⟩) (fun c => ⟨Or.inl rfl, h0 (by omega)⟩)
theorem c_fill {A : Nat} {n v : Int} (hA : rx_len L 0 A = n ∧ A < 159) (hAa : rx_alen L A = some n) (hn : 0 ≤ n ∧ n ≤ 1000) (h : ∀ σ', (∀ i, 0 ≤ i → i < n → σ' A i = v) → (∀ c, c ≠ A → σ' c = σ c) → KV σ') : rx_CV L d mJ7_fill_53178 [.inr A, .inl v] σ KV := by
  refine bJ7_fill_53178 L d A n hA hAa v σ KV ?_
  have key : ∀ (k : Nat) (x : Int) (σ1 : rx_St), 0 ≤ x → x + k = n → (∀ i, 0 ≤ i → i < x → σ1 A i = v) → (∀ c, c ≠ A → σ1 c = σ c) → rx_Go L d mJ7_fill_53178 5 [some (.inr A), some (.inl v), some (.inl x), some (.inl n)] [] σ1 (rx_PV KV) := by
    intro k
    induction k with
    | zero =>
      intro x σ1 h0 hx hi hc
      refine bJ7_fill_53178_5 L d A n hA hAa v x n σ1 KV ?_
      rw [if_pos (by omega)]
      exact h σ1 (fun i i0 i1 => hi i i0 (by omega)) hc
    | succ k ih =>
      intro x σ1 h0 hx hi hc
      refine bJ7_fill_53178_5 L d A n hA hAa v x n σ1 KV ?_
      rw [if_neg (by omega), rx_w_of (by omega) (by omega)]
      refine ⟨by omega, ih (x + 1) _ (by omega) (by omega) (fun i i0 i1 => ?_) (fun c h9 => by rw [up_c h9]; exact hc c h9)⟩
      by_cases e : i = x
      · rw [up_e e]
      · rw [up_i e]
        exact hi i i0 (by omega)
  exact key n.toNat 0 σ (by omega) (by omega) (fun i h0 h1 => by omega) (fun _ _ => rfl)
theorem ln_sh7 {A : Nat} (h : rx_isO 7 A = true) : (rx_len L 0 (A + 1) = 24 ∧ A + 1 < 159) ∧ rx_alen L (A + 1) = some 24 := by
  rcases sh_7 h with rfl | rfl | rfl | rfl | rfl | rfl | rfl | rfl | rfl
  all_goals exact ⟨⟨rx_len_eq (by decide +kernel), by decide⟩, al_eq (n := 24) (t := 0) (by decide +kernel) (by decide) (by decide)⟩
theorem c_become {A : Nat} (hA : rx_isO 7 A = true) {s n : Int} (h : ∀ σ', σ' A 0 = s → σ' A 1 = n → (∀ i, 0 ≤ i → i < 24 → σ' (A + 1) i = 0) → (∀ c, c ≠ A → c ≠ A + 1 → σ' c = σ c) → KV σ') : rx_CV L (d + 1) mX7_become [.inr A, .inl s, .inl n] σ KV := by
  refine bX7_become L d A hA s n σ KV ?_
  refine c_fill (ln_sh7 hA).1 (ln_sh7 hA).2 (by omega) (fun σ1 h1 h2 => ?_)
  refine h σ1 ?_ ?_ h1 (fun c c1 c2 => ?_)
  · rw [h2 A (by omega), up_i (by decide), up_s]
  · rw [h2 A (by omega), up_s]
  · rw [h2 c c2, up_c c1, up_c c1]
theorem o_sheet {x s n : Int} (h : iv_A S V T σ) (hQ : ∀ v σ', Inv S σ' → Q v v σ') :
    rx_CI L (d + 2) mX10_sheet [.inr 0, .inl x, .inl s, .inl n] σ (fun v1 σ1 => rx_CI L (d + 2) mX11_sheet [.inr 125, .inl x, .inl s, .inl n] σ1 (fun v2 σ2 => Q v1 v2 σ2)) := by
  have hR := iv_R_of h
  have hmod : ∀ (A : Nat) (m : Int) (σ1 : rx_St), 0 ≤ x ∧ x < 4 → -1 ≤ s → s ≤ 1 → (s < 0 ∧ m = 0 ∨ 0 ≤ s ∧ m = n ∧ 0 ≤ n ∧ n ≤ 24) → A = 102 + 2 * x.toNat → σ1 A 0 = s → σ1 A 1 = m → (∀ i, 0 ≤ i → i < 24 → σ1 (A + 1) i = 0) → (∀ c, c ≠ A → c ≠ A + 1 → σ1 c = σ c) → rx_CI L (d + 2) mX11_sheet [.inr 125, .inl x, .inl s, .inl n] σ1 (fun v2 σ2 => Q m v2 σ2) := by
    intro A m σ1 hx s0 s1 hm hA a0 a1 a2 hf
    have key : ∀ (k : Nat) (j : Int) (σ2 : rx_St), 0 ≤ j → j + k = 24 → (∀ c, c ≠ 152 → σ2 c = (rx_up (rx_up σ1 150 x s) 151 x m) c) → (∀ i, 24 * x ≤ i → i < 24 * x + j → σ2 152 i = 0) → (∀ i, ¬ (24 * x ≤ i ∧ i < 24 * x + 24) → σ2 152 i = σ 152 i) → rx_Go L (d + 2) mX11_sheet 65 [some (.inr 125), some (.inl x), some (.inl s), some (.inl n), some (.inl j)] [] σ2 (rx_PI (fun v2 σ2 => Q m v2 σ2)) := by
      intro k
      induction k with
      | zero =>
        intro j σ2 j0 hj hc h0 ho
        refine bX11_sheet_65 L (d + 1) x _ _ j σ2 _ ?_
        rw [if_pos (by omega), hc 151 (by omega), up_s]
        have hc9 : ∀ c, c ≠ 150 → c ≠ 151 → c ≠ 152 → σ2 c = σ1 c := fun c h1 h2 h3 => by rw [hc c h3, up_c h2, up_c h1]
        have hcs : ∀ c, c ≠ 150 → c ≠ 151 → c ≠ 152 → c ≠ A → c ≠ A + 1 → σ2 c = σ c := fun c h1 h2 h3 h4 h5 => by rw [hc9 c h1 h2 h3, hf c h4 h5]
        refine ⟨hx, hQ _ _ ⟨V, T, iv_rest h (fun c i h1 h2 => ?_) ⟨iv_constfr hR.1 (fun c h9 => hcs c (by omega) (by omega) (by omega) (by omega) (by omega)), iv_tapefr hR.2.1 ?_ ?_ ?_ ?_, iv_waitfr hR.2.2.1 ?_ ?_ ?_ ?_, iv_shset hR.2.2.2.1 hx hA (fun c h1 h2 h3 => hcs c (by omega) (by omega) (by omega) h2 h3) (fun y hy => ?_) ho ?_, iv_slotfr hR.2.2.2.2 (fun c h9 => hcs c (by omega) (by omega) (by omega) (by omega) (by omega))⟩⟩⟩
        · unfold fr_r at h2
          rw [hcs c (by omega) (by omega) (by omega) (by omega) (by omega)]
        · rw [hcs 34 (by omega) (by omega) (by omega) (by omega) (by omega)]
        · rw [hcs 125 (by omega) (by omega) (by omega) (by omega) (by omega)]
        · rw [hcs 36 (by omega) (by omega) (by omega) (by omega) (by omega)]
        · rw [hcs 142 (by omega) (by omega) (by omega) (by omega) (by omega)]
        · rw [hcs 0 (by omega) (by omega) (by omega) (by omega) (by omega)]
        · rw [hcs 125 (by omega) (by omega) (by omega) (by omega) (by omega)]
        · rw [hcs 101 (by omega) (by omega) (by omega) (by omega) (by omega)]
        · rw [hcs 158 (by omega) (by omega) (by omega) (by omega) (by omega)]
        · rw [hc 150 (by omega), hc 151 (by omega), up_c (by decide), up_i hy, up_i hy, up_c (by decide), hf 150 (by omega) (by omega), hf 151 (by omega) (by omega)]
          exact ⟨rfl, rfl⟩
        · unfold sh_is
          rw [hc 150 (by omega), hc 151 (by omega), up_c (by decide), up_s, up_s, hc9 A (by omega) (by omega) (by omega), hc9 (A + 1) (by omega) (by omega) (by omega), a0, a1]
          refine ⟨⟨s0, s1⟩, rfl, by omega, rfl, fun i i0 i1 => ?_⟩
          rw [h0 _ (by omega) (by omega), a2 i i0 i1]
          exact ⟨rfl, by unfold rx_r; omega⟩
      | succ k ih =>
        intro j σ2 j0 hj hc h0 ho
        refine bX11_sheet_65 L (d + 1) x _ _ j σ2 _ ?_
        rw [if_neg (by omega)]
        simp (disch := omega) only [rx_w_of]
        refine ⟨by omega, ih (j + 1) _ (by omega) (by omega) (fun c h9 => by rw [up_c h9]; exact hc c h9) (fun i i0 i1 => ?_) (fun i hi => by rw [up_i (by omega)]; exact ho i hi)⟩
        by_cases e : i = 24 * x + j
        · rw [up_e e]
        · rw [up_i e]
          exact h0 i i0 (by omega)
    refine bX11_sheet L (d + 1) x s n σ1 _ ?_
    refine n_isSheet (fun _ => ?_) (fun c1 => absurd hx c1)
    rw [if_neg (by decide)]
    refine m_in (fun _ => ?_) (fun c1 => absurd ⟨s0, s1⟩ c1)
    rw [if_neg (by decide)]
    have hstart := key 24 0 (rx_up (rx_up σ1 150 x s) 151 x m) (by omega) (by omega) (fun _ _ => rfl) (fun i i0 i1 => by omega) (fun i _ => by rw [up_c (by decide), up_c (by decide), hf 152 (by omega) (by omega)])
    rcases hm with ⟨g, rfl⟩ | ⟨g, rfl, g1, g2⟩
    · rw [if_pos g]
      exact ⟨hx, hstart⟩
    · rw [if_neg (by omega), if_pos g2, if_pos g1]
      exact ⟨hx, hstart⟩
  have hbad : ∀ v, ¬ (0 ≤ x ∧ x < 4) ∨ s < -1 ∨ 1 < s ∨ (0 ≤ s ∧ 24 < n) → v = -1000000001 → rx_CI L (d + 2) mX11_sheet [.inr 125, .inl x, .inl s, .inl n] σ (fun v2 σ2 => Q v v2 σ2) := by
    rintro v c rfl
    refine bX11_sheet L (d + 1) x s n σ _ ?_
    refine n_isSheet (fun c1 => ?_) (fun c1 => ?_)
    · rw [if_neg (by decide)]
      refine m_in (fun c2 => ?_) (fun c2 => ?_)
      · rw [if_neg (by decide), if_neg (by omega), if_neg (by omega)]
        exact o_same h hQ _
      · rw [if_pos rfl]
        exact o_same h hQ _
    · rw [if_pos rfl]
      exact o_same h hQ _
  refine bX10_sheet L (d + 1) x s n σ _ ?_
  refine s_isSheet (fun c => ?_) (fun c => ?_)
  · rw [if_neg (by decide)]
    by_cases c1 : s < -1
    · rw [if_pos c1]
      exact hbad _ (by omega) rfl
    rw [if_neg c1]
    by_cases c2 : s ≤ 1
    · rw [if_pos c2]
      by_cases c3 : s = -1
      · rw [if_neg (fun q => q c3)]
        refine ⟨c, fun A hA hO => ?_⟩
        refine c_become hO (fun σ1 a0 a1 a2 hf => ?_)
        exact hmod A 0 σ1 c (by omega) c2 (by omega) hA (by rw [a0, c3]) a1 a2 hf
      · rw [if_pos c3]
        by_cases c4 : n ≤ 24
        · rw [if_pos c4]
          by_cases c5 : 0 ≤ n
          · rw [if_pos c5]
            refine ⟨c, fun A hA hO => ?_⟩
            refine c_become hO (fun σ1 a0 a1 a2 hf => ?_)
            exact hmod A n σ1 c (by omega) c2 (by omega) hA a0 a1 a2 hf
          · rw [if_neg c5]
            refine bX11_sheet L (d + 1) x s n σ _ ?_
            refine n_isSheet (fun _ => ?_) (fun c9 => absurd c c9)
            rw [if_neg (by decide)]
            refine m_in (fun _ => ?_) (fun c9 => absurd ⟨by omega, by omega⟩ c9)
            rw [if_neg (by decide), if_neg (by omega), if_pos (by omega), if_neg (by omega)]
            exact o_same h hQ _
        · rw [if_neg c4]
          exact hbad _ (by omega) rfl
    · rw [if_neg c2]
      exact hbad _ (by omega) rfl
  · rw [if_pos rfl]
    exact hbad _ (Or.inl c) rfl
theorem c_isMissing {A : Nat} (hA : rx_isO 7 A = true) (h1 : σ A 0 = -1 → K 1 σ) (h0 : σ A 0 ≠ -1 → K 0 σ) : rx_CI L d mX7_isMissing [.inr A] σ K := by
  refine bX7_isMissing L d A hA σ K ?_
  by_cases c : σ A 0 = -1
  · rw [if_neg (fun q => q c)]
    exact h1 c
  · rw [if_pos c]
    exact h0 c
theorem c_hasPlace {A : Nat} (hA : rx_isO 7 A = true) {i : Int} (h1 : 0 ≤ i ∧ i < σ A 1 → K 1 σ) (h0 : ¬ (0 ≤ i ∧ i < σ A 1) → K 0 σ) : rx_CI L d mX7_hasPlace [.inr A, .inl i] σ K := by
  refine bX7_hasPlace L d A hA i σ K ?_
  by_cases c : i < 0
  · rw [if_pos c]
    exact h0 (by omega)
  rw [if_neg c]
  by_cases c2 : σ A 1 ≤ i
  · rw [if_pos c2]
    exact h0 (by omega)
  · rw [if_neg c2]
    exact h1 (by omega)
theorem o_mark {x p v : Int} (h : iv_A S V T σ) (hQ : ∀ v σ', Inv S σ' → Q v v σ') :
    rx_CI L (d + 2) mX10_mark [.inr 0, .inl x, .inl p, .inl v] σ (fun v1 σ1 => rx_CI L (d + 2) mX11_mark [.inr 125, .inl x, .inl p, .inl v] σ1 (fun v2 σ2 => Q v1 v2 σ2)) := by
  have hR := iv_R_of h
  refine bX10_mark L (d + 1) x p v σ _ ?_
  refine s_isSheet (fun c => ?_) (fun c => ?_)
  · rw [if_pos (by decide)]
    refine ⟨c, fun A hA hO => ?_⟩
    obtain ⟨s1, s2, s3, s4, s5⟩ := iv_sh hR.2.2.2.1 c hA
    have fin : ∀ u, rx_r u → 0 ≤ p ∧ p < σ A 1 → Q 1 1 (rx_up (rx_up σ (A + 1) p u) 152 (24 * x + p) u) := by
      intro u hu hp
      refine hQ _ _ ⟨V, T, iv_rest h (fun c i h1 h2 => ?_) ⟨iv_constfr hR.1 (fun c h9 => ?_), iv_tapefr hR.2.1 ?_ ?_ ?_ ?_, iv_waitfr hR.2.2.1 ?_ ?_ ?_ ?_, iv_shset hR.2.2.2.1 c hA (fun c h1 h2 h3 => ?_) (fun y hy => ?_) (fun i hi => ?_) ?_, iv_slotfr hR.2.2.2.2 (fun c h9 => ?_)⟩⟩
      · unfold fr_r at h2
        rw [up_n (by omega), up_n (by omega)]
      · rw [up_c (by omega), up_c (by omega)]
      · rw [up_c (by omega), up_c (by omega)]
      · rw [up_c (by omega), up_c (by omega)]
      · rw [up_c (by omega), up_c (by omega)]
      · rw [up_c (by omega), up_c (by omega)]
      · rw [up_c (by omega), up_c (by omega)]
      · rw [up_c (by omega), up_c (by omega)]
      · rw [up_c (by omega), up_c (by omega)]
      · rw [up_c (by omega), up_c (by omega)]
      · rw [up_c (by omega), up_c (by omega)]
      · rw [up_c (by omega), up_c (by omega), up_c (by omega), up_c (by omega)]
        exact ⟨rfl, rfl⟩
      · rw [up_i (by omega), up_c (by omega)]
      · unfold sh_is
        rw [up_c (c' := A) (by omega), up_c (c' := A) (by omega), up_c (c' := 150) (by omega), up_c (c' := 150) (by omega), up_c (c' := 151) (by omega), up_c (c' := 151) (by omega), up_c (c' := A + 1) (by omega)]
        refine ⟨s1, s2, s3, s4, fun i i0 i1 => ?_⟩
        by_cases e : i = p
        · rw [up_e (by omega), up_e e]
          exact ⟨rfl, hu⟩
        · rw [up_i (by omega), up_i e, up_c (by omega)]
          exact s5 i i0 i1
      · rw [up_c (by omega), up_c (by omega)]
    have hmod : ∀ (w : Int) (σ1 : rx_St), σ1 150 = σ 150 → σ1 151 = σ 151 → (σ A 0 = -1 → Q w (-1000000011) σ1) → (σ A 0 ≠ -1 → ¬ (0 ≤ p ∧ p < σ A 1) → Q w (-1000000013) σ1) → (σ A 0 = 0 → 0 ≤ p ∧ p < σ A 1 → v = -1000000005 → Q w (-1000000012) σ1) → (σ A 0 = 0 → 0 ≤ p ∧ p < σ A 1 → v ≠ -1000000005 → Q w 1 (rx_up σ1 152 (24 * x + p) (rx_un 1 v))) → (σ A 0 = 1 → 0 ≤ p ∧ p < σ A 1 → v = -1000000005 ∨ (-99999 ≤ v ∧ v ≤ 99999) → Q w 1 (rx_up σ1 152 (24 * x + p) v)) → (σ A 0 = 1 → 0 ≤ p ∧ p < σ A 1 → ¬ (v = -1000000005 ∨ (-99999 ≤ v ∧ v ≤ 99999)) → Q w (-1000000001) σ1) → rx_CI L (d + 2) mX11_mark [.inr 125, .inl x, .inl p, .inl v] σ1 (fun v2 σ2 => Q w v2 σ2) := by
      intro w σ1 e150 e151 q1 q2 q3 q4 q5 q6
      refine bX11_mark L (d + 1) x p v σ1 _ ?_
      refine n_isSheet (fun _ => ?_) (fun c1 => absurd c c1)
      rw [if_pos (by decide), e150, e151, s2, s4]
      refine ⟨c, ?_⟩
      by_cases g : σ A 0 = -1
      · rw [if_neg (by omega)]
        exact q1 g
      rw [if_pos (by omega), rx_w_of (by omega) (by omega)]
      refine m_in (fun hp => ?_) (fun hp => ?_)
      · have hp : 0 ≤ p ∧ p < σ A 1 := by omega
        rw [if_pos (by decide), e150, s2]
        by_cases g0 : σ A 0 = 0
        · rw [if_neg (fun q => q g0)]
          by_cases gv : v = -1000000005
          · rw [if_neg (fun q => q gv)]
            exact q3 g0 hp gv
          · rw [if_pos gv]
            refine bX11_mark_60 L (d + 1) x p v σ1 _ ⟨c, ?_⟩
            rw [e150, s2, if_pos (by omega)]
            refine bX11_mark_92 L (d + 1) x p v σ1 _ ⟨c, ?_⟩
            rw [e150, s2, if_neg (by omega)]
            simp (disch := omega) only [rx_w_of]
            exact ⟨by omega, q4 g0 hp gv⟩
        · rw [if_pos g0]
          have g1 : σ A 0 = 1 := by omega
          have h92 : v = -1000000005 ∨ (-99999 ≤ v ∧ v ≤ 99999) → rx_Go L (d + 2) mX11_mark 92 [some (.inr 125), some (.inl x), some (.inl p), some (.inl v)] [] σ1 (rx_PI (fun v2 σ2 => Q w v2 σ2)) := by
            intro gv
            refine bX11_mark_92 L (d + 1) x p v σ1 _ ⟨c, ?_⟩
            rw [e150, s2, if_pos (by omega)]
            simp (disch := omega) only [rx_w_of]
            exact ⟨by omega, q5 g1 hp gv⟩
          refine bX11_mark_60 L (d + 1) x p v σ1 _ ⟨c, ?_⟩
          rw [e150, s2, if_neg (by omega)]
          by_cases gv : v = -1000000005
          · rw [if_pos gv]
            exact h92 (Or.inl gv)
          · rw [if_neg gv]
            refine m_in (fun gg => ?_) (fun gg => ?_)
            · rw [if_pos (by decide)]
              exact h92 (Or.inr gg)
            · rw [if_neg (by decide)]
              exact q6 g1 hp (fun q => q.elim gv gg)
      · rw [if_neg (by decide)]
        exact q2 g (by omega)
    refine c_isMissing hO (fun g => ?_) (fun g => ?_)
    · rw [if_neg (by decide)]
      exact hmod _ σ rfl rfl (fun _ => o_same h hQ _) (fun q => absurd g q) (fun q => by omega) (fun q => by omega) (fun q => by omega) (fun q => by omega)
    · rw [if_pos rfl]
      refine c_hasPlace hO (fun hp => ?_) (fun hp => ?_)
      · rw [if_pos (by decide)]
        by_cases g0 : σ A 0 = 0
        · rw [if_neg (fun q => q g0)]
          by_cases gv : v = -1000000005
          · rw [if_neg (fun q => q gv)]
            exact hmod _ σ rfl rfl (fun q => absurd q g) (fun _ q => absurd hp q) (fun _ _ _ => o_same h hQ _) (fun _ _ q => absurd gv q) (fun q => by omega) (fun q => by omega)
          · rw [if_pos gv]
            refine ⟨by omega, ?_⟩
            exact hmod _ _ (up_c (by omega)) (up_c (by omega)) (fun q => absurd q g) (fun _ q => absurd hp q) (fun _ _ q => absurd q gv) (fun _ _ _ => fin _ (rx_toR _) hp) (fun q => by omega) (fun q => by omega)
        · rw [if_pos g0]
          by_cases gv : v = -1000000005
          · rw [if_pos gv]
            refine ⟨by omega, ?_⟩
            exact hmod _ _ (up_c (by omega)) (up_c (by omega)) (fun q => absurd q g) (fun _ q => absurd hp q) (fun q => absurd q g0) (fun q => absurd q g0) (fun _ _ _ => fin _ (by unfold rx_r; omega) hp) (fun _ _ q => absurd (Or.inl gv) q)
          · rw [if_neg gv]
            by_cases g1 : v < -99999
            · rw [if_pos g1]
              exact hmod _ σ rfl rfl (fun q => absurd q g) (fun _ q => absurd hp q) (fun q => absurd q g0) (fun q => absurd q g0) (fun _ _ q => by omega) (fun _ _ _ => o_same h hQ _)
            · rw [if_neg g1]
              by_cases g2 : v ≤ 99999
              · rw [if_pos g2]
                refine ⟨by omega, ?_⟩
                exact hmod _ _ (up_c (by omega)) (up_c (by omega)) (fun q => absurd q g) (fun _ q => absurd hp q) (fun q => absurd q g0) (fun q => absurd q g0) (fun _ _ _ => fin _ (by unfold rx_r; omega) hp) (fun _ _ q => by omega)
              · rw [if_neg g2]
                exact hmod _ σ rfl rfl (fun q => absurd q g) (fun _ q => absurd hp q) (fun q => absurd q g0) (fun q => absurd q g0) (fun _ _ q => by omega) (fun _ _ _ => o_same h hQ _)
      · rw [if_neg (by decide)]
        exact hmod _ σ rfl rfl (fun q => absurd q g) (fun _ _ => o_same h hQ _) (fun _ q => absurd q hp) (fun _ q => absurd q hp) (fun _ q => absurd q hp) (fun _ q => absurd q hp)
  · rw [if_neg (by decide)]
    refine bX11_mark L (d + 1) x p v σ _ ?_
    refine n_isSheet (fun c1 => absurd c1 c) (fun _ => ?_)
    rw [if_neg (by decide)]
    exact o_same h hQ _
end ROWS
