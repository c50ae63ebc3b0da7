/-! ===== reading a text: the class's descent, beside the model's moves ===== -/
/-- how many leaves a row of signs has -/
def sc_l (w : List Int) : Int := (w.countP (fun x => decide (-3 ≤ x)) : Nat)
theorem sc_la {w v : List Int} : sc_l (w ++ v) = sc_l w + sc_l v := by
  unfold sc_l
  rw [List.countP_append]
  exact Int.natCast_add _ _
theorem sc_l0 (w : List Int) : 0 ≤ sc_l w := Int.natCast_nonneg _
theorem sc_ll (w : List Int) : sc_l w ≤ w.length := by unfold sc_l; exact Int.ofNat_le.mpr List.countP_le_length
theorem sc_l1 {v : Int} (h : -3 ≤ v) : sc_l [v] = 1 := by
  unfold sc_l
  rw [List.countP_cons, List.countP_nil, if_pos (by simpa using h)]
  rfl
theorem sc_ls {v : Int} (h : v < -3) : sc_l [v] = 0 := by
  unfold sc_l
  rw [List.countP_cons, List.countP_nil, if_neg (by simpa using h)]
  rfl
/-- a row of signs that leaves one more -/
def sc_w (key : Int) (w : List Int) : Prop := ∀ (c : Int → Int) (a : Nat), 0 ≤ tx_dep c a → (∀ i : Nat, i < w.length → w[i]? = some (c ((a + i : Nat) : Int))) → (∀ i : Nat, i < w.length → (-3 ≤ c ((a + i : Nat) : Int) ∧ c ((a + i : Nat) : Int) ≤ 9999 ∧ (c ((a + i : Nat) : Int) = -3 → key = 0)) ∨ (c ((a + i : Nat) : Int) = -33 ∧ 1 ≤ tx_dep c (a + i)) ∨ (tx_two (c ((a + i : Nat) : Int)) ∧ 2 ≤ tx_dep c (a + i))) ∧ tx_dep c (a + w.length) = tx_dep c a + 1
theorem sc_w_leaf {key v : Int} (h : -3 ≤ v ∧ v ≤ 9999 ∧ (v = -3 → key = 0)) : sc_w key [v] := by
  intro c a ha hc
  have e : c ((a + 0 : Nat) : Int) = v := (Option.some.inj (hc 0 Nat.zero_lt_one)).symm
  refine ⟨fun i hi => ?_, ?_⟩
  · have : i = 0 := by
      have hi : i < 1 := hi
      omega
    subst this
    rw [e]
    exact Or.inl h
  · show tx_dep c (a + 1) = _
    exact tx_dep_leaf (by rw [show ((a : Nat) : Int) = ((a + 0 : Nat) : Int) from rfl, e]; exact h.1)
theorem sc_w_not {key : Int} {w : List Int} (h : sc_w key w) : sc_w key (w ++ [-33]) := by
  intro c a ha hc
  rw [List.length_append] at hc
  have hc : ∀ i : Nat, i < w.length + 1 → (w ++ [-33])[i]? = some (c ((a + i : Nat) : Int)) := hc
  obtain ⟨h1, h2⟩ := h c a ha (fun i hi => by
    have := hc i (by omega)
    rw [List.getElem?_append_left hi] at this
    exact this)
  have e : c ((a + w.length : Nat) : Int) = -33 := by
    have := hc w.length (by omega)
    rw [List.getElem?_append_right (Nat.le_refl _), Nat.sub_self] at this
    exact (Option.some.inj this).symm
  refine ⟨fun i hi => ?_, ?_⟩
  · rw [List.length_append] at hi
    have hi : i < w.length + 1 := hi
    by_cases c1 : i < w.length
    · exact h1 i c1
    · have : i = w.length := by omega
      subst this
      exact Or.inr (Or.inl ⟨e, by omega⟩)
  · rw [List.length_append]
    show tx_dep c (a + w.length + 1) = _
    rw [tx_dep_not e, h2]
theorem sc_w_two {key s : Int} {w v : List Int} (h : sc_w key w) (g : sc_w key v) (hs : tx_two s) : sc_w key (w ++ v ++ [s]) := by
  intro c a ha hc
  rw [List.length_append, List.length_append] at hc
  have hc : ∀ i : Nat, i < w.length + v.length + 1 → (w ++ v ++ [s])[i]? = some (c ((a + i : Nat) : Int)) := hc
  obtain ⟨h1, h2⟩ := h c a ha (fun i hi => by
    have := hc i (by omega)
    rw [List.append_assoc, List.getElem?_append_left hi] at this
    exact this)
  obtain ⟨g1, g2⟩ := g c (a + w.length) (by omega) (fun i hi => by
    have := hc (w.length + i) (by omega)
    rw [List.append_assoc, List.getElem?_append_right (by omega), List.getElem?_append_left (by omega), show w.length + i - w.length = i by omega, ← Nat.add_assoc] at this
    exact this)
  have e : c ((a + w.length + v.length : Nat) : Int) = s := by
    have := hc (w.length + v.length) (by omega)
    rw [List.getElem?_append_right (by rw [List.length_append]; omega), List.length_append, Nat.sub_self, ← Nat.add_assoc] at this
    exact (Option.some.inj this).symm
  refine ⟨fun i hi => ?_, ?_⟩
  · rw [List.length_append, List.length_append] at hi
    have hi : i < w.length + v.length + 1 := hi
    by_cases c1 : i < w.length
    · exact h1 i c1
    by_cases c2 : i < w.length + v.length
    · have := g1 (i - w.length) (by omega)
      rw [show a + w.length + (i - w.length) = a + i by omega] at this
      exact this
    · have : i = w.length + v.length := by omega
      subst this
      rw [← Nat.add_assoc, e]
      exact Or.inr (Or.inr ⟨hs, by omega⟩)
  · rw [List.length_append, List.length_append]
    show tx_dep c (a + (w.length + v.length + 1)) = _
    rw [show a + (w.length + v.length + 1) = a + w.length + v.length + 1 by omega, tx_dep_two (by rw [e]; unfold tx_two at hs; omega) (by rw [e]; unfold tx_two at hs; omega), g2, h2]
    omega
/-- the class's reader -/
def sc_B (t : Int → Int) (n key : Int) (σ0 : rx_St) : Prop := (0 ≤ n ∧ n ≤ 96) ∧ σ0 34 0 = n ∧ σ0 34 1 = key ∧ σ0 36 = t ∧ (∀ i, 0 ≤ i → i < n → 0 ≤ t i ∧ t i ≤ 255) ∧ 0 ≤ key ∧ key ≤ 2
def sc_F (σ0 σ : rx_St) : Prop := (∀ c, c ≠ 34 → c ≠ 35 → σ c = σ0 c) ∧ (∀ i, i ≠ 2 → i ≠ 3 → i ≠ 6 → i ≠ 7 → i ≠ 8 → i ≠ 9 → σ 34 i = σ0 34 i)
def sc_S (σ0 : rx_St) (k f e : Int) (D : List Int) (a : Int) (σ : rx_St) : Prop := sc_F σ0 σ ∧ (σ 34 6 = k ∧ σ 34 7 = f ∧ σ 34 8 = e) ∧ (ar_is (σ 35) D ∧ σ 34 3 = D.length) ∧ σ 34 2 = a ∧ σ 34 9 = -1
def sc_E (n : Int) (σ0 : rx_St) (fl : Int) (σ : rx_St) : Prop := sc_F σ0 σ ∧ 0 ≤ σ 34 3 ∧ (0 ≤ σ 34 8 ∧ σ 34 8 ≤ n) ∧ σ 34 9 = fl ∧ 0 ≤ fl ∧ fl ≤ n
section CLS
variable {L d : Nat} {t : Int → Int} {n key : Int} {σ0 σ : rx_St} {K : Int → rx_St → Prop} {KV : rx_St → Prop} {k f e a fl : Int} {D : List Int}
theorem c_wr {v : Int} (hS : sc_S σ0 k f e D a σ) (hD : D.length < 96) (h : ∀ σ', sc_S σ0 k f e (D ++ [v]) a σ' → KV σ') : rx_CV L d mX5_write [.inr 34, .inl v] σ KV := by
  obtain ⟨hF, ⟨h6, h7, h8⟩, ⟨hC, h3⟩, h2, h9⟩ := hS
  refine bX5_write L d v σ KV ?_
  rw [h3, if_neg (by omega), up_c (show (34 : Nat) ≠ 35 by decide), h3, rx_w_of (by omega) (by omega)]
  refine ⟨by omega, h _ ⟨⟨fun c c1 c2 => by rw [up_c c1, up_c c2]; exact hF.1 c c1 c2, fun i i2 i3 i6 i7 i8 i9 => by rw [up_i i3, up_c (by decide)]; exact hF.2 i i2 i3 i6 i7 i8 i9⟩, ⟨?_, ?_, ?_⟩, ⟨?_, ?_⟩, ?_, ?_⟩⟩
  · rw [up_i (by decide), up_c (by decide)]
    exact h6
  · rw [up_i (by decide), up_c (by decide)]
    exact h7
  · rw [up_i (by decide), up_c (by decide)]
    exact h8
  · rw [up_c (by decide)]
    exact ar_push hC up_s (fun i hi => up_i hi)
  · rw [up_s, List.length_append]
    rfl
  · rw [up_i (by decide), up_c (by decide)]
    exact h2
  · rw [up_i (by decide), up_c (by decide)]
    exact h9
theorem c_wrE {v : Int} (hE : sc_E n σ0 fl σ) (h : ∀ σ', sc_E n σ0 fl σ' → KV σ') : rx_CV L d mX5_write [.inr 34, .inl v] σ KV := by
  have hE0 := hE
  obtain ⟨hF, h3, h8, h9, hf⟩ := hE
  refine bX5_write L d v σ KV ?_
  by_cases c : 96 ≤ σ 34 3
  · rw [if_pos c]
    exact h σ hE0
  · rw [if_neg c, up_c (show (34 : Nat) ≠ 35 by decide), rx_w_of (by omega) (by omega)]
    refine ⟨by omega, h _ ⟨⟨fun c c1 c2 => by rw [up_c c1, up_c c2]; exact hF.1 c c1 c2, fun i i2 i3 i6 i7 i8 i9 => by rw [up_i i3, up_c (by decide)]; exact hF.2 i i2 i3 i6 i7 i8 i9⟩, ?_, ?_, ?_, hf⟩⟩
    · rw [up_s]
      omega
    · rw [up_i (by decide), up_c (by decide)]
      exact h8
    · rw [up_i (by decide), up_c (by decide)]
      exact h9
theorem c_nx (hB : sc_B t n key σ0) (hS : sc_S σ0 k f e D a σ) (he : 0 ≤ e ∧ e ≤ n) (h : ∀ σ', sc_S σ0 (rd_K t n k e) (rd_h t n 32 32 e) (rd_t t n (rd_h t n 32 32 e)) D a σ' → KV σ') : rx_CV L (d + 3) mX5_next [.inr 34] σ KV := by
  obtain ⟨hF, ⟨h6, h7, h8⟩, ⟨hC, h3⟩, h2, h9⟩ := hS
  obtain ⟨b1, b2, b3, b4, b5, b6⟩ := hB
  refine c_next b1 (by rw [hF.2 0 (by decide) (by decide) (by decide) (by decide) (by decide) (by decide)]; exact b2) (by rw [hF.1 36 (by decide) (by decide)]; exact b4) b5 (by rw [h8]; exact he) (fun σ' a1 a2 a3 a4 a5 => ?_)
  rw [h6, h8] at a1
  rw [h8] at a2 a3
  refine h σ' ⟨⟨fun c c1 c2 => by rw [a5 c c1]; exact hF.1 c c1 c2, fun i i2 i3 i6 i7 i8 i9 => by rw [a4 i i6 i7 i8]; exact hF.2 i i2 i3 i6 i7 i8 i9⟩, ⟨a1, a2, a3⟩, ⟨?_, ?_⟩, ?_, ?_⟩
  · rw [a5 35 (by decide)]
    exact hC
  · rw [a4 3 (by decide) (by decide) (by decide)]
    exact h3
  · rw [a4 2 (by decide) (by decide) (by decide)]
    exact h2
  · rw [a4 9 (by decide) (by decide) (by decide)]
    exact h9
theorem c_nxE (hB : sc_B t n key σ0) (hE : sc_E n σ0 fl σ) (h : ∀ σ', sc_E n σ0 fl σ' → KV σ') : rx_CV L (d + 3) mX5_next [.inr 34] σ KV := by
  obtain ⟨hF, h3, h8, h9, hf⟩ := hE
  obtain ⟨b1, b2, b3, b4, b5, b6⟩ := hB
  refine c_next b1 (by rw [hF.2 0 (by decide) (by decide) (by decide) (by decide) (by decide) (by decide)]; exact b2) (by rw [hF.1 36 (by decide) (by decide)]; exact b4) b5 h8 (fun σ' a1 a2 a3 a4 a5 => ?_)
  have hw := (rd_Wn (t := t) (k := σ 34 6) b1 b5 h8).2
  refine h σ' ⟨⟨fun c c1 c2 => by rw [a5 c c1]; exact hF.1 c c1 c2, fun i i2 i3 i6 i7 i8 i9 => by rw [a4 i i6 i7 i8]; exact hF.2 i i2 i3 i6 i7 i8 i9⟩, ?_, ?_, ?_, hf⟩
  · rw [a4 3 (by decide) (by decide) (by decide)]
    exact h3
  · rw [a3]
    exact ⟨by have := hw.1; have := hw.2.1; omega, hw.2.2.1⟩
  · rw [a4 9 (by decide) (by decide) (by decide)]
    exact h9
theorem c_fl (hW : rd_W t n k f e) (hS : sc_S σ0 k f e D a σ) (h : ∀ σ', sc_E n σ0 f σ' → KV σ') : rx_CV L d mX5_fail [.inr 34] σ KV := by
  obtain ⟨hF, ⟨h6, h7, h8⟩, ⟨hC, h3⟩, h2, h9⟩ := hS
  obtain ⟨w1, w2, w3, w4, w5, w6, w7⟩ := hW
  refine bX5_fail L d σ KV ?_
  rw [h9, if_neg (by decide), h7]
  refine h _ ⟨⟨fun c c1 c2 => by rw [up_c c1]; exact hF.1 c c1 c2, fun i i2 i3 i6 i7 i8 i9 => by rw [up_i i9]; exact hF.2 i i2 i3 i6 i7 i8 i9⟩, ?_, ?_, up_s, w1, by omega⟩
  · rw [up_i (by decide), h3]
    omega
  · rw [up_i (by decide), h8]
    exact ⟨by omega, w3⟩
theorem c_flE (hE : sc_E n σ0 fl σ) (h : KV σ) : rx_CV L d mX5_fail [.inr 34] σ KV := by
  obtain ⟨hF, h3, h8, h9, hf⟩ := hE
  refine bX5_fail L d σ KV ?_
  rw [h9, if_pos hf.1]
  exact h
theorem c_lf {v : Int} (hB : sc_B t n key σ0) (hS : sc_S σ0 k f e D a σ) (he : 0 ≤ e ∧ e ≤ n) (ha : 0 ≤ a ∧ a ≤ 96) (hD : D.length < 96) (h : ∀ σ', sc_S σ0 (rd_K t n k e) (rd_h t n 32 32 e) (rd_t t n (rd_h t n 32 32 e)) (D ++ [v]) (a + 1) σ' → KV σ') : rx_CV L (d + 4) mX5_writeLeaf [.inr 34, .inl v] σ KV := by
  obtain ⟨hF, ⟨h6, h7, h8⟩, ⟨hC, h3⟩, h2, h9⟩ := hS
  refine bX5_writeLeaf L (d + 3) v σ KV ?_
  rw [h2, rx_w_of (by omega) (by omega)]
  refine c_wr (σ0 := σ0) (k := k) (f := f) (e := e) (D := D) (a := a + 1) ⟨⟨fun c c1 c2 => by rw [up_c c1]; exact hF.1 c c1 c2, fun i i2 i3 i6 i7 i8 i9 => by rw [up_i i2]; exact hF.2 i i2 i3 i6 i7 i8 i9⟩, ⟨?_, ?_, ?_⟩, ⟨?_, ?_⟩, up_s, ?_⟩ hD (fun σ1 hS1 => c_nx hB hS1 he (fun σ2 hS2 => h σ2 hS2))
  · rw [up_i (by decide)]
    exact h6
  · rw [up_i (by decide)]
    exact h7
  · rw [up_i (by decide)]
    exact h8
  · rw [up_c (by decide)]
    exact hC
  · rw [up_i (by decide)]
    exact h3
  · rw [up_i (by decide)]
    exact h9
end CLS
