/-! ===== what holds between the calls ===== -/
/-- texts as such: T 0 keys, T 1 leaves, T 2 lengths, T (4 + t) the signs of text t -/
def tx_enc (e : Int) : Int := if 0 ≤ e then e else if -3 ≤ e then 9999 - e else if e = -124 then -1 else if e = -38 then -2 else if e = -60 then -3 else if e = -61 then -4 else if e = -62 then -5 else if e = -43 then -6 else if e = -45 then -7 else if e = -42 then -8 else if e = -47 then -9 else -10
/-- how high the stack is behind k signs -/
def tx_dep (c : Int → Int) : Nat → Int
  | 0 => 0
  | k + 1 => if -3 ≤ c k then tx_dep c k + 1 else if c k = -33 then tx_dep c k else tx_dep c k - 1
def tx_two (e : Int) : Prop := e = -124 ∨ e = -38 ∨ e = -60 ∨ e = -61 ∨ e = -62 ∨ e = -43 ∨ e = -45 ∨ e = -42 ∨ e = -47
/-- a row of n signs that can be worked out, of a key -/
def tx_ok (key : Int) (c : Int → Int) (n : Nat) : Prop := (∀ k : Nat, k < n → (-3 ≤ c k ∧ c k ≤ 9999 ∧ (c k = -3 → key = 0)) ∨ (c k = -33 ∧ 1 ≤ tx_dep c k) ∨ (tx_two (c k) ∧ 2 ≤ tx_dep c k)) ∧ 1 ≤ tx_dep c n
def tx_Wf (T : rx_St) (n : Int) : Prop := ∀ t : Int, 0 ≤ t → t < n → (0 ≤ T 0 t ∧ T 0 t ≤ 2) ∧ (0 ≤ T 2 t ∧ T 2 t ≤ 96) ∧ tx_ok (T 0 t) (T (4 + t.toNat)) (T 2 t).toNat
/-- the texts in the cells of the class -/
def tx_C (T σ : rx_St) : Prop := ∀ k, k ≤ 17 → σ (39 + k) = T k
/-- the first n texts in a row of the model -/
def tx_M (T : rx_St) (n : Int) (M : Int → Int) : Prop := ∀ t : Int, 0 ≤ t → t < n → M (126 + 2 * t) = 1000 * T 0 t + T 2 t ∧ M (127 + 2 * t) = T 1 t ∧ ∀ k : Int, 0 ≤ k → k < T 2 t → M (154 + 96 * t + k) = tx_enc (T (4 + t.toNat) k)
def iv_img (V σ : rx_St) : Prop := (σ 0 3 = 0 ∨ σ 0 3 = 1) ∧ σ 125 3 = σ 0 3 ∧ (σ 0 3 = 1 → ∃ I, iv_Wf I ∧ ld_C 12 I σ ∧ ld_M I (σ 127) ∧ I 0 12 ≤ V 0 12)
def iv_txt (T : rx_St) (n : Int) (σ : rx_St) : Prop := tx_C T σ ∧ tx_Wf T n ∧ tx_M T n (σ 126) ∧ (σ 0 3 = 1 → tx_M T (σ 127 3) (σ 127))
def iv_tape (σ : rx_St) : Prop := (0 ≤ σ 34 0 ∧ σ 34 0 ≤ 96) ∧ σ 125 22 = σ 34 0 ∧ ∀ i, 0 ≤ i → i < σ 34 0 → σ 142 i = σ 36 i ∧ 0 ≤ σ 36 i ∧ σ 36 i ≤ 255
def iv_wait (σ : rx_St) : Prop := (0 ≤ σ 0 13 ∧ σ 0 13 ≤ 60) ∧ σ 125 48 = σ 0 13 ∧ ∀ i, 0 ≤ i → i < σ 0 13 → σ 158 i = σ 101 i
def iv_sheet (σ : rx_St) : Prop := ∀ s : Nat, s < 4 → (-1 ≤ σ (102 + 2 * s) 0 ∧ σ (102 + 2 * s) 0 ≤ 1) ∧ σ 150 s = σ (102 + 2 * s) 0 ∧ (0 ≤ σ (102 + 2 * s) 1 ∧ σ (102 + 2 * s) 1 ≤ 24) ∧ σ 151 s = σ (102 + 2 * s) 1 ∧ ∀ i : Int, 0 ≤ i → i < 24 → σ 152 (24 * s + i) = σ (102 + 2 * s + 1) i ∧ rx_r (σ (102 + 2 * s + 1) i)
def rs_worth (k w : Int) : Int := if k = 1 then 15 - w else if k = 2 ∨ k = 4 then Int.tdiv (10 - w) 2 else if k = 3 then 15 - 2 * w else if k = 5 then 20 else 10 - w
def iv_slot (σ : rx_St) : Prop := ∀ s : Nat, s < 5 → (0 ≤ σ (110 + 3 * s) 0 ∧ σ (110 + 3 * s) 0 ≤ 3) ∧ σ 153 s = σ (110 + 3 * s) 0 ∧
  (σ (110 + 3 * s) 0 = 1 → (0 ≤ σ (110 + 3 * s) 1 ∧ σ (110 + 3 * s) 1 < 6) ∧ (1 ≤ σ (110 + 3 * s) 2 ∧ σ (110 + 3 * s) 2 ≤ 9) ∧ σ 154 s = σ (110 + 3 * s) 1 ∧ σ 155 s = rs_worth (σ (110 + 3 * s) 1) (σ (110 + 3 * s) 2)) ∧
  (σ (110 + 3 * s) 0 = 2 → (0 ≤ σ (110 + 3 * s + 1) 1 ∧ σ (110 + 3 * s + 1) 1 ≤ 24) ∧ σ 154 s = σ (110 + 3 * s + 1) 1 ∧ ∀ i : Int, 0 ≤ i → i < 24 → σ 156 (24 * s + i) = σ (110 + 3 * s + 1 + 1) i) ∧
  (σ (110 + 3 * s) 0 = 3 → σ 154 s = σ (110 + 3 * s) 4)
/-- what never changes: the script, the kinds, the words of the model -/
def iv_const (S : Int → Int) (σ : rx_St) : Prop := (σ 159 = S ∧ ∀ i, rx_r (S i)) ∧ (σ 160 0 = -1 ∧ σ 160 1 = 0 ∧ σ 160 2 = 0 ∧ σ 160 3 = 1 ∧ σ 160 4 = 2 ∧ σ 160 5 = 0) ∧
  (σ 143 0 = 104 ∧ σ 143 1 = 97 ∧ σ 143 2 = 114 ∧ σ 143 3 = 109 ∧ σ 143 4 = 99 ∧ σ 143 5 = 114 ∧ σ 143 6 = 111 ∧ σ 143 7 = 115 ∧ σ 143 8 = 115 ∧ σ 143 9 = 115 ∧ σ 143 10 = 119 ∧ σ 143 11 = 97 ∧ σ 143 12 = 112) ∧ (σ 144 0 = 0 ∧ σ 144 1 = 4 ∧ σ 144 2 = 9 ∧ σ 144 3 = 13)
/-- all, with the land and the texts named -/
def iv_A (S : Int → Int) (V T σ : rx_St) : Prop := iv_Wf V ∧ ld_C 1 V σ ∧ ld_M V (σ 126) ∧ iv_img V σ ∧ iv_txt T (V 0 12) σ ∧ iv_const S σ ∧ iv_tape σ ∧ iv_wait σ ∧ iv_sheet σ ∧ iv_slot σ
def Inv (S : Int → Int) (σ : rx_St) : Prop := ∃ V T, iv_A S V T σ
/-- what of the store the calls lean on -/
def fr_k (c : Nat) (i : Int) : Prop := c ≤ 22 ∨ c = 36 ∨ (39 ≤ c ∧ c ≤ 56) ∨ (101 ≤ c ∧ c ≤ 124) ∨ c = 126 ∨ c = 127 ∨ (142 ≤ c ∧ c ≤ 144) ∨ (150 ≤ c ∧ c ≤ 156) ∨ 158 ≤ c ∨ (c = 34 ∧ i = 0) ∨ (c = 125 ∧ (i = 3 ∨ i = 22 ∨ i = 48))
def fr (σ σ' : rx_St) : Prop := ∀ c i, fr_k c i → σ' c i = σ c i
section FR
variable {σ σ' σ'' : rx_St}
theorem fr_refl (σ : rx_St) : fr σ σ := fun _ _ _ => rfl
theorem fr_trans (h : fr σ σ') (h' : fr σ' σ'') : fr σ σ'' := fun c i k => (h' c i k).trans (h c i k)
theorem fr_up {c : Nat} {i v : Int} (h : fr σ σ') (hk : ¬ fr_k c i) : fr σ (rx_up σ' c i v) := fun c' i' k => by
  have hn : ¬ (c' = c ∧ i' = i) := fun q => hk (by rw [← q.1, ← q.2]; exact k)
  rw [up_n hn]
  exact h c' i' k
theorem fr_cell (h : fr σ σ') {c : Nat} (hc : ∀ i, fr_k c i) : σ' c = σ c := funext fun i => h c i (hc i)
theorem fr_whole {c : Nat} (hc : c ≤ 22 ∨ c = 36 ∨ (39 ≤ c ∧ c ≤ 56) ∨ (101 ≤ c ∧ c ≤ 124) ∨ c = 126 ∨ c = 127 ∨ (142 ≤ c ∧ c ≤ 144) ∨ (150 ≤ c ∧ c ≤ 156) ∨ 158 ≤ c) (h : fr σ σ') : σ' c = σ c := fr_cell h (fun i => by unfold fr_k; omega)
end FR
section INV
variable {σ σ' V V' T : rx_St} {S : Int → Int}
/-- the part that is neither the land nor its image nor texts -/
def iv_R (S : Int → Int) (σ : rx_St) : Prop := iv_const S σ ∧ iv_tape σ ∧ iv_wait σ ∧ iv_sheet σ ∧ iv_slot σ
def fr_r (c : Nat) (i : Int) : Prop := (c = 0 ∧ i = 13) ∨ c = 36 ∨ (101 ≤ c ∧ c ≤ 124) ∨ (142 ≤ c ∧ c ≤ 144) ∨ (150 ≤ c ∧ c ≤ 156) ∨ 158 ≤ c ∨ (c = 34 ∧ i = 0) ∨ (c = 125 ∧ (i = 22 ∨ i = 48))
theorem iv_Rfr (h : iv_R S σ) (hf : ∀ c i, fr_r c i → σ' c i = σ c i) : iv_R S σ' := by
  have hc : ∀ c, (c = 36 ∨ (101 ≤ c ∧ c ≤ 124) ∨ (142 ≤ c ∧ c ≤ 144) ∨ (150 ≤ c ∧ c ≤ 156) ∨ 158 ≤ c) → σ' c = σ c := fun c h => funext fun i => hf c i (by unfold fr_r; omega)
  have e1 : σ' 0 13 = σ 0 13 := hf 0 13 (by unfold fr_r; omega)
  have e2 : σ' 34 0 = σ 34 0 := hf 34 0 (by unfold fr_r; omega)
  have e3 : σ' 125 22 = σ 125 22 := hf 125 22 (by unfold fr_r; omega)
  have e4 : σ' 125 48 = σ 125 48 := hf 125 48 (by unfold fr_r; omega)
  obtain ⟨a1, a2, a3, a4, a5⟩ := h
  refine ⟨?_, ?_, ?_, ?_, ?_⟩
  · unfold iv_const
    rw [hc 159 (by omega), hc 160 (by omega), hc 143 (by omega), hc 144 (by omega)]
    exact a1
  · unfold iv_tape
    rw [e2, e3, hc 36 (by omega), hc 142 (by omega)]
    exact a2
  · unfold iv_wait
    rw [e1, e4, hc 158 (by omega), hc 101 (by omega)]
    exact a3
  · intro s hs
    rw [hc (102 + 2 * s) (by omega), hc (102 + 2 * s + 1) (by omega), hc 150 (by omega), hc 151 (by omega), hc 152 (by omega)]
    exact a4 s hs
  · intro s hs
    rw [hc (110 + 3 * s) (by omega), hc (110 + 3 * s + 1) (by omega), hc (110 + 3 * s + 1 + 1) (by omega), hc 153 (by omega), hc 154 (by omega), hc 155 (by omega), hc 156 (by omega)]
    exact a5 s hs
theorem iv_R_of (h : iv_A S V T σ) : iv_R S σ := h.2.2.2.2.2
/-- the land changes, not how many texts; all else stays -/
def fr_v (c : Nat) (i : Int) : Prop := fr_k c i ∧ ¬ (1 ≤ c ∧ c ≤ 11) ∧ ¬ (c = 126 ∧ i < 126)
theorem iv_land (h : iv_A S V T σ) (hf : ∀ c i, fr_v c i → σ' c i = σ c i) (hw : iv_Wf V') (hC : ld_C 1 V' σ') (hM : ld_M V' (σ' 126)) (ht : V' 0 12 = V 0 12) : iv_A S V' T σ' := by
  obtain ⟨a1, a2, a3, a4, a5, a6⟩ := h
  have hR : iv_R S σ' := iv_Rfr a6 (fun c i h => hf c i (by unfold fr_r at h; unfold fr_v fr_k; omega))
  have hc : ∀ c, (12 ≤ c ∧ c ≤ 22) ∨ (39 ≤ c ∧ c ≤ 56) ∨ c = 127 → σ' c = σ c := fun c h => funext fun i => hf c i (by unfold fr_v fr_k; omega)
  have e1 : σ' 0 3 = σ 0 3 := hf 0 3 (by unfold fr_v fr_k; omega)
  have e2 : σ' 125 3 = σ 125 3 := hf 125 3 (by unfold fr_v fr_k; omega)
  have e3 : ∀ i, 126 ≤ i → σ' 126 i = σ 126 i := fun i hi => hf 126 i (by unfold fr_v fr_k; omega)
  refine ⟨hw, hC, hM, ?_, ?_, hR⟩
  · unfold iv_img
    rw [e1, e2, hc 127 (by omega), ht]
    refine ⟨a4.1, a4.2.1, fun g => ?_⟩
    obtain ⟨I, i1, i2, i3, i4⟩ := a4.2.2 g
    exact ⟨I, i1, ld_Cfr i2 (fun c h1 h2 => hc c (by omega)), i3, i4⟩
  · obtain ⟨b1, b2, b3, b4⟩ := a5
    refine ⟨fun k hk => ?_, by rw [ht]; exact b2, ?_, ?_⟩
    · rw [hc (39 + k) (by omega)]
      exact b1 k hk
    · rw [ht]
      intro t h0 h1
      obtain ⟨c1, c2, c3⟩ := b3 t h0 h1
      rw [e3 _ (by omega), e3 _ (by omega)]
      exact ⟨c1, c2, fun k k0 k1 => by rw [e3 _ (by omega)]; exact c3 k k0 k1⟩
    · rw [e1, hc 127 (by omega)]
      exact b4
theorem iv_fr (h : iv_A S V T σ) (hf : fr σ σ') : iv_A S V T σ' := by
  have e126 : σ' 126 = σ 126 := fr_whole (by omega) hf
  refine iv_land h (fun c i k => hf c i k.1) h.1 (ld_Cfr h.2.1 (fun c h1 h2 => fr_whole (by omega) hf)) (by rw [e126]; exact h.2.2.1) rfl
/-- sheets, slots, tape, what waits change; land, image, texts stay -/
theorem iv_rest (h : iv_A S V T σ) (hf : ∀ c i, fr_k c i → ¬ fr_r c i → σ' c i = σ c i) (hR : iv_R S σ') : iv_A S V T σ' := by
  obtain ⟨a1, a2, a3, a4, a5, a6⟩ := h
  have hc : ∀ c, (1 ≤ c ∧ c ≤ 22) ∨ (39 ≤ c ∧ c ≤ 56) ∨ c = 126 ∨ c = 127 → σ' c = σ c := fun c h => funext fun i => hf c i (by unfold fr_k; omega) (by unfold fr_r; omega)
  have e1 : σ' 0 3 = σ 0 3 := hf 0 3 (by unfold fr_k; omega) (by unfold fr_r; omega)
  have e2 : σ' 125 3 = σ 125 3 := hf 125 3 (by unfold fr_k; omega) (by unfold fr_r; omega)
  refine ⟨a1, ld_Cfr a2 (fun c h1 h2 => hc c (by omega)), by rw [hc 126 (by omega)]; exact a3, ?_, ?_, hR⟩
  · unfold iv_img
    rw [e1, e2, hc 127 (by omega)]
    refine ⟨a4.1, a4.2.1, fun g => ?_⟩
    obtain ⟨I, i1, i2, i3, i4⟩ := a4.2.2 g
    exact ⟨I, i1, ld_Cfr i2 (fun c h1 h2 => hc c (by omega)), i3, i4⟩
  · unfold iv_txt
    rw [e1, hc 126 (by omega), hc 127 (by omega)]
    refine ⟨fun k hk => ?_, a5.2⟩
    rw [hc (39 + k) (by omega)]
    exact a5.1 k hk
end INV
