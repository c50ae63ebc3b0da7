/-! ===== reading a text: pieces and chains, of both at once ===== -/
/-- what a piece that is read means to the model -/
def sc_P (L d : Nat) (t : Int → Int) (n key b m k f e k' f' e' : Int) (w : List Int) : Prop := ∀ (τ0 : rx_St) (K : Int → rx_St → Prop), sg_B t n key τ0 → ∀ (C : List Int) (A : Int) (H : List Int) (j : Nat) (Z : Int → Int) (z : Int), (z = 0 ∨ z = 1) → sg_T 6 H → sg_n H + j = m → C.length + H.length + j ≤ f → (0 ≤ A ∧ A ≤ f) → sg_G L d t τ0 K 0 b k' f' e' (C ++ w.map tx_enc ++ List.replicate j (-10)) (A + sc_l w) H Z z → sg_G L d t τ0 K 1 b k f e C A (H ++ List.replicate j (-10)) Z z
def sc_Q (L d : Nat) (t : Int → Int) (n key b m k f e fl : Int) : Prop := ∀ (τ0 : rx_St) (K : Int → rx_St → Prop), sg_B t n key τ0 → ∀ (C : List Int) (A : Int) (H : List Int) (j : Nat) (Z : Int → Int) (z : Int), (z = 0 ∨ z = 1) → sg_T 6 H → sg_n H + j = m → C.length + H.length + j ≤ f → (0 ≤ A ∧ A ≤ f) → sg_X τ0 K fl → sg_G L d t τ0 K 1 b k f e C A (H ++ List.replicate j (-10)) Z z
/-- what a chain that is read means to the model -/
def sc_O (L d : Nat) (t : Int → Int) (n key l b m k f e k' f' e' : Int) (w : List Int) : Prop := ∃ (c1 r : List Int) (zf : Int → Int), w.map tx_enc = c1 ++ r ∧ (∀ x ∈ r, (x ≠ -11 ∧ l + 1 ≤ sg_r x) ∧ x ≠ -10) ∧ (3 ≤ l → ∀ z, zf z = z) ∧ (∀ z, z = 0 ∨ z = 1 → zf z = 0 ∨ zf z = 1) ∧ (sg_l k' < l ∨ (sg_l k' = 2 ∧ l ≤ 2 ∧ zf 0 = 1)) ∧
  ∀ (τ0 : rx_St) (K : Int → rx_St → Prop), sg_B t n key τ0 → ∀ (C : List Int) (A : Int) (H : List Int) (Z : Int → Int) (z : Int), (z = 0 ∨ z = 1) → (l ≤ 2 → z = 0) → sg_T (l + 1) H → sg_n H = m → C.length + H.length ≤ f → (0 ≤ A ∧ A ≤ f) → sg_G L d t τ0 K 0 b k' f' e' (C ++ c1) (A + sc_l w) (H ++ r.reverse) Z (zf z) → sg_G L d t τ0 K 1 b k f e C A H Z z
def sc_Y (L d : Nat) (t : Int → Int) (n key l b m k f e fl : Int) : Prop := ∀ (τ0 : rx_St) (K : Int → rx_St → Prop), sg_B t n key τ0 → ∀ (C : List Int) (A : Int) (H : List Int) (Z : Int → Int) (z : Int), (z = 0 ∨ z = 1) → (l ≤ 2 → z = 0) → sg_T (l + 1) H → sg_n H = m → C.length + H.length ≤ f → (0 ≤ A ∧ A ≤ f) → sg_X τ0 K fl → sg_G L d t τ0 K 1 b k f e C A H Z z
def sc_TP (L d : Nat) (t : Int → Int) (n key : Int) (dd : Nat) (b m : Int) : Prop := ∀ (σ0 : rx_St) (k f e a : Int) (D : List Int) (σ : rx_St) (KV : rx_St → Prop), sc_B t n key σ0 → rd_W t n k f e → sc_S σ0 k f e D a σ → D.length ≤ f → (0 ≤ a ∧ a ≤ f) →
  (∀ (σ' : rx_St) (k' f' e' : Int) (w : List Int), sc_S σ0 k' f' e' (D ++ w) (a + sc_l w) σ' → rd_W t n k' f' e' → (w.length : Int) ≤ f' - f → sc_w key w → sc_P L d t n key b m k f e k' f' e' w → KV σ') →
  (∀ (σ' : rx_St) (fl : Int), sc_E n σ0 fl σ' → sc_Q L d t n key b m k f e fl → KV σ') → rx_CV L dd mX5_piece [.inr 34, .inl b, .inl m] σ KV
def sc_TC (L d : Nat) (t : Int → Int) (n key : Int) (dd : Nat) (l b m : Int) : Prop := ∀ (σ0 : rx_St) (k f e a : Int) (D : List Int) (σ : rx_St) (KV : rx_St → Prop), sc_B t n key σ0 → rd_W t n k f e → sc_S σ0 k f e D a σ → D.length ≤ f → (0 ≤ a ∧ a ≤ f) →
  (∀ (σ' : rx_St) (k' f' e' : Int) (w : List Int), sc_S σ0 k' f' e' (D ++ w) (a + sc_l w) σ' → rd_W t n k' f' e' → (w.length : Int) ≤ f' - f → sc_w key w → sc_O L d t n key l b m k f e k' f' e' w → KV σ') →
  (∀ (σ' : rx_St) (fl : Int), sc_E n σ0 fl σ' → sc_Y L d t n key l b m k f e fl → KV σ') → rx_CV L dd mX5_chain [.inr 34, .inl l, .inl b, .inl m] σ KV
section DES
variable {L d dd : Nat} {t : Int → Int} {n key b m l : Int}
theorem sg_T_up {l l' : Int} {H : List Int} (h : sg_T l H) (hl : l ≤ l') : sg_T l' H := by
  rcases h with h | ⟨H', x, e, hx⟩
  · exact Or.inl h
  · exact Or.inr ⟨H', x, e, hx.imp id (fun q => by omega)⟩
theorem rd_nm_b {t : Int → Int} : ∀ (m : Nat) (i v : Int), (∀ j, i ≤ j → j < i + m → 48 ≤ t j ∧ t j ≤ 57) → 0 ≤ v → (m = 4 → v ≤ 0) → (m = 3 → v ≤ 9) → (m = 2 → v ≤ 99) → (m = 1 → v ≤ 999) → (m = 0 → v ≤ 9999) → m ≤ 4 → 0 ≤ rd_nm t m i v ∧ rd_nm t m i v ≤ 9999
  | 0, i, v, _, v0, _, _, _, _, h, _ => ⟨v0, h rfl⟩
  | m + 1, i, v, hd, v0, h4, h3, h2, h1, h0, hm => by
    have := hd i (by omega) (by omega)
    exact rd_nm_b m (i + 1) _ (fun j j0 j1 => hd j (by omega) (by omega)) (by omega) (by omega) (by omega) (by omega) (by omega) (by omega) (by omega)
theorem c_piece (hbr : 0 ≤ b ∧ b ≤ 8) (hm : 0 ≤ m ∧ m ≤ 8) (hnot : m < 8 → sc_TP L d t n key (dd + 5) b (m + 1)) (hopen : b < 8 → sc_TC L d t n key (dd + 5) 0 (b + 1) m) : sc_TP L d t n key (dd + 6) b m := by
  intro σ0 k f e a D σ KV hB hW hS hD ha hok hbad
  have hW0 := hW
  have hS0 := hS
  obtain ⟨w1, w2, w3, w4, w5, w6, w7⟩ := hW
  obtain ⟨b1, b2, b3, b4, b5, b6⟩ := hB
  have hB : sc_B t n key σ0 := ⟨b1, b2, b3, b4, b5, b6⟩
  obtain ⟨hF, ⟨h6, h7, h8⟩, hC, h2, h9⟩ := hS
  have hWn := rd_Wn (t := t) (n := n) (k := k) (e := e) b1 b5 ⟨by omega, w3⟩
  have e1 : σ 34 1 = key := by rw [hF.2 1 (by decide) (by decide) (by decide) (by decide) (by decide) (by decide)]; exact b3
  have e36 : σ 36 = t := by rw [hF.1 36 (by decide) (by decide)]; exact b4
  -- a leaf
  have leaf : ∀ v : Int, k ≠ -1 → (-3 ≤ v ∧ v ≤ 9999 ∧ (v = -3 → key = 0)) → ((k = -3 ∧ e - f ≤ 4 ∧ tx_enc v = rd_nm t (e - f).toNat f 0) ∨ (k = -2 ∧ rd_name t key f e < 0 ∧ tx_enc v = tx_enc (rd_name t key f e))) → rx_CV L (dd + 5) mX5_writeLeaf [.inr 34, .inl v] σ KV := by
    intro v k1 hv hvv
    have hfe : f < e := w6 k1
    refine c_lf (d := dd + 1) hB hS0 ⟨by omega, w3⟩ (by omega) (by omega) (fun σ1 hS1 => ?_)
    refine hok σ1 _ _ _ [v] (by rw [sc_l1 hv.1]; exact hS1) hWn.2 (by have := hWn.1; show (1 : Int) ≤ _; omega) (sc_w_leaf hv) ?_
    intro τ0 K hB' C A H j Z z hz hT hj hb hA hg
    rw [sc_l1 hv.1] at hg
    exact g_leaf hB' hW0 hvv hT (by omega) hA hg
  -- a fault
  have fault : ¬ (k = 33 ∧ m < 8) → ¬ (k = 40 ∧ b < 8) → ¬ (k = -3 ∧ e - f ≤ 4) → ¬ (k = -2 ∧ rd_name t key f e < 0) → rx_Go L (dd + 6) mX5_piece 147 [some (.inr 34), some (.inl b), some (.inl m)] [] σ (rx_PV KV) := by
    intro c1 c2 c3 c4
    refine bX5_piece_147 L (dd + 5) _ _ σ KV ?_
    refine c_fl hW0 hS0 (fun σ1 hE => hbad σ1 f hE ?_)
    intro τ0 K hB' C A H j Z z hz hT hj hb hA hX
    refine g_bad hB' hW0 ?_ c2 c3 c4 hX
    have e2 : sg_n (H ++ List.replicate j (-10)) = m := by
      rw [sg_na]
      have : sg_n (List.replicate j (-10)) = j := by
        unfold sg_n
        rw [List.countP_replicate]
        rfl
      omega
    rw [e2]
    exact c1
  -- a bracket
  have at96 : ¬ (k = 33 ∧ m < 8) → ¬ (k = -3 ∧ e - f ≤ 4) → ¬ (k = -2 ∧ rd_name t key f e < 0) → rx_Go L (dd + 6) mX5_piece 96 [some (.inr 34), some (.inl b), some (.inl m)] [] σ (rx_PV KV) := by
    intro c1 c3 c4
    refine bX5_piece_96 L (dd + 5) b m σ KV ?_
    rw [h6]
    by_cases c : k = 40
    · rw [if_neg (fun q => q c)]
      by_cases c2 : 8 ≤ b
      · rw [if_pos c2]
        exact fault c1 (by omega) c3 c4
      · rw [if_neg c2, rx_w_of (by omega) (by omega)]
        have hfe : f < e := w6 (by omega)
        refine c_nx (d := dd + 2) hB hS0 ⟨by omega, w3⟩ (fun σ1 hS1 => ?_)
        have hf1 := hWn.1
        refine hopen (by omega) σ0 _ _ _ _ _ σ1 _ hB hWn.2 hS1 (by omega) (by omega) (fun σ2 k2 f2 e2 w hS2 hW2 hlen hw hO => ?_) (fun σ2 fl hE hY => ?_)
        · obtain ⟨c1', r, zf, o1, o2, o3, o4, o5, o6⟩ := hO
          rw [hS2.2.1.1]
          have wlen : w.length = c1'.length + r.length := by rw [← List.length_append, ← o1, List.length_map]
          have hsl := sc_ll w
          have hsl0 := sc_l0 w
          by_cases c5 : k2 = 41
          · rw [if_neg (fun q => q c5)]
            have hWn2 := rd_Wn (t := t) (n := n) (k := k2) (e := e2) b1 b5 ⟨by have := hW2.1; have := hW2.2.1; omega, hW2.2.2.1⟩
            have hfe2 : f2 < e2 := hW2.2.2.2.2.2.1 (by omega)
            refine c_nx (d := dd + 2) hB hS2 ⟨by have := hW2.1; omega, hW2.2.2.1⟩ (fun σ3 hS3 => ?_)
            refine hok σ3 _ _ _ w hS3 hWn2.2 (by have := hWn2.1; omega) hw ?_
            intro τ0 K hB' C A H j Z z hz hT hj hb hA hg
            refine g_open hB' hW0 c ⟨hbr.1, by omega⟩ (by rw [List.length_append, List.length_replicate]; omega) ?_
            refine o6 τ0 K hB' C A _ _ 0 (Or.inl rfl) (fun _ => rfl) (Or.inr ⟨_, _, rfl, Or.inl rfl⟩) ?_ ?_ (by omega) ?_
            · rw [sg_na, sg_na, sg_ns (by decide)]
              have : sg_n (List.replicate j (-10)) = j := by
                unfold sg_n
                rw [List.countP_replicate]
                rfl
              omega
            · rw [List.length_append, List.length_append, List.length_replicate]
              show ((C.length + (H.length + j + 1) : Nat) : Int) ≤ _
              omega
            · refine g_close (z := z) hB' hW2 c5 ⟨hbr.1, by omega⟩ hT (fun x hx => ⟨(o2 x hx).1.1, by have := (o2 x hx).1.2; omega⟩) ?_ ?_
              · rw [List.length_append]
                omega
              · rw [List.append_assoc C c1' r, ← o1]
                exact hg
          · rw [if_pos c5]
            refine c_fl hW2 hS2 (fun σ3 hE => hbad σ3 f2 hE ?_)
            intro τ0 K hB' C A H j Z z hz hT hj hb hA hX
            refine g_open hB' hW0 c ⟨hbr.1, by omega⟩ (by rw [List.length_append, List.length_replicate]; omega) ?_
            refine o6 τ0 K hB' C A _ _ 0 (Or.inl rfl) (fun _ => rfl) (Or.inr ⟨_, _, rfl, Or.inl rfl⟩) ?_ ?_ (by omega) ?_
            · rw [sg_na, sg_na, sg_ns (by decide)]
              have : sg_n (List.replicate j (-10)) = j := by
                unfold sg_n
                rw [List.countP_replicate]
                rfl
              omega
            · rw [List.length_append, List.length_append, List.length_replicate]
              show ((C.length + (H.length + j + 1) : Nat) : Int) ≤ _
              omega
            · by_cases c6 : k2 = -1
              · refine g_endb hB' c6 (by omega) ?_ hX
                rw [List.length_append, List.length_append, List.length_append, List.length_append, List.length_replicate, List.length_reverse]
                show C.length + c1'.length + (H.length + j + 1 + r.length) ≤ 96
                have := hW2.2.1
                have := hW2.2.2.1
                omega
              · exact g_stop hB' hW2 ⟨by omega, by omega⟩ c6 (fun q => absurd q c5) (o5.imp id (fun q => ⟨q.1, q.2.2⟩)) hX
        · have bad2 : sc_Q L d t n key b m k f e fl := by
            intro τ0 K hB' C A H j Z z hz hT hj hb hA hX
            refine g_open hB' hW0 c ⟨hbr.1, by omega⟩ (by rw [List.length_append, List.length_replicate]; omega) ?_
            refine hY τ0 K hB' C A _ _ 0 (Or.inl rfl) (fun _ => rfl) (Or.inr ⟨_, _, rfl, Or.inl rfl⟩) ?_ ?_ (by omega) hX
            · rw [sg_na, sg_na, sg_ns (by decide)]
              have : sg_n (List.replicate j (-10)) = j := by
                unfold sg_n
                rw [List.countP_replicate]
                rfl
              omega
            · rw [List.length_append, List.length_append, List.length_replicate]
              show ((C.length + (H.length + j + 1) : Nat) : Int) ≤ _
              omega
          by_cases c5 : σ2 34 6 = 41
          · rw [if_neg (fun q => q c5)]
            exact c_nxE (d := dd + 2) hB hE (fun σ3 hE3 => hbad σ3 fl hE3 bad2)
          · rw [if_pos c5]
            exact c_flE hE (hbad σ2 fl hE bad2)
    · rw [if_pos c]
      exact fault c1 (fun q => c q.1) c3 c4
  -- a not
  have at60 : ¬ (k = -3 ∧ e - f ≤ 4) → ¬ (k = -2 ∧ rd_name t key f e < 0) → rx_Go L (dd + 6) mX5_piece 60 [some (.inr 34), some (.inl b), some (.inl m)] [] σ (rx_PV KV) := by
    intro c3 c4
    refine bX5_piece_60 L (dd + 5) b m σ KV ?_
    rw [h6]
    by_cases c : k = 33
    · rw [if_neg (fun q => q c)]
      by_cases c2 : 8 ≤ m
      · rw [if_pos c2]
        exact at96 (by omega) c3 c4
      · rw [if_neg c2, rx_w_of (by omega) (by omega)]
        have hfe : f < e := w6 (by omega)
        refine c_nx (d := dd + 2) hB hS0 ⟨by omega, w3⟩ (fun σ1 hS1 => ?_)
        have hf1 := hWn.1
        have hrep : ∀ j : Nat, ∀ H : List Int, H ++ List.replicate j (-10 : Int) ++ [-10] = H ++ List.replicate (j + 1) (-10) := fun j H => by rw [List.append_assoc, ← List.replicate_succ']
        have hcnt : ∀ j : Nat, ∀ H : List Int, sg_n (H ++ List.replicate j (-10)) = sg_n H + j := fun j H => by
          rw [sg_na]
          have : sg_n (List.replicate j (-10)) = j := by
            unfold sg_n
            rw [List.countP_replicate]
            rfl
          omega
        refine hnot (by omega) σ0 _ _ _ _ _ σ1 _ hB hWn.2 hS1 (by omega) (by omega) (fun σ2 k2 f2 e2 w hS2 hW2 hlen hw hP => ?_) (fun σ2 fl hE hQ => ?_)
        · have hsl := sc_ll w
          have hsl0 := sc_l0 w
          have := hW2.2.1
          have := hW2.2.2.1
          refine c_wr hS2 (by rw [List.length_append]; omega) (fun σ3 hS3 => ?_)
          refine hok σ3 k2 f2 e2 (w ++ [-33]) ?_ hW2 ?_ (sc_w_not hw) ?_
          · rw [sc_la, sc_ls (by decide), Int.add_zero, ← List.append_assoc]
            exact hS3
          · rw [List.length_append]
            show ((w.length + 1 : Nat) : Int) ≤ _
            omega
          · intro τ0 K hB' C A H j Z z hz hT hj hb hA hg
            refine g_not hB' hW0 c (by rw [hcnt]; omega) (by rw [List.length_append, List.length_replicate]; omega) ?_
            rw [hrep]
            refine hP τ0 K hB' C A H (j + 1) Z z hz hT (by omega) (by omega) (by omega) ?_
            rw [sc_la, sc_ls (by decide), Int.add_zero, List.map_append] at hg
            rw [List.replicate_succ]
            rw [show List.map tx_enc [-33] = [-10] from rfl, ← List.append_assoc, List.append_assoc (C ++ List.map tx_enc w)] at hg
            exact hg
        · refine c_wrE hE (fun σ3 hE3 => hbad σ3 fl hE3 ?_)
          intro τ0 K hB' C A H j Z z hz hT hj hb hA hX
          refine g_not hB' hW0 c (by rw [hcnt]; omega) (by rw [List.length_append, List.length_replicate]; omega) ?_
          rw [hrep]
          exact hQ τ0 K hB' C A H (j + 1) Z z hz hT (by omega) (by omega) (by omega) hX
    · rw [if_pos c]
      exact at96 (fun q => c q.1) c3 c4
  have at33 : ¬ (k = -3 ∧ e - f ≤ 4) → rx_Go L (dd + 6) mX5_piece 33 [some (.inr 34), some (.inl b), some (.inl m)] [] σ (rx_PV KV) := by
    intro c3
    refine bX5_piece_33 L (dd + 5) b m σ KV ?_
    rw [h6]
    by_cases c : k = -2
    · rw [if_neg (fun q => q c)]
      have hr : 0 ≤ σ 34 7 ∧ σ 34 7 ≤ σ 34 8 ∧ σ 34 8 ≤ n := by rw [h7, h8]; exact ⟨w1, w2, w3⟩
      refine c_nameHere b1 e36 hr ?_
      rw [e1, h7, h8]
      by_cases c2 : 0 ≤ rd_name t key f e
      · rw [if_pos c2]
        exact at60 c3 (by omega)
      · rw [if_neg c2]
        refine c_nameHere b1 e36 hr ?_
        rw [e1, h7, h8]
        refine leaf _ (by omega) ?_ (Or.inr ⟨c, by omega, rfl⟩)
        unfold rd_name
        repeat' split
        all_goals omega
    · rw [if_pos c]
      exact at60 c3 (fun q => c q.1)
  refine bX5_piece L (dd + 5) b m σ KV ?_
  rw [h6]
  by_cases c : k = -3
  · rw [if_neg (fun q => q c), h7, h8, rx_w_of (by omega) (by omega)]
    by_cases c2 : 4 < e - f
    · rw [if_pos c2]
      exact at33 (by omega)
    · rw [if_neg c2]
      have hfe : f < e := w6 (by omega)
      have hdig : ∀ i, σ 34 7 ≤ i → i < σ 34 8 → 48 ≤ t i ∧ t i ≤ 57 := by rw [h7, h8]; exact w7 c
      refine c_numberHere b1 e36 (by rw [h7, h8]; exact ⟨w1, w2, w3⟩) (by rw [h7, h8]; omega) hdig ?_
      rw [h7, h8]
      have hnb := rd_nm_b (t := t) (e - f).toNat f 0 (fun j j0 j1 => w7 c j j0 (by omega)) (by omega) (by omega) (by omega) (by omega) (by omega) (by omega) (by omega)
      refine leaf _ (by omega) ⟨by omega, by omega, fun q => by omega⟩ (Or.inl ⟨c, by omega, ?_⟩)
      unfold tx_enc
      rw [if_pos hnb.1]
  · rw [if_pos c]
    exact at33 (fun q => c q.1)
end DES
