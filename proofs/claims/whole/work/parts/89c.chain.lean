/-! ===== reading a text: chains ===== -/
section CHN
variable {L d dd : Nat} {t : Int → Int} {n key b m l : Int}
/-- a chain that has been read so far -/
def sc_I (L d : Nat) (t : Int → Int) (n key l b m k f e x5 k' f' e' : Int) (w : List Int) : Prop := ∃ (c1 r : List Int) (zf : Int → Int), w.map tx_enc = c1 ++ r ∧ (∀ x ∈ r, (x ≠ -11 ∧ l + 1 ≤ sg_r x) ∧ x ≠ -10) ∧ (3 ≤ l → ∀ z, zf z = z) ∧ (∀ z, z = 0 ∨ z = 1 → zf z = 0 ∨ zf z = 1) ∧ (sg_l k' < l + 1 ∨ (sg_l k' = 2 ∧ l + 1 ≤ 2 ∧ zf 0 = 1)) ∧ (l = 2 → (x5 = 0 ∧ ∀ z, zf z = z) ∨ (x5 = 1 ∧ zf 0 = 1)) ∧
  ∀ (τ0 : rx_St) (K : Int → rx_St → Prop), sg_B t n key τ0 → ∀ (C : List Int) (A : Int) (H : List Int) (Z : Int → Int) (z : Int), (z = 0 ∨ z = 1) → (l ≤ 2 → z = 0) → sg_T (l + 1) H → sg_n H = m → C.length + H.length ≤ f → (0 ≤ A ∧ A ≤ f) → sg_G L d t τ0 K 0 b k' f' e' (C ++ c1) (A + sc_l w) (H ++ r.reverse) Z (zf z) → sg_G L d t τ0 K 1 b k f e C A H Z z
theorem c_chain (hbr : 0 ≤ b ∧ b ≤ 8) (hm : 0 ≤ m ∧ m ≤ 8) (hl : 0 ≤ l ∧ l ≤ 4) (hin : sc_TC L d t n key (dd + 5) (l + 1) b m) : sc_TC L d t n key (dd + 6) l b m := by
  intro σ0 k f e a D σ KV hB hW hS hD ha hok hbad
  have hW0 := hW
  obtain ⟨w1, w2, w3, w4, w5, w6, w7⟩ := hW
  obtain ⟨b1, b2, b3, b4, b5, b6⟩ := hB
  have hB : sc_B t n key σ0 := ⟨b1, b2, b3, b4, b5, b6⟩
  have stop : ∀ (x4 x5 : Int) (q6 : Option rx_V) (σ1 : rx_St) (fl : Int), sc_E n σ0 fl σ1 → sc_Y L d t n key l b m k f e fl → rx_Go L (dd + 6) mX5_chain 37 [some (.inr 34), some (.inl l), some (.inl b), some (.inl m), some (.inl x4), some (.inl x5), q6] [] σ1 (rx_PV KV) := by
    intro x4 x5 q6 σ1 fl hE hY
    refine bX5_chain_37 L (dd + 5) l b m x4 x5 q6 σ1 KV ?_
    by_cases c : x4 ≤ x5
    · rw [if_pos c]
      exact hbad σ1 fl hE hY
    · rw [if_neg c, if_pos (by rw [hE.2.2.2.1]; exact hE.2.2.2.2.1)]
      exact hbad σ1 fl hE hY
  have loop : ∀ (q : Nat) (x4 x5 : Int) (q6 : Option rx_V) (σ2 : rx_St) (k2 f2 e2 : Int) (w : List Int), n - f2 < q → (l ≠ 2 → x4 = 96) → (l = 2 → x4 = 1) → 0 ≤ x5 → x5 ≤ f2 → f ≤ f2 → sc_S σ0 k2 f2 e2 (D ++ w) (a + sc_l w) σ2 → rd_W t n k2 f2 e2 → (w.length : Int) ≤ f2 - f → sc_w key w → sc_I L d t n key l b m k f e x5 k2 f2 e2 w → rx_Go L (dd + 6) mX5_chain 37 [some (.inr 34), some (.inl l), some (.inl b), some (.inl m), some (.inl x4), some (.inl x5), q6] [] σ2 (rx_PV KV) := by
    intro q
    induction q with
    | zero =>
      intro x4 x5 q6 σ2 k2 f2 e2 w hq _ _ _ _ _ _ hW2
      have := hW2.2.1
      have := hW2.2.2.1
      omega
    | succ q ih =>
      intro x4 x5 q6 σ2 k2 f2 e2 w hq hx4 hx4' x0 x1 hff hS2 hW2 hlen hw hI
      obtain ⟨c1, r, zf, o1, o2, o3, o4, o5, o7, o6⟩ := hI
      have hsl := sc_ll w
      have hsl0 := sc_l0 w
      have v1 := hW2.1
      have v2 := hW2.2.1
      have v3 := hW2.2.2.1
      have v6 := hW2.2.2.2.2.2.1
      have wlen : w.length = c1.length + r.length := by rw [← List.length_append, ← o1, List.length_map]
      have leave : (sg_l k2 < l ∨ (sg_l k2 = 2 ∧ l ≤ 2 ∧ zf 0 = 1)) → KV σ2 := fun hx => hok σ2 k2 f2 e2 w hS2 hW2 hlen hw ⟨c1, r, zf, o1, o2, o3, o4, hx, o6⟩
      refine bX5_chain_37 L (dd + 5) l b m x4 x5 q6 σ2 KV ?_
      by_cases c : x4 ≤ x5
      · rw [if_pos c]
        refine leave ?_
        by_cases c2 : l = 2
        · rcases o7 c2 with o8 | o8
          · have := hx4' c2
            omega
          · rcases o5 with o9 | o9
            · by_cases c3 : sg_l k2 < l
              · exact Or.inl c3
              · exact Or.inr ⟨by omega, by omega, o8.2⟩
            · omega
        · have := hx4 c2
          have hk2 : k2 = -1 := by
            by_cases c3 : k2 = -1
            · exact c3
            · have := v6 c3
              omega
          rw [hk2]
          exact Or.inl (by show (-1 : Int) < l; omega)
      · rw [if_neg c, hS2.2.2.2.2, if_neg (by decide), hS2.2.1.1]
        refine c_levelOf ?_
        by_cases c2 : sg_l k2 = l
        · rw [if_neg (fun q => q c2), hS2.2.1.1]
          obtain ⟨p1, p2, p3, p4, p5, p6, p7, p8⟩ := sg_p (show 0 ≤ sg_l k2 by omega)
          have hfe2 : f2 < e2 := v6 (by omega)
          have hWn := rd_Wn (t := t) (n := n) (k := k2) (e := e2) b1 b5 ⟨by omega, v3⟩
          have hf3 := hWn.1
          have lw : (D ++ w).length = D.length + w.length := List.length_append
          refine c_nx (d := dd + 2) hB hS2 ⟨by omega, v3⟩ (fun σ3 hS3 => ?_)
          rw [rx_w_of (x := l + 1) (by omega) (by omega), rx_w_of (x := -k2) (by omega) (by omega), rx_w_of (x := x5 + 1) (by omega) (by omega)]
          -- what the model does up to the next operand
          have upto : ∀ (τ0 : rx_St) (K : Int → rx_St → Prop), sg_B t n key τ0 → ∀ (C : List Int) (A : Int) (H : List Int) (Z : Int → Int) (z : Int), (z = 0 ∨ z = 1) → (l ≤ 2 → z = 0) → sg_T (l + 1) H → sg_n H = m → C.length + H.length ≤ f → (0 ≤ A ∧ A ≤ f) → sg_G L d t τ0 K 1 b (rd_K t n k2 e2) (rd_h t n 32 32 e2) (rd_t t n (rd_h t n 32 32 e2)) (C ++ w.map tx_enc) (A + sc_l w) (H ++ [tx_enc (-k2)]) Z (if l = 2 then 1 else if l ≤ 1 then 0 else z) → sg_G L d t τ0 K 1 b k f e C A H Z z := by
            intro τ0 K hB' C A H Z z hz hz2 hT hn hb hA hg
            refine o6 τ0 K hB' C A H Z z hz hz2 hT hn hb hA ?_
            refine g_sign (l := l) (r := r) hB' hW2 c2 hl.1 hbr (o4 z hz) (fun q => ?_) rfl hT o2 (by rw [List.length_append]; omega) ?_
            · rcases o7 q with o8 | o8
              · rw [o8.2]
                exact hz2 (by omega)
              · have := hx4' q
                omega
            · rw [List.append_assoc C c1 r, ← o1]
              have : (if l = 2 then 1 else if l ≤ 1 then 0 else zf z) = (if l = 2 then 1 else if l ≤ 1 then 0 else z) := by
                by_cases l2 : l = 2
                · rw [if_pos l2, if_pos l2]
                · rw [if_neg l2, if_neg l2]
                  by_cases l1 : l ≤ 1
                  · rw [if_pos l1, if_pos l1]
                  · rw [if_neg l1, if_neg l1, o3 (by omega)]
              rw [this]
              exact hg
          have hz01 : ∀ z : Int, z = 0 ∨ z = 1 → (if l = 2 then 1 else if l ≤ 1 then 0 else z) = 0 ∨ (if l = 2 then 1 else if l ≤ 1 then 0 else z) = 1 := by
            intro z hz
            by_cases l2 : l = 2
            · rw [if_pos l2]
              exact Or.inr rfl
            · rw [if_neg l2]
              by_cases l1 : l ≤ 1
              · rw [if_pos l1]
                exact Or.inl rfl
              · rw [if_neg l1]
                exact hz
          have hz1 : ∀ z : Int, l + 1 ≤ 2 → (if l = 2 then 1 else if l ≤ 1 then 0 else z) = 0 := fun z q => by rw [if_neg (by omega), if_pos (by omega)]
          have hTs : ∀ H : List Int, sg_T (l + 1 + 1) (H ++ [tx_enc (-k2)]) := fun H => Or.inr ⟨H, _, rfl, Or.inr (by omega)⟩
          have hns : ∀ H : List Int, sg_n (H ++ [tx_enc (-k2)]) = sg_n H := fun H => by rw [sg_na, sg_ns (by omega), Int.add_zero]
          refine hin σ0 _ _ _ _ _ σ3 _ hB hWn.2 hS3 (by omega) (by omega) (fun σ4 k4 f4 e4 w' hS4 hW4 hlen4 hw4 hO => ?_) (fun σ4 fl hE hY => ?_)
          · obtain ⟨c1', r', zf', u1, u2, u3, u4, u5, u6⟩ := hO
            have hsl4 := sc_ll w'
            have hsl40 := sc_l0 w'
            have v42 := hW4.2.1
            have v43 := hW4.2.2.1
            refine c_wr hS4 (by rw [List.length_append]; omega) (fun σ5 hS5 => ?_)
            have el : sc_l (w ++ w' ++ [-k2]) = sc_l w + sc_l w' := by rw [sc_la, sc_la, sc_ls (by omega), Int.add_zero]
            refine ih x4 (x5 + 1) _ σ5 k4 f4 e4 (w ++ w' ++ [-k2]) (by omega) hx4 hx4' (by omega) (by omega) (by omega) ?_ hW4 ?_ (sc_w_two hw hw4 p3) ?_
            · rw [el, ← Int.add_assoc, ← List.append_assoc, ← List.append_assoc]
              exact hS5
            · rw [List.length_append, List.length_append]
              show ((w.length + w'.length + 1 : Nat) : Int) ≤ _
              omega
            · refine ⟨w.map tx_enc ++ c1', r' ++ [tx_enc (-k2)], fun z => zf' (if l = 2 then 1 else if l ≤ 1 then 0 else z), ?_, ?_, ?_, ?_, ?_, ?_, ?_⟩
              · rw [List.map_append, List.map_append, u1, List.append_assoc, List.append_assoc, List.append_assoc]
                rfl
              · intro x hx
                rcases List.mem_append.mp hx with q | q
                · have := u2 x q
                  exact ⟨⟨this.1.1, by have := this.1.2; omega⟩, this.2⟩
                · rw [List.mem_singleton.mp q]
                  exact ⟨⟨by omega, by omega⟩, by omega⟩
              · intro l3 z
                show zf' (if l = 2 then 1 else if l ≤ 1 then 0 else z) = z
                rw [u3 (by omega), if_neg (by omega), if_neg (by omega)]
              · intro z hz
                exact u4 _ (hz01 z hz)
              · rcases u5 with q | q
                · exact Or.inl q
                · refine Or.inr ⟨q.1, q.2.1, ?_⟩
                  show zf' (if l = 2 then 1 else if l ≤ 1 then 0 else 0) = 1
                  rw [hz1 0 q.2.1]
                  exact q.2.2
              · intro l2
                have x50 : x5 = 0 := by
                  have := hx4' l2
                  omega
                refine Or.inr ⟨by omega, ?_⟩
                show zf' (if l = 2 then 1 else if l ≤ 1 then 0 else 0) = 1
                rw [u3 (by omega), if_pos l2]
              · intro τ0 K hB' C A H Z z hz hz2 hT hn hb hA hg
                refine upto τ0 K hB' C A H Z z hz hz2 hT hn hb hA ?_
                refine u6 τ0 K hB' _ _ _ Z _ (hz01 z hz) (hz1 z) (hTs H) (by rw [hns]; exact hn) ?_ (by omega) ?_
                · rw [List.length_append, List.length_append, List.length_map]
                  show ((C.length + w.length + (H.length + 1) : Nat) : Int) ≤ _
                  omega
                · rw [el, ← Int.add_assoc, List.reverse_append, ← List.append_assoc, ← List.append_assoc] at hg
                  exact hg
          · refine c_wrE hE (fun σ5 hE5 => stop x4 (x5 + 1) _ σ5 fl hE5 ?_)
            intro τ0 K hB' C A H Z z hz hz2 hT hn hb hA hX
            refine upto τ0 K hB' C A H Z z hz hz2 hT hn hb hA ?_
            refine hY τ0 K hB' _ _ _ Z _ (hz01 z hz) (hz1 z) (hTs H) (by rw [hns]; exact hn) ?_ (by omega) hX
            rw [List.length_append, List.length_append, List.length_map]
            show ((C.length + w.length + (H.length + 1) : Nat) : Int) ≤ _
            omega
        · rw [if_pos c2]
          refine leave ?_
          rcases o5 with o9 | o9
          · exact Or.inl (by omega)
          · exact Or.inr ⟨o9.1, by omega, o9.2.2⟩
  refine bX5_chain L (dd + 5) l b m σ KV ?_
  rw [if_pos hl.2, rx_w_of (by omega) (by omega)]
  refine hin σ0 k f e a D σ _ hB hW0 hS hD ha (fun σ2 k2 f2 e2 w hS2 hW2 hlen hw hO => ?_) (fun σ2 fl hE hY => ?_)
  · obtain ⟨c1, r, zf, o1, o2, o3, o4, o5, o6⟩ := hO
    have v1 := hW2.1
    have hI : sc_I L d t n key l b m k f e 0 k2 f2 e2 w := by
      refine ⟨c1, r, zf, o1, fun x hx => ⟨⟨(o2 x hx).1.1, by have := (o2 x hx).1.2; omega⟩, (o2 x hx).2⟩, fun q => o3 (by omega), o4, o5, fun q => Or.inl ⟨rfl, o3 (by omega)⟩, ?_⟩
      intro τ0 K hB' C A H Z z hz hz2 hT hn hb hA hg
      exact o6 τ0 K hB' C A H Z z hz (fun q => hz2 (by omega)) (sg_T_up hT (by omega)) hn hb hA hg
    by_cases c : l = 2
    · rw [if_neg (fun q => q c)]
      exact loop (n - f2 + 1).toNat 1 0 none σ2 k2 f2 e2 w (by omega) (fun q => absurd c q) (fun _ => rfl) (by omega) (by omega) (by omega) hS2 hW2 hlen hw hI
    · rw [if_pos c]
      exact loop (n - f2 + 1).toNat 96 0 none σ2 k2 f2 e2 w (by omega) (fun _ => rfl) (fun q => absurd q c) (by omega) (by omega) (by omega) hS2 hW2 hlen hw hI
  · have hY' : sc_Y L d t n key l b m k f e fl := by
      intro τ0 K hB' C A H Z z hz hz2 hT hn hb hA hX
      exact hY τ0 K hB' C A H Z z hz (fun q => hz2 (by omega)) (sg_T_up hT (by omega)) hn hb hA hX
    split
    · exact stop _ _ _ σ2 fl hE hY'
    · exact stop _ _ _ σ2 fl hE hY'
theorem c_chain5 (hbr : 0 ≤ b ∧ b ≤ 8) (hm : 0 ≤ m ∧ m ≤ 8) (hin : sc_TP L d t n key dd b m) : sc_TC L d t n key (dd + 1) 5 b m := by
  intro σ0 k f e a D σ KV hB hW hS hD ha hok hbad
  refine bX5_chain L dd 5 b m σ KV ?_
  rw [if_neg (by decide)]
  refine hin σ0 k f e a D σ _ hB hW hS hD ha (fun σ2 k2 f2 e2 w hS2 hW2 hlen hw hP => ?_) (fun σ2 fl hE hQ => ?_)
  · refine hok σ2 k2 f2 e2 w hS2 hW2 hlen hw ⟨w.map tx_enc, [], fun z => z, (List.append_nil _).symm, fun x hx => absurd hx List.not_mem_nil, fun _ _ => rfl, fun z hz => hz, Or.inl ?_, ?_⟩
    · rcases sg_c k2 with q | q
      · omega
      · rcases q with rfl | rfl | rfl | rfl | rfl | rfl | rfl | rfl | rfl <;> decide
    · intro τ0 K hB' C A H Z z hz hz2 hT hn hb hA hg
      have := hP τ0 K hB' C A H 0 Z z hz hT (by omega) (by omega) hA
      rw [List.replicate_zero, List.append_nil, List.append_nil] at this
      refine this ?_
      rw [List.reverse_nil, List.append_nil] at hg
      exact hg
  · refine hbad σ2 fl hE ?_
    intro τ0 K hB' C A H Z z hz hz2 hT hn hb hA hX
    have := hQ τ0 K hB' C A H 0 Z z hz hT (by omega) (by omega) hA hX
    rw [List.replicate_zero, List.append_nil] at this
    exact this
theorem c_all : ∀ q : Nat, (∀ b m : Int, 0 ≤ b ∧ b ≤ 8 → 0 ≤ m ∧ m ≤ 8 → 7 * (8 - b) + (8 - m) ≤ q → sc_TP L d t n key (dd + q + 6) b m) ∧ (∀ l b m : Int, 0 ≤ l ∧ l ≤ 5 → 0 ≤ b ∧ b ≤ 8 → 0 ≤ m ∧ m ≤ 8 → 7 * (8 - b) + (8 - m) + (6 - l) ≤ q → sc_TC L d t n key (dd + q + 6) l b m)
  | 0 => by
    refine ⟨fun b m hb hm h => ?_, fun l b m hl hb hm h => by omega⟩
    exact c_piece (dd := dd) hb hm (fun _ => by omega) (fun _ => by omega)
  | q + 1 => by
    obtain ⟨ih1, ih2⟩ := c_all q
    have e : dd + (q + 1) + 6 = dd + q + 1 + 6 := by omega
    rw [e]
    refine ⟨fun b m hb hm h => ?_, fun l b m hl hb hm h => ?_⟩
    · exact c_piece (dd := dd + q + 1) hb hm (fun _ => ih1 b (m + 1) hb (by omega) (by omega)) (fun _ => ih2 0 (b + 1) m (by omega) (by omega) hm (by omega))
    · by_cases c : l = 5
      · rw [c]
        exact c_chain5 (dd := dd + q + 6) hb hm (ih1 b m hb hm (by omega))
      · exact c_chain (dd := dd + q + 1) hb hm (by omega) (ih2 (l + 1) b m (by omega) hb hm (by omega))
end CHN
