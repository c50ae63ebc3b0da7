/-! ===== reading a text: the model's moves ===== -/
theorem sg_all (H : List Int) : ∃ (H' r : List Int), H = H' ++ r.reverse ∧ sg_T 0 H' ∧ ∀ x ∈ r, x ≠ -11 ∧ 0 ≤ sg_r x := by
  have key : ∀ q : List Int, ∃ (H' r : List Int), q.reverse = H' ++ r.reverse ∧ sg_T 0 H' ∧ ∀ x ∈ r, x ≠ -11 ∧ 0 ≤ sg_r x := by
    intro q
    induction q with
    | nil => exact ⟨[], [], rfl, Or.inl rfl, fun x hx => absurd hx List.not_mem_nil⟩
    | cons x q ih =>
      obtain ⟨H', r, e, hT, hr⟩ := ih
      by_cases c : x = -11
      · exact ⟨(x :: q).reverse, [], (List.append_nil _).symm, Or.inr ⟨q.reverse, x, List.reverse_cons, Or.inl c⟩, fun y hy => absurd hy List.not_mem_nil⟩
      · refine ⟨H', x :: r, ?_, hT, fun y hy => ?_⟩
        · rw [List.reverse_cons, List.reverse_cons, e, List.append_assoc]
        · rcases List.mem_cons.mp hy with q | q
          · rw [q]
            refine ⟨c, ?_⟩
            unfold sg_r
            repeat' split
            all_goals omega
          · exact hr y q
  have := key H.reverse
  rw [List.reverse_reverse] at this
  exact this
section MOV
variable {L d : Nat} {t : Int → Int} {n key : Int} {τ0 τ τ' : rx_St} {K : Int → rx_St → Prop} {KV : rx_St → Prop} {b k f e A z : Int} {C H : List Int} {Z : Int → Int}
theorem sg_rep {j : Nat} : ∀ x ∈ List.replicate j (-10 : Int), x ≠ -11 ∧ (6 : Int) ≤ sg_r x := fun x hx => by
  rw [List.eq_of_mem_replicate hx]
  decide
/-- a number or a name -/
theorem g_leaf {j : Nat} {v : Int} (hB : sg_B t n key τ0) (hW : rd_W t n k f e) (hv : (k = -3 ∧ e - f ≤ 4 ∧ v = rd_nm t (e - f).toNat f 0) ∨ (k = -2 ∧ rd_name t key f e < 0 ∧ v = tx_enc (rd_name t key f e))) (hT : sg_T 6 H) (hb : C.length + H.length + j ≤ f) (hA : 0 ≤ A ∧ A ≤ f) (h : sg_G L d t τ0 K 0 b (rd_K t n k e) (rd_h t n 32 32 e) (rd_t t n (rd_h t n 32 32 e)) (C ++ [v] ++ List.replicate j (-10)) (A + 1) H Z z) : sg_G L d t τ0 K 1 b k f e C A (H ++ List.replicate j (-10)) Z z := by
  intro τ q4 hS
  obtain ⟨w1, w2, w3, w4, w5, w6, w7⟩ := hW
  have hfe : f < e := w6 (by omega)
  have hn := hB.1
  obtain ⟨m1, m2, m3, m4, m5, m6, m7, m8, m9⟩ := hS.2.1
  have h32 := hS.2.2.1.2
  have h33 := hS.2.2.2.1
  -- behind the leaf
  have rest : ∀ q1, rx_Go L (d + 2) mX11_takesPart 88 [some (.inr 125), q1] [] (rx_up τ 145 (C.length : Int) v) (rx_PI (fun v46 σ45 => if v46 = 0 then (K 0 σ45) else (rx_Go L (d + 3) mX11_takesE 172 [some (.inr 125), some (.inl b), some (.inl (sg_n (H ++ List.replicate j (-10)))), some (.inl 0), q4] [] σ45 (rx_PI K)))) := by
    intro q1
    refine bX11_takesPart_88 L (d + 1) q1 _ _ ?_
    have hl := sg_leaf (v := v) hS
    rw [up_c (show (125 : Nat) ≠ 145 by decide), h32, rx_w_of (x := (C.length : Int) + 1) (by omega) (by omega), up_i (show (33 : Int) ≠ 32 by decide), up_c (show (125 : Nat) ≠ 145 by decide), h33, rx_w_of (x := A + 1) (by omega) (by omega)]
    rw [← List.reverse_replicate] at hl
    refine sg_set (d := d) hT sg_rep hl ?_ (fun τ1 hS1 => ?_)
    · rw [List.length_append, List.length_replicate]
      show C.length + 1 + H.length + j ≤ 96
      omega
    refine sg_next hB hS1 ⟨by omega, w3⟩ (by omega) (fun τ2 hS2 => ?_)
    rw [if_neg (by decide)]
    refine bX11_takesE_172 L (d + 2) _ _ _ _ τ2 K ?_
    exact n_notsOpen hS2.2.2.2.2.1.1 hS2.2.2.2.2.1.2 (by omega) (h τ2 q4 hS2)
  have part : rx_CI L (d + 2) mX11_takesPart [.inr 125] τ (fun v46 σ45 => if v46 = 0 then (K 0 σ45) else (rx_Go L (d + 3) mX11_takesE 172 [some (.inr 125), some (.inl b), some (.inl (sg_n (H ++ List.replicate j (-10)))), some (.inl 0), q4] [] σ45 (rx_PI K))) := by
    refine bX11_takesPart L (d + 1) τ _ ?_
    rcases hv with ⟨v1, v2, v3⟩ | ⟨v1, v2, v3⟩
    · obtain ⟨t1, t2⟩ := (m5 v1).1 v2
      rw [t1, if_pos (by decide)]
      refine bX11_takesPart_36 L (d + 1) _ τ _ (bX11_takesPart_38 L (d + 1) _ τ _ ?_)
      rw [t1, if_pos rfl]
      refine bX11_takesPart_52 L (d + 1) _ τ _ ?_
      rw [t1, if_neg (by decide), h32, t2, ← v3]
      exact ⟨by omega, rest _⟩
    · obtain ⟨t1, t2⟩ := m4 v1
      have ef : e - f = 1 := by
        unfold rd_name at v2
        by_cases c : e - f = 1
        · exact c
        · rw [if_neg c] at v2
          omega
      have hv0 : -3 ≤ rd_name t key f e := by
        unfold rd_name
        repeat' split
        all_goals omega
      rw [t1, if_neg (by decide), m1, m2, rx_w_of (by omega) (by omega), if_neg (fun q => q ef), t2]
      refine n_nameOf hS.1 hB ef (fun _ => ?_) (fun q => absurd v2 q)
      rw [if_neg (by omega)]
      refine bX11_takesPart_38 L (d + 1) _ τ _ ?_
      rw [t1, if_neg (by decide), if_pos (by decide)]
      refine bX11_takesPart_52 L (d + 1) _ τ _ ?_
      rw [t1, if_pos (by decide), t2, h32]
      refine n_nameOf hS.1 hB ef (fun _ => ⟨by omega, ?_⟩) (fun q => absurd v2 q)
      have e2 : rx_w (10000 + (-(rd_name t key f e) - 1)) = v := by
        rw [rx_w_of (by omega) (by omega), v3]
        unfold tx_enc
        rw [if_neg (by omega), if_pos hv0]
        omega
      rw [e2]
      exact rest _
  have tok : τ 125 25 ≠ 3 := by
    rcases hv with ⟨v1, v2, v3⟩ | ⟨v1, v2, v3⟩
    · rw [((m5 v1).1 v2).1]
      decide
    · rw [(m4 v1).1]
      decide
  refine bX11_takesE_28 L (d + 2) _ _ _ _ τ K ?_
  rw [if_pos (by decide)]
  refine bX11_takesE_39 L (d + 2) _ _ _ _ τ K ?_
  rw [if_neg (by decide), if_pos tok]
  refine bX11_takesE_97 L (d + 2) _ _ _ _ τ K ?_
  rw [if_pos tok]
  exact bX11_takesE_158 L (d + 2) _ _ _ _ τ K part
/-- a not -/
theorem g_not (hB : sg_B t n key τ0) (hW : rd_W t n k f e) (hk : k = 33) (hm : sg_n H < 8) (hb : C.length + H.length ≤ f) (h : sg_G L d t τ0 K 1 b (rd_K t n k e) (rd_h t n 32 32 e) (rd_t t n (rd_h t n 32 32 e)) C A (H ++ [-10]) Z z) : sg_G L d t τ0 K 1 b k f e C A H Z z := by
  intro τ q4 hS
  obtain ⟨w1, w2, w3, w4, w5, w6, w7⟩ := hW
  have hfe : f < e := w6 (by omega)
  have hn := hB.1
  have hn0 := sg_n0 H
  obtain ⟨m1, m2, m3, m4, m5, m6, m7, m8, m9⟩ := hS.2.1
  have h35 := hS.2.2.2.2.1.2
  obtain ⟨t1, t2⟩ := m7 (by omega)
  refine bX11_takesE_28 L (d + 2) _ _ _ _ τ K ?_
  rw [if_pos (by decide)]
  refine bX11_takesE_39 L (d + 2) _ _ _ _ τ K ?_
  rw [if_neg (by decide), t1, if_neg (by decide), t2, if_neg (fun q => q hk), if_neg (by omega), h35, up_c (show (125 : Nat) ≠ 146 by decide), h35, rx_w_of (by omega) (by omega)]
  refine ⟨by omega, ?_⟩
  refine sg_next hB (sg_push hS) ⟨by omega, w3⟩ (by omega) (fun τ2 hS2 => ?_)
  refine bX11_takesE_172 L (d + 2) _ _ _ _ τ2 K ?_
  exact n_notsOpen hS2.2.2.2.2.1.1 hS2.2.2.2.2.1.2 (by rw [List.length_append]; show H.length + 1 ≤ 96; omega) (h τ2 q4 hS2)
/-- a bracket -/
theorem g_open (hB : sg_B t n key τ0) (hW : rd_W t n k f e) (hk : k = 40) (hbr : 0 ≤ b ∧ b < 8) (hb : C.length + H.length ≤ f) (h : sg_G L d t τ0 K 1 (b + 1) (rd_K t n k e) (rd_h t n 32 32 e) (rd_t t n (rd_h t n 32 32 e)) C A (H ++ [-11]) (sg_Z Z b z) 0) : sg_G L d t τ0 K 1 b k f e C A H Z z := by
  intro τ q4 hS
  obtain ⟨w1, w2, w3, w4, w5, w6, w7⟩ := hW
  have hfe : f < e := w6 (by omega)
  have hn := hB.1
  obtain ⟨m1, m2, m3, m4, m5, m6, m7, m8, m9⟩ := hS.2.1
  have h35 := hS.2.2.2.2.1.2
  obtain ⟨t1, t2⟩ := m7 (by omega)
  refine bX11_takesE_28 L (d + 2) _ _ _ _ τ K ?_
  rw [if_pos (by decide)]
  refine bX11_takesE_39 L (d + 2) _ _ _ _ τ K ?_
  rw [if_neg (by decide), t1, if_neg (by decide), t2, if_pos (by omega)]
  refine bX11_takesE_97 L (d + 2) _ _ _ _ τ K ?_
  rw [t1, if_neg (by decide), t2, if_neg (fun q => q hk), if_neg (by omega), h35, up_c (show (125 : Nat) ≠ 146 by decide), h35, rx_w_of (x := (H.length : Int) + 1) (by omega) (by omega), rx_w_of (x := b + 1) (by omega) (by omega)]
  refine ⟨by omega, by omega, ?_⟩
  refine sg_next hB (sg_deep (sg_push hS)) ⟨by omega, w3⟩ (by omega) (fun τ2 hS2 => ?_)
  refine bX11_takesE_172 L (d + 2) _ _ _ _ τ2 K ?_
  exact n_notsOpen hS2.2.2.2.2.1.1 hS2.2.2.2.2.1.2 (by rw [List.length_append]; show H.length + 1 ≤ 96; omega) (h τ2 q4 hS2)
/-- nothing that can begin -/
theorem g_bad (hB : sg_B t n key τ0) (hW : rd_W t n k f e) (h1 : ¬ (k = 33 ∧ sg_n H < 8)) (h2 : ¬ (k = 40 ∧ b < 8)) (h3 : ¬ (k = -3 ∧ e - f ≤ 4)) (h4 : ¬ (k = -2 ∧ rd_name t key f e < 0)) (h : sg_X τ0 K f) : sg_G L d t τ0 K 1 b k f e C A H Z z := by
  intro τ q4 hS
  obtain ⟨w1, w2, w3, w4, w5, w6, w7⟩ := hW
  have hn := hB.1
  obtain ⟨m1, m2, m3, m4, m5, m6, m7, m8, m9⟩ := hS.2.1
  have done : K 0 τ := h τ hS.1 m2
  have no2 : τ 125 25 ≠ 2 := by
    by_cases k1 : k = -1
    · rw [m3 k1]
      decide
    by_cases k2 : k = -2
    · rw [(m4 k2).1]
      decide
    by_cases k3 : k = -3
    · rw [(m5 k3).2 (by omega)]
      decide
    by_cases k4 : k = -4
    · rw [m6 k4]
      decide
    · rw [(m7 (by omega)).1]
      decide
  have f38 : rx_Go L (d + 2) mX11_takesPart 36 [some (.inr 125), none] [] τ (rx_PI (fun v46 σ45 => if v46 = 0 then (K 0 σ45) else (rx_Go L (d + 3) mX11_takesE 172 [some (.inr 125), some (.inl b), some (.inl (sg_n H)), some (.inl 0), q4] [] σ45 (rx_PI K)))) := by
    refine bX11_takesPart_36 L (d + 1) _ τ _ (bX11_takesPart_38 L (d + 1) _ τ _ ?_)
    rw [if_neg no2, if_neg (by decide), if_pos rfl]
    exact done
  have part : rx_CI L (d + 2) mX11_takesPart [.inr 125] τ (fun v46 σ45 => if v46 = 0 then (K 0 σ45) else (rx_Go L (d + 3) mX11_takesE 172 [some (.inr 125), some (.inl b), some (.inl (sg_n H)), some (.inl 0), q4] [] σ45 (rx_PI K))) := by
    refine bX11_takesPart L (d + 1) τ _ ?_
    by_cases c1 : τ 125 25 = 1
    · rw [if_neg (fun q => q c1), m1, m2, rx_w_of (by omega) (by omega)]
      have k2 : k = -2 := by
        by_cases k1 : k = -1
        · rw [m3 k1] at c1
          omega
        by_cases k3 : k = -3
        · rw [(m5 k3).2 (by omega)] at c1
          omega
        by_cases k4 : k = -4
        · rw [m6 k4] at c1
          omega
        by_cases k5 : 0 ≤ k
        · rw [(m7 k5).1] at c1
          omega
        · omega
      by_cases c2 : e - f = 1
      · rw [if_neg (fun q => q c2), (m4 k2).2]
        refine n_nameOf hS.1 hB c2 (fun q => absurd ⟨k2, q⟩ h4) (fun q => ?_)
        rw [if_pos (by decide)]
        exact f38
      · rw [if_pos c2]
        exact f38
    · rw [if_pos c1]
      exact f38
  have e158 : rx_Go L (d + 3) mX11_takesE 158 [some (.inr 125), some (.inl b), some (.inl (sg_n H)), some (.inl 1), q4] [] τ (rx_PI K) := bX11_takesE_158 L (d + 2) _ _ _ _ τ K part
  have e97 : rx_Go L (d + 3) mX11_takesE 97 [some (.inr 125), some (.inl b), some (.inl (sg_n H)), some (.inl 1), q4] [] τ (rx_PI K) := by
    refine bX11_takesE_97 L (d + 2) _ _ _ _ τ K ?_
    by_cases c : 0 ≤ k
    · rw [(m7 c).1, if_neg (by decide), (m7 c).2]
      by_cases c2 : k = 40
      · rw [if_neg (fun q => q c2), if_pos (by omega)]
        exact e158
      · rw [if_pos c2]
        exact e158
    · rw [if_pos ?_]
      · exact e158
      · intro q
        by_cases k1 : k = -1
        · rw [m3 k1] at q
          omega
        by_cases k2 : k = -2
        · rw [(m4 k2).1] at q
          omega
        by_cases k3 : k = -3
        · rw [(m5 k3).2 (by omega)] at q
          omega
        · rw [m6 (by omega)] at q
          omega
  refine bX11_takesE_28 L (d + 2) _ _ _ _ τ K ?_
  rw [if_pos (by decide)]
  refine bX11_takesE_39 L (d + 2) _ _ _ _ τ K ?_
  rw [if_neg (by decide)]
  by_cases c : τ 125 25 = 3
  · rw [if_neg (fun q => q c)]
    by_cases c2 : τ 125 26 = 33
    · rw [if_neg (fun q => q c2)]
      by_cases c3 : 8 ≤ sg_n H
      · rw [if_pos c3]
        exact e97
      · exfalso
        by_cases k0 : 0 ≤ k
        · have := (m7 k0).2
          omega
        · by_cases k1 : k = -1
          · rw [m3 k1] at c
            omega
          by_cases k2 : k = -2
          · rw [(m4 k2).1] at c
            omega
          by_cases k3 : k = -3
          · rw [(m5 k3).2 (by omega)] at c
            omega
          · rw [m6 (by omega)] at c
            omega
    · rw [if_pos c2]
      exact e97
  · rw [if_pos c]
    exact e97
end MOV
