/-! ===== reading a text: the model's moves behind a part ===== -/
section MOW
variable {L d : Nat} {t : Int → Int} {n key : Int} {τ0 τ τ' : rx_St} {K : Int → rx_St → Prop} {KV : rx_St → Prop} {b k f e A z : Int} {C H : List Int} {Z : Int → Int}
theorem n_signHere (hM : rd_M t k f e τ) (hW : rd_W t n k f e) (h1 : 0 ≤ sg_l k → K (tx_enc (-k)) τ) (h0 : sg_l k < 0 → K 0 τ) : rx_CI L d mX11_signHere [.inr 125] τ K := by
  obtain ⟨m1, m2, m3, m4, m5, m6, m7, m8, m9⟩ := hM
  obtain ⟨w1, w2, w3, w4, w5, w6, w7⟩ := hW
  refine bX11_signHere L d τ K ?_
  by_cases c : 0 ≤ k
  · obtain ⟨t1, t2⟩ := m7 c
    rw [t1, if_pos rfl, t2]
    rcases sg_c k with ⟨q, q1, q2, q3, q4, q5, q6, q7, q8, q9⟩ | q
    · rw [if_neg q1, if_neg q2, if_neg q3, if_neg q4, if_neg q5, if_neg q6, if_neg q7, if_neg q8, if_neg q9]
      exact h0 (by omega)
    · rcases q with rfl | rfl | rfl | rfl | rfl | rfl | rfl | rfl | rfl <;> exact h1 (by decide)
  · have ht : τ 125 25 ≠ 3 := by
      intro q
      by_cases k1 : k = -1
      · rw [m3 k1] at q
        omega
      by_cases k2 : k = -2
      · rw [(m4 k2).1] at q
        omega
      by_cases k3 : k = -3
      · by_cases z : e - f ≤ 4
        · rw [((m5 k3).1 z).1] at q
          omega
        · rw [(m5 k3).2 (by omega)] at q
          omega
      · rw [m6 (by omega)] at q
        omega
    rw [if_neg ht]
    refine h0 ?_
    rcases sg_c k with q | q
    · omega
    · omega
theorem g_at39 (hS : sg_S t τ0 b k f e C A H Z z τ) {q4 : Option rx_V} (hk : k ≠ -1) (h : rx_Go L (d + 3) mX11_takesE 39 [some (.inr 125), some (.inl b), some (.inl (sg_n H)), some (.inl 0), q4] [] τ (rx_PI K)) (hW : rd_W t n k f e) : rx_Go L (d + 3) mX11_takesE 28 [some (.inr 125), some (.inl b), some (.inl (sg_n H)), some (.inl 0), q4] [] τ (rx_PI K) := by
  obtain ⟨m1, m2, m3, m4, m5, m6, m7, m8, m9⟩ := hS.2.1
  obtain ⟨w1, w2, w3, w4, w5, w6, w7⟩ := hW
  refine bX11_takesE_28 L (d + 2) _ _ _ _ τ K ?_
  rw [if_neg (by decide), if_neg ?_]
  · exact h
  · intro q
    by_cases k2 : k = -2
    · rw [(m4 k2).1] at q
      omega
    by_cases k3 : k = -3
    · by_cases z : e - f ≤ 4
      · rw [((m5 k3).1 z).1] at q
        omega
      · rw [(m5 k3).2 (by omega)] at q
        omega
    by_cases k4 : k = -4
    · rw [m6 k4] at q
      omega
    · rw [(m7 (by omega)).1] at q
      omega
theorem g_at237 (hS : sg_S t τ0 b k f e C A H Z z τ) {q4 : Option rx_V} (hk : k ≠ -1) (h41 : k = 41 → b ≤ 0) (h : rx_Go L (d + 3) mX11_takesE 237 [some (.inr 125), some (.inl b), some (.inl (sg_n H)), some (.inl 0), q4] [] τ (rx_PI K)) (hW : rd_W t n k f e) : rx_Go L (d + 3) mX11_takesE 28 [some (.inr 125), some (.inl b), some (.inl (sg_n H)), some (.inl 0), q4] [] τ (rx_PI K) := by
  refine g_at39 hS hk ?_ hW
  obtain ⟨m1, m2, m3, m4, m5, m6, m7, m8, m9⟩ := hS.2.1
  obtain ⟨w1, w2, w3, w4, w5, w6, w7⟩ := hW
  refine bX11_takesE_39 L (d + 2) _ _ _ _ τ K ?_
  rw [if_pos rfl]
  by_cases c : τ 125 25 = 3
  · rw [if_neg (fun q => q c)]
    by_cases c2 : τ 125 26 = 41
    · rw [if_neg (fun q => q c2)]
      have k0 : 0 ≤ k := by
        by_cases k2 : k = -2
        · rw [(m4 k2).1] at c
          omega
        by_cases k3 : k = -3
        · by_cases z : e - f ≤ 4
          · rw [((m5 k3).1 z).1] at c
            omega
          · rw [(m5 k3).2 (by omega)] at c
            omega
        by_cases k4 : k = -4
        · rw [m6 k4] at c
          omega
        · omega
      have := (m7 k0).2
      rw [if_pos (h41 (by omega))]
      exact h
    · rw [if_pos c2]
      exact h
  · rw [if_pos c]
    exact h
/-- a bracket ends -/
theorem g_close {j : Nat} {r : List Int} {z' : Int} (hB : sg_B t n key τ0) (hW : rd_W t n k f e) (hk : k = 41) (hbr : 0 ≤ b ∧ b < 8) (hT : sg_T 6 H) (hr : ∀ x ∈ r, x ≠ -11 ∧ 0 ≤ sg_r x) (hb : C.length + H.length + j + r.length ≤ f) (h : sg_G L d t τ0 K 0 b (rd_K t n k e) (rd_h t n 32 32 e) (rd_t t n (rd_h t n 32 32 e)) (C ++ r ++ List.replicate j (-10)) A H Z z) : sg_G L d t τ0 K 0 (b + 1) k f e C A (H ++ List.replicate j (-10) ++ [-11] ++ r.reverse) (sg_Z Z b z) z' := by
  intro τ q4 hS
  have hW0 := hW
  obtain ⟨w1, w2, w3, w4, w5, w6, w7⟩ := hW
  have hfe : f < e := w6 (by omega)
  have hn := hB.1
  obtain ⟨m1, m2, m3, m4, m5, m6, m7, m8, m9⟩ := hS.2.1
  obtain ⟨t1, t2⟩ := m7 (by omega)
  refine g_at39 hS (by omega) ?_ hW0
  refine bX11_takesE_39 L (d + 2) _ _ _ _ τ K ?_
  rw [if_pos rfl, t1, if_neg (by decide), t2, if_neg (fun q => q hk), if_neg (by omega)]
  refine sg_set (d := d + 1) (Or.inr ⟨_, _, rfl, Or.inl rfl⟩) hr hS ?_ (fun τ1 hS1 => ?_)
  · rw [List.length_append, List.length_append, List.length_replicate]
    show C.length + (H.length + j + 1) + r.length ≤ 96
    omega
  have h35 := hS1.2.2.2.2.1.2
  have e35 : rx_w (τ1 125 35 - 1) = (((H ++ List.replicate j (-10)).length : Nat) : Int) := by
    rw [h35, List.length_append, List.length_append, List.length_replicate]
    show rx_w (((H.length + j + 1 : Nat) : Int) - 1) = ((H.length + j : Nat) : Int)
    rw [rx_w_of (by omega) (by omega)]
    omega
  rw [e35]
  have hS2 := sg_high hbr.1 (sg_pop hS1)
  rw [← List.reverse_replicate] at hS2
  rw [← List.reverse_replicate]
  refine sg_set (d := d + 1) hT sg_rep hS2 ?_ (fun τ3 hS3 => ?_)
  · rw [List.length_append, List.length_replicate]
    omega
  refine n_notsOpen hS3.2.2.2.2.1.1 hS3.2.2.2.2.1.2 (by omega) ?_
  refine sg_next hB hS3 ⟨by omega, w3⟩ (by omega) (fun τ4 hS4 => ?_)
  rw [rx_w_of (by omega) (by omega), show b + 1 + -1 = b by omega]
  exact h τ4 _ hS4
/-- a sign between two pieces -/
theorem g_sign {l z' : Int} {r : List Int} (hB : sg_B t n key τ0) (hW : rd_W t n k f e) (hl : sg_l k = l) (l0 : 0 ≤ l) (hbr : 0 ≤ b ∧ b ≤ 8) (hz : z = 0 ∨ z = 1) (hz2 : l = 2 → z = 0) (hz' : z' = if l = 2 then 1 else if l ≤ 1 then 0 else z) (hT : sg_T (l + 1) H) (hr : ∀ x ∈ r, (x ≠ -11 ∧ l + 1 ≤ sg_r x) ∧ x ≠ -10) (hb : C.length + H.length + r.length ≤ f) (h : sg_G L d t τ0 K 1 b (rd_K t n k e) (rd_h t n 32 32 e) (rd_t t n (rd_h t n 32 32 e)) (C ++ r) A (H ++ [tx_enc (-k)]) Z z') : sg_G L d t τ0 K 0 b k f e C A (H ++ r.reverse) Z z := by
  intro τ q4 hS
  have hW0 := hW
  obtain ⟨w1, w2, w3, w4, w5, w6, w7⟩ := hW
  obtain ⟨p1, p2, p3, p4, p5, p6, p7, p8⟩ := sg_p (show 0 ≤ sg_l k by omega)
  have hfe : f < e := w6 (by omega)
  have hn := hB.1
  have hz0 : τ 147 b = z := hS.2.2.2.2.2.2
  have e1 : sg_n (H ++ r.reverse) = sg_n (H ++ [tx_enc (-k)]) := by
    rw [sg_na, sg_na, sg_ns (by omega), sg_nz (fun x hx => (hr x (List.mem_reverse.mp hx)).2)]
  refine g_at237 hS (by omega) (by omega) ?_ hW0
  have last : ∀ τ1, sg_S t τ0 b k f e C A (H ++ r.reverse) Z z' τ1 → rx_Go L (d + 3) mX11_takesE 306 [some (.inr 125), some (.inl b), some (.inl (sg_n (H ++ r.reverse))), some (.inl 0), some (.inl (tx_enc (-k)))] [] τ1 (rx_PI K) := by
    intro τ1 hS1
    refine bX11_takesE_306 L (d + 2) _ _ _ _ τ1 K ?_
    refine n_rank ?_
    rw [p1, hl]
    refine sg_set (d := d + 1) hT (fun x hx => (hr x hx).1) hS1 (by omega) (fun τ2 hS2 => ?_)
    have h35 := hS2.2.2.2.2.1.2
    rw [h35, up_c (show (125 : Nat) ≠ 146 by decide), h35, rx_w_of (by omega) (by omega)]
    refine ⟨by omega, ?_⟩
    refine sg_next hB (sg_push hS2) ⟨by omega, w3⟩ (by omega) (fun τ3 hS3 => ?_)
    rw [e1]
    exact h τ3 _ hS3
  have f268 : rx_Go L (d + 3) mX11_takesE 268 [some (.inr 125), some (.inl b), some (.inl (sg_n (H ++ r.reverse))), some (.inl 0), some (.inl (tx_enc (-k)))] [] τ (rx_PI K) := by
    refine bX11_takesE_268 L (d + 2) _ _ _ _ τ K ?_
    refine n_rank ?_
    rw [p1, hl]
    by_cases c : l = 2
    · rw [if_pos (by omega)]
      rw [if_pos c] at hz'
      rw [hz'] at last
      exact ⟨by omega, last _ (sg_zet hS)⟩
    · rw [if_neg (by omega)]
      rw [if_neg c] at hz'
      refine n_rank ?_
      rw [p1, hl]
      by_cases c2 : l ≤ 1
      · rw [if_pos (by omega)]
        rw [if_pos c2] at hz'
        rw [hz'] at last
        exact ⟨by omega, last _ (sg_zet hS)⟩
      · rw [if_neg (by omega), hz0]
        rw [if_neg c2] at hz'
        rw [hz'] at last
        refine ⟨by omega, ?_⟩
        by_cases c3 : z = 0
        · rw [if_pos c3]
          rw [c3] at last hS
          exact last _ (sg_zet hS)
        · rw [if_neg c3]
          rw [hz.resolve_left c3] at last hS
          exact last _ (sg_zet hS)
  refine bX11_takesE_237 L (d + 2) _ _ _ _ τ K ?_
  refine n_signHere hS.2.1 hW0 (fun _ => ?_) (fun q => by omega)
  rw [if_neg (by omega)]
  refine n_rank ?_
  rw [p1, hl]
  by_cases c : l = 2
  · rw [if_neg (by omega), hz0, if_pos (hz2 c)]
    exact ⟨by omega, f268⟩
  · rw [if_pos (by omega)]
    exact f268
/-- no sign may stand there -/
theorem g_stop (hB : sg_B t n key τ0) (hW : rd_W t n k f e) (hbr : 0 ≤ b ∧ b ≤ 8) (hk : k ≠ -1) (h41 : k = 41 → b ≤ 0) (hl : sg_l k < 0 ∨ (sg_l k = 2 ∧ z = 1)) (h : sg_X τ0 K f) : sg_G L d t τ0 K 0 b k f e C A H Z z := by
  intro τ q4 hS
  have done : K 0 τ := h τ hS.1 hS.2.1.2.1
  refine g_at237 hS hk h41 ?_ hW
  refine bX11_takesE_237 L (d + 2) _ _ _ _ τ K ?_
  refine n_signHere hS.2.1 hW (fun q => ?_) (fun q => ?_)
  · obtain ⟨p1, p2, p3, p4, p5, p6, p7, p8⟩ := sg_p q
    rw [if_neg (by omega)]
    refine n_rank ?_
    have hl2 : sg_l k = 2 ∧ z = 1 := hl.resolve_left (by omega)
    rw [p1, if_neg (by omega), hS.2.2.2.2.2.2, if_neg (by omega)]
    exact ⟨by omega, done⟩
  · rw [if_pos rfl]
    exact done
/-- the end, within a bracket -/
theorem g_endb (hB : sg_B t n key τ0) (hk : k = -1) (hbr : b ≠ 0) (hb : C.length + H.length ≤ 96) (h : sg_X τ0 K f) : sg_G L d t τ0 K 0 b k f e C A H Z z := by
  intro τ q4 hS
  obtain ⟨H', r, eH, hT, hr⟩ := sg_all H
  have m := hS.2.1
  have hlen : H.length = H'.length + r.length := by rw [eH, List.length_append, List.length_reverse]
  refine bX11_takesE_28 L (d + 2) _ _ _ _ τ K ?_
  rw [if_neg (by decide), if_pos (m.2.2.1 hk)]
  rw [eH] at hS
  refine sg_set (d := d + 1) hT hr hS (by omega) (fun τ1 hS1 => ?_)
  rw [if_pos hbr]
  exact h τ1 hS1.1 hS1.2.1.2.1
/-- the end -/
theorem g_end {r : List Int} (hB : sg_B t n key τ0) (hk : k = -1) (hr : ∀ x ∈ r, x ≠ -11 ∧ 0 ≤ sg_r x) (hb : C.length + r.length ≤ 96) (h : ∀ τ', sg_S t τ0 0 k f e (C ++ r) A [] Z z τ' → K 1 τ') : sg_G L d t τ0 K 0 0 k f e C A r.reverse Z z := by
  intro τ q4 hS
  have m := hS.2.1
  refine bX11_takesE_28 L (d + 2) _ _ _ _ τ K ?_
  rw [if_neg (by decide), if_pos (m.2.2.1 hk)]
  refine sg_set (d := d + 1) (H := []) (Or.inl rfl) hr hS (by show C.length + 0 + r.length ≤ 96; omega) (fun τ1 hS1 => ?_)
  rw [if_neg (by decide)]
  exact h τ1 hS1
end MOW
