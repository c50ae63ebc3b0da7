/-! ===== reading a text: the whole of it, of both ===== -/
section RED
variable {L d dd : Nat} {σ : rx_St} {K : Int → rx_St → Prop} {KV : rx_St → Prop} {t : Int → Int} {n : Int}
theorem c_read (hn : 0 ≤ n ∧ n ≤ 96) (h0 : σ 34 0 = n) (ht : σ 36 = t) (htb : ∀ i, 0 ≤ i → i < n → 0 ≤ t i ∧ t i ≤ 255) {k0 f0 e0 k1 f1 e1 key : Int} (ek0 : k0 = rd_K t n (-1) 0) (ef0 : f0 = rd_h t n 32 32 0) (ee0 : e0 = rd_t t n f0) (ekey : key = rd_key t k0 f0 e0) (ek1 : k1 = rd_K t n k0 e0) (ef1 : f1 = rd_h t n 32 32 e0) (ee1 : e1 = rd_t t n f1)
    (H1 : key < 0 → ∀ σ', (∀ c, c ≠ 34 → c ≠ 35 → σ' c = σ c) → 0 ≤ f0 → f0 ≤ n → K f0 σ')
    (H2 : 0 ≤ key → ∀ σ' fl, (∀ c, c ≠ 34 → c ≠ 35 → σ' c = σ c) → 0 ≤ fl → fl ≤ n → (∀ (τ0 : rx_St) (K' : Int → rx_St → Prop), sg_B t n key τ0 → ∀ Z, sg_X τ0 K' fl → sg_G L d t τ0 K' 1 0 k1 f1 e1 [] 0 [] Z 0) → K fl σ')
    (H3 : 0 ≤ key → ∀ (σ' : rx_St) (w : List Int), (∀ c, c ≠ 34 → c ≠ 35 → σ' c = σ c) → σ' 34 1 = key → σ' 34 2 = sc_l w → σ' 34 3 = w.length → ar_is (σ' 35) w → w.length ≤ 96 → sc_w key w → (∀ (τ0 : rx_St) (K' : Int → rx_St → Prop), sg_B t n key τ0 → ∀ Z, (∀ τ' k f e z, sg_S t τ0 0 k f e (w.map tx_enc) (sc_l w) [] Z z τ' → K' 1 τ') → sg_G L d t τ0 K' 1 0 k1 f1 e1 [] 0 [] Z 0) → K (-1) σ') :
    rx_CI L (dd + 77) mX5_read [.inr 34] σ K := by
  have hW0 := (rd_Wn (t := t) (k := -1) (e := 0) hn htb ⟨Int.le_refl 0, hn.1⟩).2
  rw [← ek0, ← ef0, ← ee0] at hW0
  obtain ⟨w1, w2, w3, w4, w5, w6, w7⟩ := hW0
  have hW1 := (rd_Wn (t := t) (k := k0) (e := e0) hn htb ⟨by omega, w3⟩).2
  rw [← ek1, ← ef1, ← ee1] at hW1
  refine bX5_read L (dd + 76) σ K ?_
  have g6 : (rx_up (rx_up (rx_up (rx_up (rx_up σ 34 6 (-1)) 34 8 0) 34 9 (-1)) 34 2 0) 34 3 0) 34 6 = -1 := by rw [up_i (by decide), up_i (by decide), up_i (by decide), up_i (by decide), up_s]
  have g8 : (rx_up (rx_up (rx_up (rx_up (rx_up σ 34 6 (-1)) 34 8 0) 34 9 (-1)) 34 2 0) 34 3 0) 34 8 = 0 := by rw [up_i (by decide), up_i (by decide), up_i (by decide), up_s]
  have g9 : (rx_up (rx_up (rx_up (rx_up (rx_up σ 34 6 (-1)) 34 8 0) 34 9 (-1)) 34 2 0) 34 3 0) 34 9 = -1 := by rw [up_i (by decide), up_i (by decide), up_s]
  have g2 : (rx_up (rx_up (rx_up (rx_up (rx_up σ 34 6 (-1)) 34 8 0) 34 9 (-1)) 34 2 0) 34 3 0) 34 2 = 0 := by rw [up_i (by decide), up_s]
  have g3 : (rx_up (rx_up (rx_up (rx_up (rx_up σ 34 6 (-1)) 34 8 0) 34 9 (-1)) 34 2 0) 34 3 0) 34 3 = 0 := up_s
  have g0 : (rx_up (rx_up (rx_up (rx_up (rx_up σ 34 6 (-1)) 34 8 0) 34 9 (-1)) 34 2 0) 34 3 0) 34 0 = n := by rw [up_i (by decide), up_i (by decide), up_i (by decide), up_i (by decide), up_i (by decide)]; exact h0
  have gc : ∀ c, c ≠ 34 → (rx_up (rx_up (rx_up (rx_up (rx_up σ 34 6 (-1)) 34 8 0) 34 9 (-1)) 34 2 0) 34 3 0) c = σ c := fun c hc => by rw [up_c hc, up_c hc, up_c hc, up_c hc, up_c hc]
  generalize (rx_up (rx_up (rx_up (rx_up (rx_up σ 34 6 (-1)) 34 8 0) 34 9 (-1)) 34 2 0) 34 3 0) = σa at *
  refine c_next (d := dd + 73) hn g0 (by rw [gc 36 (by decide)]; exact ht) htb (by rw [g8]; omega) (fun σ1 a6 a7 a8 ai ac => ?_)
  rw [g6, g8, ← ek0] at a6
  rw [g8, ← ef0] at a7 a8
  rw [← ee0] at a8
  have c1 : ∀ c, c ≠ 34 → σ1 c = σ c := fun c hc => by rw [ac c hc, gc c hc]
  have a0 : σ1 34 0 = n := by rw [ai 0 (by decide) (by decide) (by decide)]; exact g0
  have a9 : σ1 34 9 = -1 := by rw [ai 9 (by decide) (by decide) (by decide)]; exact g9
  have a2 : σ1 34 2 = 0 := by rw [ai 2 (by decide) (by decide) (by decide)]; exact g2
  have a3 : σ1 34 3 = 0 := by rw [ai 3 (by decide) (by decide) (by decide)]; exact g3
  refine c_keyHere (d := dd + 75) (t := t) hn (by rw [c1 36 (by decide)]; exact ht) (by rw [a7, a8]; exact ⟨w1, w2, w3⟩) ?_
  rw [a6, a7, a8, ← ekey, up_s]
  by_cases ck : 0 ≤ key
  · rw [if_pos ck]
    have key2 : key ≤ 2 := by
      rw [ekey]
      unfold rd_key
      repeat' split
      all_goals omega
    have hB : sc_B t n key (rx_up σ1 34 1 key) := ⟨hn, by rw [up_i (by decide)]; exact a0, up_s, by rw [up_c (by decide), c1 36 (by decide)]; exact ht, htb, ck, key2⟩
    have hS : sc_S (rx_up σ1 34 1 key) k0 f0 e0 [] 0 (rx_up σ1 34 1 key) := ⟨⟨fun _ _ _ => rfl, fun _ _ _ _ _ _ _ => rfl⟩, ⟨by rw [up_i (by decide)]; exact a6, by rw [up_i (by decide)]; exact a7, by rw [up_i (by decide)]; exact a8⟩, ⟨ar_nil, by rw [up_i (by decide)]; exact a3⟩, by rw [up_i (by decide)]; exact a2, by rw [up_i (by decide)]; exact a9⟩
    have c2 : ∀ c, c ≠ 34 → (rx_up σ1 34 1 key) c = σ c := fun c hc => by rw [up_c hc]; exact c1 c hc
    generalize rx_up σ1 34 1 key = σ0 at *
    refine c_nx (d := dd + 73) hB hS ⟨by omega, w3⟩ (fun σ5 hS5 => ?_)
    rw [← ek1, ← ef1, ← ee1] at hS5
    have fr0 : ∀ σ', sc_F σ0 σ' → ∀ c, c ≠ 34 → c ≠ 35 → σ' c = σ c := fun σ' hF c x1 x2 => by rw [hF.1 c x1 x2]; exact c2 c x1
    have hf1 := hW1.1
    refine (c_all (L := L) (d := d) (dd := dd) (t := t) (n := n) (key := key) 70).2 0 0 0 (by decide) (by decide) (by decide) (by decide) σ0 k1 f1 e1 0 [] σ5 _ hB hW1 hS5 (by show (0 : Int) ≤ f1; omega) (by omega) (fun σ6 k2 f2 e2 w hS6 hW2 hlen hw hO => ?_) (fun σ6 fl hE hY => ?_)
    · obtain ⟨c1', r, zf, o1, o2, o3, o4, o5, o6⟩ := hO
      rw [List.nil_append, Int.zero_add] at hS6
      have v1 := hW2.1
      have v2 := hW2.2.1
      have v3 := hW2.2.2.1
      have wlen : w.length = c1'.length + r.length := by rw [← List.length_append, ← o1, List.length_map]
      rw [hS6.2.1.1]
      by_cases cE : k2 = -1
      · rw [if_pos cE, hS6.2.2.2.2]
        refine H3 ck σ6 w (fr0 σ6 hS6.1) ?_ hS6.2.2.2.1 hS6.2.2.1.2 hS6.2.2.1.1 (by omega) hw ?_
        · rw [hS6.1.2 1 (by decide) (by decide) (by decide) (by decide) (by decide) (by decide)]
          exact hB.2.2.1
        · intro τ0 K' hB' Z hK
          refine o6 τ0 K' hB' [] 0 [] Z 0 (Or.inl rfl) (fun _ => rfl) (Or.inl rfl) rfl (by show (0 : Int) + 0 ≤ f1; omega) (by omega) ?_
          rw [List.nil_append, List.nil_append, Int.zero_add]
          refine g_end hB' cE (fun x hx => ⟨(o2 x hx).1.1, by have := (o2 x hx).1.2; omega⟩) (by omega) (fun τ' hS' => hK τ' k2 f2 e2 (zf 0) ?_)
          rw [← o1] at hS'
          exact hS'
      · rw [if_neg cE]
        refine c_fl hW2 hS6 (fun σ7 hE => ?_)
        rw [hE.2.2.2.1]
        refine H2 ck σ7 f2 (fr0 σ7 hE.1) hE.2.2.2.2.1 hE.2.2.2.2.2 ?_
        intro τ0 K' hB' Z hX
        refine o6 τ0 K' hB' [] 0 [] Z 0 (Or.inl rfl) (fun _ => rfl) (Or.inl rfl) rfl (by show (0 : Int) + 0 ≤ f1; omega) (by omega) ?_
        exact g_stop hB' hW2 (by decide) cE (fun _ => Int.le_refl 0) (o5.imp id (fun q => ⟨q.1, q.2.2⟩)) hX
    · have mod : ∀ (τ0 : rx_St) (K' : Int → rx_St → Prop), sg_B t n key τ0 → ∀ Z, sg_X τ0 K' fl → sg_G L d t τ0 K' 1 0 k1 f1 e1 [] 0 [] Z 0 := fun τ0 K' hB' Z hX => hY τ0 K' hB' [] 0 [] Z 0 (Or.inl rfl) (fun _ => rfl) (Or.inl rfl) rfl (by show (0 : Int) + 0 ≤ f1; omega) (by omega) hX
      have done : K (σ6 34 9) σ6 := by
        rw [hE.2.2.2.1]
        exact H2 ck σ6 fl (fr0 σ6 hE.1) hE.2.2.2.2.1 hE.2.2.2.2.2 mod
      by_cases cE : σ6 34 6 = -1
      · rw [if_pos cE]
        exact done
      · rw [if_neg cE]
        exact c_flE hE done
  · rw [if_neg ck]
    refine bX5_fail L (dd + 76) _ _ ?_
    rw [up_i (show (9 : Int) ≠ 1 by decide), a9, if_neg (by decide), up_i (show (7 : Int) ≠ 1 by decide), a7, up_s]
    exact H1 (by omega) _ (fun c x1 x2 => by rw [up_c x1, up_c x1]; exact c1 c x1) w1 (by omega)
/-- what the model does behind a text that is one -/
def tm_R (L d : Nat) (K : Int → rx_St → Prop) (σ : rx_St) : Prop := if (σ 126 3) ≠ 14 then ((0 ≤ (rx_w (126 + (rx_w (2 * (σ 126 3))))) ∧ (rx_w (126 + (rx_w (2 * (σ 126 3))))) < 1498) ∧ ((0 ≤ (rx_w ((rx_w (126 + (rx_w (2 * (σ 126 3))))) + 1)) ∧ (rx_w ((rx_w (126 + (rx_w (2 * (σ 126 3))))) + 1)) < 1498) ∧ (rx_Go L (d + 1) mX11_text 115 [some (.inr 125), some (.inl 1), some (.inl (σ 126 3)), some (.inl 0)] [] (rx_up (rx_up σ 126 (rx_w (126 + (rx_w (2 * (σ 126 3))))) (rx_w ((rx_w (1000 * (σ 125 28))) + (σ 125 32)))) 126 (rx_w ((rx_w (126 + (rx_w (2 * (σ 126 3))))) + 1)) ((rx_up σ 126 (rx_w (126 + (rx_w (2 * (σ 126 3))))) (rx_w ((rx_w (1000 * (σ 125 28))) + (σ 125 32)))) 125 33)) (rx_PI K)))) else (K (-1000000003) σ)
def tm_K (L d : Nat) (K : Int → rx_St → Prop) (v6 : Int) (σ5 : rx_St) : Prop := if v6 = 0 then (K (rx_w ((-100) - ((rx_up σ5 125 22 0) 125 24))) (rx_up σ5 125 22 0)) else tm_R L d K (rx_up σ5 125 22 0)
/-- what of the store a text leaves in the model -/
def tm_F (σ σ' : rx_St) : Prop := (∀ c, c ≠ 125 → c ≠ 145 → c ≠ 146 → c ≠ 147 → σ' c = σ c) ∧ (∀ i, (i < 22 ∨ 35 < i) → σ' 125 i = σ 125 i)
theorem n_text {S : Int → Int} (hn : 0 ≤ n ∧ n ≤ 96) (h22 : σ 125 22 = n) (ht : ∀ i, 0 ≤ i → i < n → σ 142 i = t i) (htb : ∀ i, 0 ≤ i → i < n → 0 ≤ t i ∧ t i ≤ 255) (hc : iv_const S σ) {k0 f0 e0 k1 f1 e1 key : Int} (ek0 : k0 = rd_K t n (-1) 0) (ef0 : f0 = rd_h t n 32 32 0) (ee0 : e0 = rd_t t n f0) (ekey : key = rd_key t k0 f0 e0) (ek1 : k1 = rd_K t n k0 e0) (ef1 : f1 = rd_h t n 32 32 e0) (ee1 : e1 = rd_t t n f1)
    (H1 : key < 0 → ∀ σ', tm_F σ σ' → σ' 125 22 = 0 → K (-100 - f0) σ')
    (H2 : 0 ≤ key → ∀ τ0, tm_F σ τ0 → sg_B t n key τ0 → ∀ Z, sg_G L d t τ0 (tm_K L (d + 3) K) 1 0 k1 f1 e1 [] 0 [] Z 0) : rx_CI L (d + 4) mX11_text [.inr 125] σ K := by
  have hW0 := (rd_Wn (t := t) (k := -1) (e := 0) hn htb ⟨Int.le_refl 0, hn.1⟩).2
  rw [← ek0, ← ef0, ← ee0] at hW0
  obtain ⟨w1, w2, w3, w4, w5, w6, w7⟩ := hW0
  refine bX11_text L (d + 3) σ K ?_
  refine n_go (d := d + 2) (t := t) (k := -1) (e := 0) hn (by rw [up_i (by decide), up_i (by decide)]; exact h22) (fun i i0 i1 => by rw [up_c (by decide), up_c (by decide)]; exact ht i i0 i1) htb ⟨by omega, hn.1⟩ (by rw [up_i (by decide), up_s]) (fun q => by omega) (fun _ => by rw [up_s]; decide) (fun σ1 hM ai ac => ?_)
  rw [← ek0, ← ef0, ← ee0] at hM
  have c1 : ∀ c, c ≠ 125 → σ1 c = σ c := fun c hc => by rw [ac c hc, up_c hc, up_c hc]
  have i1 : ∀ i, i < 23 ∨ 27 < i → σ1 125 i = σ 125 i := fun i hi => by rw [ai i hi, up_i (by omega), up_i (by omega)]
  have hc1 : iv_const S σ1 := by
    unfold iv_const
    rw [c1 159 (by decide), c1 160 (by decide), c1 143 (by decide), c1 144 (by decide)]
    exact hc
  have ht1 : ∀ i, 0 ≤ i → i < n → σ1 142 i = t i := fun i x0 x1 => by rw [c1 142 (by decide)]; exact ht i x0 x1
  refine n_takesKey (d := d + 2) hn ht1 hc1 ⟨w1, w2, w3⟩ w4 hM (fun ck => ?_) (fun ck => ?_)
  · rw [← ekey] at ck ⊢
    have hk0 : k0 = -2 := by
      by_cases c : k0 = -2
      · exact c
      · exfalso
        unfold rd_key at ekey
        rw [if_neg (by rw [bo_f (fun z => c z.1)]; decide), if_neg (by rw [bo_f (fun z => c z.1)]; decide), if_neg (by rw [bo_f (fun z => c z.1)]; decide)] at ekey
        omega
    have key2 : key ≤ 2 := by
      rw [ekey]
      unfold rd_key
      repeat' split
      all_goals omega
    refine n_go (d := d + 1) (t := t) (k := k0) (e := e0) hn (by rw [up_i (by decide), i1 22 (by decide)]; exact h22) (fun i x0 x1 => by rw [up_c (by decide)]; exact ht1 i x0 x1) htb ⟨by omega, w3⟩ (by rw [up_i (by decide)]; exact hM.1) (fun q => by rw [up_i (by decide)]; exact hM.2.2.2.2.2.2.2.1 q) (fun q => absurd (Or.inl hk0) q) (fun σ2 hM2 bi bc => ?_)
    rw [← ek1, ← ef1, ← ee1] at hM2
    rw [if_neg (by decide)]
    have c2 : ∀ c, c ≠ 125 → σ2 c = σ c := fun c hc => by rw [bc c hc, up_c hc, c1 c hc]
    have i2 : ∀ i, i < 23 ∨ 28 < i → σ2 125 i = σ 125 i := fun i hi => by rw [bi i (by omega), up_i (by omega), i1 i (by omega)]
    have i28 : σ2 125 28 = key := by rw [bi 28 (by decide), up_s]
    refine bX11_takesE L (d + 2) σ2 _ ?_
    have hB : sg_B t n key σ2 := ⟨hn, by rw [i2 22 (by decide)]; exact h22, i28, fun i x0 x1 => by rw [c2 142 (by decide)]; exact ht i x0 x1, htb, ck, key2⟩
    refine H2 ck σ2 ⟨fun c x1 _ _ _ => c2 c x1, fun i hi => i2 i (by omega)⟩ hB (fun _ => 0) _ _ ⟨⟨fun c x1 x2 x3 x4 => ?_, fun i x1 x2 x3 x4 => ?_⟩, rd_Mc hM2 (fun i x1 x2 => ?_), ⟨ar_nil, ?_⟩, ?_, ⟨ar_nil, ?_⟩, fun i x0 x1 => by omega, up_s⟩
    · rw [up_c x4, up_c x1, up_c x1, up_c x1]
    · rw [up_c (by decide), up_i x4, up_i x3, up_i x2]
    · rw [up_c (by decide), up_i (by omega), up_i (by omega), up_i (by omega)]
    · rw [up_c (by decide), up_i (by decide), up_i (by decide), up_s]
      rfl
    · rw [up_c (by decide), up_i (by decide), up_s]
    · rw [up_c (by decide), up_s]
      rfl
  · rw [← ekey] at ck
    rw [if_pos rfl, up_i (show (24 : Int) ≠ 22 by decide), hM.2.1, rx_w_of (by omega) (by omega)]
    exact H1 ck _ ⟨fun c x1 x2 x3 x4 => by rw [up_c x1]; exact c1 c x1, fun i hi => by rw [up_i (by omega)]; exact i1 i (by omega)⟩ up_s
theorem n_put {tn key len lv : Int} (h3 : σ 126 3 = tn) (ht : 0 ≤ tn ∧ tn < 14) (h28 : σ 125 28 = key) (hk : 0 ≤ key ∧ key ≤ 2) (h32 : σ 125 32 = len) (hl : 0 ≤ len ∧ len ≤ 96) (h33 : σ 125 33 = lv) (h : ∀ σ' : rx_St, (∀ c, c ≠ 126 → σ' c = σ c) → (∀ i, i ≠ 3 → i ≠ 126 + 2 * tn → i ≠ 127 + 2 * tn → ¬ (154 + 96 * tn ≤ i ∧ i < 154 + 96 * tn + len) → σ' 126 i = σ 126 i) → σ' 126 3 = tn + 1 → σ' 126 (126 + 2 * tn) = 1000 * key + len → σ' 126 (127 + 2 * tn) = lv → (∀ k, 0 ≤ k → k < len → σ' 126 (154 + 96 * tn + k) = σ 145 k) → K tn σ') : tm_R L d K σ := by
  unfold tm_R
  rw [h3, if_pos (by omega), up_c (show (125 : Nat) ≠ 126 by decide), h28, h32, h33]
  rw [rx_w_of (x := 2 * tn) (by omega) (by omega), rx_w_of (x := 126 + 2 * tn) (by omega) (by omega), rx_w_of (x := 126 + 2 * tn + 1) (by omega) (by omega), rx_w_of (x := 1000 * key) (by omega) (by omega), rx_w_of (x := 1000 * key + len) (by omega) (by omega), show 126 + 2 * tn + 1 = 127 + 2 * tn by omega]
  refine ⟨by omega, by omega, ?_⟩
  have key2 : ∀ (m : Nat) (x : Int) (q1 : Option rx_V) (σ1 : rx_St), 0 ≤ x → x + m = len → (∀ c, c ≠ 126 → σ1 c = σ c) → (∀ i, i ≠ 126 + 2 * tn → i ≠ 127 + 2 * tn → ¬ (154 + 96 * tn ≤ i ∧ i < 154 + 96 * tn + len) → σ1 126 i = σ 126 i) → σ1 126 (126 + 2 * tn) = 1000 * key + len → σ1 126 (127 + 2 * tn) = lv → (∀ k, 0 ≤ k → k < x → σ1 126 (154 + 96 * tn + k) = σ 145 k) → rx_Go L (d + 1) mX11_text 115 [some (.inr 125), q1, some (.inl tn), some (.inl x)] [] σ1 (rx_PI K) := by
    intro m
    induction m with
    | zero =>
      intro x q1 σ1 x0 hx a1 a2 a3 a4 a5
      refine bX11_text_115 L d q1 tn x σ1 K ?_
      rw [a1 125 (by decide), h32, if_pos (by omega)]
      have e3 : σ1 126 3 = tn := by rw [a2 3 (by omega) (by omega) (by omega)]; exact h3
      rw [e3, rx_w_of (by omega) (by omega)]
      refine h _ (fun c hc => by rw [up_c hc]; exact a1 c hc) (fun i q1 q2 q3 q4 => by rw [up_i q1]; exact a2 i q2 q3 q4) up_s (by rw [up_i (by omega)]; exact a3) (by rw [up_i (by omega)]; exact a4) (fun k k0 k1 => by rw [up_i (by omega)]; exact a5 k k0 (by omega))
    | succ m ih =>
      intro x q1 σ1 x0 hx a1 a2 a3 a4 a5
      refine bX11_text_115 L d q1 tn x σ1 K ?_
      rw [a1 125 (by decide), h32, if_neg (by omega), a1 145 (by decide)]
      rw [rx_w_of (x := 96 * tn) (by omega) (by omega), rx_w_of (x := 154 + 96 * tn) (by omega) (by omega), rx_w_of (x := 154 + 96 * tn + x) (by omega) (by omega), rx_w_of (x := x + 1) (by omega) (by omega)]
      refine ⟨by omega, by omega, ih (x + 1) q1 _ (by omega) (by omega) (fun c hc => by rw [up_c hc]; exact a1 c hc) (fun i q2 q3 q4 => by rw [up_i (by omega)]; exact a2 i q2 q3 q4) (by rw [up_i (by omega)]; exact a3) (by rw [up_i (by omega)]; exact a4) (fun k k0 k1 => ?_)⟩
      by_cases c : k = x
      · rw [c, up_s]
      · rw [up_i (by omega)]
        exact a5 k k0 (by omega)
  refine key2 len.toNat 0 _ _ (by omega) (by omega) (fun c hc => by rw [up_c hc, up_c hc]) (fun i q1 q2 q3 => by rw [up_i q2, up_i q1]) (by rw [up_i (by omega), up_s]) up_s (fun k k0 k1 => by omega)
end RED
