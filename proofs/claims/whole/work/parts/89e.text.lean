/-! ===== text ===== -/
section TXT
variable {L d : Nat} {σ V T : rx_St} {S : Int → Int} {Q : Int → Int → rx_St → Prop} {K : Int → rx_St → Prop}
/-- the tape is empty, all that the calls lean on is as it was -/
def tm_E (σ σ' : rx_St) : Prop := (∀ c, c ≠ 34 → c ≠ 35 → c ≠ 125 → c ≠ 145 → c ≠ 146 → c ≠ 147 → σ' c = σ c) ∧ (∀ i, (i < 22 ∨ 35 < i) → σ' 125 i = σ 125 i) ∧ σ' 34 0 = 0 ∧ σ' 125 22 = 0
theorem tm_R_of {σ' : rx_St} (hR : iv_R S σ) (hc : ∀ c, (101 ≤ c ∧ c ≤ 124) ∨ (142 ≤ c ∧ c ≤ 144) ∨ (150 ≤ c ∧ c ≤ 156) ∨ 158 ≤ c → σ' c = σ c) (h13 : σ' 0 13 = σ 0 13) (h48 : σ' 125 48 = σ 125 48) (h0 : σ' 34 0 = 0) (h22 : σ' 125 22 = 0) : iv_R S σ' := by
  obtain ⟨a1, a2, a3, a4, a5⟩ := hR
  refine ⟨?_, ?_, ?_, ?_, ?_⟩
  · unfold iv_const
    rw [hc 159 (by omega), hc 160 (by omega), hc 143 (by omega), hc 144 (by omega)]
    exact a1
  · unfold iv_tape
    rw [h0, h22]
    exact ⟨by omega, rfl, fun i i0 i1 => by omega⟩
  · unfold iv_wait
    rw [h13, h48, hc 158 (by omega), hc 101 (by omega)]
    exact a3
  · intro s hs
    rw [hc (102 + 2 * s) (by omega), hc (102 + 2 * s + 1) (by omega), hc 150 (by omega), hc 151 (by omega), hc 152 (by omega)]
    exact a4 s hs
  · intro s hs
    rw [hc (110 + 3 * s) (by omega), hc (110 + 3 * s + 1) (by omega), hc (110 + 3 * s + 1 + 1) (by omega), hc 153 (by omega), hc 154 (by omega), hc 155 (by omega), hc 156 (by omega)]
    exact a5 s hs
theorem tm_inv {σ' : rx_St} (h : iv_A S V T σ) (hE : tm_E σ σ') : Inv S σ' := by
  obtain ⟨e1, e2, e3, e4⟩ := hE
  have hc : ∀ c, c ≠ 34 → c ≠ 35 → c ≠ 125 → c ≠ 145 → c ≠ 146 → c ≠ 147 → σ' c = σ c := e1
  refine ⟨V, T, iv_rest h (fun c i k r => ?_) (tm_R_of (iv_R_of h) (fun c k => hc c (by omega) (by omega) (by omega) (by omega) (by omega) (by omega)) (by rw [hc 0 (by decide) (by decide) (by decide) (by decide) (by decide) (by decide)]) (e2 48 (by decide)) e3 e4)⟩
  unfold fr_k at k
  unfold fr_r at r
  by_cases c125 : c = 125
  · rw [c125]
    exact e2 i (by omega)
  · rw [hc c (by omega) (by omega) c125 (by omega) (by omega) (by omega)]
/-- a new text -/
theorem tm_new {σ' : rx_St} {tn key : Int} {w : List Int} (h : iv_A S V T σ) (htn : tn = V 0 12) (ht : 0 ≤ tn ∧ tn < 14) (hk : 0 ≤ key ∧ key ≤ 2) (hw : sc_w key w) (hl : w.length ≤ 96)
    (hc : ∀ c, c ≠ 1 → c ≠ 34 → c ≠ 35 → c ≠ 39 → c ≠ 40 → c ≠ 41 → c ≠ 43 + tn.toNat → c ≠ 125 → c ≠ 126 → c ≠ 145 → c ≠ 146 → c ≠ 147 → σ' c = σ c) (h125 : ∀ i, (i < 22 ∨ 35 < i) → σ' 125 i = σ 125 i) (h34 : σ' 34 0 = 0) (h22 : σ' 125 22 = 0)
    (h1 : ∀ i, i ≠ 12 → σ' 1 i = σ 1 i) (h12 : σ' 1 12 = tn + 1) (h39 : ∀ i, i ≠ tn → σ' 39 i = σ 39 i ∧ σ' 40 i = σ 40 i ∧ σ' 41 i = σ 41 i) (n39 : σ' 39 tn = key) (n40 : σ' 40 tn = sc_l w) (n41 : σ' 41 tn = w.length) (n43 : ar_is (σ' (43 + tn.toNat)) w)
    (m1 : ∀ i, i ≠ 3 → i ≠ 126 + 2 * tn → i ≠ 127 + 2 * tn → ¬ (154 + 96 * tn ≤ i ∧ i < 154 + 96 * tn + w.length) → σ' 126 i = σ 126 i) (m2 : σ' 126 3 = tn + 1) (m3 : σ' 126 (126 + 2 * tn) = 1000 * key + w.length) (m4 : σ' 126 (127 + 2 * tn) = sc_l w) (m5 : ∀ k : Nat, k < w.length → (w.map tx_enc)[k]? = some (σ' 126 (154 + 96 * tn + k))) : Inv S σ' := by
  obtain ⟨a1, a2, a3, a4, ⟨b1, b2, b3, b4⟩, a6⟩ := h
  have cc : ∀ c, (2 ≤ c ∧ c ≤ 22) ∨ c = 0 ∨ c = 127 → σ' c = σ c := fun c q => hc c (by omega) (by omega) (by omega) (by omega) (by omega) (by omega) (by omega) (by omega) (by omega) (by omega) (by omega) (by omega)
  have cT : ∀ s : Int, 0 ≤ s → s < tn → σ' 39 s = T 0 s ∧ σ' 40 s = T 1 s ∧ σ' 41 s = T 2 s ∧ σ' (39 + (4 + s.toNat)) = T (4 + s.toNat) := by
    intro s s0 s1
    obtain ⟨q1, q2, q3⟩ := h39 s (by omega)
    refine ⟨?_, ?_, ?_, ?_⟩
    · rw [q1]
      exact congrFun (b1 0 (by omega)) s
    · rw [q2]
      exact congrFun (b1 1 (by omega)) s
    · rw [q3]
      exact congrFun (b1 2 (by omega)) s
    · rw [hc (39 + (4 + s.toNat)) (by omega) (by omega) (by omega) (by omega) (by omega) (by omega) (by omega) (by omega) (by omega) (by omega) (by omega) (by omega)]
      exact b1 (4 + s.toNat) (by omega)
  refine ⟨rx_up V 0 12 (tn + 1), fun k => σ' (39 + k), ?_, ?_, ?_, ?_, ⟨fun k _ => rfl, ?_, ?_, ?_⟩, tm_R_of a6 (fun c k => hc c (by omega) (by omega) (by omega) (by omega) (by omega) (by omega) (by omega) (by omega) (by omega) (by omega) (by omega) (by omega)) (by rw [cc 0 (by omega)]) (h125 48 (by decide)) h34 h22⟩
  · unfold iv_Wf
    rw [up_s, up_i (by decide), up_i (by decide), up_c (by decide), up_c (by decide), up_c (by decide), up_c (by decide), up_c (by decide), up_c (by decide), up_c (by decide), up_c (by decide), up_c (by decide), up_c (by decide)]
    exact ⟨a1.1, a1.2.1, by omega, a1.2.2.2⟩
  · intro k hk'
    by_cases c : k = 0
    · subst c
      funext i
      by_cases ci : i = 12
      · rw [ci, up_s]
        exact h12
      · rw [up_i ci]
        have := h1 i ci
        rw [show (1 + 0 : Nat) = 1 from rfl, this]
        exact congrFun (ld_C0 a2) i
    · rw [cc (1 + k) (by omega), up_c c]
      exact a2 k hk'
  · intro k i hki
    by_cases c : k = 0 ∧ i = 12
    · obtain ⟨rfl, rfl⟩ := c
      rw [up_s]
      exact m2
    · rw [up_n c]
      have e3 : ld_i k i ≠ 3 := fun q => c (ld_inj hki (show ld_ok 0 12 by unfold ld_ok; omega) q)
      have lt : ld_i k i < 126 := by
        unfold ld_ok at hki
        unfold ld_i
        repeat' split
        all_goals omega
      rw [m1 _ e3 (by omega) (by omega) (by omega)]
      exact a3 k i hki
  · unfold iv_img
    rw [cc 0 (by omega), h125 3 (by decide), cc 127 (by omega), up_s]
    refine ⟨a4.1, a4.2.1, fun g => ?_⟩
    obtain ⟨I, i1, i2, i3, i4⟩ := a4.2.2 g
    exact ⟨I, i1, ld_Cfr i2 (fun c x1 x2 => cc c (by omega)), i3, by omega⟩
  · rw [up_s]
    intro s s0 s1
    show (0 ≤ σ' 39 s ∧ σ' 39 s ≤ 2) ∧ (0 ≤ σ' 41 s ∧ σ' 41 s ≤ 96) ∧ tx_ok (σ' 39 s) (σ' (39 + (4 + s.toNat))) (σ' 41 s).toNat
    by_cases c : s = tn
    · rw [c, n39, n41]
      refine ⟨hk, by omega, ?_⟩
      rw [show 39 + (4 + tn.toNat) = 43 + tn.toNat by omega, show ((w.length : Nat) : Int).toNat = w.length by omega]
      obtain ⟨g1, g2⟩ := hw (σ' (43 + tn.toNat)) 0 (Int.le_refl 0) (fun i hi => by rw [Nat.zero_add]; exact n43 i hi)
      rw [Nat.zero_add] at g2
      refine ⟨fun k hk => ?_, by rw [g2]; show (1 : Int) ≤ 0 + 1; omega⟩
      have := g1 k hk
      rw [Nat.zero_add] at this
      exact this
    · obtain ⟨q1, q2, q3, q4⟩ := cT s s0 (by omega)
      rw [q1, q3, q4]
      exact b2 s s0 (by omega)
  · rw [up_s]
    intro s s0 s1
    show σ' 126 (126 + 2 * s) = 1000 * σ' 39 s + σ' 41 s ∧ σ' 126 (127 + 2 * s) = σ' 40 s ∧ ∀ k : Int, 0 ≤ k → k < σ' 41 s → σ' 126 (154 + 96 * s + k) = tx_enc (σ' (39 + (4 + s.toNat)) k)
    by_cases c : s = tn
    · rw [c, n39, n40, n41]
      refine ⟨m3, m4, fun k k0 k1 => ?_⟩
      have x1 := n43 k.toNat (by omega)
      have x2 := m5 k.toNat (by omega)
      rw [List.getElem?_map, x1] at x2
      rw [show 39 + (4 + tn.toNat) = 43 + tn.toNat by omega]
      have x3 := Option.some.inj x2
      rw [show ((k.toNat : Nat) : Int) = k by omega] at x3
      exact x3.symm
    · obtain ⟨q1, q2, q3, q4⟩ := cT s s0 (by omega)
      obtain ⟨y1, y2, y3⟩ := b3 s s0 (by omega)
      obtain ⟨z1, z2, -⟩ := b2 s s0 (by omega)
      rw [q1, q2, q3, q4]
      refine ⟨?_, ?_, fun k k0 k1 => ?_⟩
      · rw [m1 _ (by omega) (by omega) (by omega) (by omega)]
        exact y1
      · rw [m1 _ (by omega) (by omega) (by omega) (by omega)]
        exact y2
      · rw [m1 _ (by omega) (by omega) (by omega) (by omega)]
        exact y3 k k0 k1
  · rw [cc 0 (by omega), cc 127 (by omega)]
    intro g s s0 s1
    obtain ⟨I, i1, i2, i3, i4⟩ := a4.2.2 g
    rw [ld_Mt i3] at s1
    obtain ⟨q1, q2, q3, q4⟩ := cT s s0 (by omega)
    show σ 127 (126 + 2 * s) = 1000 * σ' 39 s + σ' 41 s ∧ σ 127 (127 + 2 * s) = σ' 40 s ∧ ∀ k : Int, 0 ≤ k → k < σ' 41 s → σ 127 (154 + 96 * s + k) = tx_enc (σ' (39 + (4 + s.toNat)) k)
    rw [q1, q2, q3, q4]
    exact b4 g s s0 (by rw [ld_Mt i3]; exact s1)
theorem o_text (h : iv_A S V T σ) (hQ : ∀ v σ', Inv S σ' → Q v v σ') :
    rx_CI L (d + 200) mX10_text [.inr 0] σ (fun v1 σ1 => rx_CI L (d + 200) mX11_text [.inr 125] σ1 (fun v2 σ2 => Q v1 v2 σ2)) := by
  obtain ⟨t1, t2, t3⟩ := h.2.2.2.2.2.2.1
  have hC := h.2.1
  have hM := h.2.2.1
  have hw := h.1
  have hcst := h.2.2.2.2.2.1
  have htt := wf_t hw
  generalize en : σ 34 0 = n at *
  generalize et : σ 36 = t at *
  have htb : ∀ i, 0 ≤ i → i < n → 0 ≤ t i ∧ t i ≤ 255 := fun i i0 i1 => (t3 i i0 i1).2
  have e112 : σ 1 12 = V 0 12 := by rw [show σ 1 = V 0 from ld_C0 hC]
  -- the model behind a fault
  have flt : ∀ (fl : Int) (σ1 : rx_St), 0 ≤ fl → fl ≤ n → (∀ c, c ≠ 34 → c ≠ 35 → σ1 c = σ c) → σ1 34 0 = 0 → ((rd_key t (rd_K t n (-1) 0) (rd_h t n 32 32 0) (rd_t t n (rd_h t n 32 32 0)) < 0 → fl = rd_h t n 32 32 0)) → (0 ≤ rd_key t (rd_K t n (-1) 0) (rd_h t n 32 32 0) (rd_t t n (rd_h t n 32 32 0)) → ∀ (τ0 : rx_St) (K' : Int → rx_St → Prop), sg_B t n (rd_key t (rd_K t n (-1) 0) (rd_h t n 32 32 0) (rd_t t n (rd_h t n 32 32 0))) τ0 → ∀ Z, sg_X τ0 K' fl → sg_G L (d + 196) t τ0 K' 1 0 (rd_K t n (rd_K t n (-1) 0) (rd_t t n (rd_h t n 32 32 0))) (rd_h t n 32 32 (rd_t t n (rd_h t n 32 32 0))) (rd_t t n (rd_h t n 32 32 (rd_t t n (rd_h t n 32 32 0)))) [] 0 [] Z 0) → rx_CI L (d + 200) mX11_text [.inr 125] σ1 (fun v2 σ2 => Q (-100 - fl) v2 σ2) := by
    intro fl σ1 f0 f1 hc h0 hk hk2
    refine n_text (d := d + 196) (t := t) (n := n) (S := S) t1 (by rw [hc 125 (by decide) (by decide)]; exact t2) (fun i i0 i1 => by rw [hc 142 (by decide) (by decide)]; exact (t3 i i0 i1).1) htb ?_ rfl rfl rfl rfl rfl rfl rfl (fun ck σ' hF h22 => ?_) (fun ck τ0 hF hB Z => ?_)
    · unfold iv_const
      rw [hc 159 (by decide) (by decide), hc 160 (by decide) (by decide), hc 143 (by decide) (by decide), hc 144 (by decide) (by decide)]
      exact hcst
    · rw [← hk ck]
      refine hQ _ _ (tm_inv h ⟨fun c x1 x2 x3 x4 x5 x6 => by rw [hF.1 c x3 x4 x5 x6]; exact hc c x1 x2, fun i hi => by rw [hF.2 i hi, hc 125 (by decide) (by decide)], ?_, h22⟩)
      rw [hF.1 34 (by decide) (by decide) (by decide) (by decide)]
      exact h0
    · refine hk2 ck τ0 _ hB Z (fun τ' hF' h24 => ?_)
      unfold tm_K
      rw [if_pos rfl, up_i (show (24 : Int) ≠ 22 by decide), h24, rx_w_of (by omega) (by omega)]
      refine hQ _ _ (tm_inv h ⟨fun c x1 x2 x3 x4 x5 x6 => by rw [up_c x3, hF'.1 c x3 x4 x5 x6, hF.1 c x3 x4 x5 x6]; exact hc c x1 x2, fun i hi => by rw [up_i (by omega), hF'.2 i (by omega) (by omega) (by omega) (by omega), hF.2 i hi, hc 125 (by decide) (by decide)], ?_, up_s⟩)
      rw [up_c (by decide), hF'.1 34 (by decide) (by decide) (by decide) (by decide), hF.1 34 (by decide) (by decide) (by decide) (by decide)]
      exact h0
  refine bX10_text L (d + 199) σ _ ?_
  refine c_read (d := d + 196) (dd := d + 122) (t := t) (n := n) t1 en et htb rfl rfl rfl rfl rfl rfl rfl (fun ck σ1 hc f0 f1 => ?_) (fun ck σ1 fl hc f0 f1 hm => ?_) (fun ck σ1 w hc g1 g2 g3 g35 hlen hww hm => ?_)
  · rw [if_neg (by omega), rx_w_of (by omega) (by omega)]
    exact flt _ _ f0 f1 (fun c x1 x2 => by rw [up_c x1]; exact hc c x1 x2) up_s (fun _ => rfl) (fun q => by omega)
  · rw [if_neg (by omega), rx_w_of (by omega) (by omega)]
    exact flt _ _ f0 f1 (fun c x1 x2 => by rw [up_c x1]; exact hc c x1 x2) up_s (fun q => by omega) (fun _ => hm)
  · generalize ekey : rd_key t (rd_K t n (-1) 0) (rd_h t n 32 32 0) (rd_t t n (rd_h t n 32 32 0)) = key at *
    have key2 : key ≤ 2 := by
      rw [← ekey]
      unfold rd_key
      repeat' split
      all_goals omega
    rw [if_pos (by decide), up_c (show (1 : Nat) ≠ 34 by decide), hc 1 (by decide) (by decide), e112]
    -- the model, behind what the class has done
    have mod : ∀ (σ2 : rx_St) (v : Int), σ2 34 0 = 0 → (∀ c, c = 125 ∨ c = 126 ∨ (142 ≤ c ∧ c ≤ 144) ∨ c = 159 ∨ c = 160 → σ2 c = σ c) → (V 0 12 = 14 → ∀ σ', tm_F σ2 σ' → σ' 125 22 = 0 → Q v (-1000000003) σ') → (V 0 12 < 14 → ∀ σ', (∀ c, c ≠ 125 → c ≠ 126 → c ≠ 145 → c ≠ 146 → c ≠ 147 → σ' c = σ2 c) → (∀ i, (i < 22 ∨ 35 < i) → σ' 125 i = σ2 125 i) → σ' 125 22 = 0 → (∀ i, i ≠ 3 → i ≠ 126 + 2 * V 0 12 → i ≠ 127 + 2 * V 0 12 → ¬ (154 + 96 * V 0 12 ≤ i ∧ i < 154 + 96 * V 0 12 + w.length) → σ' 126 i = σ 126 i) → σ' 126 3 = V 0 12 + 1 → σ' 126 (126 + 2 * V 0 12) = 1000 * key + w.length → σ' 126 (127 + 2 * V 0 12) = sc_l w → (∀ k : Nat, k < w.length → (w.map tx_enc)[k]? = some (σ' 126 (154 + 96 * V 0 12 + k))) → Q v (V 0 12) σ') → rx_CI L (d + 200) mX11_text [.inr 125] σ2 (fun v2 σ2 => Q v v2 σ2) := by
      intro σ2 v h0 hc2 hfull hnew
      refine n_text (d := d + 196) (t := t) (n := n) (S := S) t1 (by rw [hc2 125 (by omega)]; exact t2) (fun i i0 i1 => by rw [hc2 142 (by omega)]; exact (t3 i i0 i1).1) htb ?_ rfl rfl rfl ekey.symm rfl rfl rfl (fun q => by omega) (fun _ τ0 hF hB Z => ?_)
      · unfold iv_const
        rw [hc2 159 (by omega), hc2 160 (by omega), hc2 143 (by omega), hc2 144 (by omega)]
        exact hcst
      refine hm τ0 _ hB Z (fun τ' k f e z hS => ?_)
      obtain ⟨s1, s2, ⟨s3, s4⟩, s5, s6⟩ := hS
      unfold tm_K
      rw [if_neg (by decide)]
      have e126 : ∀ i, (rx_up τ' 125 22 0) 126 i = σ 126 i := fun i => by rw [up_c (by decide), s1.1 126 (by decide) (by decide) (by decide) (by decide), hF.1 126 (by decide) (by decide) (by decide) (by decide), hc2 126 (by omega)]
      have e3 : (rx_up τ' 125 22 0) 126 3 = V 0 12 := by rw [e126]; exact ld_Mt hM
      rw [List.length_map] at s4
      by_cases c : V 0 12 = 14
      · unfold tm_R
        rw [e3, if_neg (fun q => q c)]
        exact hfull c _ ⟨fun c x1 x2 x3 x4 => by rw [up_c x1, s1.1 c x1 x2 x3 x4, hF.1 c x1 x2 x3 x4], fun i hi => by rw [up_i (by omega), s1.2 i (by omega) (by omega) (by omega) (by omega), hF.2 i hi]⟩ up_s
      · refine n_put (tn := V 0 12) (key := key) (len := w.length) (lv := sc_l w) e3 (by omega) (by rw [up_i (by decide), s1.2 28 (by decide) (by decide) (by decide) (by decide)]; exact hB.2.2.1) ⟨ck, key2⟩ (by rw [up_i (by decide)]; exact s4) (by omega) (by rw [up_i (by decide)]; exact s5) (fun σ' n1 n2 n3 n4 n5 n6 => ?_)
        refine hnew (by omega) σ' (fun c x1 x2 x3 x4 x5 => by rw [n1 c x2, up_c x1, s1.1 c x1 x3 x4 x5, hF.1 c x1 x3 x4 x5]) (fun i hi => by rw [n1 125 (by decide), up_i (by omega), s1.2 i (by omega) (by omega) (by omega) (by omega), hF.2 i hi]) (by rw [n1 125 (by decide), up_s]) (fun i x1 x2 x3 x4 => by rw [n2 i x1 x2 x3 x4, e126]) n3 n4 n5 (fun k hk => ?_)
        rw [n6 k (by omega) (by omega), up_c (by decide)]
        exact s3 k (by rw [List.length_map]; exact hk)
    by_cases c : V 0 12 < 14
    · rw [if_pos c]
      have g1' : (rx_up σ1 34 0 0) 34 1 = key := by rw [up_i (by decide)]; exact g1
      have g2' : (rx_up σ1 34 0 0) 34 2 = sc_l w := by rw [up_i (by decide)]; exact g2
      have g3' : (rx_up σ1 34 0 0) 34 3 = w.length := by rw [up_i (by decide)]; exact g3
      have g0' : (rx_up σ1 34 0 0) 34 0 = 0 := up_s
      have g35' : ar_is ((rx_up σ1 34 0 0) 35) w := by rw [up_c (by decide)]; exact g35
      have hc' : ∀ c, c ≠ 34 → c ≠ 35 → (rx_up σ1 34 0 0) c = σ c := fun c x1 x2 => by rw [up_c x1]; exact hc c x1 x2
      generalize rx_up σ1 34 0 0 = σ2 at *
      refine bX2_put L (d + 199) (V 0 12) σ2 _ ⟨by omega, by omega, fun A2 hA2 hA3 => ?_⟩
      rw [up_c (show (34 : Nat) ≠ 39 by decide), g1', g2', up_c (show (34 : Nat) ≠ 40 by decide), up_c (show (34 : Nat) ≠ 39 by decide), g3', up_c (show (34 : Nat) ≠ 41 by decide), up_c (show (34 : Nat) ≠ 40 by decide), up_c (show (34 : Nat) ≠ 39 by decide), g3']
      refine ⟨⟨by omega, by decide, by decide⟩, ?_⟩
      subst hA2
      have p1 : ∀ i, i ≠ V 0 12 → rx_up (rx_up (rx_up σ2 39 (V 0 12) key) 40 (V 0 12) (sc_l w)) 41 (V 0 12) w.length 39 i = σ 39 i ∧ rx_up (rx_up (rx_up σ2 39 (V 0 12) key) 40 (V 0 12) (sc_l w)) 41 (V 0 12) w.length 40 i = σ 40 i ∧ rx_up (rx_up (rx_up σ2 39 (V 0 12) key) 40 (V 0 12) (sc_l w)) 41 (V 0 12) w.length 41 i = σ 41 i := fun i hi => by
        refine ⟨?_, ?_, ?_⟩
        · rw [up_c (by decide), up_c (by decide), up_i hi, hc' 39 (by decide) (by decide)]
        · rw [up_c (by decide), up_i hi, up_c (by decide), hc' 40 (by decide) (by decide)]
        · rw [up_i hi, up_c (by decide), up_c (by decide), hc' 41 (by decide) (by decide)]
      have p39 : rx_up (rx_up (rx_up σ2 39 (V 0 12) key) 40 (V 0 12) (sc_l w)) 41 (V 0 12) w.length 39 (V 0 12) = key := by rw [up_c (by decide), up_c (by decide), up_s]
      have p40 : rx_up (rx_up (rx_up σ2 39 (V 0 12) key) 40 (V 0 12) (sc_l w)) 41 (V 0 12) w.length 40 (V 0 12) = sc_l w := by rw [up_c (by decide), up_s]
      have p41 : rx_up (rx_up (rx_up σ2 39 (V 0 12) key) 40 (V 0 12) (sc_l w)) 41 (V 0 12) w.length 41 (V 0 12) = w.length := up_s
      have pc : ∀ c, c ≠ 39 → c ≠ 40 → c ≠ 41 → rx_up (rx_up (rx_up σ2 39 (V 0 12) key) 40 (V 0 12) (sc_l w)) 41 (V 0 12) w.length c = σ2 c := fun c x1 x2 x3 => by rw [up_c x3, up_c x2, up_c x1]
      generalize rx_up (rx_up (rx_up σ2 39 (V 0 12) key) 40 (V 0 12) (sc_l w)) 41 (V 0 12) (w.length : Int) = σ3 at *
      have q1 : ∀ c, c ≠ 43 + (V 0 12).toNat → (rx_cp σ3 35 0 (43 + (V 0 12).toNat) 0 (w.length : Int)) c = σ3 c := fun c x => cp_c x
      have q43 : ar_is ((rx_cp σ3 35 0 (43 + (V 0 12).toNat) 0 (w.length : Int)) (43 + (V 0 12).toNat)) w := by
        intro i hi
        rw [cp_i (by omega), show (0 : Int) + ((i : Int) - 0) = i by omega, pc 35 (by decide) (by decide) (by decide)]
        exact g35' i hi
      generalize rx_cp σ3 35 0 (43 + (V 0 12).toNat) 0 (w.length : Int) = σ4 at *
      have e12 : σ4 1 12 = V 0 12 := by rw [q1 1 (by omega), pc 1 (by decide) (by decide) (by decide), hc' 1 (by decide) (by decide)]; exact e112
      rw [up_s, e12, rx_w_of (x := V 0 12 + 1) (by omega) (by omega), rx_w_of (x := V 0 12 + 1 - 1) (by omega) (by omega), show V 0 12 + 1 - 1 = V 0 12 by omega]
      have r4 : ∀ c, c ≠ 34 → c ≠ 35 → c ≠ 39 → c ≠ 40 → c ≠ 41 → c ≠ 43 + (V 0 12).toNat → σ4 c = σ c := fun c x1 x2 x3 x4 x5 x6 => by rw [q1 c x6, pc c x3 x4 x5]; exact hc' c x1 x2
      refine mod _ _ ?_ (fun c hcc => ?_) (fun q => by omega) (fun _ σ' n1 n2 n3 n4 n5 n6 n7 n8 => ?_)
      · rw [up_c (by decide), q1 34 (by omega), pc 34 (by decide) (by decide) (by decide)]
        exact g0'
      · rw [up_c (by omega)]
        exact r4 c (by omega) (by omega) (by omega) (by omega) (by omega) (by omega)
      · refine hQ _ _ (tm_new (tn := V 0 12) (key := key) (w := w) h rfl (by omega) ⟨ck, key2⟩ hww hlen (fun c x1 x2 x3 x4 x5 x6 x7 x8 x9 x10 x11 x12 => ?_) (fun i hi => ?_) ?_ n3 (fun i hi => ?_) ?_ (fun i hi => ?_) ?_ ?_ ?_ ?_ n4 n5 n6 n7 n8)
        · rw [n1 c x8 x9 x10 x11 x12, up_c x1]
          exact r4 c x2 x3 x4 x5 x6 x7
        · rw [n2 i hi, up_c (by decide), r4 125 (by decide) (by decide) (by decide) (by decide) (by decide) (by omega)]
        · rw [n1 34 (by decide) (by decide) (by decide) (by decide) (by decide), up_c (by decide), q1 34 (by omega), pc 34 (by decide) (by decide) (by decide)]
          exact g0'
        · rw [n1 1 (by decide) (by decide) (by decide) (by decide) (by decide), up_i hi, r4 1 (by decide) (by decide) (by decide) (by decide) (by decide) (by omega)]
        · rw [n1 1 (by decide) (by decide) (by decide) (by decide) (by decide), up_s]
        · rw [n1 39 (by decide) (by decide) (by decide) (by decide) (by decide), n1 40 (by decide) (by decide) (by decide) (by decide) (by decide), n1 41 (by decide) (by decide) (by decide) (by decide) (by decide), up_c (by decide), up_c (by decide), up_c (by decide), q1 39 (by omega), q1 40 (by omega), q1 41 (by omega)]
          exact p1 i hi
        · rw [n1 39 (by decide) (by decide) (by decide) (by decide) (by decide), up_c (by decide), q1 39 (by omega)]
          exact p39
        · rw [n1 40 (by decide) (by decide) (by decide) (by decide) (by decide), up_c (by decide), q1 40 (by omega)]
          exact p40
        · rw [n1 41 (by decide) (by decide) (by decide) (by decide) (by decide), up_c (by decide), q1 41 (by omega)]
          exact p41
        · rw [n1 (43 + (V 0 12).toNat) (by omega) (by omega) (by omega) (by omega) (by omega), up_c (by omega)]
          exact q43
    · rw [if_neg c]
      refine mod _ _ up_s (fun c hcc => ?_) (fun _ σ' hF h22 => ?_) (fun q => absurd q c)
      · rw [up_c (by omega)]
        exact hc c (by omega) (by omega)
      · refine hQ _ _ (tm_inv h ⟨fun c x1 x2 x3 x4 x5 x6 => by rw [hF.1 c x3 x4 x5 x6, up_c x1]; exact hc c x1 x2, fun i hi => by rw [hF.2 i hi, up_c (by decide), hc 125 (by decide) (by decide)], ?_, h22⟩)
        rw [hF.1 34 (by decide) (by decide) (by decide) (by decide)]
        exact up_s
end TXT
