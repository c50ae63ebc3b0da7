/-! ===== harms, what two roads cost ===== -/
def rs_cl (v m : Int) : Int := if v < 0 then 0 else if m < v then m else v
theorem rs_cl_b (v : Int) {m : Int} (hm : 0 ≤ m) : 0 ≤ rs_cl v m ∧ rs_cl v m ≤ m := by
  unfold rs_cl
  split
  · omega
  · split <;> omega
def rs_hk (k p w : Int) : Int := if k = 1 then p + 2 else if k = 2 then (p + 1) / 2 else if k = 3 then 2 * (p + 2) else if k = 4 then (p + 1) / 2 + w else if k = 5 then 0 else p
theorem rs_hk_b {k p w : Int} (hp : 0 ≤ p ∧ p ≤ 99) (hw : 1 ≤ w ∧ w ≤ 9) : 0 ≤ rs_hk k p w ∧ rs_hk k p w ≤ 202 := by
  unfold rs_hk
  repeat' split
  all_goals omega
/-- the harm of a road -/
def rs_harm (V T : rx_St) (r : Int) : Int := rs_hk (V 6 r) (if rs_law T (V 0 12) 0 < 0 then V 9 r else rs_cl (rs_ans T (rs_law T (V 0 12) 0) (V 9 r) (V 7 r) (V 8 r)) 99) (V 9 r)
theorem rs_harm_b {V T : rx_St} (hw : iv_Wf V) {r : Int} (h0 : 0 ≤ r) (h1 : r < V 0 6) : 0 ≤ rs_harm V T r ∧ rs_harm V T r ≤ 202 := by
  have hr := wf_r hw h0 h1
  refine rs_hk_b ?_ hr.2.2.1
  split
  · omega
  · exact rs_cl_b _ (by omega)
/-- what two roads cost, the lesser number first -/
def rs_cost (V T : rx_St) (r s : Int) : Int := rs_cl (if rs_law T (V 0 12) 1 < 0 then rs_harm V T r + rs_harm V T s else rs_ans T (rs_law T (V 0 12) 1) (rs_harm V T r) (rs_harm V T s) 0) 999
def rs_c2 (V T : rx_St) (r s : Int) : Int := if r < s then rs_cost V T r s else rs_cost V T s r
theorem rs_c2_b {V T : rx_St} (r s : Int) : 0 ≤ rs_c2 V T r s ∧ rs_c2 V T r s ≤ 999 := by
  unfold rs_c2 rs_cost
  split <;> exact rs_cl_b _ (by omega)
theorem rs_c2_sym {V T : rx_St} {r s : Int} (h : r ≠ s) : rs_c2 V T r s = rs_c2 V T s r := by
  unfold rs_c2
  by_cases c : r < s
  · rw [if_pos c, if_neg (by omega)]
  · rw [if_neg c, if_pos (by omega)]
section COSTS
variable {L d : Nat} {σ V T : rx_St} {S : Int → Int} {Q : Int → Int → rx_St → Prop} {K : Int → rx_St → Prop} {KV : rx_St → Prop}
theorem c_within {v m : Int} (hm : 0 ≤ m) (h : K (rs_cl v m) σ) : rx_CI L d mX10_within [.inl v, .inl m] σ K := by
  refine bX10_within L d v m σ K ?_
  have e : rx_mx 0 (rx_mn m v) = rs_cl v m := by
    unfold rx_mx rx_mn rs_cl
    repeat' split
    all_goals omega
  rw [e]
  exact h
theorem n_within {v m : Int} (hm : 0 ≤ m) (h : K (rs_cl v m) σ) : rx_CI L d mX11_within [.inl v, .inl 0, .inl m] σ K := by
  refine bX11_within L d v 0 m σ K ?_
  unfold rs_cl at h
  by_cases c : 0 ≤ v
  · rw [if_pos c]
    rw [if_neg (by omega)] at h
    by_cases c2 : v ≤ m
    · rw [if_pos c2]
      rw [if_neg (by omega)] at h
      exact h
    · rw [if_neg c2]
      rw [if_pos (by omega)] at h
      exact h
  · rw [if_neg c]
    rw [if_pos (by omega)] at h
    exact h
theorem c_harmAs {k p w : Int} (hp : 0 ≤ p ∧ p ≤ 99) (hw : 1 ≤ w ∧ w ≤ 9) (h : K (rs_hk k p w) σ) : rx_CI L d mX10_harmAs [.inl k, .inl p, .inl w] σ K := by
  refine bX10_harmAs L d k p w σ K ?_
  have hdiv : Int.tdiv (p + 1) 2 = (p + 1) / 2 := Int.tdiv_eq_ediv_of_nonneg (by omega)
  simp (disch := omega) only [rx_w_of, hdiv]
  unfold rs_hk at h
  by_cases q1 : k = 1
  · rw [if_pos q1] at h ⊢
    exact h
  rw [if_neg q1] at h ⊢
  by_cases q2 : k = 2
  · rw [if_pos q2] at h ⊢
    exact h
  rw [if_neg q2] at h ⊢
  by_cases q3 : k = 3
  · rw [if_pos q3] at h ⊢
    exact h
  rw [if_neg q3] at h ⊢
  by_cases q4 : k = 4
  · rw [if_pos q4] at h ⊢
    exact h
  rw [if_neg q4] at h ⊢
  by_cases q5 : k = 5
  · rw [if_pos q5] at h ⊢
    exact h
  rw [if_neg q5] at h ⊢
  exact h
theorem c_harmOf {A : Nat} (hA : rx_isO 1 A = true) (hV : ld_C A V σ) (hw : iv_Wf V) (hT : tx_C T σ) (hTw : tx_Wf T (V 0 12)) {r : Int} (hr : 0 ≤ r ∧ r < V 0 6) (h : ∀ σ', (∀ c, c ≠ 57 → σ' c = σ c) → K (rs_harm V T r) σ') : rx_CI L (d + 2) mX0_harmOf [.inr 37, .inr A, .inl r] σ K := by
  have e0 := ld_C0 hV
  have ht := wf_t hw
  have hm := wf_m hw
  have hrr := wf_r hw hr.1 hr.2
  have hA57 : A + 10 < 57 := by rcases sh_1 hA with rfl | rfl | rfl <;> omega
  have hb := rs_law_b (T := T) (n := V 0 12) (key := 0) ht.1
  refine bX0_harmOf L (d + 1) A hA r σ K ?_
  rw [e0]
  refine c_lastOf hT ht ?_
  refine ⟨by omega, ?_⟩
  rw [hV 9 (by omega), hV 7 (by omega), hV 8 (by omega)]
  unfold rs_harm at h
  by_cases c : 0 ≤ rs_law T (V 0 12) 0
  · rw [if_pos c]
    rw [if_neg (show ¬ rs_law T (V 0 12) 0 < 0 by omega)] at h
    refine c_answer hT ht.2 hTw ⟨c, hb.2⟩ (fun σ1 hf => ?_)
    refine c_within (by omega) ?_
    rw [hf (A + 6) (by omega), hV 6 (by omega)]
    exact c_harmAs (rs_cl_b _ (by omega)) hrr.2.2.1 (h σ1 hf)
  · rw [if_neg c, hV 6 (by omega)]
    rw [if_pos (show rs_law T (V 0 12) 0 < 0 by omega)] at h
    exact c_harmAs (by omega) hrr.2.2.1 (h σ (fun _ _ => rfl))
theorem n_harmOf (hM : ld_M V (σ 126)) (hw : iv_Wf V) (hT : tx_M T (V 0 12) (σ 126)) (hTw : tx_Wf T (V 0 12)) {r : Int} (hr : 0 ≤ r ∧ r < V 0 6) (h : ∀ σ', (∀ c, c ≠ 148 → c ≠ 149 → σ' c = σ c) → K (rs_harm V T r) σ') : rx_CI L (d + 2) mX11_harmOf [.inr 125, .inl r] σ K := by
  have ht := wf_t hw
  have hm := wf_m hw
  have hrr := wf_r hw hr.1 hr.2
  have hb := rs_law_b (T := T) (n := V 0 12) (key := 0) ht.1
  refine bX11_harmOf L (d + 1) r σ K ?_
  refine n_counts hM hw hT hTw ?_
  refine n_of hM 3 (by omega) rfl (by omega) ?_
  have hM1 : ld_M V ((rx_up σ 149 0 (V (6 + 3) r)) 126) := by rw [up_c (by decide)]; exact hM
  refine n_lesser hM1 (by omega) ?_
  have hM2 : ld_M V ((rx_up (rx_up σ 149 0 (V (6 + 3) r)) 149 1 (V 7 r)) 126) := by rw [up_c (by decide)]; exact hM1
  refine n_greater hM2 (by omega) ?_
  have hM3 : ld_M V ((rx_up (rx_up (rx_up σ 149 0 (V (6 + 3) r)) 149 1 (V 7 r)) 149 2 (V 8 r)) 126) := by rw [up_c (by decide)]; exact hM2
  have e126 : (rx_up (rx_up (rx_up σ 149 0 (V (6 + 3) r)) 149 1 (V 7 r)) 149 2 (V 8 r)) 126 = σ 126 := by simp (disch := omega) only [up_c]
  have hf0 : ∀ c, c ≠ 148 → c ≠ 149 → (rx_up (rx_up (rx_up σ 149 0 (V (6 + 3) r)) 149 1 (V 7 r)) 149 2 (V 8 r)) c = σ c := fun c h1 h2 => by rw [up_c h2, up_c h2, up_c h2]
  unfold rs_harm at h
  have hk : ∀ (p : Int) (σ1 : rx_St), 0 ≤ p ∧ p ≤ 99 → ld_M V (σ1 126) → K (rs_hk (V 6 r) p (V 9 r)) σ1 → rx_CI L (d + 1) mX11_of [.inr 125, .inl r, .inl 0] σ1 (fun v15 σ14 => if v15 = 1 then (K (rx_w (p + 2)) σ14) else (if v15 = 2 then (K (rx_w (Int.tdiv (rx_w (p + 1)) 2)) σ14) else (if v15 = 3 then (K (rx_w (2 * (rx_w (p + 2)))) σ14) else (if v15 = 4 then (rx_CI L (d + 1) mX11_of [.inr 125, .inl r, .inl 3] σ14 (fun v21 σ20 => K (rx_w ((rx_w (Int.tdiv (rx_w (p + 1)) 2)) + v21)) σ20)) else (if v15 = 5 then (K 0 σ14) else (K p σ14)))))) := by
    intro p σ1 hp hM9 hK
    refine n_of hM9 0 (by omega) rfl (by omega) ?_
    have hdiv : Int.tdiv (p + 1) 2 = (p + 1) / 2 := Int.tdiv_eq_ediv_of_nonneg (by omega)
    simp (disch := omega) only [rx_w_of, hdiv]
    unfold rs_hk at hK
    show if V 6 r = 1 then _ else _
    by_cases q1 : V 6 r = 1
    · rw [if_pos q1] at hK ⊢
      exact hK
    rw [if_neg q1] at hK ⊢
    by_cases q2 : V 6 r = 2
    · rw [if_pos q2] at hK ⊢
      exact hK
    rw [if_neg q2] at hK ⊢
    by_cases q3 : V 6 r = 3
    · rw [if_pos q3] at hK ⊢
      exact hK
    rw [if_neg q3] at hK ⊢
    by_cases q4 : V 6 r = 4
    · rw [if_pos q4] at hK ⊢
      refine n_of hM9 3 (by omega) rfl (by omega) ?_
      rw [rx_w_of]
      · exact hK
      · show -2147483648 ≤ (p + 1) / 2 + V 9 r
        omega
      · show (p + 1) / 2 + V 9 r < 2147483648
        omega
    rw [if_neg q4] at hK ⊢
    by_cases q5 : V 6 r = 5
    · rw [if_pos q5] at hK ⊢
      exact hK
    rw [if_neg q5] at hK ⊢
    exact hK
  by_cases c : 0 ≤ rs_law T (V 0 12) 0
  · rw [if_pos c]
    rw [if_neg (show ¬ rs_law T (V 0 12) 0 < 0 by omega)] at h
    refine n_worksOut hM3 (by rw [e126]; exact hT) ht.2 hTw ⟨c, hb.2⟩ (f := V 9 r) (g := V 7 r) (u := V 8 r) ?_ ?_ (fun _ => ?_) (fun σ1 hf => ?_)
    · simp (disch := omega) only [up_i, up_s]
    · simp (disch := omega) only [up_i, up_s]
    · simp (disch := omega) only [up_s]
    · refine n_within (by omega) ?_
      exact hk _ σ1 (rs_cl_b _ (by omega)) (by rw [hf 126 (by decide)]; exact hM3) (h σ1 (fun c h1 h2 => by rw [hf c h1]; exact hf0 c h1 h2))
  · rw [if_neg c]
    rw [if_pos (show rs_law T (V 0 12) 0 < 0 by omega)] at h
    refine n_of hM3 3 (by omega) rfl (by omega) ?_
    exact hk _ _ (by show 0 ≤ V 9 r ∧ V 9 r ≤ 99; omega) hM3 (h _ hf0)
theorem o_told {r w : Int} (h : iv_A S V T σ) (hQ : ∀ v σ', Inv S σ' → Q v v σ') :
    rx_CI L (d + 3) mX10_told [.inr 0, .inl r, .inl w] σ (fun v1 σ1 => rx_CI L (d + 3) mX11_told [.inr 125, .inl r, .inl w] σ1 (fun v2 σ2 => Q v1 v2 σ2)) := by
  have hw := h.1
  have hC := h.2.1
  have hM := h.2.2.1
  have hm := wf_m hw
  obtain ⟨b1, b2, b3, b4⟩ := h.2.2.2.2.1
  have hbad : ¬ ((0 ≤ r ∧ r < V 0 6) ∧ 0 ≤ w ∧ w ≤ 6) → rx_CI L (d + 3) mX11_told [.inr 125, .inl r, .inl w] σ (fun v2 σ2 => Q (-1000000001) v2 σ2) := by
    intro c
    refine bX11_told L (d + 2) r w σ _ ?_
    refine n_isRoad hM hw (fun c1 => ?_) (fun c1 => ?_)
    · rw [if_neg (by decide)]
      refine m_in (fun c2 => absurd ⟨c1, c2⟩ c) (fun c2 => ?_)
      rw [if_neg (by decide)]
      exact o_same h hQ _
    · rw [if_pos rfl]
      exact o_same h hQ _
  have hof : ∀ (k : Nat), (0 ≤ r ∧ r < V 0 6) → w = k → k ≤ 4 → rx_CI L (d + 3) mX11_told [.inr 125, .inl r, .inl w] σ (fun v2 σ2 => Q (V (6 + k) r) v2 σ2) := by
    intro k c ek hk
    refine bX11_told L (d + 2) r w σ _ ?_
    refine n_isRoad hM hw (fun _ => ?_) (fun c1 => absurd c c1)
    rw [if_neg (by decide)]
    refine m_in (fun _ => ?_) (fun c2 => absurd ⟨by omega, by omega⟩ c2)
    rw [if_pos (by decide), if_pos (by omega), if_pos (by omega)]
    refine n_of hM k (by omega) ek hk ?_
    exact o_same h hQ _
  refine bX10_told L (d + 2) r w σ _ ?_
  refine c_isRoad rfl hC (fun c => ?_) (fun c => ?_)
  · rw [if_pos (by decide)]
    have hr := wf_r hw c.1 c.2
    have e7 : σ 7 = V 6 := hC 6 (by omega)
    have e8 : σ 8 = V 7 := hC 7 (by omega)
    have e9 : σ 9 = V 8 := hC 8 (by omega)
    have e10 : σ 10 = V 9 := hC 9 (by omega)
    have e11 : σ 11 = V 10 := hC 10 (by omega)
    rw [e7, e8, e9, e10, e11]
    by_cases c0 : w = 0
    · rw [if_pos c0]
      exact ⟨by omega, hof 0 c (by omega) (by omega)⟩
    rw [if_neg c0]
    by_cases c1 : w = 1
    · rw [if_pos c1]
      exact ⟨by omega, hof 1 c (by omega) (by omega)⟩
    rw [if_neg c1]
    by_cases c2 : w = 2
    · rw [if_pos c2]
      exact ⟨by omega, hof 2 c (by omega) (by omega)⟩
    rw [if_neg c2]
    by_cases c3 : w = 3
    · rw [if_pos c3]
      exact ⟨by omega, hof 3 c (by omega) (by omega)⟩
    rw [if_neg c3]
    by_cases c4 : w = 4
    · rw [if_pos c4]
      exact ⟨by omega, hof 4 c (by omega) (by omega)⟩
    rw [if_neg c4]
    by_cases c5 : w = 5
    · rw [if_pos c5]
      refine c_harmOf rfl hC hw b1 b2 c (fun σ1 hf1 => ?_)
      have e126 : σ1 126 = σ 126 := hf1 126 (by decide)
      have hM1 : ld_M V (σ1 126) := by rw [e126]; exact hM
      refine bX11_told L (d + 2) r w σ1 _ ?_
      refine n_isRoad hM1 hw (fun _ => ?_) (fun c1 => absurd c c1)
      rw [if_neg (by decide)]
      refine m_in (fun _ => ?_) (fun c2 => absurd ⟨by omega, by omega⟩ c2)
      rw [if_pos (by decide), if_neg (fun q => q c5)]
      refine n_harmOf hM1 hw (by rw [e126]; exact b3) b2 c (fun σ2 hf2 => ?_)
      refine hQ _ _ ⟨V, T, iv_fr h (fun c i hk => ?_)⟩
      unfold fr_k at hk
      rw [hf2 c (by omega) (by omega), hf1 c (by omega)]
    rw [if_neg c5]
    by_cases c6 : w = 6
    · rw [if_pos c6]
      refine ⟨by omega, c_worthOf hr.1 hr.2.2.1 ?_⟩
      refine bX11_told L (d + 2) r w σ _ ?_
      refine n_isRoad hM hw (fun _ => ?_) (fun c1 => absurd c c1)
      rw [if_neg (by decide)]
      refine m_in (fun _ => ?_) (fun c2 => absurd ⟨by omega, by omega⟩ c2)
      rw [if_pos (by decide), if_pos (by omega), if_neg (fun q => q c6)]
      refine n_of hM 0 (by omega) rfl (by omega) ?_
      refine n_of hM 3 (by omega) rfl (by omega) ?_
      refine n_worthBy hr.1 hr.2.2.1 ?_
      exact o_same h hQ _
    · rw [if_neg c6]
      exact hbad (by omega)
  · rw [if_neg (by decide)]
    exact hbad (fun q => c q.1)
theorem o_textTold {t w : Int} (h : iv_A S V T σ) (hQ : ∀ v σ', Inv S σ' → Q v v σ') :
    rx_CI L (d + 1) mX10_textTold [.inr 0, .inl t, .inl w] σ (fun v1 σ1 => rx_CI L (d + 1) mX11_textTold [.inr 125, .inl t, .inl w] σ1 (fun v2 σ2 => Q v1 v2 σ2)) := by
  have hw := h.1
  have hC := h.2.1
  have hM := h.2.2.1
  have ht := wf_t hw
  obtain ⟨b1, b2, b3, b4⟩ := h.2.2.2.2.1
  have e1 : σ 1 = V 0 := ld_C0 hC
  have e39 : σ 39 = T 0 := b1 0 (by omega)
  have e40 : σ 40 = T 1 := b1 1 (by omega)
  have hbad : ¬ ((0 ≤ t ∧ t < V 0 12) ∧ 0 ≤ w ∧ w ≤ 1) → rx_CI L (d + 1) mX11_textTold [.inr 125, .inl t, .inl w] σ (fun v2 σ2 => Q (-1000000001) v2 σ2) := by
    intro c
    refine bX11_textTold L d t w σ _ ?_
    rw [ld_Mt hM, rx_w_of (by omega) (by omega)]
    refine m_in (fun c1 => ?_) (fun c1 => ?_)
    · rw [if_neg (by decide)]
      refine m_in (fun c2 => absurd ⟨by omega, c2⟩ c) (fun c2 => ?_)
      rw [if_neg (by decide)]
      exact o_same h hQ _
    · rw [if_pos rfl]
      exact o_same h hQ _
  refine bX10_textTold L (d + 1) t w σ _ ?_
  rw [e1, e39, e40]
  by_cases c1 : t < 0
  · rw [if_pos c1]
    exact hbad (by omega)
  rw [if_neg c1]
  by_cases c2 : t < V 0 12
  · rw [if_pos c2]
    obtain ⟨a1, a2, -⟩ := b3 t (by omega) c2
    obtain ⟨w1, w2, -⟩ := b2 t (by omega) c2
    by_cases c3 : w = 0
    · rw [if_pos c3]
      refine ⟨by omega, ?_⟩
      refine bX11_textTold L d t w σ _ ?_
      rw [ld_Mt hM, rx_w_of (x := V 0 12 - 1) (by omega) (by omega)]
      refine m_in (fun _ => ?_) (fun q => absurd ⟨by omega, by omega⟩ q)
      rw [if_neg (by decide)]
      refine m_in (fun _ => ?_) (fun q => absurd ⟨by omega, by omega⟩ q)
      rw [if_pos (by decide), if_neg (fun q => q c3)]
      simp (disch := omega) only [rx_w_of]
      have ed : Int.tdiv (σ 126 (126 + 2 * t)) 1000 = T 0 t := by
        rw [a1, Int.tdiv_eq_ediv_of_nonneg (by omega)]
        omega
      rw [ed, rx_w_of (by omega) (by omega)]
      exact ⟨by omega, o_same h hQ _⟩
    rw [if_neg c3]
    by_cases c4 : w = 1
    · rw [if_pos c4]
      refine ⟨by omega, ?_⟩
      refine bX11_textTold L d t w σ _ ?_
      rw [ld_Mt hM, rx_w_of (x := V 0 12 - 1) (by omega) (by omega)]
      refine m_in (fun _ => ?_) (fun q => absurd ⟨by omega, by omega⟩ q)
      rw [if_neg (by decide)]
      refine m_in (fun _ => ?_) (fun q => absurd ⟨by omega, by omega⟩ q)
      rw [if_pos (by decide), if_pos c3]
      simp (disch := omega) only [rx_w_of]
      rw [show 126 + 2 * t + 1 = 127 + 2 * t by omega, a2]
      exact ⟨by omega, o_same h hQ _⟩
    · rw [if_neg c4]
      exact hbad (by omega)
  · rw [if_neg c2]
    exact hbad (by omega)
theorem o_why {k : Int} (h : iv_A S V T σ) (hQ : ∀ v σ', Inv S σ' → Q v v σ') :
    rx_CI L (d + 1) mX10_why [.inr 0, .inl k] σ (fun v1 σ1 => rx_CI L (d + 1) mX11_why [.inr 125, .inl k] σ1 (fun v2 σ2 => Q v1 v2 σ2)) := by
  have hw := h.1
  have hC := h.2.1
  have hM := h.2.2.1
  have ht := wf_t hw
  obtain ⟨b1, b2, b3, b4⟩ := h.2.2.2.2.1
  have e1 : σ 1 = V 0 := ld_C0 hC
  have hbad : ¬ (0 ≤ k ∧ k ≤ 2) → rx_CI L (d + 1) mX11_why [.inr 125, .inl k] σ (fun v2 σ2 => Q (-1000000001) v2 σ2) := by
    intro c
    refine bX11_why L d k σ _ ?_
    refine m_in (fun c1 => absurd c1 c) (fun c1 => ?_)
    rw [if_neg (by decide)]
    exact o_same h hQ _
  refine bX10_why L d k σ _ ?_
  by_cases c1 : k < 0
  · rw [if_pos c1]
    exact hbad (by omega)
  rw [if_neg c1]
  by_cases c2 : k < 3
  · rw [if_pos c2, e1]
    refine c_lastOf b1 ht ?_
    have hmod : ∀ v, (0 ≤ rs_law T (V 0 12) k → v = rs_law T (V 0 12) k) → (¬ 0 ≤ rs_law T (V 0 12) k → v = -1000000005) → rx_CI L (d + 1) mX11_why [.inr 125, .inl k] σ (fun v2 σ2 => Q v v2 σ2) := by
      intro v v1 v2
      refine bX11_why L d k σ _ ?_
      refine m_in (fun _ => ?_) (fun q => absurd ⟨by omega, by omega⟩ q)
      rw [if_pos (by decide)]
      refine n_counts hM hw b3 b2 ?_
      by_cases c3 : 0 ≤ rs_law T (V 0 12) k
      · rw [if_pos c3, v1 c3]
        exact o_same h hQ _
      · rw [if_neg c3, v2 c3]
        exact o_same h hQ _
    by_cases c3 : 0 ≤ rs_law T (V 0 12) k
    · rw [if_pos c3]
      exact hmod _ (fun _ => rfl) (fun q => absurd c3 q)
    · rw [if_neg c3]
      exact hmod _ (fun q => absurd q c3) (fun _ => rfl)
  · rw [if_neg c2]
    exact hbad (by omega)
end COSTS
