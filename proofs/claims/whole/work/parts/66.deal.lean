/-! ===== lots; the line ===== -/
def rs_z (V : rx_St) : Int := rx_w (rx_w (V 0 13 * 1103515245) + 12345)
def dl_V (V : rx_St) : rx_St := rx_up V 0 13 (rs_z V)
def rs_d (V : rx_St) : Int := rx_alu 8 (rs_z V) 8
def dl_post (V : rx_St) : Int × rx_St := if (dl_V (dl_V V)) 0 0 < 8 ∧ rs_at (dl_V (dl_V V)) (rs_d V % 100) (rs_d (dl_V V) % 100) < 0 then (1, ld_post (dl_V (dl_V V)) (rs_d V % 100) (rs_d (dl_V V) % 100)) else (0, dl_V (dl_V V))
def dl_road (V : rx_St) : Int × rx_St := if rs_d V % V 0 0 ≠ rs_d (dl_V V) % V 0 0 ∧ rs_has (dl_V (dl_V V)) (rs_d V % V 0 0) (rs_d (dl_V V) % V 0 0) = false ∧ (dl_V (dl_V V)) 0 6 < 18 then (1, ld_road (dl_V (dl_V (dl_V V))) 0 (rs_d V % V 0 0) (rs_d (dl_V V) % V 0 0) (1 + rs_d (dl_V (dl_V V)) % 9)) else (0, dl_V (dl_V V))
def dl_n (f : rx_St → Int × rx_St) : Nat → rx_St → Int → Int × rx_St
  | 0, V, c => (c, V)
  | k + 1, V, c => dl_n f k (f V).2 (c + (f V).1)
theorem wf_z {V : rx_St} (hw : iv_Wf V) (v : Int) : iv_Wf (rx_up V 0 13 v) := by
  unfold iv_Wf
  rw [up_i (by decide), up_i (by decide), up_i (by decide), up_c (by decide), up_c (by decide), up_c (by decide), up_c (by decide), up_c (by decide), up_c (by decide), up_c (by decide), up_c (by decide), up_c (by decide), up_c (by decide)]
  exact hw
theorem dl_0 {V : rx_St} {i : Int} (h : i ≠ 13) : dl_V V 0 i = V 0 i := up_i h
theorem rs_d_nn (V : rx_St) : 0 ≤ rs_d V := alu_ush0 _
theorem has_dl {V : rx_St} {a b : Int} : rs_has (dl_V V) a b = rs_has V a b := by
  unfold rs_has
  rw [dl_0 (by decide)]
  rfl
theorem dl_post_ok {V : rx_St} (hw : iv_Wf V) : iv_Wf (dl_post V).2 ∧ (dl_post V).2 0 12 = V 0 12 ∧ (0 ≤ (dl_post V).1 ∧ (dl_post V).1 ≤ 1) := by
  have h2 : iv_Wf (dl_V (dl_V V)) := wf_z (wf_z hw _) _
  unfold dl_post
  by_cases c : (dl_V (dl_V V)) 0 0 < 8 ∧ rs_at (dl_V (dl_V V)) (rs_d V % 100) (rs_d (dl_V V) % 100) < 0
  · rw [if_pos c]
    refine ⟨wf_post h2 c.1 (by omega) (by omega) c.2, ?_, by show (0 : Int) ≤ 1 ∧ (1 : Int) ≤ 1; omega⟩
    have : ∀ x y : Int, ld_post (dl_V (dl_V V)) x y 0 12 = V 0 12 := fun x y => by
      have e : ld_post (dl_V (dl_V V)) x y 0 12 = (dl_V (dl_V V)) 0 12 := by simp [ld_post, rx_up]
      rw [e, dl_0 (by decide), dl_0 (by decide)]
    exact this (rs_d V % 100) (rs_d (dl_V V) % 100)
  · rw [if_neg c]
    exact ⟨h2, by show dl_V (dl_V V) 0 12 = V 0 12; rw [dl_0 (by decide), dl_0 (by decide)], by show (0 : Int) ≤ 0 ∧ (0 : Int) ≤ 1; omega⟩
theorem dl_road_ok {V : rx_St} (hw : iv_Wf V) (hn : 0 < V 0 0) : iv_Wf (dl_road V).2 ∧ (dl_road V).2 0 12 = V 0 12 ∧ (dl_road V).2 0 0 = V 0 0 ∧ (0 ≤ (dl_road V).1 ∧ (dl_road V).1 ≤ 1) := by
  have h2 : iv_Wf (dl_V (dl_V V)) := wf_z (wf_z hw _) _
  have h3 : iv_Wf (dl_V (dl_V (dl_V V))) := wf_z h2 _
  have e0 : ∀ i : Int, i ≠ 13 → (dl_V (dl_V (dl_V V))) 0 i = V 0 i := fun i hi => by rw [dl_0 hi, dl_0 hi, dl_0 hi]
  have m1 := Int.emod_nonneg (rs_d V) (show V 0 0 ≠ 0 by omega)
  have m2 := Int.emod_lt_of_pos (rs_d V) hn
  have m3 := Int.emod_nonneg (rs_d (dl_V V)) (show V 0 0 ≠ 0 by omega)
  have m4 := Int.emod_lt_of_pos (rs_d (dl_V V)) hn
  unfold dl_road
  by_cases c : rs_d V % V 0 0 ≠ rs_d (dl_V V) % V 0 0 ∧ rs_has (dl_V (dl_V V)) (rs_d V % V 0 0) (rs_d (dl_V V) % V 0 0) = false ∧ (dl_V (dl_V V)) 0 6 < 18
  · rw [if_pos c]
    refine ⟨wf_road h3 (by rw [dl_0 (by decide)]; exact c.2.2) (by omega) (by rw [e0 0 (by decide)]; omega) (by rw [e0 0 (by decide)]; omega) c.1 (by omega) (by rw [has_dl]; exact c.2.1), ?_, ?_, by show (0 : Int) ≤ 1 ∧ (1 : Int) ≤ 1; omega⟩
    · have : ∀ a b w : Int, ld_road (dl_V (dl_V (dl_V V))) 0 a b w 0 12 = (dl_V (dl_V (dl_V V))) 0 12 := fun a b w => by simp [ld_road, rx_up]
      exact (this (rs_d V % V 0 0) (rs_d (dl_V V) % V 0 0) (1 + rs_d (dl_V (dl_V V)) % 9)).trans (e0 12 (by decide))
    · have : ∀ a b w : Int, ld_road (dl_V (dl_V (dl_V V))) 0 a b w 0 0 = (dl_V (dl_V (dl_V V))) 0 0 := fun a b w => by simp [ld_road, rx_up]
      exact (this (rs_d V % V 0 0) (rs_d (dl_V V) % V 0 0) (1 + rs_d (dl_V (dl_V V)) % 9)).trans (e0 0 (by decide))
  · rw [if_neg c]
    exact ⟨h2, by show dl_V (dl_V V) 0 12 = V 0 12; rw [dl_0 (by decide), dl_0 (by decide)], by show dl_V (dl_V V) 0 0 = V 0 0; rw [dl_0 (by decide), dl_0 (by decide)], by show (0 : Int) ≤ 0 ∧ (0 : Int) ≤ 1; omega⟩
section DEAL
variable {L d : Nat} {σ V T : rx_St} {S : Int → Int} {Q : Int → Int → rx_St → Prop} {K : Int → rx_St → Prop} {KV : rx_St → Prop}
theorem c_draw {A : Nat} (hA : rx_isO 1 A = true) (hV : ld_C A V σ) {b : Int} (hb : 0 < b) (h : ∀ σ', ld_C A (dl_V V) σ' → (∀ c, c ≠ A → σ' c = σ c) → K (rs_d V % b) σ') : rx_CI L d mX1_draw [.inr A, .inl b] σ K := by
  refine bX1_draw L d A hA b σ K ?_
  rw [if_neg (by omega), ld_C0 hV, up_s]
  refine ⟨by omega, ?_⟩
  have e : Int.tmod (rx_alu 8 (rx_w (rx_w (V 0 13 * 1103515245) + 12345)) 8) b = rs_d V % b := Int.tmod_eq_emod_of_nonneg (rs_d_nn V)
  rw [e]
  exact h _ (ld_Cup0 hV 13 _) (fun c hc => up_c hc)
theorem n_draw (hM : ld_M V (σ 126)) (h : ∀ σ', ld_M (dl_V V) (σ' 126) → (∀ c, c ≠ 126 → σ' c = σ c) → (∀ i, 126 ≤ i → σ' 126 i = σ 126 i) → K (rs_d V) σ') : rx_CI L d mX11_draw [.inr 125] σ K := by
  refine bX11_draw L d σ K ?_
  rw [ld_Mz hM, up_s]
  exact h _ (ld_Mup hM (k := 0) (i := 13) (by unfold ld_ok; omega) (by unfold ld_i; simp)) (fun c hc => up_c hc) (fun i hi => up_i (by omega))
theorem c_drawPost (hV : ld_C 1 V σ) (hw : iv_Wf V) (h : ∀ σ', ld_C 1 (dl_post V).2 σ' → (∀ c, c < 1 ∨ 11 < c → σ' c = σ c) → K (dl_post V).1 σ') : rx_CI L (d + 3) mX1_drawPost [.inr 1] σ K := by
  refine bX1_drawPost L (d + 2) 1 rfl σ K ?_
  refine c_draw rfl hV (by decide) (fun σ1 hC1 hf1 => ?_)
  refine c_draw rfl hC1 (by decide) (fun σ2 hC2 hf2 => ?_)
  have h2 : iv_Wf (dl_V (dl_V V)) := wf_z (wf_z hw _) _
  have hf : ∀ c, c < 1 ∨ 11 < c → σ2 c = σ c := fun c hc => by rw [hf2 c (by omega), hf1 c (by omega)]
  unfold dl_post at h
  refine c_postRefusal rfl hC2 h2 (fun g => absurd ⟨by omega, by omega⟩ g) (fun _ g => ?_) (fun _ g g2 => ?_) (fun _ g g2 => ?_)
  · rw [if_neg (by decide)]
    rw [if_neg (by omega)] at h
    exact h σ2 hC2 hf
  · rw [if_neg (by decide)]
    rw [if_neg (by omega)] at h
    exact h σ2 hC2 hf
  · rw [if_pos rfl]
    rw [if_pos ⟨g2, g⟩] at h
    refine c_addPost rfl hC2 h2 g2 (fun σ3 hC3 hf3 => ?_)
    exact h σ3 hC3 (fun c hc => by rw [hf3 c (by omega)]; exact hf c hc)
theorem c_drawRoad (hV : ld_C 1 V σ) (hw : iv_Wf V) (hn : 0 < V 0 0) (h : ∀ σ', ld_C 1 (dl_road V).2 σ' → (∀ c, c < 1 ∨ 11 < c → σ' c = σ c) → K (dl_road V).1 σ') : rx_CI L (d + 3) mX1_drawRoad [.inr 1] σ K := by
  have m1 := Int.emod_nonneg (rs_d V) (show V 0 0 ≠ 0 by omega)
  have m2 := Int.emod_lt_of_pos (rs_d V) hn
  have m3 := Int.emod_nonneg (rs_d (dl_V V)) (show V 0 0 ≠ 0 by omega)
  have m4 := Int.emod_lt_of_pos (rs_d (dl_V V)) hn
  refine bX1_drawRoad L (d + 2) 1 rfl σ K ?_
  rw [show σ 1 = V 0 from ld_C0 hV]
  refine c_draw rfl hV hn (fun σ1 hC1 hf1 => ?_)
  rw [show σ1 1 = dl_V V 0 from ld_C0 hC1, dl_0 (by decide)]
  refine c_draw rfl hC1 hn (fun σ2 hC2 hf2 => ?_)
  have h2 : iv_Wf (dl_V (dl_V V)) := wf_z (wf_z hw _) _
  have h3 : iv_Wf (dl_V (dl_V (dl_V V))) := wf_z h2 _
  have e0 : (dl_V (dl_V V)) 0 0 = V 0 0 := by rw [dl_0 (by decide), dl_0 (by decide)]
  have hf : ∀ c, c < 1 ∨ 11 < c → σ2 c = σ c := fun c hc => by rw [hf2 c (by omega), hf1 c (by omega)]
  unfold dl_road at h
  refine c_roadRefusal rfl hC2 h2 (fun g => ?_) (fun _ g => ?_) (fun _ g g2 => ?_) (fun gg g g2 => ?_)
  · rw [if_neg (by decide)]
    rw [e0] at g
    rw [if_neg (fun q => g ⟨⟨m1, m2⟩, ⟨m3, m4⟩, q.1⟩)] at h
    exact h σ2 hC2 hf
  · rw [if_neg (by decide)]
    rw [if_neg (fun q => by rw [g] at q; cases q.2.1)] at h
    exact h σ2 hC2 hf
  · rw [if_neg (by decide)]
    rw [if_neg (by omega)] at h
    exact h σ2 hC2 hf
  · rw [if_pos rfl]
    rw [if_pos ⟨gg.2.2, g, g2⟩] at h
    refine c_draw rfl hC2 (by decide) (fun σ3 hC3 hf3 => ?_)
    rw [rx_w_of (by omega) (by omega)]
    refine c_addRoad rfl hC3 h3 (by rw [dl_0 (by decide)]; exact g2) (fun σ4 hC4 hf4 => ?_)
    exact h σ4 hC4 (fun c hc => by rw [hf4 c (by omega), hf3 c (by omega)]; exact hf c hc)
theorem n_drawsPost (hM : ld_M V (σ 126)) (hw : iv_Wf V) (h : ∀ σ', ld_M (dl_post V).2 (σ' 126) → (∀ c, c ≠ 126 → σ' c = σ c) → (∀ i, 126 ≤ i → σ' 126 i = σ 126 i) → K (dl_post V).1 σ') : rx_CI L (d + 2) mX11_drawsPost [.inr 125] σ K := by
  refine bX11_drawsPost L (d + 1) σ K ?_
  refine n_draw hM (fun σ1 hM1 hf1 hi1 => ?_)
  refine n_draw hM1 (fun σ2 hM2 hf2 hi2 => ?_)
  have h2 : iv_Wf (dl_V (dl_V V)) := wf_z (wf_z hw _) _
  have hn2 := wf_n h2
  have hf : ∀ c, c ≠ 126 → σ2 c = σ c := fun c hc => by rw [hf2 c hc, hf1 c hc]
  have hi : ∀ i, 126 ≤ i → σ2 126 i = σ 126 i := fun i hi => by rw [hi2 i hi, hi1 i hi]
  have e1 : Int.tmod (rs_d V) 100 = rs_d V % 100 := Int.tmod_eq_emod_of_nonneg (rs_d_nn V)
  have e2 : Int.tmod (rs_d (dl_V V)) 100 = rs_d (dl_V V) % 100 := Int.tmod_eq_emod_of_nonneg (rs_d_nn _)
  rw [ld_Mn hM2, e1, e2]
  unfold dl_post at h
  by_cases c1 : 8 ≤ (dl_V (dl_V V)) 0 0
  · rw [if_pos c1]
    rw [if_neg (by omega)] at h
    exact h σ2 hM2 hf hi
  rw [if_neg c1]
  refine n_postAt hM2 h2 ?_
  by_cases c2 : 0 ≤ rs_at (dl_V (dl_V V)) (rs_d V % 100) (rs_d (dl_V V) % 100)
  · rw [if_pos c2]
    rw [if_neg (by omega)] at h
    exact h σ2 hM2 hf hi
  · rw [if_neg c2]
    rw [if_pos ⟨by omega, by omega⟩] at h
    refine n_comes hM2 h2 (by omega) (fun σ3 hM3 hf3 hi3 => ?_)
    rw [if_neg (by omega)]
    exact h σ3 hM3 (fun c hc => by rw [hf3 c hc]; exact hf c hc) (fun i h9 => by rw [hi3 i h9]; exact hi i h9)
theorem n_drawsRoad (hM : ld_M V (σ 126)) (hw : iv_Wf V) (hn : 0 < V 0 0) (h : ∀ σ', ld_M (dl_road V).2 (σ' 126) → (∀ c, c ≠ 126 → σ' c = σ c) → (∀ i, 126 ≤ i → σ' 126 i = σ 126 i) → K (dl_road V).1 σ') : rx_CI L (d + 4) mX11_drawsRoad [.inr 125] σ K := by
  refine bX11_drawsRoad L (d + 3) σ K ?_
  refine n_draw hM (fun σ1 hM1 hf1 hi1 => ?_)
  have e10 : σ1 126 1 = V 0 0 := by rw [ld_Mn hM1, dl_0 (by decide)]
  rw [e10]
  refine ⟨by omega, ?_⟩
  refine n_draw hM1 (fun σ2 hM2 hf2 hi2 => ?_)
  have h2 : iv_Wf (dl_V (dl_V V)) := wf_z (wf_z hw _) _
  have h3 : iv_Wf (dl_V (dl_V (dl_V V))) := wf_z h2 _
  have hm2 := wf_m h2
  have e20 : σ2 126 1 = V 0 0 := by rw [ld_Mn hM2, dl_0 (by decide), dl_0 (by decide)]
  have hf : ∀ c, c ≠ 126 → σ2 c = σ c := fun c hc => by rw [hf2 c hc, hf1 c hc]
  have hi : ∀ i, 126 ≤ i → σ2 126 i = σ 126 i := fun i hi => by rw [hi2 i hi, hi1 i hi]
  have e1 : Int.tmod (rs_d V) (V 0 0) = rs_d V % V 0 0 := Int.tmod_eq_emod_of_nonneg (rs_d_nn V)
  have e2 : Int.tmod (rs_d (dl_V V)) (V 0 0) = rs_d (dl_V V) % V 0 0 := Int.tmod_eq_emod_of_nonneg (rs_d_nn _)
  rw [e20, e1, e2]
  refine ⟨by omega, ?_⟩
  unfold dl_road at h
  by_cases c1 : rs_d V % V 0 0 = rs_d (dl_V V) % V 0 0
  · rw [if_pos c1]
    rw [if_neg (fun q => q.1 c1)] at h
    exact h σ2 hM2 hf hi
  rw [if_neg c1]
  refine n_isBetween hM2 h2 c1 (fun g => ?_) (fun g => ?_)
  · rw [if_pos (by decide)]
    rw [if_neg (fun q => by rw [g] at q; cases q.2.1)] at h
    exact h σ2 hM2 hf hi
  · rw [if_neg (by decide), ld_Mm hM2]
    by_cases c2 : (dl_V (dl_V V)) 0 6 = 18
    · rw [if_neg (fun q => q c2)]
      rw [if_neg (by omega)] at h
      exact h σ2 hM2 hf hi
    · rw [if_pos c2]
      rw [if_pos ⟨c1, g, by omega⟩] at h
      refine n_draw hM2 (fun σ3 hM3 hf3 hi3 => ?_)
      have e3 : Int.tmod (rs_d (dl_V (dl_V V))) 9 = rs_d (dl_V (dl_V V)) % 9 := Int.tmod_eq_emod_of_nonneg (rs_d_nn _)
      rw [e3, rx_w_of (by omega) (by omega)]
      have hm3 := wf_m h3
      refine n_goes hM3 h3 (by rw [dl_0 (by decide)]; omega) (fun σ4 hM4 hf4 hi4 => ?_)
      rw [if_neg (by omega)]
      exact h σ4 hM4 (fun c hc => by rw [hf4 c hc, hf3 c hc]; exact hf c hc) (fun i h9 => by rw [hi4 i h9, hi3 i h9]; exact hi i h9)
theorem o_deal {w n : Int} (h : iv_A S V T σ) (hQ : ∀ v σ', Inv S σ' → Q v v σ') :
    rx_CI L (d + 5) mX10_deal [.inr 0, .inl w, .inl n] σ (fun v1 σ1 => rx_CI L (d + 5) mX11_deal [.inr 125, .inl w, .inl n] σ1 (fun v2 σ2 => Q v1 v2 σ2)) := by
  have hw := h.1
  have hC := h.2.1
  have hM := h.2.2.1
  have hn := wf_n hw
  have e1 : σ 1 = V 0 := ld_C0 hC
  have hbad : ¬ ((w = 0 ∨ w = 1) ∧ 1 ≤ n ∧ n ≤ 20) → rx_CI L (d + 5) mX11_deal [.inr 125, .inl w, .inl n] σ (fun v2 σ2 => Q (-1000000001) v2 σ2) := by
    intro c
    refine bX11_deal L (d + 4) w n σ _ ?_
    refine m_in (fun c1 => ?_) (fun c1 => ?_)
    · rw [if_neg (by decide)]
      refine m_in (fun c2 => absurd ⟨by omega, c2⟩ c) (fun c2 => ?_)
      rw [if_neg (by decide)]
      exact o_same h hQ _
    · rw [if_pos rfl]
      exact o_same h hQ _
  -- what is drawn
  have go : ∀ (f : rx_St → Int × rx_St), (w = 0 ∧ f = dl_post ∨ w = 1 ∧ f = dl_road ∧ 0 < V 0 0) → 1 ≤ n ∧ n ≤ 20 → rx_Go L (d + 5) mX10_deal 46 [some (.inr 0), some (.inl w), some (.inl n), some (.inl 0), some (.inl 0)] [] σ (rx_PI (fun v1 σ1 => rx_CI L (d + 5) mX11_deal [.inr 125, .inl w, .inl n] σ1 (fun v2 σ2 => Q v1 v2 σ2))) := by
    intro f hf hn20
    have fok : ∀ W : rx_St, iv_Wf W → (w = 1 → 0 < W 0 0) → iv_Wf (f W).2 ∧ (f W).2 0 12 = W 0 12 ∧ (w = 1 → 0 < (f W).2 0 0) ∧ (0 ≤ (f W).1 ∧ (f W).1 ≤ 1) := by
      intro W hwW h1
      rcases hf with ⟨e, rfl⟩ | ⟨e, rfl, _⟩
      · have := dl_post_ok hwW
        exact ⟨this.1, this.2.1, fun q => by omega, this.2.2⟩
      · have := dl_road_ok hwW (h1 e)
        exact ⟨this.1, this.2.1, fun q => by rw [this.2.2.1]; exact h1 e, this.2.2.2⟩
    have hw1 : w = 1 → 0 < V 0 0 := fun q => by rcases hf with ⟨e, _⟩ | ⟨_, _, e⟩ <;> omega
    have key : ∀ (k : Nat) (i c : Int) (W : rx_St) (σ1 : rx_St) (K : Int → rx_St → Prop), 0 ≤ i → i + k = n → 0 ≤ c → c ≤ i → iv_Wf W → (w = 1 → 0 < W 0 0) → ld_C 1 W σ1 → (∀ c, c < 1 ∨ 11 < c → σ1 c = σ c) → (∀ σ', ld_C 1 (dl_n f k W c).2 σ' → (∀ c, c < 1 ∨ 11 < c → σ' c = σ c) → K (dl_n f k W c).1 σ') → rx_Go L (d + 5) mX10_deal 46 [some (.inr 0), some (.inl w), some (.inl n), some (.inl c), some (.inl i)] [] σ1 (rx_PI K) := by
      intro k
      induction k with
      | zero =>
        intro i c W σ1 K i0 hi c0 ci hwW hW1 hCW hf1 hK
        refine bX10_deal_46 L (d + 4) w n c i σ1 K ?_
        rw [if_pos (by omega)]
        exact hK σ1 hCW hf1
      | succ k ih =>
        intro i c W σ1 K i0 hi c0 ci hwW hW1 hCW hf1 hK
        have fk := fok W hwW hW1
        refine bX10_deal_46 L (d + 4) w n c i σ1 K ?_
        rw [if_neg (by omega), rx_w_of (x := i + 1) (by omega) (by omega), rx_w_of (x := c + 1) (by omega) (by omega)]
        have next : ∀ σ2 : rx_St, ld_C 1 (f W).2 σ2 → (∀ c, c < 1 ∨ 11 < c → σ2 c = σ c) → (if (f W).1 = 0 then rx_Go L (d + 5) mX10_deal 46 [some (.inr 0), some (.inl w), some (.inl n), some (.inl c), some (.inl (i + 1))] [] σ2 (rx_PI K) else rx_Go L (d + 5) mX10_deal 46 [some (.inr 0), some (.inl w), some (.inl n), some (.inl (c + 1)), some (.inl (i + 1))] [] σ2 (rx_PI K)) := by
          intro σ2 hC2 hf2
          have hK : ∀ σ', ld_C 1 (dl_n f k (f W).2 (c + (f W).1)).2 σ' → (∀ c, c < 1 ∨ 11 < c → σ' c = σ c) → K (dl_n f k (f W).2 (c + (f W).1)).1 σ' := hK
          by_cases z : (f W).1 = 0
          · rw [if_pos z]
            rw [z, Int.add_zero] at hK
            exact ih (i + 1) c (f W).2 σ2 K (by omega) (by omega) c0 (by omega) fk.1 fk.2.2.1 hC2 hf2 hK
          · rw [if_neg z]
            have z1 : (f W).1 = 1 := by omega
            rw [z1] at hK
            exact ih (i + 1) (c + 1) (f W).2 σ2 K (by omega) (by omega) (by omega) (by omega) fk.1 fk.2.2.1 hC2 hf2 hK
        rcases hf with ⟨e, rfl⟩ | ⟨e, rfl, _⟩
        · rw [if_neg (by omega)]
          refine c_drawPost hCW hwW (fun σ2 hC2 hf2 => ?_)
          exact next σ2 hC2 (fun c hc => by rw [hf2 c hc]; exact hf1 c hc)
        · rw [if_pos (by omega)]
          refine c_drawRoad hCW hwW (hW1 e) (fun σ2 hC2 hf2 => ?_)
          exact next σ2 hC2 (fun c hc => by rw [hf2 c hc]; exact hf1 c hc)
    refine key n.toNat 0 0 V σ _ (by omega) (by omega) (by omega) (by omega) hw hw1 hC (fun _ _ => rfl) (fun σ1 hC1 hf1 => ?_)
    have e126 : σ1 126 = σ 126 := hf1 126 (by omega)
    refine bX11_deal L (d + 4) w n σ1 _ ?_
    refine m_in (fun _ => ?_) (fun c => absurd ⟨by omega, by omega⟩ c)
    rw [if_neg (by decide)]
    refine m_in (fun _ => ?_) (fun c => absurd ⟨by omega, by omega⟩ c)
    rw [if_pos (by decide)]
    have mkey : ∀ (k : Nat) (i c : Int) (W : rx_St) (σ2 : rx_St), 0 ≤ i → i + k = n → 0 ≤ c → c ≤ i → iv_Wf W → W 0 12 = V 0 12 → (w = 1 → 0 < W 0 0) → ld_M W (σ2 126) → (∀ c, c ≠ 126 → σ2 c = σ1 c) → (∀ i, 126 ≤ i → σ2 126 i = σ1 126 i) → dl_n f k W c = dl_n f n.toNat V 0 → rx_Go L (d + 5) mX11_deal 44 [some (.inr 125), some (.inl w), some (.inl n), some (.inl c), some (.inl i)] [] σ2 (rx_PI (fun v2 σ2 => Q (dl_n f n.toNat V 0).1 v2 σ2)) := by
      intro k
      induction k with
      | zero =>
        intro i c W σ2 i0 hi c0 ci hwW hW12 hW1 hM2 hf2 hi2 he
        refine bX11_deal_44 L (d + 4) w n c i σ2 _ ?_
        rw [if_pos (by omega)]
        have he : (c, W) = dl_n f n.toNat V 0 := he
        rw [← he] at hC1 ⊢
        refine hQ _ _ ⟨W, T, iv_land h (fun c i hk => ?_) hwW (ld_Cfr hC1 (fun c h1 h2 => hf2 c (by omega))) hM2 hW12⟩
        unfold fr_v at hk
        by_cases c126 : c = 126
        · subst c126
          rw [hi2 i (by omega), e126]
        · rw [hf2 c c126, hf1 c (by omega)]
      | succ k ih =>
        intro i c W σ2 i0 hi c0 ci hwW hW12 hW1 hM2 hf2 hi2 he
        have fk := fok W hwW hW1
        have he : dl_n f k (f W).2 (c + (f W).1) = dl_n f n.toNat V 0 := he
        refine bX11_deal_44 L (d + 4) w n c i σ2 _ ?_
        rw [if_neg (by omega), rx_w_of (x := i + 1) (by omega) (by omega)]
        have next : ∀ σ3 : rx_St, ld_M (f W).2 (σ3 126) → (∀ c, c ≠ 126 → σ3 c = σ2 c) → (∀ i, 126 ≤ i → σ3 126 i = σ2 126 i) → rx_Go L (d + 5) mX11_deal 44 [some (.inr 125), some (.inl w), some (.inl n), some (.inl (rx_w (c + (f W).1))), some (.inl (i + 1))] [] σ3 (rx_PI (fun v2 σ2 => Q (dl_n f n.toNat V 0).1 v2 σ2)) := by
          intro σ3 hM3 hf3 hi3
          rw [rx_w_of (by omega) (by omega)]
          exact ih (i + 1) (c + (f W).1) (f W).2 σ3 (by omega) (by omega) (by omega) (by omega) fk.1 (fk.2.1.trans hW12) fk.2.2.1 hM3 (fun c hc => by rw [hf3 c hc]; exact hf2 c hc) (fun i h9 => by rw [hi3 i h9]; exact hi2 i h9) he
        rcases hf with ⟨e, rfl⟩ | ⟨e, rfl, _⟩
        · rw [if_neg (by omega)]
          exact n_drawsPost hM2 hwW next
        · rw [if_pos (by omega)]
          exact n_drawsRoad hM2 hwW (hW1 e) next
    have fin := mkey n.toNat 0 0 V σ1 (by omega) (by omega) (by omega) (by omega) hw rfl hw1 (by rw [e126]; exact hM) (fun _ _ => rfl) (fun _ _ => rfl) rfl
    by_cases c1 : w = 1
    · rw [if_neg (fun q => q c1), e126, ld_Mn hM, if_pos (by have := hw1 c1; omega)]
      exact fin
    · rw [if_pos c1]
      exact fin
  refine bX10_deal L (d + 4) w n σ _ ?_
  rw [e1]
  by_cases c0 : w = 0
  · rw [if_pos c0]
    by_cases c1 : n < 1
    · rw [if_pos c1]
      exact hbad (by omega)
    rw [if_neg c1]
    by_cases c2 : n ≤ 20
    · rw [if_pos c2, if_pos (by omega)]
      exact go dl_post (Or.inl ⟨c0, rfl⟩) ⟨by omega, c2⟩
    · rw [if_neg c2]
      exact hbad (by omega)
  rw [if_neg c0]
  by_cases c1 : w = 1
  · rw [if_neg (fun q => q c1)]
    by_cases c3 : n < 1
    · rw [if_pos c3]
      exact hbad (by omega)
    rw [if_neg c3]
    by_cases c2 : n ≤ 20
    · rw [if_pos c2]
      by_cases z : V 0 0 = 0
      · rw [if_neg (fun q => q z)]
        refine bX11_deal L (d + 4) w n σ _ ?_
        refine m_in (fun _ => ?_) (fun c => absurd ⟨by omega, by omega⟩ c)
        rw [if_neg (by decide)]
        refine m_in (fun _ => ?_) (fun c => absurd ⟨by omega, by omega⟩ c)
        rw [if_pos (by decide), if_neg (fun q => q c1), ld_Mn hM, if_neg (fun q => q z)]
        exact o_same h hQ _
      · rw [if_pos z]
        exact go dl_road (Or.inr ⟨c1, rfl, by omega⟩) ⟨by omega, c2⟩
    · rw [if_neg c2]
      exact hbad (by omega)
  · rw [if_pos c1]
    exact hbad (by omega)
end DEAL
