section CROSS
variable {L d : Nat} {σ V T : rx_St} {S : Int → Int} {Q : Int → Int → rx_St → Prop} {K : Int → rx_St → Prop} {KV : rx_St → Prop} {C : Int → Int → Int}
theorem n_areApart (hM : ld_M V (σ 126)) {r s : Int} (hr : 0 ≤ r ∧ r < 18) (hs : 0 ≤ s ∧ s < 18) (h1 : ¬ rs_sh V r s → K 1 σ) (h0 : rs_sh V r s → K 0 σ) : rx_CI L (d + 3) mX11_areApart [.inr 125, .inl r, .inl s] σ K := by
  unfold rs_sh at h1 h0
  refine bX11_areApart L (d + 2) r s σ K ?_
  refine n_lesser hM hr ?_
  refine n_isFrom hM hs (fun g => ?_) (fun g => ?_)
  · rw [if_pos (by decide)]
    exact h0 (by omega)
  rw [if_neg (by decide)]
  refine n_greater hM hr ?_
  refine n_isFrom hM hs (fun g2 => ?_) (fun g2 => ?_)
  · rw [if_pos (by decide)]
    exact h0 (by omega)
  rw [if_neg (by decide)]
  exact h1 (by omega)
theorem n_sideOf (hM : ld_M V (σ 126)) (hw : iv_Wf V) {a b c : Int} (ha : 0 ≤ a ∧ a < V 0 0) (hb : 0 ≤ b ∧ b < V 0 0) (hc : 0 ≤ c ∧ c < V 0 0) (h : K (sg (rs_sd V a b c)) σ) : rx_CI L (d + 1) mX11_sideOf [.inr 125, .inl a, .inl b, .inl c] σ K := by
  have hn := wf_n hw
  have pa := (wf_p hw ha.1 ha.2).1
  have pb := (wf_p hw hb.1 hb.2).1
  have pc := (wf_p hw hc.1 hc.2).1
  refine bX11_sideOf L d a b c σ K ?_
  refine n_xOf hM (by omega) ?_
  refine n_yOf hM (by omega) ?_
  refine n_xOf hM (by omega) ?_
  refine n_yOf hM (by omega) ?_
  refine n_xOf hM (by omega) ?_
  refine n_yOf hM (by omega) ?_
  refine bX11_side L d _ _ _ _ _ _ σ _ ?_
  obtain ⟨q1, q2⟩ := sd_b pa.1 pa.2.1 pb.1 pb.2.1 pc.1 pc.2.1
  rw [rx_w_of (x := V 1 b - V 1 a) (by omega) (by omega), rx_w_of (x := V 2 c - V 2 a) (by omega) (by omega), rx_w_of (x := V 2 b - V 2 a) (by omega) (by omega), rx_w_of (x := V 1 c - V 1 a) (by omega) (by omega), rx_w_of (x := (V 1 b - V 1 a) * (V 2 c - V 2 a)) (by omega) (by omega), rx_w_of (x := (V 2 b - V 2 a) * (V 1 c - V 1 a)) (by omega) (by omega), rx_w_of (by omega) (by omega)]
  unfold sg rs_sd sd at h
  by_cases c1 : (V 1 b - V 1 a) * (V 2 c - V 2 a) - (V 2 b - V 2 a) * (V 1 c - V 1 a) ≤ 0
  · rw [if_pos c1] at h ⊢
    by_cases c2 : 0 ≤ (V 1 b - V 1 a) * (V 2 c - V 2 a) - (V 2 b - V 2 a) * (V 1 c - V 1 a)
    · rw [if_pos c2] at h ⊢
      exact h
    · rw [if_neg c2] at h ⊢
      exact h
  · rw [if_neg c1] at h ⊢
    exact h
theorem mn_btw {p a b : Int} : (¬ p < rx_mn a b ∧ ¬ rx_mx a b < p) ↔ btw p a b := by
  unfold rx_mn rx_mx btw
  split <;> split <;> omega
theorem n_isOn (hM : ld_M V (σ 126)) (hw : iv_Wf V) {p a b : Int} (hp : 0 ≤ p ∧ p < V 0 0) (ha : 0 ≤ a ∧ a < V 0 0) (hb : 0 ≤ b ∧ b < V 0 0) (h1 : btw (V 1 p) (V 1 a) (V 1 b) ∧ btw (V 2 p) (V 2 a) (V 2 b) → K 1 σ) (h0 : ¬ (btw (V 1 p) (V 1 a) (V 1 b) ∧ btw (V 2 p) (V 2 a) (V 2 b)) → K 0 σ) : rx_CI L (d + 1) mX11_isOn [.inr 125, .inl p, .inl a, .inl b] σ K := by
  have hn := wf_n hw
  rw [← mn_btw, ← mn_btw] at h1 h0
  refine bX11_isOn L d p a b σ K ?_
  refine n_xOf hM (by omega) ?_
  refine n_xOf hM (by omega) ?_
  refine n_xOf hM (by omega) ?_
  by_cases c1 : V 1 p < rx_mn (V 1 a) (V 1 b)
  · rw [if_pos c1]
    exact h0 (fun q => q.1.1 c1)
  rw [if_neg c1]
  refine n_xOf hM (by omega) ?_
  refine n_xOf hM (by omega) ?_
  refine n_xOf hM (by omega) ?_
  by_cases c2 : rx_mx (V 1 a) (V 1 b) < V 1 p
  · rw [if_pos c2]
    exact h0 (fun q => q.1.2 c2)
  rw [if_neg c2]
  refine n_yOf hM (by omega) ?_
  refine n_yOf hM (by omega) ?_
  refine n_yOf hM (by omega) ?_
  by_cases c3 : V 2 p < rx_mn (V 2 a) (V 2 b)
  · rw [if_pos c3]
    exact h0 (fun q => q.2.1 c3)
  rw [if_neg c3]
  refine n_yOf hM (by omega) ?_
  refine n_yOf hM (by omega) ?_
  refine n_yOf hM (by omega) ?_
  by_cases c4 : rx_mx (V 2 a) (V 2 b) < V 2 p
  · rw [if_pos c4]
    exact h0 (fun q => q.2.2 c4)
  rw [if_neg c4]
  exact h1 ⟨⟨c1, c2⟩, c3, c4⟩
theorem wf_dist (hw : iv_Wf V) {a b : Int} (ha : 0 ≤ a ∧ a < V 0 0) (hb : 0 ≤ b ∧ b < V 0 0) (h : a ≠ b) : V 1 a ≠ V 1 b ∨ V 2 a ≠ V 2 b := by
  by_cases c : V 1 a = V 1 b
  · refine Or.inr (fun g => h (wf_pp hw ha.1 ha.2 hb.1 hb.2 c g))
  · exact Or.inl c
theorem n_doCross (hM : ld_M V (σ 126)) (hw : iv_Wf V) (P : Int → Int) {r s : Int} (hr : 0 ≤ r ∧ r < V 0 6) (hs : 0 ≤ s ∧ s < V 0 6) (h1 : rs_meet P V 0 r s = true → K 1 σ) (h0 : rs_meet P V 0 r s = false → K 0 σ) : rx_CI L (d + 4) mX11_doCross [.inr 125, .inl r, .inl s] σ K := by
  have hm := wf_m hw
  have qr := wf_r hw hr.1 hr.2
  have qs := wf_r hw hs.1 hs.2
  refine bX11_doCross L (d + 3) r s σ K ?_
  refine n_areApart hM (by omega) (by omega) (fun g => ?_) (fun g => ?_)
  · rw [if_pos (by decide)]
    have hg : ¬ (V 7 r = V 7 s ∨ V 7 r = V 8 s ∨ V 8 r = V 7 s ∨ V 8 r = V 8 s) := g
    unfold rs_meet at h1 h0
    rw [if_pos rfl] at h1 h0
    have h1 : rs_mS V (V 7 r) (V 8 r) (V 7 s) (V 8 s) → K 1 σ := fun q => h1 (bo_t ⟨g, q⟩)
    have h0 : ¬ rs_mS V (V 7 r) (V 8 r) (V 7 s) (V 8 s) → K 0 σ := fun q => h0 (bo_f (fun z => q z.2))
    have ha : 0 ≤ V 7 r ∧ V 7 r < V 0 0 := by omega
    have hb : 0 ≤ V 8 r ∧ V 8 r < V 0 0 := by omega
    have hc : 0 ≤ V 7 s ∧ V 7 s < V 0 0 := by omega
    have he : 0 ≤ V 8 s ∧ V 8 s < V 0 0 := by omega
    have hgeo := geo (wf_dist hw ha hb (by omega)) (wf_dist hw hc he (by omega)) (wf_dist hw ha hc (by omega)) (wf_dist hw ha he (by omega)) (wf_dist hw hb hc (by omega)) (wf_dist hw hb he (by omega))
    refine n_lesser hM (by omega) ?_
    refine n_greater hM (by omega) ?_
    refine n_lesser hM (by omega) ?_
    refine n_greater hM (by omega) ?_
    generalize V 7 r = a at *
    generalize V 8 r = b at *
    generalize V 7 s = c at *
    generalize V 8 s = e at *
    refine n_sideOf hM hw ha hb hc ?_
    refine n_sideOf hM hw ha hb he ?_
    refine n_sideOf hM hw hc he ha ?_
    refine n_sideOf hM hw hc he hb ?_
    have rest : ¬ (rs_sd V a b c * rs_sd V a b e < 0 ∧ rs_sd V c e a * rs_sd V c e b < 0) → rx_Go L (d + 4) mX11_doCross 101 [some (.inr 125), some (.inl r), some (.inl s), some (.inl a), some (.inl b), some (.inl c), some (.inl e), some (.inl (sg (rs_sd V a b c))), some (.inl (sg (rs_sd V a b e))), some (.inl (sg (rs_sd V c e a))), some (.inl (sg (rs_sd V c e b)))] [] σ (rx_PI K) := by
      intro hnp
      have k1 : (rs_sd V a b c = 0 ∧ btw (V 1 c) (V 1 a) (V 1 b) ∧ btw (V 2 c) (V 2 a) (V 2 b)) ∨ (rs_sd V a b e = 0 ∧ btw (V 1 e) (V 1 a) (V 1 b) ∧ btw (V 2 e) (V 2 a) (V 2 b)) ∨ (rs_sd V c e a = 0 ∧ btw (V 1 a) (V 1 c) (V 1 e) ∧ btw (V 2 a) (V 2 c) (V 2 e)) ∨ (rs_sd V c e b = 0 ∧ btw (V 1 b) (V 1 c) (V 1 e) ∧ btw (V 2 b) (V 2 c) (V 2 e)) → K 1 σ := fun q => h1 (hgeo.mpr (Or.inr q))
      have k0 : ¬ ((rs_sd V a b c = 0 ∧ btw (V 1 c) (V 1 a) (V 1 b) ∧ btw (V 2 c) (V 2 a) (V 2 b)) ∨ (rs_sd V a b e = 0 ∧ btw (V 1 e) (V 1 a) (V 1 b) ∧ btw (V 2 e) (V 2 a) (V 2 b)) ∨ (rs_sd V c e a = 0 ∧ btw (V 1 a) (V 1 c) (V 1 e) ∧ btw (V 2 a) (V 2 c) (V 2 e)) ∨ (rs_sd V c e b = 0 ∧ btw (V 1 b) (V 1 c) (V 1 e) ∧ btw (V 2 b) (V 2 c) (V 2 e))) → K 0 σ := fun q => h0 (fun z => (hgeo.mp z).elim (fun y => hnp y) q)
      have f170 : ∀ (l : List (Option rx_V)), l.length = 11 → K 1 σ → rx_Go L (d + 4) mX11_doCross 170 l [] σ (rx_PI K) := by
        intro l hl hk
        match l, hl with
        | [x0, x1, x2, x3, x4, x5, x6, x7, x8, x9, x10], _ => exact bX11_doCross_170 L (d + 3) x0 x1 x2 x3 x4 x5 x6 x7 x8 x9 x10 σ K hk
      have f152 : ¬ (rs_sd V a b c = 0 ∧ btw (V 1 c) (V 1 a) (V 1 b) ∧ btw (V 2 c) (V 2 a) (V 2 b)) → ¬ (rs_sd V a b e = 0 ∧ btw (V 1 e) (V 1 a) (V 1 b) ∧ btw (V 2 e) (V 2 a) (V 2 b)) → ¬ (rs_sd V c e a = 0 ∧ btw (V 1 a) (V 1 c) (V 1 e) ∧ btw (V 2 a) (V 2 c) (V 2 e)) → ∀ q1 q2 q3 q7 q8 q9, rx_Go L (d + 4) mX11_doCross 152 [some (.inr 125), q1, q2, q3, some (.inl b), some (.inl c), some (.inl e), q7, q8, q9, some (.inl (sg (rs_sd V c e b)))] [] σ (rx_PI K) := by
        intro n1 n2 n3 q1 q2 q3 q7 q8 q9
        refine bX11_doCross_152 L (d + 3) q1 q2 q3 b c e q7 q8 q9 _ σ K ?_
        by_cases z : rs_sd V c e b = 0
        · rw [if_neg (fun q => q ((sg_0 _).mpr z))]
          refine n_isOn hM hw hb hc he (fun y => ?_) (fun y => ?_)
          · rw [if_neg (by decide)]
            exact f170 _ rfl (k1 (Or.inr (Or.inr (Or.inr ⟨z, y⟩))))
          · rw [if_pos rfl]
            exact k0 (fun q => q.elim n1 (fun q => q.elim n2 (fun q => q.elim n3 (fun q => y q.2))))
        · rw [if_pos (fun q => z ((sg_0 _).mp q))]
          exact k0 (fun q => q.elim n1 (fun q => q.elim n2 (fun q => q.elim n3 (fun q => z q.1))))
      have f135 : ¬ (rs_sd V a b c = 0 ∧ btw (V 1 c) (V 1 a) (V 1 b) ∧ btw (V 2 c) (V 2 a) (V 2 b)) → ¬ (rs_sd V a b e = 0 ∧ btw (V 1 e) (V 1 a) (V 1 b) ∧ btw (V 2 e) (V 2 a) (V 2 b)) → ∀ q1 q2 q7 q8, rx_Go L (d + 4) mX11_doCross 135 [some (.inr 125), q1, q2, some (.inl a), some (.inl b), some (.inl c), some (.inl e), q7, q8, some (.inl (sg (rs_sd V c e a))), some (.inl (sg (rs_sd V c e b)))] [] σ (rx_PI K) := by
        intro n1 n2 q1 q2 q7 q8
        refine bX11_doCross_135 L (d + 3) q1 q2 a b c e q7 q8 _ _ σ K ?_
        by_cases z : rs_sd V c e a = 0
        · rw [if_neg (fun q => q ((sg_0 _).mpr z))]
          refine n_isOn hM hw ha hc he (fun y => ?_) (fun y => ?_)
          · rw [if_pos (by decide)]
            exact f170 _ rfl (k1 (Or.inr (Or.inr (Or.inl ⟨z, y⟩))))
          · rw [if_neg (by decide)]
            exact f152 n1 n2 (fun q => y q.2) _ _ _ _ _ _
        · rw [if_pos (fun q => z ((sg_0 _).mp q))]
          exact f152 n1 n2 (fun q => z q.1) _ _ _ _ _ _
      have f118 : ¬ (rs_sd V a b c = 0 ∧ btw (V 1 c) (V 1 a) (V 1 b) ∧ btw (V 2 c) (V 2 a) (V 2 b)) → ∀ q1 q2 q7, rx_Go L (d + 4) mX11_doCross 118 [some (.inr 125), q1, q2, some (.inl a), some (.inl b), some (.inl c), some (.inl e), q7, some (.inl (sg (rs_sd V a b e))), some (.inl (sg (rs_sd V c e a))), some (.inl (sg (rs_sd V c e b)))] [] σ (rx_PI K) := by
        intro n1 q1 q2 q7
        refine bX11_doCross_118 L (d + 3) q1 q2 a b c e q7 _ _ _ σ K ?_
        by_cases z : rs_sd V a b e = 0
        · rw [if_neg (fun q => q ((sg_0 _).mpr z))]
          refine n_isOn hM hw he ha hb (fun y => ?_) (fun y => ?_)
          · rw [if_pos (by decide)]
            exact f170 _ rfl (k1 (Or.inr (Or.inl ⟨z, y⟩)))
          · rw [if_neg (by decide)]
            exact f135 n1 (fun q => y q.2) _ _ _ _
        · rw [if_pos (fun q => z ((sg_0 _).mp q))]
          exact f135 n1 (fun q => z q.1) _ _ _ _
      refine bX11_doCross_101 L (d + 3) _ _ a b c e _ _ _ _ σ K ?_
      by_cases z : rs_sd V a b c = 0
      · rw [if_neg (fun q => q ((sg_0 _).mpr z))]
        refine n_isOn hM hw hc ha hb (fun y => ?_) (fun y => ?_)
        · rw [if_pos (by decide)]
          exact f170 _ rfl (k1 (Or.inl ⟨z, y⟩))
        · rw [if_neg (by decide)]
          exact f118 (fun q => y q.2) _ _ _
      · rw [if_pos (fun q => z ((sg_0 _).mp q))]
        exact f118 (fun q => z q.1) _ _ _
    by_cases p1 : rs_sd V a b c * rs_sd V a b e < 0
    · rw [if_neg ((sg_mul _ _).mpr p1)]
      by_cases p2 : rs_sd V c e a * rs_sd V c e b < 0
      · rw [if_neg ((sg_mul _ _).mpr p2)]
        exact h1 (hgeo.mpr (Or.inl ⟨p1, p2⟩))
      · rw [if_pos (Classical.byContradiction (fun q => p2 ((sg_mul _ _).mp q)))]
        exact rest (fun q => p2 q.2)
    · rw [if_pos (Classical.byContradiction (fun q => p1 ((sg_mul _ _).mp q)))]
      exact rest (fun q => p1 q.1)
  · rw [if_neg (by decide)]
    exact h0 (bo_f (fun q => q.1 g))
theorem o_cross {r s : Int} (h : iv_A S V T σ) (hQ : ∀ v σ', Inv S σ' → Q v v σ') :
    rx_CI L (d + 5) mX10_cross [.inr 0, .inl r, .inl s] σ (fun v1 σ1 => rx_CI L (d + 5) mX11_cross [.inr 125, .inl r, .inl s] σ1 (fun v2 σ2 => Q v1 v2 σ2)) := by
  have hw := h.1
  have hC := h.2.1
  have hM := h.2.2.1
  have hbad : ¬ ((0 ≤ r ∧ r < V 0 6) ∧ (0 ≤ s ∧ s < V 0 6) ∧ r ≠ s) → rx_CI L (d + 5) mX11_cross [.inr 125, .inl r, .inl s] σ (fun v2 σ2 => Q (-1000000001) v2 σ2) := by
    intro c
    refine bX11_cross L (d + 4) r s σ _ ?_
    refine n_isRoad hM hw (fun c1 => ?_) (fun c1 => ?_)
    · rw [if_neg (by decide)]
      refine n_isRoad hM hw (fun c2 => ?_) (fun c2 => ?_)
      · rw [if_neg (by decide), if_neg (fun q => c ⟨c1, c2, q⟩)]
        exact o_same h hQ _
      · rw [if_pos rfl]
        exact o_same h hQ _
    · rw [if_pos rfl]
      exact o_same h hQ _
  have hgood : ∀ b, (0 ≤ r ∧ r < V 0 6) → (0 ≤ s ∧ s < V 0 6) → r ≠ s → rs_meet (V 5) V 0 r s = b → rx_CI L (d + 5) mX11_cross [.inr 125, .inl r, .inl s] σ (fun v2 σ2 => Q (b01 b) v2 σ2) := by
    intro b c1 c2 c3 hb
    refine bX11_cross L (d + 4) r s σ _ ?_
    refine n_isRoad hM hw (fun _ => ?_) (fun c => absurd c1 c)
    rw [if_neg (by decide)]
    refine n_isRoad hM hw (fun _ => ?_) (fun c => absurd c2 c)
    rw [if_neg (by decide), if_pos c3]
    refine n_doCross hM hw (V 5) c1 c2 (fun g => ?_) (fun g => ?_)
    · rw [if_neg (by decide), ← hb, g]
      exact o_same h hQ _
    · rw [if_pos rfl, ← hb, g]
      exact o_same h hQ _
  refine bX10_cross L (d + 4) r s σ _ ?_
  refine c_isRoad rfl hC (fun c1 => ?_) (fun c1 => ?_)
  · rw [if_neg (by decide)]
    refine c_isRoad rfl hC (fun c2 => ?_) (fun c2 => ?_)
    · rw [if_neg (by decide)]
      by_cases c3 : r = s
      · rw [if_neg (fun q => q c3)]
        exact hbad (fun q => q.2.2 c3)
      · rw [if_pos c3]
        refine c_meet rfl hC hw c1 c2 (fun g => ?_) (fun g => ?_)
        · rw [if_neg (by decide)]
          exact hgood true c1 c2 c3 g
        · rw [if_pos rfl]
          exact hgood false c1 c2 c3 g
    · rw [if_pos rfl]
      exact hbad (fun q => c2 q.2.1)
  · rw [if_pos rfl]
    exact hbad (fun q => c1 q.1)
theorem ix18 {a b r s : Int} (ha : 0 ≤ a ∧ a < 18) (hs : 0 ≤ s ∧ s < 18) (h : 18 * b + a = 18 * r + s) : b = r ∧ a = s := by omega
theorem n_findPairs (hM : ld_M V (σ 126)) (hw : iv_Wf V) (hT : tx_M T (V 0 12) (σ 126)) (hTw : tx_Wf T (V 0 12)) (h : ∀ σ', rk_M (rs_c2 V T) (V 0 6) σ' → (∀ c, c ≠ 129 → c ≠ 130 → c ≠ 148 → c ≠ 149 → σ' c = σ c) → KV σ') : rx_CV L (d + 3) mX11_findPairs [.inr 125] σ KV := by
  have hm := wf_m hw
  have ht := wf_t hw
  have hb := rs_law_b (T := T) (n := V 0 12) (key := 1) ht.1
  refine bX11_findPairs L (d + 2) σ KV ?_
  have key2 : ∀ (k : Nat) (r : Int) (q3 : Option rx_V) (σ1 : rx_St), 0 ≤ r → r + k = V 0 6 → (∀ c, c ≠ 129 → c ≠ 130 → c ≠ 148 → c ≠ 149 → σ1 c = σ c) → (∀ i, 0 ≤ i → i < V 0 6 → σ1 129 i = rs_harm V T i) → (∀ a b, 0 ≤ a → a < b → b < V 0 6 → a < r → σ1 130 (18 * a + b) = rs_cost V T a b ∧ σ1 130 (18 * b + a) = rs_cost V T a b) → rx_Go L (d + 3) mX11_findPairs 37 [some (.inr 125), some (.inl (rs_law T (V 0 12) 1)), some (.inl r), q3] [] σ1 (rx_PV KV) := by
    intro k
    induction k with
    | zero =>
      intro r q3 σ1 r0 hr hf hh hp
      refine bX11_findPairs_37 L (d + 2) _ r q3 σ1 KV ?_
      rw [hf 126 (by decide) (by decide) (by decide) (by decide), ld_Mm hM, if_pos (by omega)]
      refine h σ1 (fun a b a0 a1 b0 b1 hab => ?_) hf
      unfold rs_c2
      by_cases c : a < b
      · rw [if_pos c]
        exact (hp a b a0 c b1 (by omega)).1
      · rw [if_neg c]
        exact (hp b a b0 (by omega) a1 (by omega)).2
    | succ k ih =>
      intro r q3 σ1 r0 hr hf hh hp
      refine bX11_findPairs_37 L (d + 2) _ r q3 σ1 KV ?_
      rw [hf 126 (by decide) (by decide) (by decide) (by decide), ld_Mm hM, if_neg (by omega), rx_w_of (by omega) (by omega)]
      have inner : ∀ (j : Nat) (s : Int) (σ1 : rx_St), r < s → s + j = V 0 6 → (∀ c, c ≠ 129 → c ≠ 130 → c ≠ 148 → c ≠ 149 → σ1 c = σ c) → (∀ i, 0 ≤ i → i < V 0 6 → σ1 129 i = rs_harm V T i) → (∀ a b, 0 ≤ a → a < b → b < V 0 6 → a < r ∨ (a = r ∧ b < s) → σ1 130 (18 * a + b) = rs_cost V T a b ∧ σ1 130 (18 * b + a) = rs_cost V T a b) → rx_Go L (d + 3) mX11_findPairs 51 [some (.inr 125), some (.inl (rs_law T (V 0 12) 1)), some (.inl r), some (.inl s)] [] σ1 (rx_PV KV) := by
        intro j
        induction j with
        | zero =>
          intro s σ1 rs hs hf hh hp
          refine bX11_findPairs_51 L (d + 2) _ r s σ1 KV ?_
          rw [hf 126 (by decide) (by decide) (by decide) (by decide), ld_Mm hM, if_pos (by omega), rx_w_of (by omega) (by omega)]
          exact ih (r + 1) _ σ1 (by omega) (by omega) hf hh (fun a b a0 ab b1 ar => hp a b a0 ab b1 (by omega))
        | succ j ihj =>
          intro s σ1 rs hs hf hh hp
          have fin : ∀ (x : Int) (σ2 : rx_St), x = rs_cost V T r s → (∀ c, c ≠ 148 → c ≠ 149 → σ2 c = σ1 c) → rx_Go L (d + 3) mX11_findPairs 51 [some (.inr 125), some (.inl (rs_law T (V 0 12) 1)), some (.inl r), some (.inl (s + 1))] [] (rx_up (rx_up σ2 130 (18 * r + s) x) 130 (18 * s + r) x) (rx_PV KV) := by
            rintro x σ2 rfl hf2
            refine ihj (s + 1) _ (by omega) (by omega) (fun c c1 c2 c3 c4 => ?_) (fun i i0 i1 => ?_) (fun a b a0 ab b1 hab => ?_)
            · rw [up_c c2, up_c c2, hf2 c c3 c4]
              exact hf c c1 c2 c3 c4
            · rw [up_c (by decide), up_c (by decide), hf2 129 (by decide) (by decide)]
              exact hh i i0 i1
            · by_cases e : a = r ∧ b = s
              · obtain ⟨rfl, rfl⟩ := e
                constructor
                · rw [up_i (by omega), up_s]
                · rw [up_s]
              · have := hp a b a0 ab b1 (by omega)
                have i1 : 18 * a + b ≠ 18 * s + r := fun q => by have := ix18 ⟨by omega, by omega⟩ ⟨by omega, by omega⟩ q; omega
                have i2 : 18 * a + b ≠ 18 * r + s := fun q => by have := ix18 ⟨by omega, by omega⟩ ⟨by omega, by omega⟩ q; omega
                have i3 : 18 * b + a ≠ 18 * s + r := fun q => by have := ix18 ⟨by omega, by omega⟩ ⟨by omega, by omega⟩ q; omega
                have i4 : 18 * b + a ≠ 18 * r + s := fun q => by have := ix18 ⟨by omega, by omega⟩ ⟨by omega, by omega⟩ q; omega
                rw [up_i i1, up_i i2, up_i i3, up_i i4, hf2 130 (by decide) (by decide)]
                exact this
          refine bX11_findPairs_51 L (d + 2) _ r s σ1 KV ?_
          have e126 : σ1 126 = σ 126 := hf 126 (by decide) (by decide) (by decide) (by decide)
          rw [e126, ld_Mm hM, if_neg (by omega), up_c (c := 149) (c' := 129) (by decide)]
          refine ⟨by omega, by omega, ?_⟩
          rw [hh r r0 (by omega), hh s (by omega) (by omega)]
          have hM1 : ld_M V ((rx_up (rx_up σ1 149 0 (rs_harm V T r)) 149 1 (rs_harm V T s)) 126) := by rw [up_c (by decide), up_c (by decide), e126]; exact hM
          unfold rs_cost at fin
          by_cases c : 0 ≤ rs_law T (V 0 12) 1
          · rw [if_pos c]
            refine n_worksOut hM1 (by rw [up_c (by decide), up_c (by decide), e126]; exact hT) ht.2 hTw ⟨c, hb.2⟩ (f := rs_harm V T r) (g := rs_harm V T s) (u := 0) ?_ ?_ (fun q => ?_) (fun σ2 hf2 => ?_)
            · rw [up_i (by decide), up_s]
            · rw [up_s]
            · have := rs_law_k c
              omega
            · refine n_within (by omega) ?_
              rw [rx_w_of (x := 18 * r) (by omega) (by omega), rx_w_of (x := 18 * r + s) (by omega) (by omega), rx_w_of (x := 18 * s) (by omega) (by omega), rx_w_of (x := 18 * s + r) (by omega) (by omega), rx_w_of (x := s + 1) (by omega) (by omega), up_s]
              refine ⟨by omega, by omega, fin _ σ2 (by rw [if_neg (show ¬ rs_law T (V 0 12) 1 < 0 by omega)]) (fun c c1 c2 => ?_)⟩
              rw [hf2 c c1, up_c c2, up_c c2]
          · rw [if_neg c, rx_w_of (x := 18 * r) (by omega) (by omega), rx_w_of (x := 18 * r + s) (by omega) (by omega), rx_w_of (x := 18 * s) (by omega) (by omega), rx_w_of (x := 18 * s + r) (by omega) (by omega), rx_w_of (x := s + 1) (by omega) (by omega), up_s]
            have b1 := rs_harm_b (T := T) hw r0 (show r < V 0 6 by omega)
            have b2 := rs_harm_b (T := T) hw (show 0 ≤ s by omega) (show s < V 0 6 by omega)
            rw [up_c (c := 149) (c' := 129) (by decide), up_c (c := 149) (c' := 129) (by decide), hh r r0 (by omega), hh s (by omega) (by omega), rx_w_of (by omega) (by omega)]
            refine ⟨by omega, by omega, fin _ _ ?_ (fun c c1 c2 => by rw [up_c c2, up_c c2])⟩
            rw [if_pos (show rs_law T (V 0 12) 1 < 0 by omega)]
            unfold rs_cl
            rw [if_neg (by omega), if_neg (by omega)]
      exact inner k (r + 1) σ1 (by omega) (by omega) hf hh (fun a b a0 ab b1 hab => hp a b a0 ab b1 (by omega))
  have key1 : ∀ (k : Nat) (r : Int) (q2 q3 : Option rx_V) (σ1 : rx_St), 0 ≤ r → r + k = V 0 6 → (∀ c, c ≠ 129 → c ≠ 130 → c ≠ 148 → c ≠ 149 → σ1 c = σ c) → (∀ i, 0 ≤ i → i < r → σ1 129 i = rs_harm V T i) → rx_Go L (d + 3) mX11_findPairs 2 [some (.inr 125), some (.inl r), q2, q3] [] σ1 (rx_PV KV) := by
    intro k
    induction k with
    | zero =>
      intro r q2 q3 σ1 r0 hr hf hh
      refine bX11_findPairs_2 L (d + 2) r q2 q3 σ1 KV ?_
      have e126 : σ1 126 = σ 126 := hf 126 (by decide) (by decide) (by decide) (by decide)
      rw [e126, ld_Mm hM, if_pos (by omega)]
      refine n_counts (V := V) (T := T) (by rw [e126]; exact hM) hw (by rw [e126]; exact hT) hTw ?_
      exact key2 (V 0 6).toNat 0 _ σ1 (by omega) (by omega) hf (fun i i0 i1 => hh i i0 (by omega)) (fun a b a0 ab b1 ar => by omega)
    | succ k ih =>
      intro r q2 q3 σ1 r0 hr hf hh
      refine bX11_findPairs_2 L (d + 2) r q2 q3 σ1 KV ?_
      have e126 : σ1 126 = σ 126 := hf 126 (by decide) (by decide) (by decide) (by decide)
      rw [e126, ld_Mm hM, if_neg (by omega)]
      refine n_harmOf (V := V) (T := T) (by rw [e126]; exact hM) hw (by rw [e126]; exact hT) hTw ⟨r0, by omega⟩ (fun σ2 hf2 => ?_)
      rw [rx_w_of (by omega) (by omega)]
      refine ⟨by omega, ih (r + 1) _ _ _ (by omega) (by omega) (fun c c1 c2 c3 c4 => ?_) (fun i i0 i1 => ?_)⟩
      · rw [up_c c1, hf2 c c3 c4]
        exact hf c c1 c2 c3 c4
      · by_cases e : i = r
        · rw [up_e e, e]
        · rw [up_i e, hf2 129 (by decide) (by decide)]
          exact hh i i0 (by omega)
  exact key1 (V 0 6).toNat 0 _ _ σ (by omega) (by omega) (fun _ _ _ _ _ => rfl) (fun i i0 i1 => by omega)
end CROSS
