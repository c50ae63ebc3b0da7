section DROP
variable {V : rx_St} {q r : Int}
/-- roads from q on, below r, are the next ones -/
def dr_to (V : rx_St) (q r : Int) : rx_St := fun k i => if (6 ≤ k ∧ k ≤ 10) ∧ q ≤ i ∧ i < r then V k (i + 1) else V k i
theorem dr_step (hq : q ≤ r) : rx_up (rx_up (rx_up (rx_up (rx_up (dr_to V q r) 6 r (dr_to V q r 6 (r + 1))) 7 r (dr_to V q r 7 (r + 1))) 8 r (dr_to V q r 8 (r + 1))) 9 r (dr_to V q r 9 (r + 1))) 10 r (dr_to V q r 10 (r + 1)) = dr_to V q (r + 1) := by
  funext k i
  have hs : ∀ k, dr_to V q r k (r + 1) = V k (r + 1) := fun k => if_neg (by omega)
  by_cases c : i = r
  · subst c
    have h9 : k = 6 ∨ k = 7 ∨ k = 8 ∨ k = 9 ∨ k = 10 ∨ (k < 6 ∨ 10 < k) := by omega
    have ht : 6 ≤ k ∧ k ≤ 10 → dr_to V q (i + 1) k i = V k (i + 1) := fun h => if_pos ⟨h, hq, by omega⟩
    rcases h9 with rfl | rfl | rfl | rfl | rfl | h9
    · rw [up_n (by omega), up_n (by omega), up_n (by omega), up_n (by omega), up_s, hs, ht (by omega)]
    · rw [up_n (by omega), up_n (by omega), up_n (by omega), up_s, hs, ht (by omega)]
    · rw [up_n (by omega), up_n (by omega), up_s, hs, ht (by omega)]
    · rw [up_n (by omega), up_s, hs, ht (by omega)]
    · rw [up_s, hs, ht (by omega)]
    · rw [up_n (by omega), up_n (by omega), up_n (by omega), up_n (by omega), up_n (by omega)]
      unfold dr_to
      rw [if_neg (by omega), if_neg (by omega)]
  · rw [up_n (by omega), up_n (by omega), up_n (by omega), up_n (by omega), up_n (by omega)]
    unfold dr_to
    by_cases c2 : (6 ≤ k ∧ k ≤ 10) ∧ q ≤ i ∧ i < r
    · rw [if_pos c2, if_pos (by omega)]
    · rw [if_neg c2, if_neg (by omega)]
end DROP
section CALLS2
variable {L d : Nat} {σ V T : rx_St} {S : Int → Int} {Q : Int → Int → rx_St → Prop} {K : Int → rx_St → Prop} {KV : rx_St → Prop}
/-- whether a kind is another one or under it -/
def rs_under (k a : Int) : Bool := decide (a = 0 ∨ k = a ∨ (a = 1 ∧ k = 3) ∨ (a = 2 ∧ k = 4))
theorem c_isUnder (hc : iv_const S σ) {k a : Int} (hk : 0 ≤ k ∧ k < 6) (ha : 0 ≤ a ∧ a < 6) (h1 : rs_under k a = true → K 1 σ) (h0 : rs_under k a = false → K 0 σ) : rx_CI L (d + 1) mX10_isUnder [.inl k, .inl a] σ K := by
  obtain ⟨-, ⟨t0, t1, t2, t3, t4, t5⟩, -⟩ := hc
  refine bX10_isUnder L d k a σ K ?_
  have um : ∀ (s : Int) (q : Option rx_V), 0 ≤ s → s < 6 → K 0 σ → rx_Go L (d + 1) mX10_isUnder 4 [q, some (.inl a), some (.inl (-1)), some (.inl s)] [] σ (rx_PI K) := by
    intro s q s0 s1 hK
    refine bX10_isUnder_4 L d q a (-1) s σ K ?_
    rw [if_neg (by omega), if_pos (by omega)]
    refine s_isKind (fun c => absurd c (by omega)) (fun c => ?_)
    rw [if_neg (by decide)]
    exact hK
  have u0 : ∀ (s : Int) (q : Option rx_V), 0 ≤ s → s < 5 → (a = 0 → K 1 σ) → (a ≠ 0 → K 0 σ) → rx_Go L (d + 1) mX10_isUnder 4 [q, some (.inl a), some (.inl 0), some (.inl s)] [] σ (rx_PI K) := by
    intro s q s0 s1 hK hK0
    refine bX10_isUnder_4 L d q a 0 s σ K ?_
    rw [if_neg (by omega)]
    by_cases c : a = 0
    · rw [if_neg (by omega)]
      exact hK c
    · rw [if_pos (by omega)]
      refine s_isKind (fun c => ?_) (fun c => absurd (by omega) c)
      rw [if_pos (by decide), t0, rx_w_of (by omega) (by omega)]
      exact ⟨by omega, um (s + 1) q (by omega) (by omega) (hK0 (by assumption))⟩
  have u1 : ∀ (x s : Int) (q : Option rx_V), (x = 1 ∨ x = 2 ∨ x = 5) → 0 ≤ s → s < 4 → (a = 0 ∨ a = x → K 1 σ) → (¬ (a = 0 ∨ a = x) → K 0 σ) → rx_Go L (d + 1) mX10_isUnder 4 [q, some (.inl a), some (.inl x), some (.inl s)] [] σ (rx_PI K) := by
    intro x s q hx s0 s1 hK hK0
    refine bX10_isUnder_4 L d q a x s σ K ?_
    rw [if_neg (by omega)]
    by_cases c : x = a
    · rw [if_neg (by omega)]
      exact hK (Or.inr c.symm)
    · rw [if_pos (by omega)]
      refine s_isKind (fun c => ?_) (fun c => absurd (by omega) c)
      have ex : σ 160 x = 0 := by rcases hx with rfl | rfl | rfl <;> assumption
      rw [if_pos (by decide), ex, rx_w_of (by omega) (by omega)]
      exact ⟨by omega, u0 (s + 1) q (by omega) (by omega) (fun g => hK (Or.inl g)) (fun g => hK0 (by omega))⟩
  have u3 : ∀ (x y s : Int) (q : Option rx_V), ((x = 3 ∧ y = 1) ∨ (x = 4 ∧ y = 2)) → 0 ≤ s → s < 3 → (a = 0 ∨ a = y ∨ a = x → K 1 σ) → (¬ (a = 0 ∨ a = y ∨ a = x) → K 0 σ) → rx_Go L (d + 1) mX10_isUnder 4 [q, some (.inl a), some (.inl x), some (.inl s)] [] σ (rx_PI K) := by
    intro x y s q hx s0 s1 hK hK0
    refine bX10_isUnder_4 L d q a x s σ K ?_
    rw [if_neg (by omega)]
    by_cases c : x = a
    · rw [if_neg (by omega)]
      exact hK (Or.inr (Or.inr c.symm))
    · rw [if_pos (by omega)]
      refine s_isKind (fun c => ?_) (fun c => absurd (by omega) c)
      have ex : σ 160 x = y := by rcases hx with ⟨rfl, rfl⟩ | ⟨rfl, rfl⟩ <;> assumption
      rw [if_pos (by decide), ex, rx_w_of (by omega) (by omega)]
      exact ⟨by omega, u1 y (s + 1) q (by omega) (by omega) (by omega) (fun g => hK (by omega)) (fun g => hK0 (by omega))⟩
  have hy : (a = 0 ∨ k = a ∨ (a = 1 ∧ k = 3) ∨ (a = 2 ∧ k = 4)) → K 1 σ := fun g => h1 (decide_eq_true g)
  have hn : ¬ (a = 0 ∨ k = a ∨ (a = 1 ∧ k = 3) ∨ (a = 2 ∧ k = 4)) → K 0 σ := fun g => h0 (decide_eq_false g)
  have h9 : k = 0 ∨ (k = 1 ∨ k = 2 ∨ k = 5) ∨ k = 3 ∨ k = 4 := by omega
  rcases h9 with rfl | h9 | rfl | rfl
  · exact u0 0 _ (by omega) (by omega) (fun g => hy (by omega)) (fun g => hn (by omega))
  · exact u1 k 0 _ h9 (by omega) (by omega) (fun g => hy (by omega)) (fun g => hn (by omega))
  · exact u3 3 1 0 _ (by omega) (by omega) (by omega) (fun g => hy (by omega)) (fun g => hn (by omega))
  · exact u3 4 2 0 _ (by omega) (by omega) (by omega) (fun g => hy (by omega)) (fun g => hn (by omega))
theorem n_isUnder {k a : Int} (h1 : rs_under k a = true → K 1 σ) (h0 : rs_under k a = false → K 0 σ) : rx_CI L d mX11_isUnder [.inl k, .inl a] σ K := by
  have hy : (a = 0 ∨ k = a ∨ (a = 1 ∧ k = 3) ∨ (a = 2 ∧ k = 4)) → K 1 σ := fun g => h1 (decide_eq_true g)
  have hn : ¬ (a = 0 ∨ k = a ∨ (a = 1 ∧ k = 3) ∨ (a = 2 ∧ k = 4)) → K 0 σ := fun g => h0 (decide_eq_false g)
  refine bX11_isUnder L d k a σ K ?_
  repeat' split
  all_goals first | exact hy (by omega) | exact hn (by omega)
theorem o_as {r k : Int} (h : iv_A S V T σ) (hQ : ∀ v σ', Inv S σ' → Q v v σ') :
    rx_CI L (d + 2) mX10_as [.inr 0, .inl r, .inl k] σ (fun v1 σ1 => rx_CI L (d + 2) mX11_as [.inr 125, .inl r, .inl k] σ1 (fun v2 σ2 => Q v1 v2 σ2)) := by
  have hw := h.1
  have hC := h.2.1
  have hM := h.2.2.1
  have hm := wf_m hw
  have hbad : ¬ ((0 ≤ r ∧ r < V 0 6) ∧ 0 ≤ k ∧ k < 6) → rx_CI L (d + 2) mX11_as [.inr 125, .inl r, .inl k] σ (fun v2 σ2 => Q (-1000000001) v2 σ2) := by
    intro c
    refine bX11_as L (d + 1) r k σ _ ?_
    refine n_isRoad hM hw (fun c1 => ?_) (fun c1 => ?_)
    · rw [if_neg (by decide)]
      refine m_in (fun c2 => absurd ⟨c1, by omega⟩ c) (fun c2 => ?_)
      rw [if_neg (by decide)]
      exact o_same h hQ _
    · rw [if_pos rfl]
      exact o_same h hQ _
  refine bX10_as L (d + 1) r k σ _ ?_
  refine c_isRoad rfl hC (fun c => ?_) (fun c => ?_)
  · rw [if_neg (by decide)]
    refine s_isKind (fun c2 => ?_) (fun c2 => ?_)
    · rw [if_pos (by decide)]
      refine ⟨by omega, ?_⟩
      have e7 : σ 7 = V 6 := hC 6 (by omega)
      have e10 : σ 10 = V 9 := hC 9 (by omega)
      have hr := wf_r hw c.1 c.2
      have hmod : ∀ v, (rs_under (V 6 r) k = true → v = V 9 r) → (rs_under (V 6 r) k = false → v = -1000000012) → rx_CI L (d + 2) mX11_as [.inr 125, .inl r, .inl k] σ (fun v2 σ2 => Q v v2 σ2) := by
        intro v hv1 hv0
        refine bX11_as L (d + 1) r k σ _ ?_
        refine n_isRoad hM hw (fun _ => ?_) (fun c1 => absurd c c1)
        rw [if_neg (by decide)]
        refine m_in (fun _ => ?_) (fun c3 => absurd ⟨c2.1, by omega⟩ c3)
        rw [if_pos (by decide)]
        refine n_of hM 0 (by omega) rfl (by omega) ?_
        refine n_isUnder (fun g => ?_) (fun g => ?_)
        · rw [if_neg (by decide)]
          refine n_of hM 3 (by omega) rfl (by omega) ?_
          rw [hv1 g]
          exact o_same h hQ _
        · rw [if_pos rfl, hv0 g]
          exact o_same h hQ _
      rw [e7]
      refine c_isUnder h.2.2.2.2.2.1 hr.1 c2 (fun g => ?_) (fun g => ?_)
      · rw [if_neg (by decide), e10]
        exact hmod _ (fun _ => rfl) (fun g2 => by rw [g] at g2; cases g2)
      · rw [if_pos rfl]
        exact hmod _ (fun g2 => by rw [g] at g2; cases g2) (fun _ => rfl)
    · rw [if_neg (by decide)]
      exact hbad (fun q => c2 q.2)
  · rw [if_pos rfl]
    exact hbad (fun q => c q.1)
theorem n_becomes (hM : ld_M V (σ 126)) {r w v : Int} (k : Nat) (hr : 0 ≤ r ∧ r < 18) (hw : w = k) (hk : k ≤ 4) (h : ∀ σ', ld_M (rx_up V (6 + k) r v) (σ' 126) → (∀ c i, ¬ (c = 126 ∧ i < 126) → σ' c i = σ c i) → K (V (6 + k) r) σ') : rx_CI L (d + 1) mX11_becomes [.inr 125, .inl r, .inl w, .inl v] σ K := by
  refine bX11_becomes L d r w v σ K ?_
  refine n_of hM k hr hw hk ?_
  simp (disch := omega) only [rx_w_of]
  refine ⟨by omega, h _ (ld_Mup hM (by unfold ld_ok; omega) ?_) (fun c i hc => up_n (by omega))⟩
  unfold ld_i
  rw [if_neg (by omega), if_neg (by omega), if_neg (by omega)]
  omega
theorem o_turns {r k : Int} (h : iv_A S V T σ) (hQ : ∀ v σ', Inv S σ' → Q v v σ') :
    rx_CI L (d + 2) mX10_turns [.inr 0, .inl r, .inl k] σ (fun v1 σ1 => rx_CI L (d + 2) mX11_turns [.inr 125, .inl r, .inl k] σ1 (fun v2 σ2 => Q v1 v2 σ2)) := by
  have hw := h.1
  have hC := h.2.1
  have hM := h.2.2.1
  have hm := wf_m hw
  have hbad : ¬ ((0 ≤ r ∧ r < V 0 6) ∧ 0 ≤ k ∧ k < 6) → rx_CI L (d + 2) mX11_turns [.inr 125, .inl r, .inl k] σ (fun v2 σ2 => Q (-1000000001) v2 σ2) := by
    intro c
    refine bX11_turns L (d + 1) r k σ _ ?_
    refine n_isRoad hM hw (fun c1 => ?_) (fun c1 => ?_)
    · rw [if_neg (by decide)]
      refine m_in (fun c2 => absurd ⟨c1, by omega⟩ c) (fun c2 => ?_)
      rw [if_pos (by decide)]
      exact o_same h hQ _
    · rw [if_pos rfl]
      exact o_same h hQ _
  refine bX10_turns L (d + 1) r k σ _ ?_
  refine c_isRoad rfl hC (fun c => ?_) (fun c => ?_)
  · rw [if_neg (by decide)]
    refine s_isKind (fun c2 => ?_) (fun c2 => ?_)
    · rw [if_pos (by decide)]
      refine ⟨by omega, ?_⟩
      have e7 : σ 7 = V 6 := hC 6 (by omega)
      have hM1 : ld_M V ((rx_up σ 7 r k) 126) := by rw [up_c (by decide)]; exact hM
      refine bX11_turns L (d + 1) r k _ _ ?_
      refine n_isRoad hM1 hw (fun _ => ?_) (fun c1 => absurd c c1)
      rw [if_neg (by decide)]
      refine m_in (fun _ => ?_) (fun c3 => absurd ⟨c2.1, by omega⟩ c3)
      rw [if_neg (by decide), e7]
      refine n_becomes hM1 0 (by omega) rfl (by omega) (fun σ' hM2 hf => ?_)
      refine hQ _ _ ⟨_, T, iv_land h (fun c i hk => ?_) (wf_k hw (k := 6) (i := r) (v := k) (by omega)) (ld_Cfr (ld_Cup hC (k := 6) (by omega) r k) (fun c h1 h2 => funext fun i => hf c i (by omega))) hM2 (by rw [up_c (by decide)])⟩
      unfold fr_v at hk
      rw [hf c i hk.2.2, up_n (by omega)]
    · rw [if_neg (by decide)]
      exact hbad (fun q => c2 q.2)
  · rw [if_pos rfl]
    exact hbad (fun q => c q.1)
theorem o_set {r w v : Int} (h : iv_A S V T σ) (hQ : ∀ v σ', Inv S σ' → Q v v σ') :
    rx_CI L (d + 2) mX10_set [.inr 0, .inl r, .inl w, .inl v] σ (fun v1 σ1 => rx_CI L (d + 2) mX11_set [.inr 125, .inl r, .inl w, .inl v] σ1 (fun v2 σ2 => Q v1 v2 σ2)) := by
  have hw := h.1
  have hC := h.2.1
  have hM := h.2.2.1
  have hm := wf_m hw
  have hbad : ¬ ((0 ≤ r ∧ r < V 0 6) ∧ ((w = 0 ∧ 1 ≤ v ∧ v ≤ 9) ∨ (w = 1 ∧ 0 ≤ v ∧ v < 4))) → rx_CI L (d + 2) mX11_set [.inr 125, .inl r, .inl w, .inl v] σ (fun v2 σ2 => Q (-1000000001) v2 σ2) := by
    intro c
    refine bX11_set L (d + 1) r w v σ _ ?_
    refine n_isRoad hM hw (fun c1 => ?_) (fun c1 => ?_)
    · rw [if_neg (by decide)]
      refine m_in (fun c2 => ?_) (fun c2 => ?_)
      · rw [if_neg (by decide)]
        by_cases e : w = 0
        · rw [if_neg (fun q => q e)]
          refine m_in (fun c3 => absurd ⟨c1, by omega⟩ c) (fun c3 => ?_)
          rw [if_neg (by decide)]
          exact o_same h hQ _
        · rw [if_pos e]
          refine m_in (fun c3 => absurd ⟨c1, by omega⟩ c) (fun c3 => ?_)
          rw [if_neg (by decide)]
          exact o_same h hQ _
      · rw [if_pos (by decide)]
        exact o_same h hQ _
    · rw [if_pos rfl]
      exact o_same h hQ _
  have hgood : ∀ (k : Nat), (0 ≤ r ∧ r < V 0 6) → (w = 0 ∧ k = 3 ∧ 1 ≤ v ∧ v ≤ 9) ∨ (w = 1 ∧ k = 4 ∧ 0 ≤ v ∧ v < 4) → rx_CI L (d + 2) mX11_set [.inr 125, .inl r, .inl w, .inl v] (rx_up σ (7 + k) r v) (fun v2 σ2 => Q (V (6 + k) r) v2 σ2) := by
    intro k c g
    have hM1 : ld_M V ((rx_up σ (7 + k) r v) 126) := by rw [up_c (by omega)]; exact hM
    have hfin : rx_CI L (d + 1) mX11_becomes [.inr 125, .inl r, .inl (rx_w (3 + w)), .inl v] (rx_up σ (7 + k) r v) (fun v2 σ2 => Q (V (6 + k) r) v2 σ2) := by
      rw [rx_w_of (by omega) (by omega)]
      refine n_becomes hM1 k (by omega) (by omega) (by omega) (fun σ' hM2 hf => ?_)
      refine hQ _ _ ⟨_, T, iv_land h (fun c i hk => ?_) (wf_k hw (k := 6 + k) (i := r) (v := v) (by omega)) (ld_Cfr (ld_Cup hC (k := 6 + k) (by omega) r v) (fun c h1 h2 => funext fun i => ?_)) hM2 (by rw [up_c (by omega)])⟩
      · unfold fr_v at hk
        rw [hf c i hk.2.2, up_n (by omega)]
      · rw [hf c i (by omega), show 7 + k = 1 + (6 + k) by omega]
    refine bX11_set L (d + 1) r w v _ _ ?_
    refine n_isRoad hM1 hw (fun _ => ?_) (fun c1 => absurd c c1)
    rw [if_neg (by decide)]
    refine m_in (fun _ => ?_) (fun c3 => absurd ⟨by omega, by omega⟩ c3)
    rw [if_neg (by decide)]
    by_cases e : w = 0
    · rw [if_neg (fun q => q e)]
      refine m_in (fun c3 => ?_) (fun c3 => absurd ⟨by omega, by omega⟩ c3)
      rw [if_pos (by decide)]
      exact hfin
    · rw [if_pos e]
      refine m_in (fun c3 => ?_) (fun c3 => absurd ⟨by omega, by omega⟩ c3)
      rw [if_pos (by decide)]
      exact hfin
  have e10 : σ 10 = V 9 := hC 9 (by omega)
  have e11 : σ 11 = V 10 := hC 10 (by omega)
  refine bX10_set L (d + 1) r w v σ _ ?_
  refine c_isRoad rfl hC (fun c => ?_) (fun c => ?_)
  · rw [if_pos (by decide)]
    by_cases e0 : w = 0
    · rw [if_neg (fun q => q e0)]
      refine s_isWeight (fun c2 => ?_) (fun c2 => ?_)
      · rw [if_neg (by decide), e10]
        exact ⟨by omega, hgood 3 c (by omega)⟩
      · rw [if_pos (by decide), if_pos (by omega)]
        exact hbad (by omega)
    · rw [if_pos e0]
      by_cases e1 : w = 1
      · rw [if_neg (fun q => q e1)]
        refine s_isPage (fun c2 => ?_) (fun c2 => ?_)
        · rw [if_neg (by decide), e11]
          exact ⟨by omega, hgood 4 c (by omega)⟩
        · rw [if_pos (by decide)]
          exact hbad (by omega)
      · rw [if_pos e1]
        exact hbad (by omega)
  · rw [if_neg (by decide)]
    exact hbad (fun q => c q.1)
theorem c_dropRoad {A : Nat} (hA : rx_isO 1 A = true) (hV : ld_C A V σ) (hw : iv_Wf V) {q : Int} (hq : 0 ≤ q ∧ q < V 0 6) (h : ∀ σ', ld_C A (ld_drop V q) σ' → (∀ c, c < A ∨ A + 10 < c → σ' c = σ c) → KV σ') : rx_CV L d mX1_dropRoad [.inr A, .inl q] σ KV := by
  have hm := wf_m hw
  refine bX1_dropRoad L d A hA q σ KV ?_
  have key : ∀ (k : Nat) (r : Int) (σ1 : rx_St), q ≤ r → r + k + 1 = V 0 6 → ld_C A (dr_to V q r) σ1 → (∀ c, c < A ∨ A + 10 < c → σ1 c = σ c) → rx_Go L d mX1_dropRoad 2 [some (.inr A), some (.inl q), some (.inl r)] [] σ1 (rx_PV KV) := by
    intro k
    induction k with
    | zero =>
      intro r σ1 hr hk hC hf
      refine bX1_dropRoad_2 L d A hA _ r σ1 KV ?_
      have e6 : σ1 A 6 = V 0 6 := by rw [ld_C0 hC]; exact if_neg (by omega)
      rw [e6, rx_w_of (by omega) (by omega), if_pos (by omega), rx_w_of (by omega) (by omega)]
      refine h _ ?_ (fun c hc => by rw [up_c (by omega)]; exact hf c hc)
      have h1 := ld_Cup0 hC 6 (V 0 6 - 1)
      have e : rx_up (dr_to V q r) 0 6 (V 0 6 - 1) = ld_drop V q := by
        funext j i
        unfold ld_drop
        by_cases c : j = 0 ∧ i = 6
        · rw [up_x c, if_pos c]
        · rw [up_n c, if_neg c]
          unfold dr_to
          by_cases c2 : (6 ≤ j ∧ j ≤ 10) ∧ q ≤ i ∧ i < r
          · rw [if_pos c2, if_pos (by omega)]
          · rw [if_neg c2, if_neg (by omega)]
      rw [e] at h1
      exact h1
    | succ k ih =>
      intro r σ1 hr hk hC hf
      refine bX1_dropRoad_2 L d A hA _ r σ1 KV ?_
      have e6 : σ1 A 6 = V 0 6 := by rw [ld_C0 hC]; exact if_neg (by omega)
      rw [e6, rx_w_of (by omega) (by omega), if_neg (by omega)]
      refine ⟨by omega, by omega, ?_⟩
      simp (disch := omega) only [up_c]
      refine ih (r + 1) _ (by omega) (by omega) ?_ (fun c hc => ?_)
      · have h1 := ld_Cup (ld_Cup (ld_Cup (ld_Cup (ld_Cup hC (k := 6) (by omega) r (dr_to V q r 6 (r + 1))) (k := 7) (by omega) r (dr_to V q r 7 (r + 1))) (k := 8) (by omega) r (dr_to V q r 8 (r + 1))) (k := 9) (by omega) r (dr_to V q r 9 (r + 1))) (k := 10) (by omega) r (dr_to V q r 10 (r + 1))
        rw [dr_step hr] at h1
        rw [hC 6 (by omega), hC 7 (by omega), hC 8 (by omega), hC 9 (by omega), hC 10 (by omega)]
        exact h1
      · rw [up_c (by omega), up_c (by omega), up_c (by omega), up_c (by omega), up_c (by omega)]
        exact hf c hc
  refine key (V 0 6 - q - 1).toNat q σ (by omega) (by omega) ?_ (fun _ _ => rfl)
  have e : dr_to V q q = V := by
    funext j i
    exact if_neg (by omega)
  rw [e]
  exact hV
theorem o_drop {q : Int} (h : iv_A S V T σ) (hQ : ∀ v σ', Inv S σ' → Q v v σ') :
    rx_CI L (d + 2) mX10_drop [.inr 0, .inl q] σ (fun v1 σ1 => rx_CI L (d + 2) mX11_drop [.inr 125, .inl q] σ1 (fun v2 σ2 => Q v1 v2 σ2)) := by
  have hw := h.1
  have hC := h.2.1
  have hM := h.2.2.1
  have hm := wf_m hw
  refine bX10_drop L (d + 1) q σ _ ?_
  refine c_isRoad rfl hC (fun c => ?_) (fun c => ?_)
  · rw [if_pos (by decide)]
    refine c_dropRoad rfl hC hw c (fun σ1 hC1 hf1 => ?_)
    have e126 : σ1 126 = σ 126 := hf1 126 (by omega)
    have hM1 : ld_M V (σ1 126) := by rw [e126]; exact hM
    have e6 : σ1 1 6 = V 0 6 - 1 := by
      have : σ1 1 = ld_drop V q 0 := ld_C0 hC1
      rw [this]
      simp [ld_drop]
    rw [e6]
    refine bX11_drop L (d + 1) q σ1 _ ?_
    refine n_isRoad hM1 hw (fun _ => ?_) (fun c1 => absurd c c1)
    rw [if_pos (by decide), ld_Mm hM1]
    simp (disch := omega) only [rx_w_of]
    have key : ∀ (k : Nat) (x : Int) (σ2 : rx_St), 36 + 5 * q ≤ x → x + k = 36 + 5 * (V 0 6 - 1) → (∀ c, c ≠ 126 → σ2 c = σ1 c) → σ2 126 2 = V 0 6 - 1 → (∀ j, j ≠ 2 → σ2 126 j = if 36 + 5 * q ≤ j ∧ j < x then σ 126 (j + 5) else σ 126 j) → rx_Go L (d + 2) mX11_drop 28 [some (.inr 125), some (.inl q), some (.inl x)] [] σ2 (rx_PI (fun v2 σ2 => Q (V 0 6 - 1) v2 σ2)) := by
      intro k
      induction k with
      | zero =>
        intro x σ2 hx hk hf2 h2 hj
        refine bX11_drop_28 L (d + 1) _ x σ2 _ ?_
        rw [h2]
        simp (disch := omega) only [rx_w_of]
        rw [if_pos (by omega)]
        refine hQ _ _ ⟨_, T, iv_land h (fun c i hk => ?_) (wf_drop hw c) (ld_Cfr hC1 (fun c h1 h2 => hf2 c (by omega))) ?_ (by simp [ld_drop])⟩
        · unfold fr_v at hk
          by_cases c126 : c = 126
          · subst c126
            rw [hj i (by omega), if_neg (by omega)]
          · rw [hf2 c c126, hf1 c (by omega)]
        · intro k i hk
          have e := hM k i hk
          unfold ld_ok at hk
          by_cases c0 : k = 0 ∧ i = 6
          · obtain ⟨rfl, rfl⟩ := c0
            show σ2 126 2 = _
            rw [h2]
            simp [ld_drop]
          · have hne : ld_i k i ≠ 2 := by
              unfold ld_i
              repeat' split
              all_goals omega
            rw [hj _ hne]
            unfold ld_drop
            rw [if_neg c0]
            by_cases c1 : (6 ≤ k ∧ k ≤ 10) ∧ q ≤ i ∧ i < V 0 6 - 1
            · have e2 := hM k (i + 1) (by unfold ld_ok; omega)
              rw [if_pos c1, ← e2]
              have ei : ld_i k i = 36 + 5 * i + (k - 6) := by unfold ld_i; rw [if_neg (by omega), if_neg (by omega), if_neg (by omega)]
              have ei2 : ld_i k (i + 1) = 36 + 5 * (i + 1) + (k - 6) := by unfold ld_i; rw [if_neg (by omega), if_neg (by omega), if_neg (by omega)]
              rw [if_pos (by omega), ei, ei2]
              congr 1
              omega
            · rw [if_neg c1, if_neg]
              · exact e
              · unfold ld_i
                repeat' split
                all_goals omega
      | succ k ih =>
        intro x σ2 hx hk hf2 h2 hj
        refine bX11_drop_28 L (d + 1) _ x σ2 _ ?_
        rw [h2]
        simp (disch := omega) only [rx_w_of]
        rw [if_neg (by omega)]
        refine ⟨by omega, by omega, ih (x + 1) _ (by omega) (by omega) (fun c hc => by rw [up_c hc]; exact hf2 c hc) (by rw [up_i (by omega)]; exact h2) (fun j hj2 => ?_)⟩
        by_cases c1 : j = x
        · rw [up_e c1, hj _ (by omega), if_neg (by omega), if_pos (by omega), c1]
        · rw [up_i c1, hj j hj2]
          by_cases c2 : 36 + 5 * q ≤ j ∧ j < x
          · rw [if_pos c2, if_pos (by omega)]
          · rw [if_neg c2, if_neg (by omega)]
    refine key (5 * (V 0 6 - 1 - q)).toNat _ _ (by omega) (by omega) (fun c hc => up_c hc) up_s (fun j hj => ?_)
    rw [up_i hj, if_neg (by omega), e126]
  · rw [if_neg (by decide)]
    refine bX11_drop L (d + 1) q σ _ ?_
    refine n_isRoad hM hw (fun c1 => absurd c1 c) (fun c1 => ?_)
    rw [if_neg (by decide)]
    exact o_same h hQ _
end CALLS2
