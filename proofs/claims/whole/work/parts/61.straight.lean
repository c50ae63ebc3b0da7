theorem rs_meet_P {P P' : Int → Int} {V : rx_St} {r s : Int} : rs_meet P V 0 r s = rs_meet P' V 0 r s := by
  unfold rs_meet
  rw [if_pos rfl, if_pos rfl]
theorem ap_comm {a b c d : Int} : ap a b c d ↔ ap c d a b := by
  unfold ap
  omega
theorem rs_meet_sym {P : Int → Int} {V : rx_St} {r s : Int} : rs_meet P V 0 r s = rs_meet P V 0 s r := by
  unfold rs_meet
  rw [if_pos rfl, if_pos rfl]
  apply bo_iff
  have e1 : rs_sh V r s ↔ rs_sh V s r := by unfold rs_sh; omega
  have e2 : rs_mS V (V 7 r) (V 8 r) (V 7 s) (V 8 s) ↔ rs_mS V (V 7 s) (V 8 s) (V 7 r) (V 8 r) := by
    unfold rs_mS
    rw [ap_comm (a := V 1 (V 7 r)), ap_comm (a := V 2 (V 7 r))]
    constructor
    · rintro ⟨a, b, c, d⟩
      exact ⟨a, b, d, c⟩
    · rintro ⟨a, b, c, d⟩
      exact ⟨a, b, d, c⟩
  rw [e1, e2]
/-- pairs with one road of their own -/
theorem rs_own {m r : Int} {f : Int → Int → Int} (hr : 0 ≤ r ∧ r < m) (hs : ∀ a b, f a b = f b a) : rs_ps m (fun a b => if r = a ∨ r = b then f a b else 0) = rs_sum (fun s => if s = r then 0 else f r s) 0 m.toNat := by
  unfold rs_ps
  have e : m.toNat = r.toNat + (1 + (m - r - 1).toNat) := by omega
  rw [e, rs_sum_app, rs_sum_app, rs_sum_app, rs_sum_app]
  have p1 : rs_sum (fun a => rs_sum (fun s => if r = a ∨ r = s then f a s else 0) (a + 1) (m - a - 1).toNat) 0 r.toNat = rs_sum (fun s => if s = r then 0 else f r s) 0 r.toNat := by
    refine rs_sum_congr _ _ (fun a a0 a1 => ?_)
    rw [rs_sum_one (q := r) (by omega) (by omega) (fun i i0 i1 i2 => by rw [if_neg (by omega)]), if_pos (Or.inr rfl), if_neg (by omega), hs]
  have p2 : rs_sum (fun a => rs_sum (fun s => if r = a ∨ r = s then f a s else 0) (a + 1) (m - a - 1).toNat) (0 + (r.toNat : Int)) 1 = rs_sum (fun s => if s = r then 0 else f r s) (0 + (r.toNat : Int) + ((1 : Nat) : Int)) (m - r - 1).toNat := by
    show rs_sum (fun s => if r = 0 + (r.toNat : Int) ∨ r = s then f (0 + (r.toNat : Int)) s else 0) (0 + (r.toNat : Int) + 1) (m - (0 + (r.toNat : Int)) - 1).toNat + 0 = _
    rw [Int.add_zero, show 0 + (r.toNat : Int) = r by omega]
    refine rs_sum_congr _ _ (fun s s0 s1 => ?_)
    rw [if_pos (Or.inl rfl), if_neg (by omega)]
  have p3 : rs_sum (fun a => rs_sum (fun s => if r = a ∨ r = s then f a s else 0) (a + 1) (m - a - 1).toNat) (0 + (r.toNat : Int) + ((1 : Nat) : Int)) (m - r - 1).toNat = 0 := by
    refine rs_sum_z _ _ (fun a a0 a1 => rs_sum_z _ _ (fun s s0 s1 => ?_))
    rw [if_neg (by omega)]
  have p4 : rs_sum (fun s => if s = r then 0 else f r s) (0 + (r.toNat : Int)) 1 = 0 := by
    refine rs_sum_z _ _ (fun s s0 s1 => ?_)
    rw [if_pos (by omega)]
  rw [p1, p2, p3, p4]
  omega
/-- the first of those that give most -/
def rs_dear (f : Int → Int) : Nat → Int → Int → Int → Int
  | 0, _, b, _ => b
  | k + 1, r, b, mo => if mo < f r then rs_dear f k (r + 1) r (f r) else rs_dear f k (r + 1) b mo
/-- what the class tells of crossings -/
noncomputable def rs_told (V T : rx_St) (w k : Int) : Int := if k = 0 then rs_ps (V 0 6) (fun r s => b01 (rs_meet (V 5) V w r s)) else if k = 1 then rs_tot (V 5) V w (rs_c2 V T) else -1000000001
section STR
variable {L d : Nat} {σ V T : rx_St} {S : Int → Int} {Q : Int → Int → rx_St → Prop} {K : Int → rx_St → Prop} {KV : rx_St → Prop} {C : Int → Int → Int}
theorem n_straightly (hM : ld_M V (σ 126)) (hw : iv_Wf V) (hC : rk_M C (V 0 6) σ) (hCb : ∀ r s, 0 ≤ C r s ∧ C r s ≤ 999) (P : Int → Int) {c o : Int} (h : K (rs_ps (V 0 6) (fun r s => if (o < 0 ∨ o = r ∨ o = s) ∧ rs_meet P V 0 r s = true then (if c = 0 then 1 else C r s) else 0)) σ) : rx_CI L (d + 5) mX11_straightly [.inr 125, .inl c, .inl o] σ K := by
  have hm := wf_m hw
  have e0 := ld_Mm hM
  have gb : ∀ r s, 0 ≤ (if (o < 0 ∨ o = r ∨ o = s) ∧ rs_meet P V 0 r s = true then (if c = 0 then 1 else C r s) else 0) ∧ (if (o < 0 ∨ o = r ∨ o = s) ∧ rs_meet P V 0 r s = true then (if c = 0 then 1 else C r s) else 0) ≤ 999 := by
    intro r s
    have := hCb r s
    split
    · split <;> omega
    · omega
  refine bX11_straightly L (d + 4) c o σ K ?_
  refine dl_loop (m := V 0 6) (lim := 2147483647) (g := fun r s => if (o < 0 ∨ o = r ∨ o = s) ∧ rs_meet P V 0 r s = true then (if c = 0 then 1 else C r s) else 0) (K' := fun v => K v σ) (Out := fun r acc => ∀ q q6, rx_Go L (d + 5) mX11_straightly 5 [some (.inr 125), some (.inl c), some (.inl o), some (.inl acc), some (.inl r), q, q6] [] σ (rx_PI K)) (In := fun r s acc => ∀ q6, rx_Go L (d + 5) mX11_straightly 22 [some (.inr 125), some (.inl c), some (.inl o), some (.inl acc), some (.inl r), some (.inl s), q6] [] σ (rx_PI K)) hm (fun r s _ _ _ => gb r s) ?_ ?_ ?_ none none
  · intro r acc r0 r1 a0 a1 k1 k2 k3 q q6
    refine bX11_straightly_5 L (d + 4) c o acc r q q6 σ K ?_
    rw [e0]
    by_cases z : V 0 6 ≤ r
    · rw [if_pos z]
      exact k1 z
    · rw [if_neg z, rx_w_of (by omega) (by omega)]
      exact k3 (by omega) (by omega) _
  · intro r s acc r0 rs s1 a0 a1 k1 k2 q6
    refine bX11_straightly_22 L (d + 4) c o acc r s q6 σ K ?_
    rw [e0]
    by_cases z : V 0 6 ≤ s
    · rw [if_pos z, rx_w_of (by omega) (by omega)]
      exact k1 (by omega) _ _
    rw [if_neg z]
    have k2 := k2 (by omega)
    have yes : (o < 0 ∨ o = r ∨ o = s) → ∀ q6, rx_Go L (d + 5) mX11_straightly 49 [some (.inr 125), some (.inl c), some (.inl o), some (.inl acc), some (.inl r), some (.inl s), q6] [] σ (rx_PI K) := by
      intro ho q6
      refine bX11_straightly_49 L (d + 4) c o acc r s q6 σ K ?_
      refine bX11_straightly_56 L (d + 4) c o acc r s 1 σ K ?_
      rw [if_neg (by decide)]
      refine n_doCross hM hw P (by omega) (by omega) (fun g => ?_) (fun g => ?_)
      · rw [if_neg (by decide)]
        rw [if_pos ⟨ho, g⟩] at k2
        by_cases c0 : c = 0
        · rw [if_pos c0, rx_w_of (by omega) (by omega), rx_w_of (by omega) (by omega)]
          rw [if_pos c0] at k2
          exact k2 _
        · rw [if_neg c0]
          rw [if_neg c0] at k2
          rw [rx_w_of (x := 18 * r) (by omega) (by omega), rx_w_of (x := 18 * r + s) (by omega) (by omega), hC r s r0 (by omega) (by omega) (by omega) (by omega)]
          have := hCb r s
          rw [rx_w_of (by omega) (by omega), rx_w_of (by omega) (by omega)]
          exact ⟨by omega, k2 _⟩
      · rw [if_pos rfl, Int.add_zero, rx_w_of (by omega) (by omega), rx_w_of (by omega) (by omega)]
        rw [if_neg (fun q => by rw [g] at q; cases q.2), Int.add_zero] at k2
        exact k2 _
    by_cases o1 : o < 0
    · rw [if_pos o1]
      exact yes (Or.inl o1) _
    rw [if_neg o1]
    by_cases o2 : o = r
    · rw [if_pos o2]
      exact yes (Or.inr (Or.inl o2)) _
    rw [if_neg o2]
    by_cases o3 : o = s
    · rw [if_neg (fun q => q o3)]
      exact yes (Or.inr (Or.inr o3)) _
    · rw [if_pos o3]
      refine bX11_straightly_56 L (d + 4) c o acc r s 0 σ K ?_
      rw [if_pos rfl, Int.add_zero, rx_w_of (by omega) (by omega), rx_w_of (by omega) (by omega)]
      rw [if_neg (fun q => by omega), Int.add_zero] at k2
      exact k2 _
  · intro v v0 hv
    rcases hv with rfl | ⟨g1, g2⟩
    · exact h
    · have := rs_ps_b (g := fun r s => if (o < 0 ∨ o = r ∨ o = s) ∧ rs_meet P V 0 r s = true then (if c = 0 then 1 else C r s) else 0) hm (fun r s _ _ _ => gb r s)
      omega
/-- the cost of all that cross straight -/
theorem n_straight1 (hM : ld_M V (σ 126)) (hw : iv_Wf V) (hC : rk_M C (V 0 6) σ) (hCb : ∀ r s, 0 ≤ C r s ∧ C r s ≤ 999) (P : Int → Int) (h : K (rs_tot P V 0 C) σ) : rx_CI L (d + 5) mX11_straightly [.inr 125, .inl 1, .inl (-1)] σ K := by
  refine n_straightly hM hw hC hCb P ?_
  have e : rs_ps (V 0 6) (fun r s => if ((-1 : Int) < 0 ∨ (-1 : Int) = r ∨ (-1 : Int) = s) ∧ rs_meet P V 0 r s = true then (if (1 : Int) = 0 then 1 else C r s) else 0) = rs_tot P V 0 C := by
    refine rs_ps_congr (fun r s _ _ _ => ?_)
    by_cases g : rs_meet P V 0 r s = true
    · rw [if_pos ⟨Or.inl (by decide), g⟩, if_pos g, if_neg (by decide)]
    · rw [if_neg (fun q => g q.2), if_neg g]
  rw [e]
  exact h
theorem n_straight0 (hM : ld_M V (σ 126)) (hw : iv_Wf V) (hC : rk_M C (V 0 6) σ) (hCb : ∀ r s, 0 ≤ C r s ∧ C r s ≤ 999) (P : Int → Int) (h : K (rs_ps (V 0 6) (fun r s => b01 (rs_meet P V 0 r s))) σ) : rx_CI L (d + 5) mX11_straightly [.inr 125, .inl 0, .inl (-1)] σ K := by
  refine n_straightly hM hw hC hCb P ?_
  have e : rs_ps (V 0 6) (fun r s => if ((-1 : Int) < 0 ∨ (-1 : Int) = r ∨ (-1 : Int) = s) ∧ rs_meet P V 0 r s = true then (if (0 : Int) = 0 then 1 else C r s) else 0) = rs_ps (V 0 6) (fun r s => b01 (rs_meet P V 0 r s)) := by
    refine rs_ps_congr (fun r s _ _ _ => ?_)
    unfold b01
    by_cases g : rs_meet P V 0 r s = true
    · rw [if_pos ⟨Or.inl (by decide), g⟩, if_pos g, if_pos rfl]
    · rw [if_neg (fun q => g q.2), if_neg g]
  rw [e]
  exact h
/-- the cost of one road's own -/
noncomputable def rs_ownc (P : Int → Int) (V : rx_St) (C : Int → Int → Int) (r : Int) : Int := rs_sum (fun s => if s = r then 0 else if rs_meet P V 0 r s = true then C r s else 0) 0 (V 0 6).toNat
theorem n_straight2 (hM : ld_M V (σ 126)) (hw : iv_Wf V) (hC : rk_M C (V 0 6) σ) (hCb : ∀ r s, 0 ≤ C r s ∧ C r s ≤ 999) (hCs : ∀ r s, C r s = C s r) (P : Int → Int) {r : Int} (hr : 0 ≤ r ∧ r < V 0 6) (h : K (rs_ownc P V C r) σ) : rx_CI L (d + 5) mX11_straightly [.inr 125, .inl 1, .inl r] σ K := by
  refine n_straightly hM hw hC hCb P ?_
  have e : rs_ps (V 0 6) (fun a b => if (r < 0 ∨ r = a ∨ r = b) ∧ rs_meet P V 0 a b = true then (if (1 : Int) = 0 then 1 else C a b) else 0) = rs_ownc P V C r := by
    unfold rs_ownc
    rw [← rs_own (f := fun a b => if rs_meet P V 0 a b = true then C a b else 0) hr (fun a b => by rw [rs_meet_sym, hCs])]
    refine rs_ps_congr (fun a b _ _ _ => ?_)
    rw [if_neg (show ¬ (1 : Int) = 0 by decide)]
    by_cases o : r = a ∨ r = b
    · rw [if_pos o]
      by_cases g : rs_meet P V 0 a b = true
      · rw [if_pos ⟨Or.inr o, g⟩, if_pos g]
      · rw [if_neg (fun q => g q.2), if_neg g]
    · rw [if_neg o, if_neg (fun q => q.1.elim (fun z => by omega) o)]
  rw [e]
  exact h
theorem c_straightSumOf {A : Nat} (hA : rx_isO 1 A = true) (hV : ld_C A V σ) (hw : iv_Wf V) (hC : rk_C C (V 0 6) σ) (hCb : ∀ r s, 0 ≤ C r s ∧ C r s ≤ 999) {r : Int} (hr : 0 ≤ r ∧ r < V 0 6) (h : K (rs_ownc (V 5) V C r) σ) : rx_CI L (d + 3) mX0_straightSumOf [.inr 37, .inr A, .inl r] σ K := by
  have hm := wf_m hw
  have e0 := ld_C0 hV
  refine bX0_straightSumOf L (d + 2) A hA r σ K ?_
  have key : ∀ (k : Nat) (s acc : Int), 0 ≤ s → s + k = V 0 6 → 0 ≤ acc → acc ≤ 1000 * s → K (acc + rs_sum (fun s => if s = r then 0 else if rs_meet (V 5) V 0 r s = true then C r s else 0) s k) σ → rx_Go L (d + 3) mX0_straightSumOf 5 [some (.inr 37), some (.inr A), some (.inl r), some (.inl acc), some (.inl s)] [] σ (rx_PI K) := by
    intro k
    induction k with
    | zero =>
      intro s acc s0 hs a0 a1 hK
      refine bX0_straightSumOf_5 L (d + 2) A hA r acc s σ K ?_
      rw [e0, if_pos (by omega)]
      simp only [rs_sum, Int.add_zero] at hK
      exact hK
    | succ k ih =>
      intro s acc s0 hs a0 a1 hK
      refine bX0_straightSumOf_5 L (d + 2) A hA r acc s σ K ?_
      rw [e0, if_neg (by omega)]
      unfold rs_sum at hK
      by_cases c : s = r
      · rw [if_pos c, rx_w_of (by omega) (by omega)]
        rw [if_pos c, Int.zero_add] at hK
        exact ih (s + 1) acc (by omega) (by omega) a0 (by omega) hK
      · rw [if_neg c]
        rw [if_neg c] at hK
        refine c_meet hA hV hw (by omega) (by omega) (fun g => ?_) (fun g => ?_)
        · rw [if_neg (by decide)]
          refine ⟨by omega, fun A6 hA6 _ => ⟨by omega, ?_⟩⟩
          have := hCb r s
          have eC : σ A6 s = C r s := by rw [hA6]; exact hC r s (by omega) (by omega) (by omega) (by omega) (by omega)
          rw [eC, rx_w_of (by omega) (by omega), rx_w_of (by omega) (by omega)]
          rw [if_pos g, ← Int.add_assoc] at hK
          exact ih (s + 1) (acc + C r s) (by omega) (by omega) (by omega) (by omega) hK
        · rw [if_pos rfl, rx_w_of (by omega) (by omega)]
          rw [if_neg (by rw [g]; decide), Int.zero_add] at hK
          exact ih (s + 1) acc (by omega) (by omega) a0 (by omega) hK
  exact key (V 0 6).toNat 0 0 (by omega) (by omega) (by omega) (by omega) (by rw [Int.zero_add]; exact h)
theorem c_crossingsTold (hV : ld_C 1 V σ) (hw : iv_Wf V) (hT : tx_C T σ) (hTw : tx_Wf T (V 0 12)) {w k : Int} (h : ∀ σ', (∀ c, c ≠ 57 → c ≠ 58 → (c < 60 ∨ 77 < c) → σ' c = σ c) → K (rs_told V T w k) σ') : rx_CI L (d + 4) mX10_crossingsTold [.inr 0, .inl w, .inl k] σ K := by
  refine bX10_crossingsTold L (d + 3) w k σ K ?_
  unfold rs_told at h
  by_cases c0 : k = 0
  · rw [if_neg (fun q => q c0)]
    rw [if_pos c0] at h
    exact c_pairsThatMeet rfl hV hw (h σ (fun _ _ _ _ => rfl))
  rw [if_pos c0]
  rw [if_neg c0] at h
  by_cases c1 : k = 1
  · rw [if_pos c1]
    rw [if_pos c1] at h
    refine c_reckon rfl hV hw hT hTw (fun σ1 hC hf => ?_)
    refine c_sum0 rfl (ld_Cfr hV (fun c h1 h2 => hf c (by omega) (by omega) (by omega))) hw hC (fun r s => rs_c2_b r s) ?_
    exact h σ1 hf
  · rw [if_neg c1]
    rw [if_neg c1] at h
    exact h σ (fun _ _ _ _ => rfl)
theorem rs_c2_s {V T : rx_St} (r s : Int) : rs_c2 V T r s = rs_c2 V T s r := by
  by_cases h : r = s
  · rw [h]
  · exact rs_c2_sym h
theorem o_straight {k : Int} (h : iv_A S V T σ) (hQ : ∀ v σ', Inv S σ' → Q v v σ') :
    rx_CI L (d + 6) mX10_straight [.inr 0, .inl k] σ (fun v1 σ1 => rx_CI L (d + 6) mX11_straight [.inr 125, .inl k] σ1 (fun v2 σ2 => Q v1 v2 σ2)) := by
  have hw := h.1
  have hC := h.2.1
  have hM := h.2.2.1
  have hm := wf_m hw
  obtain ⟨b1, b2, b3, b4⟩ := h.2.2.2.2.1
  -- how the model ends
  have fin : ∀ (v : Int) (σ1 σ2 : rx_St), (∀ c, c ≠ 57 → c ≠ 58 → (c < 60 ∨ 77 < c) → σ1 c = σ c) → (∀ c, c ≠ 129 → c ≠ 130 → c ≠ 148 → c ≠ 149 → σ2 c = σ1 c) → Q v v σ2 := by
    intro v σ1 σ2 f1 f2
    refine hQ _ _ ⟨V, T, iv_fr h (fun c i hk => ?_)⟩
    unfold fr_k at hk
    rw [f2 c (by omega) (by omega) (by omega) (by omega), f1 c (by omega) (by omega) (by omega)]
  have hmod : ∀ (v : Int) (σ1 : rx_St), (∀ c, c ≠ 57 → c ≠ 58 → (c < 60 ∨ 77 < c) → σ1 c = σ c) → (k = 0 → v = rs_ps (V 0 6) (fun r s => b01 (rs_meet (V 5) V 0 r s))) → (k = 1 → v = rs_tot (V 5) V 0 (rs_c2 V T)) → (k = 2 → v = if rs_ps (V 0 6) (fun r s => b01 (rs_meet (V 5) V 0 r s)) = 0 then -1000000005 else rs_dear (rs_ownc (V 5) V (rs_c2 V T)) (V 0 6).toNat 0 0 (-1)) → (¬ (0 ≤ k ∧ k ≤ 2) → v = -1000000001) → rx_CI L (d + 6) mX11_straight [.inr 125, .inl k] σ1 (fun v2 σ2 => Q v v2 σ2) := by
    intro v σ1 hf v0 v1 v2 v3
    have e126 : σ1 126 = σ 126 := hf 126 (by decide) (by decide) (by omega)
    refine bX11_straight L (d + 5) k σ1 _ ?_
    refine m_in (fun c => ?_) (fun c => ?_)
    · rw [if_pos (by decide)]
      refine n_findPairs (V := V) (T := T) (by rw [e126]; exact hM) hw (by rw [e126]; exact b3) b2 (fun σ2 hC2 hf2 => ?_)
      have hM2 : ld_M V (σ2 126) := by rw [hf2 126 (by decide) (by decide) (by decide) (by decide), e126]; exact hM
      by_cases c2 : 2 ≤ k
      · rw [if_pos c2]
        refine n_straight0 hM2 hw hC2 (fun r s => rs_c2_b r s) (V 5) ?_
        by_cases z : rs_ps (V 0 6) (fun r s => b01 (rs_meet (V 5) V 0 r s)) = 0
        · rw [if_neg (fun q => q z), v2 (by omega), if_pos z]
          exact fin _ σ1 σ2 hf hf2
        · rw [if_pos z, v2 (by omega), if_neg z]
          have key : ∀ (n : Nat) (r b mo : Int) (q5 : Option rx_V), 0 ≤ r → r + n = V 0 6 → rx_Go L (d + 6) mX11_straight 56 [some (.inr 125), some (.inl k), some (.inl b), some (.inl mo), some (.inl r), q5] [] σ2 (rx_PI (fun v2 σ2 => Q (rs_dear (rs_ownc (V 5) V (rs_c2 V T)) n r b mo) v2 σ2)) := by
            intro n
            induction n with
            | zero =>
              intro r b mo q5 r0 hr
              refine bX11_straight_56 L (d + 5) _ b mo r q5 σ2 _ ?_
              rw [ld_Mm hM2, if_pos (by omega)]
              exact fin _ σ1 σ2 hf hf2
            | succ n ih =>
              intro r b mo q5 r0 hr
              refine bX11_straight_56 L (d + 5) _ b mo r q5 σ2 _ ?_
              rw [ld_Mm hM2, if_neg (by omega)]
              refine n_straight2 hM2 hw hC2 (fun r s => rs_c2_b r s) rs_c2_s (V 5) (by omega) ?_
              rw [rx_w_of (by omega) (by omega)]
              show if rs_ownc (V 5) V (rs_c2 V T) r ≤ mo then _ else _
              unfold rs_dear
              by_cases g : mo < rs_ownc (V 5) V (rs_c2 V T) r
              · rw [if_neg (by omega), if_pos g]
                exact ih (r + 1) _ _ _ (by omega) (by omega)
              · rw [if_pos (by omega), if_neg g]
                exact ih (r + 1) _ _ _ (by omega) (by omega)
          exact key (V 0 6).toNat 0 0 (-1) _ (by omega) (by omega)
      · rw [if_neg c2]
        by_cases c1 : k = 1
        · rw [if_neg (fun q => q c1)]
          refine n_straight1 hM2 hw hC2 (fun r s => rs_c2_b r s) (V 5) ?_
          rw [v1 c1]
          exact fin _ σ1 σ2 hf hf2
        · rw [if_pos c1]
          refine n_straight0 hM2 hw hC2 (fun r s => rs_c2_b r s) (V 5) ?_
          rw [v0 (by omega)]
          exact fin _ σ1 σ2 hf hf2
    · rw [if_neg (by decide), v3 c]
      exact fin _ σ1 σ1 hf (fun _ _ _ _ _ => rfl)
  refine bX10_straight L (d + 5) k σ _ ?_
  by_cases c2 : k = 2
  · rw [if_neg (fun q => q c2)]
    refine bX10_dearestRoad L (d + 4) σ _ ?_
    refine c_pairsThatMeet rfl hC hw ?_
    by_cases z : rs_ps (V 0 6) (fun r s => b01 (rs_meet (V 5) V 0 r s)) = 0
    · rw [if_neg (fun q => q z)]
      exact hmod _ σ (fun _ _ _ _ => rfl) (fun q => by omega) (fun q => by omega) (fun _ => by rw [if_pos z]) (fun q => by omega)
    · rw [if_pos z]
      refine c_reckon rfl hC hw b1 b2 (fun σ1 hC1 hf1 => ?_)
      have hV1 : ld_C 1 V σ1 := ld_Cfr hC (fun c h1 h2 => hf1 c (by omega) (by omega) (by omega))
      have e1 : σ1 1 = V 0 := ld_C0 hV1
      have key : ∀ (n : Nat) (r b mo : Int) (q4 : Option rx_V) (K : Int → rx_St → Prop), 0 ≤ r → r + n = V 0 6 → K (rs_dear (rs_ownc (V 5) V (rs_c2 V T)) n r b mo) σ1 → rx_Go L (d + 5) mX10_dearestRoad 31 [some (.inr 0), some (.inl b), some (.inl mo), some (.inl r), q4] [] σ1 (rx_PI K) := by
        intro n
        induction n with
        | zero =>
          intro r b mo q4 K r0 hr hK
          refine bX10_dearestRoad_31 L (d + 4) b mo r q4 σ1 K ?_
          rw [e1, if_pos (by omega)]
          exact hK
        | succ n ih =>
          intro r b mo q4 K r0 hr hK
          refine bX10_dearestRoad_31 L (d + 4) b mo r q4 σ1 K ?_
          rw [e1, if_neg (by omega)]
          refine c_straightSumOf rfl hV1 hw hC1 (fun r s => rs_c2_b r s) (by omega) ?_
          rw [rx_w_of (by omega) (by omega)]
          unfold rs_dear at hK
          by_cases g : mo < rs_ownc (V 5) V (rs_c2 V T) r
          · rw [if_neg (by omega)]
            rw [if_pos g] at hK
            exact ih (r + 1) _ _ _ K (by omega) (by omega) hK
          · rw [if_pos (by omega)]
            rw [if_neg g] at hK
            exact ih (r + 1) _ _ _ K (by omega) (by omega) hK
      refine key (V 0 6).toNat 0 0 (-1) _ _ (by omega) (by omega) ?_
      exact hmod _ σ1 hf1 (fun q => by omega) (fun q => by omega) (fun _ => by rw [if_neg z]) (fun q => by omega)
  · rw [if_pos c2]
    refine c_crossingsTold hC hw b1 b2 (fun σ1 hf1 => ?_)
    unfold rs_told
    refine hmod _ σ1 hf1 (fun q => by rw [if_pos q]) (fun q => by rw [if_neg (by omega), if_pos q]) (fun q => absurd q c2) (fun q => by rw [if_neg (by omega), if_neg (by omega)])
end STR
