/-! ===== the best row: the model ===== -/
section RWM
variable {L d : Nat} {σ V W T : rx_St} {S : Int → Int} {Q : Int → Int → rx_St → Prop} {K : Int → rx_St → Prop} {KV : rx_St → Prop} {C : Int → Int → Int} {mem seat : Int → Int} {ly : Int}
def mr_f (σ σ' : rx_St) : Prop := (∀ c, c ≠ 125 → c ≠ 139 → c ≠ 140 → σ' c = σ c) ∧ ∀ i, i ≠ 20 → σ' 125 i = σ 125 i
theorem n_findMembers (hM : ld_M V (σ 126)) (hw : iv_Wf V) (h : ∀ σ', σ' 125 20 = rw_n (V 3) ly (V 0 0) → rw_A (V 3) ly (V 0 0) (σ' 139) → rw_A (fun i => V 3 (V 4 i)) ly (V 0 0) (σ' 140) → mr_f σ σ' → KV σ') : rx_CV L (d + 1) mX11_findMembers [.inr 125, .inl ly] σ KV := by
  have hn := wf_n hw
  refine bX11_findMembers L d ly σ KV ?_
  have key : ∀ (k : Nat) (p : Int) (σ1 : rx_St), 0 ≤ p → p + k = V 0 0 → mr_f σ σ1 → σ1 125 20 = rw_n (V 3) ly p → rw_A (V 3) ly p (σ1 139) → rw_A (fun i => V 3 (V 4 i)) ly p (σ1 140) → rx_Go L (d + 1) mX11_findMembers 9 [some (.inr 125), some (.inl ly), some (.inl (rw_n (fun i => V 3 (V 4 i)) ly p)), some (.inl p)] [] σ1 (rx_PV KV) := by
    intro k
    induction k with
    | zero =>
      intro p σ1 p0 hp hf h20 h139 h140
      refine bX11_findMembers_9 L d ly _ p σ1 KV ?_
      rw [hf.1 126 (by decide) (by decide) (by decide), ld_Mn hM, if_pos (by omega)]
      rw [show p = V 0 0 by omega] at h20 h139 h140
      exact h σ1 h20 h139 h140 hf
    | succ k ih =>
      intro p σ1 p0 hp hf h20 h139 h140
      have e126 : σ1 126 = σ 126 := hf.1 126 (by decide) (by decide) (by decide)
      have hM1 : ld_M V (σ1 126) := by rw [e126]; exact hM
      have hpp := wf_p hw p0 (show p < V 0 0 by omega)
      have b1 := rw_nB (f := V 3) (ly := ly) p0
      have b2 := rw_nB (f := fun i => V 3 (V 4 i)) (ly := ly) p0
      have s1 := rw_nS (f := V 3) (ly := ly) p0
      have s2 := rw_nS (f := fun i => V 3 (V 4 i)) (ly := ly) p0
      refine bX11_findMembers_9 L d ly _ p σ1 KV ?_
      rw [ld_Mn hM1, if_neg (by omega)]
      refine n_layerOf hM1 (by omega) ?_
      rw [up_c (show (126 : Nat) ≠ 125 by decide), up_c (show (126 : Nat) ≠ 139 by decide), up_c (show (125 : Nat) ≠ 139 by decide), h20]
      simp (disch := omega) only [rx_w_of]
      rw [ld_Mli hM1 p0 (by omega)]
      -- the seat
      have seats : ∀ σ2 : rx_St, mr_f σ σ2 → σ2 125 20 = rw_n (V 3) ly (p + 1) → rw_A (V 3) ly (p + 1) (σ2 139) → rw_A (fun i => V 3 (V 4 i)) ly p (σ2 140) → (V 3 (V 4 p) ≠ ly → rx_Go L (d + 1) mX11_findMembers 9 [some (.inr 125), some (.inl ly), some (.inl (rw_n (fun i => V 3 (V 4 i)) ly p)), some (.inl (p + 1))] [] σ2 (rx_PV KV)) ∧ (V 3 (V 4 p) = ly → rx_Go L (d + 1) mX11_findMembers 9 [some (.inr 125), some (.inl ly), some (.inl (rw_n (fun i => V 3 (V 4 i)) ly p + 1)), some (.inl (p + 1))] [] (rx_up σ2 140 (rw_n (fun i => V 3 (V 4 i)) ly p) p) (rx_PV KV)) := by
        intro σ2 a1 a2 a3 a4
        refine ⟨fun c => ?_, fun c => ?_⟩
        · have := ih (p + 1) σ2 (by omega) (by omega) a1 a2 a3 (fun q q0 q1 hq => a4 q q0 (by have : q ≠ p := (fun e => c (by rw [← e]; exact hq)); omega) hq)
          rw [s2, if_neg c, Int.add_zero] at this
          exact this
        · have := ih (p + 1) (rx_up σ2 140 (rw_n (fun i => V 3 (V 4 i)) ly p) p) (by omega) (by omega) ⟨fun x h1 h2 h3 => by rw [up_c h3]; exact a1.1 x h1 h2 h3, fun i hi => by rw [up_c (by decide)]; exact a1.2 i hi⟩ (by rw [up_c (by decide)]; exact a2) (by rw [up_c (by decide)]; exact a3) (fun q q0 q1 hq => ?_)
          · rw [s2, if_pos c] at this
            exact this
          · by_cases e : q = p
            · rw [e, up_s]
            · have := rw_nL (f := fun i => V 3 (V 4 i)) (ly := ly) q0 (show q < p by omega) hq
              rw [up_i (by omega)]
              exact a4 q q0 (by omega) hq
      by_cases c : V 3 p = ly
      · rw [if_neg (fun q => q c)]
        refine ⟨by omega, by omega, ?_⟩
        have a := seats (rx_up (rx_up σ1 139 (rw_n (V 3) ly p) p) 125 20 (rw_n (V 3) ly p + 1)) ⟨fun x h1 h2 h3 => by rw [up_c h1, up_c h2]; exact hf.1 x h1 h2 h3, fun i hi => by rw [up_i hi, up_c (by decide)]; exact hf.2 i hi⟩ (by rw [up_s, s1, if_pos c]) (fun q q0 q1 hq => ?_) (by rw [up_c (by decide), up_c (by decide)]; exact h140)
        · refine n_layerOf (V := V) (by rw [up_c (by decide), up_c (by decide)]; exact hM1) (by omega) ?_
          by_cases c2 : V 3 (V 4 p) = ly
          · rw [if_neg (fun q => q c2)]
            exact ⟨by omega, a.2 c2⟩
          · rw [if_pos c2]
            exact a.1 c2
        · rw [up_c (by decide)]
          by_cases e : q = p
          · rw [e, up_s]
          · have := rw_nL (f := V 3) (ly := ly) q0 (show q < p by omega) hq
            rw [up_i (by omega)]
            exact h139 q q0 (by omega) hq
      · rw [if_pos c]
        refine ⟨by omega, n_layerOf hM1 (by omega) ?_⟩
        have a := seats σ1 hf (by rw [s1, if_neg c, Int.add_zero]; exact h20) (fun q q0 q1 hq => h139 q q0 (by have : q ≠ p := (fun e => c (by rw [← e]; exact hq)); omega) hq) h140
        by_cases c2 : V 3 (V 4 p) = ly
        · rw [if_neg (fun q => q c2)]
          exact ⟨by omega, a.2 c2⟩
        · rw [if_pos c2]
          exact a.1 c2
  exact key (V 0 0).toNat 0 _ (by omega) (by omega) ⟨fun c h1 h2 h3 => up_c h1, fun i hi => up_i hi⟩ up_s (fun q q0 q1 => by omega) (fun q q0 q1 => by omega)
def mr_R (s : Nat) (B : Option (Int × (Int → Int))) (x : Int) (σ : rx_St) : Prop := (B = none → x = -1) ∧ (∀ b, B = some b → x = b.1 ∧ 0 ≤ b.1 ∧ ∀ i : Int, 0 ≤ i → i < s → σ 138 i = b.2 i)
theorem n_rows (hM : ld_M V (σ 126)) (hw : iv_Wf V) (hC : rk_M C (V 0 6) σ) (hCb : ∀ r s, 0 ≤ C r s ∧ C r s ≤ 999) {s : Nat} (hs5 : s ≤ 5) (hs : (s : Int) = rw_n (V 3) ly (V 0 0)) (hmem : rw_A (V 3) ly (V 0 0) mem) (hse : rw_A (fun i => V 3 (V 4 i)) ly (V 0 0) seat) {what : Int} {q1 : Option rx_V} (hwh : what < s) (hfin : ∀ b σ', rw_B (rw_v V C ly mem seat s) (rw_o mem s) (rw_f s) = some b → (∀ i : Int, 0 ≤ i → i < s → σ' 138 i = b.2 i) → (∀ c, c ≠ 133 → c ≠ 138 → c ≠ 141 → σ' c = σ c) → (0 ≤ what → K (b.2 what) σ') ∧ (what < 0 → K b.1 σ')) : ∀ (k w : Nat) (x : Int) (q6 q7 : Option rx_V) (σ1 : rx_St), w + k = rw_f s → σ1 125 20 = s → (∀ i : Int, 0 ≤ i → i < s → σ1 139 i = mem i ∧ σ1 140 i = seat i) → (∀ q, 0 ≤ q → q < V 0 0 → V 3 q ≠ ly → σ1 133 q = V 5 q) → mr_R s (rw_B (rw_v V C ly mem seat s) (rw_o mem s) w) x σ1 → (∀ c, c ≠ 133 → c ≠ 138 → c ≠ 141 → σ1 c = σ c) → rx_Go L (d + 5) mX11_bestRow 83 [some (.inr 125), q1, some (.inl what), some (.inl (rw_f s : Int)), some (.inl x), some (.inl (w : Int)), q6, q7] [] σ1 (rx_PI K) := by
  have hn := wf_n hw
  have h120 := rw_120 hs5
  intro k
  induction k with
  | zero =>
    intro w x q6 q7 σ1 hk h20 hms hP hR hf
    refine bX11_bestRow_83 L (d + 4) q1 what _ x _ q6 q7 σ1 K ?_
    rw [if_pos (by omega)]
    have hne : rw_B (rw_v V C ly mem seat s) (rw_o mem s) (rw_f s) ≠ none := by
      rw [show rw_f s = (rw_f s - 1) + 1 by omega]
      exact rw_Bne _
    rw [show w = rw_f s by omega] at hR
    cases hB : rw_B (rw_v V C ly mem seat s) (rw_o mem s) (rw_f s) with
    | none => exact absurd hB hne
    | some b =>
      obtain ⟨e1, e2, e3⟩ := hR.2 b hB
      have := hfin b σ1 hB e3 hf
      by_cases z : 0 ≤ what
      · rw [if_pos z, e3 what z hwh]
        exact ⟨by omega, this.1 z⟩
      · rw [if_neg z, e1]
        exact this.2 (by omega)
  | succ k ih =>
    intro w x q6 q7 σ1 hk h20 hms hP hR hf
    have hww : w < rw_f s := by omega
    obtain ⟨o1, o2, o3⟩ := rw_ok hw hs5 hs hmem hww
    obtain ⟨l, hl, f1, f2, f3, f4, f5⟩ := rw_fact hs5 hww
    have eo : ∀ i, rw_o mem s w i = mem (rw_at l i) := fun i => by unfold rw_o; rw [hl]; rfl
    have hmb : ∀ i, 0 ≤ i → i < (s : Int) → 0 ≤ mem i ∧ mem i < 8 := fun i i0 i1 => by
      have := rw_Ai hmem hn.1 i0 (by omega)
      omega
    refine bX11_bestRow_83 L (d + 4) q1 what _ x _ q6 q7 σ1 K ?_
    rw [if_neg (by omega)]
    refine n_sits (mem := mem) (seat := seat) hs5 hl hmb h20 hms f1 (fun i j i0 i1 j0 j1 e => o2 i j i0 i1 j0 j1 (by rw [eo, eo]; exact e)) (fun σ2 a1 a2 a3 a4 => ?_)
    have hP2 : ∀ q, 0 ≤ q → q < V 0 0 → V 3 q ≠ ly → σ2 133 q = V 5 q := fun q q0 q1 hq => by
      rw [a3 q (fun i i0 i1 e => hq ?_)]
      · exact hP q q0 q1 hq
      · rw [← e, ← eo]
        exact (o1 i i0 i1).2.2
    have hf2 : ∀ c, c ≠ 133 → c ≠ 138 → c ≠ 141 → σ2 c = σ c := fun c h1 h2 h3 => by rw [a4 c h1 h3]; exact hf c h1 h2 h3
    have h202 : σ2 125 20 = s := by rw [a4 125 (by decide) (by decide)]; exact h20
    have hms2 : ∀ i : Int, 0 ≤ i → i < s → σ2 139 i = mem i ∧ σ2 140 i = seat i := fun i i0 i1 => by
      rw [a4 139 (by decide) (by decide), a4 140 (by decide) (by decide)]
      exact hms i i0 i1
    have etot : rs_ps (V 0 6) (rs_g (σ2 133) V 2 C 1) = rw_v V C ly mem seat s w := by
      have e1 : rs_ps (V 0 6) (rs_g (σ2 133) V 2 C 1) = rs_tot (σ2 133) V 2 C := by
        unfold rs_tot
        refine rs_ps_congr (fun r t _ _ _ => ?_)
        unfold rs_g
        rw [if_pos rfl]
      rw [e1]
      exact rw_tot hw (fun _ _ _ _ _ => rfl) (fun q q0 q1 => rw_Pd o2 o3 (fun i i0 i1 => by rw [eo]; exact a2 i i0 i1) hP2 q0 q1)
    refine n_layered (V := V) (P := σ2 133) (C := C) (by rw [hf2 126 (by decide) (by decide) (by decide)]; exact hM) hw (fun _ _ _ => rfl) (fun r t r0 r1 t0 t1 rt => by rw [hf2 130 (by decide) (by decide) (by decide)]; exact hC r t r0 r1 t0 t1 rt) hCb (Or.inr rfl) ?_
    rw [etot]
    have vb : 0 ≤ rw_v V C ly mem seat s w := (rs_tot_b (P := rw_P V ly seat s (rw_o mem s w)) (w := 2) hw hCb).1
    -- on to the next way
    have on : ∀ (x : Int) (σ3 : rx_St) (q6 q7 : Option rx_V), σ3 125 20 = s → (∀ i : Int, 0 ≤ i → i < s → σ3 139 i = mem i ∧ σ3 140 i = seat i) → (∀ q, 0 ≤ q → q < V 0 0 → V 3 q ≠ ly → σ3 133 q = V 5 q) → mr_R s (rw_B (rw_v V C ly mem seat s) (rw_o mem s) (w + 1)) x σ3 → (∀ c, c ≠ 133 → c ≠ 138 → c ≠ 141 → σ3 c = σ c) → rx_Go L (d + 5) mX11_bestRow 151 [some (.inr 125), q1, some (.inl what), some (.inl (rw_f s : Int)), some (.inl x), some (.inl (w : Int)), q6, q7] [] σ3 (rx_PI K) := by
      intro x σ3 q6 q7 b1 b2 b3 b4 b5
      refine bX11_bestRow_151 L (d + 4) q1 what _ x _ q6 q7 σ3 K ?_
      rw [rx_w_of (by omega) (by omega)]
      exact ih (w + 1) x q6 q7 σ3 (by omega) b1 b2 b3 b4 b5
    have yes : rw_B (rw_v V C ly mem seat s) (rw_o mem s) (w + 1) = some (rw_v V C ly mem seat s w, rw_o mem s w) → ∀ q4 q7, rx_Go L (d + 5) mX11_bestRow 115 [some (.inr 125), q1, some (.inl what), some (.inl (rw_f s : Int)), q4, some (.inl (w : Int)), some (.inl (rw_v V C ly mem seat s w)), q7] [] σ2 (rx_PI K) := by
      intro eB q4 q7
      refine bX11_bestRow_115 L (d + 4) q1 what _ q4 _ _ q7 σ2 K ?_
      have copy : ∀ (j : Nat) (i : Int) (σ3 : rx_St), 0 ≤ i → i + j = s → (∀ a : Int, 0 ≤ a → a < i → σ3 138 a = rw_o mem s w a) → (∀ c, c ≠ 138 → σ3 c = σ2 c) → rx_Go L (d + 5) mX11_bestRow 122 [some (.inr 125), q1, some (.inl what), some (.inl (rw_f s : Int)), some (.inl (rw_v V C ly mem seat s w)), some (.inl (w : Int)), some (.inl (rw_v V C ly mem seat s w)), some (.inl i)] [] σ3 (rx_PI K) := by
        intro j
        induction j with
        | zero =>
          intro i σ3 i0 hi h138 hf3
          refine bX11_bestRow_122 L (d + 4) q1 what _ _ _ _ i σ3 K ?_
          rw [hf3 125 (by decide), h202, if_pos (by omega)]
          refine on _ σ3 _ _ (by rw [hf3 125 (by decide)]; exact h202) (fun i i0 i1 => by rw [hf3 139 (by decide), hf3 140 (by decide)]; exact hms2 i i0 i1) (fun q q0 q1 hq => by rw [hf3 133 (by decide)]; exact hP2 q q0 q1 hq) ⟨(fun q => by rw [eB] at q; cases q), (fun b q => ?_)⟩ (fun c h1 h2 h3 => by rw [hf3 c h2]; exact hf2 c h1 h2 h3)
          rw [eB] at q
          cases q
          exact ⟨rfl, vb, fun i i0 i1 => h138 i i0 (by omega)⟩
        | succ j ihj =>
          intro i σ3 i0 hi h138 hf3
          refine bX11_bestRow_122 L (d + 4) q1 what _ _ _ _ i σ3 K ?_
          rw [hf3 125 (by decide), h202, if_neg (by omega), rx_w_of (by omega) (by omega)]
          refine ⟨by omega, ihj (i + 1) _ (by omega) (by omega) (fun a a0 a1' => ?_) (fun c hc => by rw [up_c hc]; exact hf3 c hc)⟩
          by_cases e : a = i
          · rw [up_e e, hf3 141 (by decide), a1 i i0 (by omega), e, eo]
          · rw [up_i e]
            exact h138 a a0 (by omega)
      exact copy s 0 σ2 (by omega) (by omega) (fun a a0 a1 => by omega) (fun _ _ => rfl)
    cases hB : rw_B (rw_v V C ly mem seat s) (rw_o mem s) w with
    | none =>
      have e1 := hR.1 hB
      rw [e1, if_pos (by decide)]
      exact yes (rw_B0 hB) _ _
    | some b =>
      obtain ⟨e1, e2, e3⟩ := hR.2 b hB
      rw [e1, if_neg (by omega)]
      by_cases c : rw_v V C ly mem seat s w < b.1
      · rw [if_neg (by omega)]
        exact yes (rw_By hB c) _ _
      · rw [if_pos (by omega)]
        refine on _ σ2 _ _ h202 hms2 hP2 ⟨(fun q => by rw [rw_Bn hB c] at q; cases q), (fun b' q => ?_)⟩ hf2
        rw [rw_Bn hB c] at q
        cases q
        exact ⟨rfl, e2, fun i i0 i1 => by rw [a4 138 (by decide) (by decide)]; exact e3 i i0 i1⟩
theorem n_ways {s : Nat} (hs5 : s ≤ 5) (h20 : σ 125 20 = s) {q1 : Option rx_V} {what : Int} (h : ∀ q6 q7, rx_Go L (d + 5) mX11_bestRow 83 [some (.inr 125), q1, some (.inl what), some (.inl (rw_f s : Int)), some (.inl (-1)), some (.inl 0), q6, q7] [] σ (rx_PI K)) : rx_Go L (d + 5) mX11_bestRow 57 [some (.inr 125), q1, some (.inl what), some (.inl 1), some (.inl 2), none, none, none] [] σ (rx_PI K) := by
  have key : ∀ (j k : Nat) (q5 q6 q7 : Option rx_V), 1 ≤ k → k + j = s → rx_Go L (d + 5) mX11_bestRow 57 [some (.inr 125), q1, some (.inl what), some (.inl (rw_f k : Int)), some (.inl ((k : Int) + 1)), q5, q6, q7] [] σ (rx_PI K) := by
    intro j
    induction j with
    | zero =>
      intro k q5 q6 q7 k1 hk
      refine bX11_bestRow_57 L (d + 4) q1 what _ _ q5 q6 q7 σ K ?_
      rw [h20, if_pos (by omega), show k = s by omega]
      exact h _ _
    | succ j ih =>
      intro k q5 q6 q7 k1 hk
      refine bX11_bestRow_57 L (d + 4) q1 what _ _ q5 q6 q7 σ K ?_
      have e : (rw_f k : Int) * ((k : Int) + 1) = (rw_f (k + 1) : Int) := by
        show _ = (((k + 1) * rw_f k : Nat) : Int)
        rw [Int.natCast_mul, Int.mul_comm]
        rfl
      have h120 := rw_120 (s := k + 1) (by omega)
      rw [h20, if_neg (by omega), e, rx_w_of (by omega) (by omega), rx_w_of (by omega) (by omega)]
      have := ih (k + 1) q5 q6 q7 (by omega) (by omega)
      rw [show ((k + 1 : Nat) : Int) + 1 = (k : Int) + 1 + 1 by omega] at this
      exact this
  by_cases z : s = 0
  · refine bX11_bestRow_57 L (d + 4) q1 what _ _ _ _ _ σ K ?_
    rw [h20, if_pos (by omega)]
    rw [z] at h
    exact h _ _
  · exact key (s - 1) 1 none none none (by omega) (by omega)
theorem o_bestRow {ly what : Int} (h : iv_A S V T σ) (hQ : ∀ v σ', Inv S σ' → Q v v σ') :
    rx_CI L (d + 6) mX10_bestRow [.inr 0, .inl ly, .inl what] σ (fun v1 σ1 => rx_CI L (d + 6) mX11_bestRow [.inr 125, .inl ly, .inl what] σ1 (fun v2 σ2 => Q v1 v2 σ2)) := by
  have hw := h.1
  have hC := h.2.1
  have hM := h.2.2.1
  have hn := wf_n hw
  obtain ⟨b1, b2, b3, b4⟩ := h.2.2.2.2.1
  have hCb : ∀ r s, 0 ≤ rs_c2 V T r s ∧ rs_c2 V T r s ≤ 999 := fun r s => rs_c2_b r s
  have hb := rw_nB (f := V 3) (ly := ly) hn.1
  refine bX10_bestRow L (d + 5) ly what σ _ ?_
  refine s_isLayer (fun c1 => ?_) (fun c1 => ?_)
  · rw [if_neg (by decide)]
    by_cases c2 : -1 ≤ what
    · rw [if_pos c2]
      refine c_postsOf rfl hC hw ?_
      -- what the model does behind the same doors
      have mod : ∀ (σ1 : rx_St) (v : Int), iv_A S V T σ1 → (5 < rw_n (V 3) ly (V 0 0) → v = -1000000002) → (rw_n (V 3) ly (V 0 0) ≤ 5 → rw_n (V 3) ly (V 0 0) ≤ what → v = -1000000005) → (rw_n (V 3) ly (V 0 0) ≤ 5 → what < rw_n (V 3) ly (V 0 0) → ∃ mem seat b, rw_A (V 3) ly (V 0 0) mem ∧ rw_A (fun i => V 3 (V 4 i)) ly (V 0 0) seat ∧ rw_B (rw_v V (rs_c2 V T) ly mem seat (rw_n (V 3) ly (V 0 0)).toNat) (rw_o mem (rw_n (V 3) ly (V 0 0)).toNat) (rw_f (rw_n (V 3) ly (V 0 0)).toNat) = some b ∧ (0 ≤ what → v = b.2 what) ∧ (what < 0 → v = b.1)) → rx_CI L (d + 6) mX11_bestRow [.inr 125, .inl ly, .inl what] σ1 (fun v2 σ2 => Q v v2 σ2) := by
        intro σ1 v hA1 v1 v2 v3
        refine bX11_bestRow L (d + 5) ly what σ1 _ ?_
        refine m_in (fun c => ?_) (fun c => by omega)
        rw [if_neg (by decide), if_pos c2]
        refine n_findMembers hA1.2.2.1 hw (fun σ2 h20 h139 h140 hf2 => ?_)
        have hfr2 : ∀ c i, fr_k c i → σ2 c i = σ1 c i := fun c i hk => by
          unfold fr_k at hk
          by_cases e : c = 125
          · rw [e, hf2.2 i (by omega)]
          · rw [hf2.1 c e (by omega) (by omega)]
        have hA2 : iv_A S V T σ2 := iv_fr hA1 hfr2
        rw [h20]
        by_cases c3 : rw_n (V 3) ly (V 0 0) ≤ 5
        · rw [if_pos c3]
          by_cases c4 : what < rw_n (V 3) ly (V 0 0)
          · rw [if_pos c4]
            obtain ⟨mem, seat, b, m1, m2, m3, m4, m5⟩ := v3 c3 c4
            clear v3
            generalize es : (rw_n (V 3) ly (V 0 0)).toNat = s at *
            have hs : (s : Int) = rw_n (V 3) ly (V 0 0) := by omega
            refine n_findPairs (V := V) (T := T) hA2.2.2.1 hw hA2.2.2.2.2.1.2.2.1 b2 (fun σ3 hC3 hf3 => ?_)
            have hM3 : ld_M V (σ3 126) := by rw [hf3 126 (by decide) (by decide) (by decide) (by decide)]; exact hA2.2.2.1
            refine n_findPlaces hM3 hw (fun σ4 hP4 hf4 => ?_)
            have h204 : σ4 125 20 = s := by rw [hf4 125 (by decide), hf3 125 (by decide) (by decide) (by decide) (by decide), h20]; exact hs.symm
            refine n_ways (d := d + 1) (s := s) (by omega) h204 (fun q6 q7 => ?_)
            refine n_rows (d := d + 1) (σ := σ4) (V := V) (C := rs_c2 V T) (mem := mem) (seat := seat) (ly := ly) (by rw [hf4 126 (by decide)]; exact hM3) hw (fun r t r0 r1 t0 t1 rt => by rw [hf4 130 (by decide)]; exact hC3 r t r0 r1 t0 t1 rt) hCb (s := s) (by omega) hs m1 m2 (by omega) (fun b' σ5 hb' h138 hf5 => ?_) (rw_f s) 0 (-1) q6 q7 σ4 (by omega) h204 (fun i i0 i1 => ?_) (fun q q0 q1 _ => hP4 q q0 q1) ⟨(fun _ => rfl), (fun b q => by cases q)⟩ (fun _ _ _ _ => rfl)
            · rw [m3] at hb'
              cases hb'
              have hI : Inv S σ5 := ⟨V, T, iv_fr hA2 (fun c i hk => by
                unfold fr_k at hk
                rw [hf5 c (by omega) (by omega) (by omega), hf4 c (by omega), hf3 c (by omega) (by omega) (by omega) (by omega)])⟩
              refine ⟨fun z => ?_, fun z => ?_⟩
              · rw [m4 z]
                exact hQ _ _ hI
              · rw [m5 z]
                exact hQ _ _ hI
            · rw [hf4 139 (by decide), hf4 140 (by decide), hf3 139 (by decide) (by decide) (by decide) (by decide), hf3 140 (by decide) (by decide) (by decide) (by decide)]
              exact ⟨rw_Ae h139 m1 hn.1 i0 (by omega), rw_Ae h140 m2 hn.1 i0 (by rw [rw_seats hw]; omega)⟩
          · rw [if_neg c4, v2 c3 (by omega)]
            exact hQ _ _ ⟨V, T, hA2⟩
        · rw [if_neg c3, v1 (by omega)]
          exact hQ _ _ ⟨V, T, hA2⟩
      by_cases c3 : rw_n (V 3) ly (V 0 0) ≤ 5
      · rw [if_pos c3]
        by_cases c4 : what < rw_n (V 3) ly (V 0 0)
        · rw [if_pos c4]
          refine c_reckon rfl hC hw b1 b2 (fun σ1 hC1 hf1 => ?_)
          have hV1 : ld_C 1 V σ1 := ld_Cfr hC (fun c h1 h2 => hf1 c (by omega) (by omega) (by omega))
          refine c_takeFrom (d := d + 4) rfl rfl (by decide) hV1 (fun σ2 W hV2 hW2 hf2 => ?_)
          have hs : (((rw_n (V 3) ly (V 0 0)).toNat : Nat) : Int) = rw_n (V 3) ly (V 0 0) := by omega
          refine c_search6 (d := d + 1) hV2 hw hW2 (fun r t r0 r1 t0 t1 rt => by have hm := wf_m hw; rw [hf2 _ (by omega)]; exact hC1 r t r0 r1 t0 t1 rt) hCb (s := (rw_n (V 3) ly (V 0 0)).toNat) (by omega) hs (fun mem seat σ3 m1 m2 hR hf3 => ?_)
          have hA3 : iv_A S V T σ3 := iv_fr h (fun c i hk => by
            unfold fr_k at hk
            rw [hf3 c (by omega), hf2 c (by omega), hf1 c (by omega) (by omega) (by omega)])
          have h120 := rw_120 (s := (rw_n (V 3) ly (V 0 0)).toNat) (by omega)
          have hne : rw_B (rw_v V (rs_c2 V T) ly mem seat (rw_n (V 3) ly (V 0 0)).toNat) (rw_o mem (rw_n (V 3) ly (V 0 0)).toNat) (rw_f (rw_n (V 3) ly (V 0 0)).toNat) ≠ none := by
            rw [show rw_f (rw_n (V 3) ly (V 0 0)).toNat = (rw_f (rw_n (V 3) ly (V 0 0)).toNat - 1) + 1 by omega]
            exact rw_Bne _
          cases hB : rw_B (rw_v V (rs_c2 V T) ly mem seat (rw_n (V 3) ly (V 0 0)).toNat) (rw_o mem (rw_n (V 3) ly (V 0 0)).toNat) (rw_f (rw_n (V 3) ly (V 0 0)).toNat) with
          | none => exact absurd hB hne
          | some b =>
            obtain ⟨e1, e2, e3, e4⟩ := hR.2 b hB
            by_cases z : what = -1
            · rw [if_neg (fun q => q z), e1]
              exact mod σ3 _ hA3 (fun q => by omega) (fun _ q => by omega) (fun _ _ => ⟨mem, seat, b, m1, m2, hB, (fun q => by omega), (fun _ => rfl)⟩)
            · rw [if_pos z, e4 what (by omega) (by omega)]
              exact ⟨by omega, mod σ3 _ hA3 (fun q => by omega) (fun _ q => by omega) (fun _ _ => ⟨mem, seat, b, m1, m2, hB, (fun _ => rfl), (fun q => by omega)⟩)⟩
        · rw [if_neg c4]
          exact mod σ _ h (fun q => by omega) (fun _ _ => rfl) (fun _ q => absurd q c4)
      · rw [if_neg c3]
        exact mod σ _ h (fun _ => rfl) (fun q => absurd q c3) (fun q => absurd q c3)
    · rw [if_neg c2]
      refine bX11_bestRow L (d + 5) ly what σ _ ?_
      refine m_in (fun c => ?_) (fun c => by omega)
      rw [if_neg (by decide), if_neg c2]
      exact o_same h hQ _
  · rw [if_pos rfl]
    refine bX11_bestRow L (d + 5) ly what σ _ ?_
    refine m_in (fun c => by omega) (fun c => ?_)
    rw [if_pos rfl]
    exact o_same h hQ _
end RWM
