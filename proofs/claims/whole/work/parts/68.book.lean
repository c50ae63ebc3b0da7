/-- where posts stand in the line, as the model has it for a while -/
def pl_M (P : Int → Int) (n : Int) (σ : rx_St) : Prop := ∀ p, 0 ≤ p → p < n → σ 133 p = P p
section BOOK
variable {L d : Nat} {σ V T : rx_St} {S : Int → Int} {Q : Int → Int → rx_St → Prop} {K : Int → rx_St → Prop} {KV : rx_St → Prop} {C : Int → Int → Int} {P : Int → Int}
theorem n_findPlaces (hM : ld_M V (σ 126)) (hw : iv_Wf V) (h : ∀ σ', pl_M (V 5) (V 0 0) σ' → (∀ c, c ≠ 133 → σ' c = σ c) → KV σ') : rx_CV L d mX11_findPlaces [.inr 125] σ KV := by
  have hn := wf_n hw
  refine bX11_findPlaces L d σ KV ?_
  have key : ∀ (k : Nat) (i : Int) (σ1 : rx_St), 0 ≤ i → i + k = V 0 0 → (∀ c, c ≠ 133 → σ1 c = σ c) → (∀ j, 0 ≤ j → j < i → σ1 133 (V 4 j) = j) → rx_Go L d mX11_findPlaces 2 [some (.inr 125), some (.inl i)] [] σ1 (rx_PV KV) := by
    intro k
    induction k with
    | zero =>
      intro i σ1 i0 hi hf hp
      refine bX11_findPlaces_2 L d i σ1 KV ?_
      rw [hf 126 (by decide), ld_Mn hM, if_pos (by omega)]
      refine h σ1 (fun p p0 p1 => ?_) hf
      have hpp := wf_p hw p0 p1
      have := hp (V 5 p) (by omega) (by omega)
      rw [hpp.2.2.2.2] at this
      exact this
    | succ k ih =>
      intro i σ1 i0 hi hf hp
      refine bX11_findPlaces_2 L d i σ1 KV ?_
      rw [hf 126 (by decide), ld_Mn hM, if_neg (by omega)]
      simp (disch := omega) only [rx_w_of]
      rw [ld_Mli hM i0 (by omega)]
      have hpi := wf_p hw i0 (show i < V 0 0 by omega)
      refine ⟨by omega, by omega, ih (i + 1) _ (by omega) (by omega) (fun c hc => by rw [up_c hc]; exact hf c hc) (fun j j0 j1 => ?_)⟩
      by_cases e : j = i
      · rw [e, up_s]
      · have hpj := wf_p hw j0 (show j < V 0 0 by omega)
        have hne : V 4 j ≠ V 4 i := fun q => by
          have h1 := hpj.2.1.2.2
          have h2 := hpi.2.1.2.2
          rw [q] at h1
          omega
        rw [up_i hne]
        exact hp j j0 (by omega)
  exact key (V 0 0).toNat 0 σ (by omega) (by omega) (fun _ _ => rfl) (fun j j0 j1 => by omega)
theorem n_isWithin {p a b : Int} (h1 : rx_mn a b < p ∧ p < rx_mx a b → K 1 σ) (h0 : ¬ (rx_mn a b < p ∧ p < rx_mx a b) → K 0 σ) : rx_CI L d mX11_isWithin [.inr 125, .inl p, .inl a, .inl b] σ K := by
  refine bX11_isWithin L d p a b σ K ?_
  by_cases c1 : p ≤ rx_mn a b
  · rw [if_pos c1]
    exact h0 (by omega)
  rw [if_neg c1]
  by_cases c2 : rx_mx a b ≤ p
  · rw [if_pos c2]
    exact h0 (by omega)
  · rw [if_neg c2]
    exact h1 (by omega)
theorem n_doPass (hM : ld_M V (σ 126)) (hw : iv_Wf V) (hP : pl_M P (V 0 0) σ) {r s : Int} (hr : 0 ≤ r ∧ r < V 0 6) (hs : 0 ≤ s ∧ s < V 0 6) (h1 : ¬ rs_sh V r s ∧ rs_mL P V r s → K 1 σ) (h0 : ¬ (¬ rs_sh V r s ∧ rs_mL P V r s) → K 0 σ) : rx_CI L (d + 4) mX11_doPass [.inr 125, .inl r, .inl s] σ K := by
  have hn := wf_n hw
  have hm := wf_m hw
  have qr := wf_r hw hr.1 hr.2
  have qs := wf_r hw hs.1 hs.2
  rw [rs_mL_mm] at h1 h0
  refine bX11_doPass L (d + 3) r s σ K ?_
  refine n_lesser hM (by omega) ?_
  refine ⟨by omega, ?_⟩
  refine n_greater hM (by omega) ?_
  refine ⟨by omega, ?_⟩
  rw [hP (V 7 r) (by omega) (by omega), hP (V 8 r) (by omega) (by omega)]
  refine n_areApart hM (by omega) (by omega) (fun g => ?_) (fun g => ?_)
  · rw [if_neg (by decide)]
    refine n_lesser hM (by omega) ?_
    rw [hP (V 7 s) (by omega) (by omega)]
    refine ⟨by omega, ?_⟩
    refine n_isWithin (fun w1 => ?_) (fun w1 => ?_)
    · refine n_greater hM (by omega) ?_
      rw [hP (V 8 s) (by omega) (by omega)]
      refine ⟨by omega, ?_⟩
      refine n_isWithin (fun w2 => ?_) (fun w2 => ?_)
      · rw [if_pos rfl]
        exact h0 (fun q => q.2 ⟨fun _ => w2, fun _ => w1⟩)
      · rw [if_neg (by decide)]
        exact h1 ⟨g, fun q => w2 (q.mp w1)⟩
    · refine n_greater hM (by omega) ?_
      rw [hP (V 8 s) (by omega) (by omega)]
      refine ⟨by omega, ?_⟩
      refine n_isWithin (fun w2 => ?_) (fun w2 => ?_)
      · rw [if_neg (by decide)]
        exact h1 ⟨g, fun q => w1 (q.mpr w2)⟩
      · rw [if_pos rfl]
        exact h0 (fun q => q.2 ⟨fun z => absurd z w1, fun z => absurd z w2⟩)
  · rw [if_pos rfl]
    exact h0 (fun q => q.1 g)
/-- what is summed up: how many, or what they cost -/
noncomputable def rs_g (P : Int → Int) (V : rx_St) (w : Int) (C : Int → Int → Int) (k : Int) (r s : Int) : Int := if rs_meet P V w r s = true then (if k = 1 then C r s else 1) else 0
theorem rs_g_b (hCb : ∀ r s, 0 ≤ C r s ∧ C r s ≤ 999) (w k r s : Int) : 0 ≤ rs_g P V w C k r s ∧ rs_g P V w C k r s ≤ 999 := by
  have := hCb r s
  unfold rs_g
  split
  · split <;> omega
  · omega
theorem rs_g_told {w k : Int} (hk : k = 0 ∨ k = 1) : rs_ps (V 0 6) (rs_g (V 5) V w (rs_c2 V T) k) = rs_told V T w k := by
  unfold rs_told
  rcases hk with rfl | rfl
  · rw [if_pos rfl]
    refine rs_ps_congr (fun r s _ _ _ => ?_)
    unfold rs_g b01
    rw [if_neg (show ¬ (0 : Int) = 1 by decide)]
  · rw [if_neg (by decide), if_pos rfl]
    unfold rs_tot
    refine rs_ps_congr (fun r s _ _ _ => ?_)
    unfold rs_g
    rw [if_pos rfl]
theorem n_book (hM : ld_M V (σ 126)) (hw : iv_Wf V) (hP : pl_M P (V 0 0) σ) (hC : rk_M C (V 0 6) σ) (hCb : ∀ r s, 0 ≤ C r s ∧ C r s ≤ 999) {k : Int} (h : K (rs_ps (V 0 6) (rs_g P V 1 C k)) σ) : rx_Go L (d + 5) mX11_book 24 [some (.inr 125), some (.inl k), some (.inl 0), some (.inl 0), none, none] [] σ (rx_PI K) := by
  have hm := wf_m hw
  have e0 := ld_Mm hM
  refine dl_loop (m := V 0 6) (lim := 2147483647) (g := rs_g P V 1 C k) (K' := fun v => K v σ) (Out := fun r acc => ∀ q q6, rx_Go L (d + 5) mX11_book 24 [some (.inr 125), some (.inl k), some (.inl acc), some (.inl r), q, q6] [] σ (rx_PI K)) (In := fun r s acc => ∀ q6, rx_Go L (d + 5) mX11_book 39 [some (.inr 125), some (.inl k), some (.inl acc), some (.inl r), some (.inl s), q6] [] σ (rx_PI K)) hm (fun r s _ _ _ => rs_g_b hCb 1 k r s) ?_ ?_ ?_ none none
  · intro r acc r0 r1 a0 a1 k1 k2 k3 q q6
    refine bX11_book_24 L (d + 4) k acc r q q6 σ K ?_
    rw [e0]
    by_cases z : V 0 6 ≤ r
    · rw [if_pos z]
      exact k1 z
    · rw [if_neg z, rx_w_of (by omega) (by omega)]
      exact k3 (by omega) (by omega) _
  · intro r s acc r0 rs s1 a0 a1 k1 k2 q6
    refine bX11_book_39 L (d + 4) k acc r s q6 σ K ?_
    rw [e0]
    by_cases z : V 0 6 ≤ s
    · rw [if_pos z, rx_w_of (by omega) (by omega)]
      exact k1 (by omega) _ _
    rw [if_neg z]
    have k2 := k2 (by omega)
    refine n_of hM 4 (by omega) rfl (by omega) ?_
    refine n_of hM 4 (by omega) rfl (by omega) ?_
    rw [Int.add_zero, rx_w_of (x := s + 1) (by omega) (by omega), rx_w_of (x := acc) (by omega) (by omega), rx_w_of (x := acc + 1) (by omega) (by omega)]
    show if V 10 r ≠ V 10 s then _ else _
    have hno : rs_meet P V 1 r s = false → ∀ q, rx_Go L (d + 5) mX11_book 39 [some (.inr 125), some (.inl k), some (.inl acc), some (.inl r), some (.inl (s + 1)), q] [] σ (rx_PI K) := by
      intro g q
      have e : rs_g P V 1 C k r s = 0 := by unfold rs_g; rw [if_neg (by rw [g]; decide)]
      rw [e, Int.add_zero] at k2
      exact k2 q
    by_cases pg : V 10 r = V 10 s
    · rw [if_neg (fun q => q pg)]
      refine n_doPass hM hw hP (by omega) (by omega) (fun g => ?_) (fun g => ?_)
      · rw [if_neg (by decide)]
        have hy : rs_meet P V 1 r s = true := bo_t ⟨g.1, by rw [if_neg (by decide), if_pos rfl]; exact ⟨pg, g.2⟩⟩
        by_cases kk : k = 1
        · rw [if_neg (fun q => q kk), rx_w_of (x := 18 * r) (by omega) (by omega), rx_w_of (x := 18 * r + s) (by omega) (by omega), hC r s r0 (by omega) (by omega) (by omega) (by omega)]
          have := hCb r s
          rw [rx_w_of (by omega) (by omega)]
          have e : rs_g P V 1 C k r s = C r s := by unfold rs_g; rw [if_pos hy, if_pos kk]
          rw [e] at k2
          exact ⟨by omega, k2 _⟩
        · rw [if_pos kk]
          have e : rs_g P V 1 C k r s = 1 := by unfold rs_g; rw [if_pos hy, if_neg kk]
          rw [e] at k2
          exact k2 _
      · rw [if_pos rfl]
        refine hno (bo_f (fun q => g ⟨q.1, ?_⟩)) _
        have := q.2
        rw [if_neg (by decide), if_pos rfl] at this
        exact this.2
    · rw [if_pos pg]
      refine hno (bo_f (fun q => pg ?_)) _
      have := q.2
      rw [if_neg (by decide), if_pos rfl] at this
      exact this.1
  · intro v v0 hv
    rcases hv with rfl | ⟨g1, g2⟩
    · exact h
    · have := rs_ps_b (g := rs_g P V 1 C k) hm (fun r s _ _ _ => rs_g_b hCb 1 k r s)
      omega
theorem n_layerFrom (hM : ld_M V (σ 126)) (hw : iv_Wf V) {r : Int} (hr : 0 ≤ r ∧ r < V 0 6) (h : K (rs_up V r) σ) : rx_CI L (d + 2) mX11_layerFrom [.inr 125, .inl r] σ K := by
  have hn := wf_n hw
  have hm := wf_m hw
  have qr := wf_r hw hr.1 hr.2
  have p1 := (wf_p hw (p := V 7 r) (by omega) (by omega)).1.2.2
  have p2 := (wf_p hw (p := V 8 r) (by omega) (by omega)).1.2.2
  refine bX11_layerFrom L (d + 1) r σ K ?_
  refine n_lesser hM (by omega) ?_
  refine n_layerOf hM (by omega) ?_
  refine n_greater hM (by omega) ?_
  refine n_layerOf hM (by omega) ?_
  rw [rx_w_of (x := V 3 (V 8 r) + 1) (by omega) (by omega), rx_w_of (x := V 3 (V 7 r) + 1) (by omega) (by omega)]
  unfold rs_up at h
  by_cases c1 : V 3 (V 7 r) = V 3 (V 8 r) + 1
  · rw [if_neg (fun q => q c1)]
    rw [if_pos c1] at h
    exact h
  rw [if_pos c1]
  rw [if_neg c1] at h
  by_cases c2 : V 3 (V 8 r) = V 3 (V 7 r) + 1
  · rw [if_neg (fun q => q c2)]
    rw [if_pos c2] at h
    exact h
  · rw [if_pos c2]
    rw [if_neg c2] at h
    exact h
theorem n_endIn (hM : ld_M V (σ 126)) (hw : iv_Wf V) (hP : pl_M P (V 0 0) σ) {r l : Int} (hr : 0 ≤ r ∧ r < V 0 6) (h : K (P (rs_end V r l)) σ) : rx_CI L (d + 2) mX11_endIn [.inr 125, .inl r, .inl l] σ K := by
  have hn := wf_n hw
  have hm := wf_m hw
  have qr := wf_r hw hr.1 hr.2
  refine bX11_endIn L (d + 1) r l σ K ?_
  refine n_lesser hM (by omega) ?_
  refine n_layerOf hM (by omega) ?_
  unfold rs_end at h
  by_cases c : V 3 (V 7 r) = l
  · rw [if_neg (fun q => q c)]
    rw [if_pos c] at h
    refine n_lesser hM (by omega) ?_
    rw [hP (V 7 r) (by omega) (by omega)]
    exact ⟨by omega, h⟩
  · rw [if_pos c]
    rw [if_neg c] at h
    refine n_greater hM (by omega) ?_
    rw [hP (V 8 r) (by omega) (by omega)]
    exact ⟨by omega, h⟩
theorem n_layered (hM : ld_M V (σ 126)) (hw : iv_Wf V) (hP : pl_M P (V 0 0) σ) (hC : rk_M C (V 0 6) σ) (hCb : ∀ r s, 0 ≤ C r s ∧ C r s ≤ 999) {k : Int} (hk : k = 0 ∨ k = 1) (h : K (rs_ps (V 0 6) (rs_g P V 2 C k)) σ) : rx_CI L (d + 4) mX11_layered [.inr 125, .inl k] σ K := by
  have hm := wf_m hw
  have e0 := ld_Mm hM
  refine bX11_layered L (d + 3) k σ K ?_
  refine dl_loop (m := V 0 6) (lim := 2147483647) (g := rs_g P V 2 C k) (K' := fun v => K v σ) (Out := fun r acc => ∀ q4 q5 q6, rx_Go L (d + 4) mX11_layered 4 [some (.inr 125), some (.inl k), some (.inl acc), some (.inl r), q4, q5, q6] [] σ (rx_PI K)) (In := fun r s acc => (rs_up V r < 0 → ∀ q4 q5 q6, rx_Go L (d + 4) mX11_layered 4 [some (.inr 125), some (.inl k), some (.inl acc), some (.inl (r + 1)), q4, q5, q6] [] σ (rx_PI K)) ∧ (0 ≤ rs_up V r → ∀ q6, rx_Go L (d + 4) mX11_layered 26 [some (.inr 125), some (.inl k), some (.inl acc), some (.inl r), some (.inl (rs_up V r)), some (.inl s), q6] [] σ (rx_PI K))) hm (fun r s _ _ _ => rs_g_b hCb 2 k r s) ?_ ?_ ?_ none none none
  · intro r acc r0 r1 a0 a1 k1 k2 k3 q4 q5 q6
    refine bX11_layered_4 L (d + 3) k acc r q4 q5 q6 σ K ?_
    rw [e0]
    by_cases z : V 0 6 ≤ r
    · rw [if_pos z]
      exact k1 z
    · rw [if_neg z]
      refine n_layerFrom hM hw (by omega) ?_
      rw [rx_w_of (by omega) (by omega)]
      have k3 := k3 (by omega) (by omega)
      by_cases u : rs_up V r < 0
      · refine bX11_layered_26 L (d + 3) k acc r _ _ q6 σ K ?_
        have f161 : rx_Go L (d + 4) mX11_layered 161 [some (.inr 125), some (.inl k), some (.inl acc), some (.inl r), some (.inl (rs_up V r)), some (.inl (r + 1)), q6] [] σ (rx_PI K) := by
          refine bX11_layered_161 L (d + 3) k acc r _ _ _ σ K ?_
          rw [rx_w_of (by omega) (by omega)]
          exact k3.1 u _ _ _
        rw [e0]
        by_cases z2 : V 0 6 ≤ r + 1
        · rw [if_pos z2]
          exact f161
        · rw [if_neg z2, if_pos u]
          exact f161
      · exact k3.2 (by omega) _
  · intro r s acc r0 rs s1 a0 a1 k1 k2
    refine ⟨fun u q4 q5 q6 => ?_, fun u q6 => ?_⟩
    · by_cases z : s = V 0 6
      · exact k1 z _ _ _
      · have := (k2 (by omega)).1 u q4 q5 q6
        have e : rs_g P V 2 C k r s = 0 := by
          unfold rs_g
          rw [if_neg]
          intro q
          have := (bo_of q).2
          rw [if_neg (by decide), if_neg (by decide)] at this
          have := this.1
          omega
        rw [e, Int.add_zero] at this
        exact this
    · refine bX11_layered_26 L (d + 3) k acc r _ s q6 σ K ?_
      rw [e0]
      by_cases z : V 0 6 ≤ s
      · rw [if_pos z]
        refine bX11_layered_161 L (d + 3) k acc r _ _ _ σ K ?_
        rw [rx_w_of (by omega) (by omega)]
        exact k1 (by omega) _ _ _
      · rw [if_neg z, if_neg (by omega)]
        have k2 := (k2 (by omega)).2 u
        have f155 : ∀ (a : Int) q6, a = acc + rs_g P V 2 C k r s → rx_Go L (d + 4) mX11_layered 155 [some (.inr 125), some (.inl k), some (.inl a), some (.inl r), some (.inl (rs_up V r)), some (.inl s), q6] [] σ (rx_PI K) := by
          rintro a q6 rfl
          refine bX11_layered_155 L (d + 3) k _ r _ s q6 σ K ?_
          rw [rx_w_of (by omega) (by omega)]
          exact k2 q6
        have hno : ¬ (¬ rs_sh V r s ∧ rs_mY P V r s) → rs_g P V 2 C k r s = 0 := by
          intro hh
          unfold rs_g
          rw [if_neg]
          intro q
          have := bo_of q
          rw [if_neg (by decide), if_neg (by decide)] at this
          exact hh this
        refine n_layerFrom hM hw (by omega) ?_
        by_cases l2 : rs_up V s = rs_up V r
        · rw [if_neg (fun q => q l2)]
          refine n_areApart hM (by omega) (by omega) (fun g => ?_) (fun g => ?_)
          · rw [if_neg (by decide)]
            have ub := rs_up_b hw (r := r) (by omega)
            rw [rx_w_of (x := rs_up V r + 1) (by omega) (by omega)]
            have f123 : ∀ x, (x = 0 ∨ x = 1) → (x = 1 ↔ rs_mY P V r s) → rx_Go L (d + 4) mX11_layered 123 [some (.inr 125), some (.inl k), some (.inl acc), some (.inl r), some (.inl (rs_up V r)), some (.inl s), some (.inl x)] [] σ (rx_PI K) := by
              intro x hx hxy
              refine bX11_layered_123 L (d + 3) k acc r _ s x σ K ?_
              rcases hx with rfl | rfl
              · rw [if_pos rfl, Int.add_zero, rx_w_of (by omega) (by omega)]
                refine f155 _ _ ?_
                rw [hno (fun q => by have := hxy.mpr q.2; omega), Int.add_zero]
              · rw [if_neg (by decide)]
                have hy : rs_meet P V 2 r s = true := bo_t ⟨g, by rw [if_neg (by decide), if_neg (by decide)]; exact hxy.mp rfl⟩
                by_cases kk : k = 0
                · rw [if_pos kk, rx_w_of (by omega) (by omega)]
                  refine f155 _ _ ?_
                  unfold rs_g
                  rw [if_pos hy, if_neg (by omega)]
                · rw [if_neg kk, rx_w_of (x := 18 * r) (by omega) (by omega), rx_w_of (x := 18 * r + s) (by omega) (by omega), hC r s r0 (by omega) (by omega) (by omega) (by omega)]
                  have := hCb r s
                  rw [rx_w_of (by omega) (by omega)]
                  refine ⟨by omega, f155 _ _ ?_⟩
                  unfold rs_g
                  rw [if_pos hy, if_pos (by omega)]
            have hY : rs_mY P V r s ↔ ¬ (P (rs_end V r (rs_up V r)) < P (rs_end V s (rs_up V r)) ↔ P (rs_end V r (rs_up V r + 1)) < P (rs_end V s (rs_up V r + 1))) := ⟨fun q => q.2.2, fun q => ⟨u, l2.symm, q⟩⟩
            refine n_endIn hM hw hP (by omega) ?_
            refine n_endIn hM hw hP (by omega) ?_
            by_cases w1 : P (rs_end V s (rs_up V r)) ≤ P (rs_end V r (rs_up V r))
            · rw [if_pos w1]
              refine n_endIn hM hw hP (by omega) ?_
              refine n_endIn hM hw hP (by omega) ?_
              by_cases w2 : P (rs_end V s (rs_up V r + 1)) ≤ P (rs_end V r (rs_up V r + 1))
              · rw [if_pos w2]
                exact f123 0 (Or.inl rfl) (by rw [hY]; omega)
              · rw [if_neg w2]
                exact f123 1 (Or.inr rfl) (by rw [hY]; omega)
            · rw [if_neg w1]
              refine n_endIn hM hw hP (by omega) ?_
              refine n_endIn hM hw hP (by omega) ?_
              by_cases w2 : P (rs_end V s (rs_up V r + 1)) ≤ P (rs_end V r (rs_up V r + 1))
              · rw [if_pos w2]
                exact f123 1 (Or.inr rfl) (by rw [hY]; omega)
              · rw [if_neg w2]
                exact f123 0 (Or.inl rfl) (by rw [hY]; omega)
          · rw [if_pos rfl]
            exact f155 _ _ (by rw [hno (fun q => q.1 g), Int.add_zero])
        · rw [if_pos l2]
          exact f155 _ _ (by rw [hno (fun q => l2 q.2.2.1.symm), Int.add_zero])
  · intro v v0 hv
    rcases hv with rfl | ⟨g1, g2⟩
    · exact h
    · have := rs_ps_b (g := rs_g P V 2 C k) hm (fun r s _ _ _ => rs_g_b hCb 2 k r s)
      omega
theorem o_book {k : Int} (h : iv_A S V T σ) (hQ : ∀ v σ', Inv S σ' → Q v v σ') :
    rx_CI L (d + 6) mX10_book [.inr 0, .inl k] σ (fun v1 σ1 => rx_CI L (d + 6) mX11_book [.inr 125, .inl k] σ1 (fun v2 σ2 => Q v1 v2 σ2)) := by
  have hw := h.1
  have hC := h.2.1
  have hM := h.2.2.1
  obtain ⟨b1, b2, b3, b4⟩ := h.2.2.2.2.1
  have hCb : ∀ r s, 0 ≤ rs_c2 V T r s ∧ rs_c2 V T r s ≤ 999 := fun r s => rs_c2_b r s
  refine bX10_book L (d + 5) k σ _ ?_
  refine c_crossingsTold hC hw b1 b2 (fun σ1 hf1 => ?_)
  have e126 : σ1 126 = σ 126 := hf1 126 (by decide) (by decide) (by omega)
  refine bX11_book L (d + 5) k σ1 _ ?_
  refine m_in (fun c => ?_) (fun c => ?_)
  · rw [if_pos (by decide)]
    refine n_findPairs (V := V) (T := T) (by rw [e126]; exact hM) hw (by rw [e126]; exact b3) b2 (fun σ2 hC2 hf2 => ?_)
    have e2 : σ2 126 = σ 126 := by rw [hf2 126 (by decide) (by decide) (by decide) (by decide), e126]
    refine n_findPlaces (V := V) (by rw [e2]; exact hM) hw (fun σ3 hP3 hf3 => ?_)
    refine n_book (V := V) (P := V 5) (C := rs_c2 V T) (by rw [hf3 126 (by decide), e2]; exact hM) hw hP3 (fun r s r0 r1 s0 s1 rs => by rw [hf3 130 (by decide)]; exact hC2 r s r0 r1 s0 s1 rs) hCb ?_
    rw [rs_g_told (by omega)]
    refine hQ _ _ ⟨V, T, iv_fr h (fun c i hk => ?_)⟩
    unfold fr_k at hk
    rw [hf3 c (by omega), hf2 c (by omega) (by omega) (by omega) (by omega), hf1 c (by omega) (by omega) (by omega)]
  · rw [if_neg (by decide)]
    have e : rs_told V T 1 k = -1000000001 := by unfold rs_told; rw [if_neg (by omega), if_neg (by omega)]
    rw [e]
    refine hQ _ _ ⟨V, T, iv_fr h (fun c i hk => ?_)⟩
    unfold fr_k at hk
    rw [hf1 c (by omega) (by omega) (by omega)]
theorem o_layers {k : Int} (h : iv_A S V T σ) (hQ : ∀ v σ', Inv S σ' → Q v v σ') :
    rx_CI L (d + 6) mX10_layers [.inr 0, .inl k] σ (fun v1 σ1 => rx_CI L (d + 6) mX11_layers [.inr 125, .inl k] σ1 (fun v2 σ2 => Q v1 v2 σ2)) := by
  have hw := h.1
  have hC := h.2.1
  have hM := h.2.2.1
  obtain ⟨b1, b2, b3, b4⟩ := h.2.2.2.2.1
  have hCb : ∀ r s, 0 ≤ rs_c2 V T r s ∧ rs_c2 V T r s ≤ 999 := fun r s => rs_c2_b r s
  refine bX10_layers L (d + 5) k σ _ ?_
  refine c_crossingsTold hC hw b1 b2 (fun σ1 hf1 => ?_)
  have e126 : σ1 126 = σ 126 := hf1 126 (by decide) (by decide) (by omega)
  refine bX11_layers L (d + 5) k σ1 _ ?_
  refine m_in (fun c => ?_) (fun c => ?_)
  · rw [if_pos (by decide)]
    refine n_findPairs (V := V) (T := T) (by rw [e126]; exact hM) hw (by rw [e126]; exact b3) b2 (fun σ2 hC2 hf2 => ?_)
    have e2 : σ2 126 = σ 126 := by rw [hf2 126 (by decide) (by decide) (by decide) (by decide), e126]
    refine n_findPlaces (V := V) (by rw [e2]; exact hM) hw (fun σ3 hP3 hf3 => ?_)
    have fin : ∀ v, Q v v σ3 := by
      intro v
      refine hQ _ _ ⟨V, T, iv_fr h (fun c i hk => ?_)⟩
      unfold fr_k at hk
      rw [hf3 c (by omega), hf2 c (by omega) (by omega) (by omega) (by omega), hf1 c (by omega) (by omega) (by omega)]
    have hlay : ∀ k', k' = k → rx_CI L (d + 5) mX11_layered [.inr 125, .inl k'] σ3 (fun v8 σ7 => Q (rs_told V T 2 k) v8 σ7) := by
      rintro k' rfl
      refine n_layered (V := V) (P := V 5) (C := rs_c2 V T) (by rw [hf3 126 (by decide), e2]; exact hM) hw hP3 (fun r s r0 r1 s0 s1 rs => by rw [hf3 130 (by decide)]; exact hC2 r s r0 r1 s0 s1 rs) hCb (by omega) ?_
      rw [rs_g_told (by omega)]
      exact fin _
    by_cases c1 : k = 1
    · rw [if_neg (fun q => q c1)]
      exact hlay 1 c1.symm
    · rw [if_pos c1]
      exact hlay 0 (by omega)
  · rw [if_neg (by decide)]
    have e : rs_told V T 2 k = -1000000001 := by unfold rs_told; rw [if_neg (by omega), if_neg (by omega)]
    rw [e]
    refine hQ _ _ ⟨V, T, iv_fr h (fun c i hk => ?_)⟩
    unfold fr_k at hk
    rw [hf1 c (by omega) (by omega) (by omega)]
end BOOK
