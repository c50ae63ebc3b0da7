/-! ===== the best row: both sides ===== -/
def rw_o (mem : Int → Int) (s w : Nat) : Int → Int := fun i => mem (rw_at ((rwk s w).getD []) i)
noncomputable def rw_v (V : rx_St) (C : Int → Int → Int) (ly : Int) (mem seat : Int → Int) (s w : Nat) : Int := rs_tot (rw_P V ly seat s (rw_o mem s w)) V 2 C
theorem rw_ok {V : rx_St} {ly : Int} {mem : Int → Int} {s w : Nat} (hw : iv_Wf V) (hs5 : s ≤ 5) (hs : (s : Int) = rw_n (V 3) ly (V 0 0)) (hm : rw_A (V 3) ly (V 0 0) mem) (hww : w < rw_f s) : (∀ i : Int, 0 ≤ i → i < s → 0 ≤ rw_o mem s w i ∧ rw_o mem s w i < V 0 0 ∧ V 3 (rw_o mem s w i) = ly) ∧ (∀ i j : Int, 0 ≤ i → i < s → 0 ≤ j → j < s → rw_o mem s w i = rw_o mem s w j → i = j) ∧ (∀ q, 0 ≤ q → q < V 0 0 → V 3 q = ly → ∃ i : Int, 0 ≤ i ∧ i < s ∧ rw_o mem s w i = q) := by
  have hn := wf_n hw
  obtain ⟨l, hl, h1, h2, _⟩ := rw_fact hs5 hww
  have el : (rwk s w).getD [] = l := by rw [hl]; rfl
  unfold rw_o
  rw [el]
  refine ⟨fun i i0 i1 => ?_, fun i j i0 i1 j0 j1 e => ?_, fun q q0 q1 hq => ?_⟩
  · have := h1 i i0 i1
    have := rw_Ai hm hn.1 this.1 (by omega)
    exact ⟨this.1, this.2.1, this.2.2.1⟩
  · have a1 := h1 i i0 i1
    have a2 := h1 j j0 j1
    have m1 := rw_Am hm hn.1 (i := rw_at l i) (j := rw_at l j) (by omega) (by omega) (by omega) (by omega)
    have m2 := rw_Am hm hn.1 (i := rw_at l j) (j := rw_at l i) (by omega) (by omega) (by omega) (by omega)
    exact h2 i j i0 i1 j0 j1 (by omega)
  · have hl2 := rw_nL (f := V 3) (ly := ly) q0 q1 hq
    have hb := rw_nB (f := V 3) (ly := ly) q0
    obtain ⟨i, i0, i1, e⟩ := php_on (n := s) (f := rw_at l) (by omega) h1 h2 (p := rw_n (V 3) ly q) hb.1 (by omega)
    refine ⟨i, i0, i1, ?_⟩
    show mem (rw_at l i) = q
    rw [e]
    exact hm q q0 q1 hq
theorem rw_Pd {V : rx_St} {ly : Int} {seat o P : Int → Int} {s : Nat} (h1 : ∀ i j : Int, 0 ≤ i → i < s → 0 ≤ j → j < s → o i = o j → i = j) (h2 : ∀ q, 0 ≤ q → q < V 0 0 → V 3 q = ly → ∃ i : Int, 0 ≤ i ∧ i < s ∧ o i = q) (p1 : ∀ i : Int, 0 ≤ i → i < s → P (o i) = seat i) (p2 : ∀ q, 0 ≤ q → q < V 0 0 → V 3 q ≠ ly → P q = V 5 q) {q : Int} (q0 : 0 ≤ q) (q1 : q < V 0 0) : P q = rw_P V ly seat s o q := by
  unfold rw_P
  by_cases c : V 3 q = ly
  · obtain ⟨i, i0, i1, e⟩ := h2 q q0 q1 c
    rw [if_pos c, ← e, ls_P_at s i i0 i1 (fun j j0 j1 ej => h1 j i j0 j1 i0 i1 ej)]
    exact p1 i i0 i1
  · rw [if_neg c]
    exact p2 q q0 q1 c
section RWR
variable {L d : Nat} {σ V W T : rx_St} {S : Int → Int} {Q : Int → Int → rx_St → Prop} {K : Int → rx_St → Prop} {KV : rx_St → Prop} {C : Int → Int → Int} {mem seat : Int → Int} {ly : Int}
theorem c_postsOf {A : Nat} (hA : rx_isO 1 A = true) (hV : ld_C A V σ) (hw : iv_Wf V) (h : K (rw_n (V 3) ly (V 0 0)) σ) : rx_CI L d mX1_postsOf [.inr A, .inl ly] σ K := by
  have hn := wf_n hw
  refine bX1_postsOf L d A hA ly σ K ?_
  have key : ∀ (k : Nat) (p : Int), 0 ≤ p → p + k = V 0 0 → rx_Go L d mX1_postsOf 4 [some (.inr A), some (.inl ly), some (.inl (rw_n (V 3) ly p)), some (.inl p)] [] σ (rx_PI K) := by
    intro k
    induction k with
    | zero =>
      intro p p0 hp
      refine bX1_postsOf_4 L d A hA ly _ p σ K ?_
      rw [ld_C0 hV, if_pos (by omega), show p = V 0 0 by omega]
      exact h
    | succ k ih =>
      intro p p0 hp
      refine bX1_postsOf_4 L d A hA ly _ p σ K ?_
      have hb := rw_nB (f := V 3) (ly := ly) p0
      rw [ld_C0 hV, if_neg (by omega), hV 3 (by omega)]
      simp (disch := omega) only [rx_w_of]
      have := ih (p + 1) (by omega) (by omega)
      rw [rw_nS p0] at this
      refine ⟨by omega, ?_⟩
      by_cases c : V 3 p = ly
      · rw [if_neg (fun q => q c)]
        rw [if_pos c] at this
        exact this
      · rw [if_pos c]
        rw [if_neg c, Int.add_zero] at this
        exact this
  exact key (V 0 0).toNat 0 (by omega) (by omega)
theorem c_collect (hV : ld_C 23 W σ) (hw : iv_Wf V) (hW : ∀ k i, ld_w k i → W k i = V k i) {s : Nat} (hs5 : s ≤ 5) (hs : (s : Int) = rw_n (V 3) ly (V 0 0)) (h : ∀ σ' : rx_St, σ' 95 4 = s → rw_A (V 3) ly (V 0 0) (σ' 97) → rw_A (fun i => V 3 (V 4 i)) ly (V 0 0) (σ' 98) → (∀ c, c ≠ 95 → c ≠ 97 → c ≠ 98 → σ' c = σ c) → KV σ') : rx_CV L d mX6_collect [.inr 95, .inr 23, .inl ly] σ KV := by
  have hn := wf_n hw
  have e00 : W 0 0 = V 0 0 := hW 0 0 (by unfold ld_w; omega)
  have e3 : ∀ p, 0 ≤ p → p < 8 → W 3 p = V 3 p := fun p p0 p1 => hW 3 p (by unfold ld_w; omega)
  have e4 : ∀ p, 0 ≤ p → p < 8 → W 4 p = V 4 p := fun p p0 p1 => hW 4 p (by unfold ld_w; omega)
  have inv : ∀ σ1 : rx_St, (∀ c, c ≠ 95 → c ≠ 97 → c ≠ 98 → σ1 c = σ c) → σ1 23 = W 0 ∧ σ1 (23 + 3) = W 3 ∧ σ1 (23 + 4) = W 4 := fun σ1 hf => by
    refine ⟨?_, ?_, ?_⟩
    · rw [hf 23 (by decide) (by decide) (by decide)]
      exact ld_C0 hV
    · rw [hf (23 + 3) (by decide) (by decide) (by decide)]
      exact hV 3 (by omega)
    · rw [hf (23 + 4) (by decide) (by decide) (by decide)]
      exact hV 4 (by omega)
  refine bX6_collect L d 23 rfl ly σ KV ?_
  have l2 : ∀ (k : Nat) (p : Int) (σ1 : rx_St), 0 ≤ p → p + k = V 0 0 → (∀ c, c ≠ 95 → c ≠ 97 → c ≠ 98 → σ1 c = σ c) → σ1 95 4 = s → rw_A (V 3) ly (V 0 0) (σ1 97) → rw_A (fun i => V 3 (V 4 i)) ly p (σ1 98) → rx_Go L d mX6_collect 64 [some (.inr 95), some (.inr 23), some (.inl ly), some (.inl (rw_n (fun i => V 3 (V 4 i)) ly p)), some (.inl p)] [] σ1 (rx_PV KV) := by
    intro k
    induction k with
    | zero =>
      intro p σ1 p0 hp hf h4 h97 h98
      refine bX6_collect_64 L d 23 rfl ly _ p σ1 KV ?_
      obtain ⟨g1, g2, g3⟩ := inv σ1 hf
      rw [g1, e00, if_pos (by omega)]
      rw [show p = V 0 0 by omega] at h98
      exact h σ1 h4 h97 h98 hf
    | succ k ih =>
      intro p σ1 p0 hp hf h4 h97 h98
      refine bX6_collect_64 L d 23 rfl ly _ p σ1 KV ?_
      obtain ⟨g1, g2, g3⟩ := inv σ1 hf
      have hpp := wf_p hw p0 (show p < V 0 0 by omega)
      have hb := rw_nB (f := fun i => V 3 (V 4 i)) (ly := ly) p0
      rw [g1, e00, if_neg (by omega), g3, g2, e4 p p0 (by omega), e3 (V 4 p) (by omega) (by omega)]
      simp (disch := omega) only [rx_w_of]
      refine ⟨by omega, by omega, ?_⟩
      have hS := rw_nS (f := fun i => V 3 (V 4 i)) (ly := ly) p0
      by_cases c : V 3 (V 4 p) = ly
      · rw [if_neg (fun q => q c)]
        have hl := rw_nL (f := fun i => V 3 (V 4 i)) (ly := ly) p0 (show p < V 0 0 by omega) c
        rw [rw_seats hw] at hl
        rw [if_neg (by omega)]
        refine ⟨by omega, ?_⟩
        have := ih (p + 1) (rx_up σ1 98 (rw_n (fun i => V 3 (V 4 i)) ly p) p) (by omega) (by omega) (fun x h1 h2 h3 => by rw [up_c h3]; exact hf x h1 h2 h3) (by rw [up_c (by decide)]; exact h4) (by rw [up_c (by decide)]; exact h97) (fun q q0 q1 hq => ?_)
        · rw [hS, if_pos c] at this
          exact this
        · by_cases e : q = p
          · rw [e, up_s]
          · have := rw_nL (f := fun i => V 3 (V 4 i)) (ly := ly) q0 (show q < p by omega) hq
            rw [up_i (by omega)]
            exact h98 q q0 (by omega) hq
      · rw [if_pos c]
        have := ih (p + 1) σ1 (by omega) (by omega) hf h4 h97 (fun q q0 q1 hq => h98 q q0 (by have : q ≠ p := (fun e => c (by rw [← e]; exact hq)); omega) hq)
        rw [hS, if_neg c, Int.add_zero] at this
        exact this
  have l1 : ∀ (k : Nat) (p : Int) (q4 : Option rx_V) (σ1 : rx_St), 0 ≤ p → p + k = V 0 0 → (∀ c, c ≠ 95 → c ≠ 97 → c ≠ 98 → σ1 c = σ c) → σ1 95 4 = rw_n (V 3) ly p → rw_A (V 3) ly p (σ1 97) → rx_Go L d mX6_collect 7 [some (.inr 95), some (.inr 23), some (.inl ly), some (.inl p), q4] [] σ1 (rx_PV KV) := by
    intro k
    induction k with
    | zero =>
      intro p q4 σ1 p0 hp hf h4 h97
      refine bX6_collect_7 L d 23 rfl ly p q4 σ1 KV ?_
      obtain ⟨g1, g2, g3⟩ := inv σ1 hf
      rw [g1, e00, if_pos (by omega)]
      rw [show p = V 0 0 by omega] at h97 h4
      exact l2 (V 0 0).toNat 0 σ1 (by omega) (by omega) hf (by omega) h97 (fun q q0 q1 => by omega)
    | succ k ih =>
      intro p q4 σ1 p0 hp hf h4 h97
      refine bX6_collect_7 L d 23 rfl ly p q4 σ1 KV ?_
      obtain ⟨g1, g2, g3⟩ := inv σ1 hf
      have hb := rw_nB (f := V 3) (ly := ly) p0
      have hS := rw_nS (f := V 3) (ly := ly) p0
      rw [g1, e00, if_neg (by omega), g2, e3 p p0 (by omega), up_c (show (95 : Nat) ≠ 97 by decide), h4]
      simp (disch := omega) only [rx_w_of]
      refine ⟨by omega, ?_⟩
      by_cases c : V 3 p = ly
      · rw [if_neg (fun q => q c)]
        have hl := rw_nL (f := V 3) (ly := ly) p0 (show p < V 0 0 by omega) c
        rw [if_neg (by omega)]
        refine ⟨by omega, ih (p + 1) q4 _ (by omega) (by omega) (fun x h1 h2 h3 => by rw [up_c h1, up_c h2]; exact hf x h1 h2 h3) (by rw [up_s, hS, if_pos c]) (fun q q0 q1 hq => ?_)⟩
        rw [up_c (by decide)]
        by_cases e : q = p
        · rw [e, up_s]
        · have := rw_nL (f := V 3) (ly := ly) q0 (show q < p by omega) hq
          rw [up_i (by omega)]
          exact h97 q q0 (by omega) hq
      · rw [if_pos c]
        exact ih (p + 1) q4 σ1 (by omega) (by omega) hf (by rw [hS, if_neg c, Int.add_zero]; exact h4) (fun q q0 q1 hq => h97 q q0 (by have : q ≠ p := (fun e => c (by rw [← e]; exact hq)); omega) hq)
  exact l1 (V 0 0).toNat 0 none _ (by omega) (by omega) (fun x h1 h2 h3 => up_c h1) up_s (fun q q0 q1 => by omega)
def lr_R (s : Nat) (B : Option (Int × (Int → Int))) (σ : rx_St) : Prop := (B = none → σ 95 1 = 2147483647) ∧ (∀ b, B = some b → σ 95 1 = b.1 ∧ 0 ≤ b.1 ∧ b.1 ≤ 400000 ∧ ∀ i : Int, 0 ≤ i → i < s → σ 96 i = b.2 i)
theorem lr_fr {s : Nat} {B : Option (Int × (Int → Int))} {σ' : rx_St} (h : lr_R s B σ) (h1 : σ' 95 = σ 95) (h2 : σ' 96 = σ 96) : lr_R s B σ' := by
  unfold lr_R
  rw [h1, h2]
  exact h
/-- the trial land while a layer sits -/
def rw_W (V : rx_St) (ly : Int) (W : rx_St) : Prop := (∀ k i, ld_w k i → k ≠ 4 → k ≠ 5 → W k i = V k i) ∧ (∀ q, 0 ≤ q → q < V 0 0 → V 3 q ≠ ly → W 5 q = V 5 q) ∧ (∀ x, 0 ≤ x → x < V 0 0 → V 3 (V 4 x) ≠ ly → W 4 x = V 4 x)
theorem rw_wf {s : Nat} {o : Int → Int} (hw : iv_Wf V) (hW : rw_W V ly W) (hs : (s : Int) = rw_n (V 3) ly (V 0 0)) (hse : rw_A (fun i => V 3 (V 4 i)) ly (V 0 0) seat) (o1 : ∀ i : Int, 0 ≤ i → i < s → 0 ≤ o i ∧ o i < V 0 0 ∧ V 3 (o i) = ly) (o3 : ∀ q, 0 ≤ q → q < V 0 0 → V 3 q = ly → ∃ i : Int, 0 ≤ i ∧ i < s ∧ o i = q) (hp : ∀ i : Int, 0 ≤ i → i < s → W 4 (seat i) = o i ∧ W 5 (o i) = seat i) : iv_Wf W := by
  have hn := wf_n hw
  obtain ⟨w1, w2, w3⟩ := hW
  -- a land that is V but for the line
  have base : iv_Wf (fun k => if k = 4 then V 4 else if k = 5 then V 5 else W k) := by
    refine wf_congr hw (fun k i hk => ?_)
    by_cases c4 : k = 4
    · rw [c4]
      rfl
    · by_cases c5 : k = 5
      · rw [c5]
        rfl
      · show (if k = 4 then V 4 else if k = 5 then V 5 else W k) i = V k i
        rw [if_neg c4, if_neg c5]
        exact w1 k i hk c4 c5
  have e0 : W 0 0 = V 0 0 := w1 0 0 (by unfold ld_w; omega) (by decide) (by decide)
  obtain ⟨b1, b2, b3, b4, b5⟩ := base
  refine ⟨b1, b2, b3, fun p p0 p1 => ⟨(b4 p p0 p1).1, ?_, ?_⟩, b5⟩
  · have p1 : p < V 0 0 := by omega
    have hpp := wf_p hw p0 p1
    rw [e0]
    by_cases c : V 3 (V 4 p) = ly
    · have hl := rw_nL (f := fun i => V 3 (V 4 i)) (ly := ly) p0 p1 c
      rw [rw_seats hw] at hl
      have hb := rw_nB (f := fun i => V 3 (V 4 i)) (ly := ly) p0
      have es := hse p p0 p1 c
      have hi := hp _ hb.1 (by omega)
      have ho := o1 _ hb.1 (show rw_n (fun i => V 3 (V 4 i)) ly p < s by omega)
      rw [es] at hi
      rw [hi.1]
      exact ⟨ho.1, ho.2.1, hi.2⟩
    · rw [w3 p p0 p1 c, w2 (V 4 p) (by omega) (by omega) c]
      exact hpp.2.1
  · have p1 : p < V 0 0 := by omega
    have hpp := wf_p hw p0 p1
    rw [e0]
    by_cases c : V 3 p = ly
    · obtain ⟨i, i0, i1, e⟩ := o3 p p0 p1 c
      have hi := hp i i0 i1
      have hs' := rw_Ai hse hn.1 i0 (by rw [rw_seats hw]; omega)
      rw [e] at hi
      rw [hi.2]
      exact ⟨hs'.1, hs'.2.1, hi.1⟩
    · have hv : V 3 (V 4 (V 5 p)) ≠ ly := by rw [hpp.2.2.2.2]; exact c
      rw [w2 p p0 p1 c, w3 (V 5 p) (by omega) (by omega) hv]
      exact hpp.2.2
theorem c_search6 (hV : ld_C 23 W σ) (hw : iv_Wf V) (hW : ∀ k i, ld_w k i → W k i = V k i) (hC : rk_C C (V 0 6) σ) (hCb : ∀ r s, 0 ≤ C r s ∧ C r s ≤ 999) {s : Nat} (hs5 : s ≤ 5) (hs : (s : Int) = rw_n (V 3) ly (V 0 0)) (h : ∀ mem seat σ', rw_A (V 3) ly (V 0 0) mem → rw_A (fun i => V 3 (V 4 i)) ly (V 0 0) seat → lr_R s (rw_B (rw_v V C ly mem seat s) (rw_o mem s) (rw_f s)) σ' → (∀ c, c < 23 ∨ (33 < c ∧ c < 95) ∨ 98 < c → σ' c = σ c) → KV σ') : rx_CV L (d + 4) mX6_search [.inr 95, .inr 23, .inl ly, .inr 37] σ KV := by
  have hn := wf_n hw
  have hm := wf_m hw
  have h120 := rw_120 hs5
  refine bX6_search L (d + 3) 23 rfl ly σ KV ?_
  refine c_collect hV hw hW hs5 hs (fun σ0 h4 hmem hse hf0 => ?_)
  generalize emem : σ0 97 = mem at *
  generalize eseat : σ0 98 = seat at *
  have seati : ∀ i : Int, 0 ≤ i → i < s → 0 ≤ seat i ∧ seat i < V 0 0 ∧ V 3 (V 4 (seat i)) = ly ∧ rw_n (fun i => V 3 (V 4 i)) ly (seat i) = i := fun i i0 i1 => rw_Ai hse hn.1 i0 (by rw [rw_seats hw]; omega)
  have body : ∀ (w : Nat) (q5 : Option rx_V) (W1 σ1 : rx_St), w < rw_f s → ld_C 23 W1 σ1 → rw_W V ly W1 → σ1 95 4 = s → σ1 98 = seat → (∀ i : Int, 0 ≤ i → i < s → σ1 97 i = rw_o mem s w i) → lr_R s (rw_B (rw_v V C ly mem seat s) (rw_o mem s) w) σ1 → (∀ c, c < 23 ∨ (33 < c ∧ c < 95) ∨ 98 < c → σ1 c = σ c) → (w + 1 < rw_f s → ∀ (q5 : Option rx_V) (W1 σ1 : rx_St), ld_C 23 W1 σ1 → rw_W V ly W1 → σ1 95 4 = s → σ1 98 = seat → (∀ i : Int, 0 ≤ i → i < s → σ1 97 i = rw_o mem s (w + 1) i) → lr_R s (rw_B (rw_v V C ly mem seat s) (rw_o mem s) (w + 1)) σ1 → (∀ c, c < 23 ∨ (33 < c ∧ c < 95) ∨ 98 < c → σ1 c = σ c) → rx_Go L (d + 4) mX6_search 15 [some (.inr 95), some (.inr 23), some (.inl ly), some (.inr 37), some (.inl ((w + 1 : Nat) : Int)), q5] [] σ1 (rx_PV KV)) → rx_Go L (d + 4) mX6_search 15 [some (.inr 95), some (.inr 23), some (.inl ly), some (.inr 37), some (.inl (w : Int)), q5] [] σ1 (rx_PV KV) := by
    intro w q5 W1 σ1 hww hV1 hW1 h4 h98 h97 hR hf next
    obtain ⟨o1, o2, o3⟩ := rw_ok hw hs5 hs hmem hww
    obtain ⟨l, hl, f1, f2, f3, f4, f5⟩ := rw_fact hs5 hww
    have eo : ∀ i, rw_o mem s w i = mem (rw_at l i) := fun i => by unfold rw_o; rw [hl]; rfl
    refine bX6_search_15 L (d + 3) 23 rfl _ _ q5 σ1 KV ?_
    rw [if_neg (by omega)]
    have put : ∀ (j : Nat) (i : Int) (W1 σ1 : rx_St), 0 ≤ i → i + j = s → ld_C 23 W1 σ1 → rw_W V ly W1 → (∀ a : Int, 0 ≤ a → a < i → W1 4 (seat a) = rw_o mem s w a ∧ W1 5 (rw_o mem s w a) = seat a) → σ1 95 4 = s → σ1 98 = seat → (∀ i : Int, 0 ≤ i → i < s → σ1 97 i = rw_o mem s w i) → lr_R s (rw_B (rw_v V C ly mem seat s) (rw_o mem s) w) σ1 → (∀ c, c < 23 ∨ (33 < c ∧ c < 95) ∨ 98 < c → σ1 c = σ c) → rx_Go L (d + 4) mX6_search 25 [some (.inr 95), some (.inr 23), some (.inl ly), some (.inr 37), some (.inl (w : Int)), some (.inl i)] [] σ1 (rx_PV KV) := by
      intro j
      induction j with
      | zero =>
        intro i W1 σ1 i0 hi hV1 hW1 hp h4 h98 h97 hR hf
        refine bX6_search_25 L (d + 3) 23 rfl _ _ i σ1 KV ?_
        rw [h4, if_pos (by omega)]
        have hp' : ∀ a : Int, 0 ≤ a → a < s → W1 4 (seat a) = rw_o mem s w a ∧ W1 5 (rw_o mem s w a) = seat a := fun a a0 a1 => hp a a0 (by omega)
        have hwW : iv_Wf W1 := rw_wf hw hW1 hs hse o1 o3 hp'
        have e6 : W1 0 6 = V 0 6 := hW1.1 0 6 (by unfold ld_w; omega) (by decide) (by decide)
        have hCC : rk_C C (W1 0 6) σ1 := fun r q r0 r1 q0 q1 hrq => by
          rw [e6] at r1 q1
          rw [hf _ (by omega)]
          exact hC r q r0 r1 q0 q1 hrq
        have etot : rs_tot (W1 5) W1 2 C = rw_v V C ly mem seat s w := rw_tot hw hW1.1 (fun q q0 q1 => rw_Pd o2 o3 (fun i i0 i1 => (hp' i i0 i1).2) hW1.2.1 q0 q1)
        refine c_sum rfl hV1 hwW hCC hCb (fun v v0 hv => ?_)
        rw [etot] at hv
        have vb := rs_tot_b (P := W1 5) (w := 2) hwW hCb
        rw [etot] at vb
        rw [rx_w_of (x := (w : Int) + 1) (by omega) (by omega)]
        -- behind the comparison
        have after : ∀ (σ2 : rx_St) (q5 : Option rx_V), ld_C 23 W1 σ2 → σ2 95 4 = s → σ2 98 = seat → σ2 97 = σ1 97 → lr_R s (rw_B (rw_v V C ly mem seat s) (rw_o mem s) (w + 1)) σ2 → (∀ c, c < 23 ∨ (33 < c ∧ c < 95) ∨ 98 < c → σ2 c = σ c) → rx_CI L (d + 3) mX6_nextOrder [.inr 95] σ2 (fun v8 σ7 => if v8 ≠ 0 then (rx_Go L (d + 4) mX6_search 15 [some (.inr 95), some (.inr 23), some (.inl ly), some (.inr 37), some (.inl ((w : Int) + 1)), q5] [] σ7 (rx_PV KV)) else (KV σ7)) := by
          intro σ2 q5 a1 a2 a3 a4 a5 a6
          refine c_nextOrder (d := d + 2) (mem := mem) (a := rw_at l) hs5 a2 (fun i j i0 i1 j0 j1 => rw_Am hmem hn.1 i0 (by omega) j0 (by omega)) f1 (fun i i0 i1 => by rw [a4, h97 i i0 i1, eo]) (fun e => ?_) (fun b σ3 e b1 b2 => ?_)
          · rw [if_neg (by decide)]
            have := f4 e
            rw [this] at a5
            exact h mem seat σ2 hmem hse a5 a6
          · rw [if_pos (by decide)]
            obtain ⟨g1, l', g2, g3⟩ := f5 b e
            refine next g1 _ W1 σ3 (ld_Cfr a1 (fun c h1 h2 => b2 c (by omega))) hW1 (by rw [b2 95 (by decide)]; exact a2) (by rw [b2 98 (by decide)]; exact a3) (fun i i0 i1 => ?_) (lr_fr a5 (b2 95 (by decide)) (b2 96 (by decide))) (fun c hc => by rw [b2 c (by omega)]; exact a6 c hc)
            rw [b1 i i0 i1, g3 i i0 i1]
            unfold rw_o
            rw [g2]
            rfl
        have yes : v = rw_v V C ly mem seat s w → rw_B (rw_v V C ly mem seat s) (rw_o mem s) (w + 1) = some (rw_v V C ly mem seat s w, rw_o mem s w) → rx_cpOK 5 0 5 0 5 ∧ (rx_CI L (d + 3) mX6_nextOrder [.inr 95] (rx_cp (rx_up σ1 95 1 v) 97 0 96 0 5) (fun v12 σ11 => if v12 ≠ 0 then (rx_Go L (d + 4) mX6_search 15 [some (.inr 95), some (.inr 23), some (.inl ly), some (.inr 37), some (.inl ((w : Int) + 1)), some (.inl v)] [] σ11 (rx_PV KV)) else (KV σ11))) := by
          intro ev eB
          refine ⟨by unfold rx_cpOK; omega, after _ _ (ld_Cfr hV1 (fun c h1 h2 => by rw [cp_c (by omega), up_c (by omega)])) (by rw [cp_c (by decide), up_i (by decide)]; exact h4) (by rw [cp_c (by decide), up_c (by decide)]; exact h98) (by rw [cp_c (by decide), up_c (by decide)]) ⟨(fun q => by rw [eB] at q; cases q), (fun b q => ?_)⟩ (fun c hc => by rw [cp_c (by omega), up_c (by omega)]; exact hf c hc)⟩
          rw [eB] at q
          cases q
          refine ⟨by rw [cp_c (by decide), up_s]; exact ev, vb.1, vb.2, fun i i0 i1 => ?_⟩
          rw [cp_i (by omega), up_c (by decide), show 0 + (i - 0) = i by omega]
          exact h97 i i0 i1
        cases hB : rw_B (rw_v V C ly mem seat s) (rw_o mem s) w with
        | none =>
          have e1 := hR.1 hB
          rw [e1] at hv ⊢
          rw [if_neg (by omega)]
          exact yes (by omega) (rw_B0 hB)
        | some b =>
          have e1 := (hR.2 b hB).1
          rw [e1] at hv ⊢
          by_cases c : rw_v V C ly mem seat s w < b.1
          · rw [if_neg (by omega)]
            exact yes (by omega) (rw_By hB c)
          · rw [if_pos (by omega)]
            refine after σ1 _ hV1 h4 h98 rfl ?_ hf
            rw [rw_Bn hB c, ← hB]
            exact hR
      | succ j ih =>
        intro i W1 σ1 i0 hi hV1 hW1 hp h4 h98 h97 hR hf
        refine bX6_search_25 L (d + 3) 23 rfl _ _ i σ1 KV ?_
        rw [h4, if_neg (by omega), h98, h97 i i0 (by omega), rx_w_of (by omega) (by omega)]
        have si := seati i i0 (by omega)
        have oi := o1 i i0 (by omega)
        refine ⟨by omega, bX1_putInLine L (d + 3) 23 rfl _ _ σ1 _ ⟨by omega, by omega, ?_⟩⟩
        refine ih (i + 1) (rx_up (rx_up W1 4 (seat i) (rw_o mem s w i)) 5 (rw_o mem s w i) (seat i)) _ (by omega) (by omega) (ld_Cup (ld_Cup hV1 (by omega) _ _) (by omega) _ _) ⟨fun k x hk k4 k5 => ?_, fun q q0 q1 hq => ?_, fun x x0 x1 hx => ?_⟩ (fun a a0 a1 => ?_) (by rw [up_c (by decide), up_c (by decide)]; exact h4) (by rw [up_c (by decide), up_c (by decide)]; exact h98) (fun x x0 x1 => by rw [up_c (by decide), up_c (by decide)]; exact h97 x x0 x1) (lr_fr hR (by rw [up_c (by decide), up_c (by decide)]) (by rw [up_c (by decide), up_c (by decide)])) (fun c hc => by rw [up_c (by omega), up_c (by omega)]; exact hf c hc)
        · rw [up_c k5, up_c k4]
          exact hW1.1 k x hk k4 k5
        · rw [up_i (fun e => hq (by rw [e]; exact oi.2.2)), up_c (by decide)]
          exact hW1.2.1 q q0 q1 hq
        · rw [up_c (by decide), up_i (fun e => hx (by rw [e]; exact si.2.2.1))]
          exact hW1.2.2 x x0 x1 hx
        · by_cases e : a = i
          · rw [e, up_c (by decide), up_s, up_s]
            exact ⟨rfl, rfl⟩
          · have sa := seati a a0 (by omega)
            have hne1 : seat a ≠ seat i := fun q => by
              have := sa.2.2.2
              rw [q, si.2.2.2] at this
              omega
            have hne2 : rw_o mem s w a ≠ rw_o mem s w i := fun q => e (o2 a i a0 (by omega) i0 (by omega) q)
            rw [up_c (by decide), up_i hne1, up_i hne2, up_c (by decide)]
            exact hp a a0 (by omega)
    exact put s 0 W1 σ1 (by omega) (by omega) hV1 hW1 (fun a a0 a1 => by omega) h4 h98 h97 hR hf
  have loop : ∀ (k w : Nat) (q5 : Option rx_V) (W1 σ1 : rx_St), w + 1 + k = rw_f s → ld_C 23 W1 σ1 → rw_W V ly W1 → σ1 95 4 = s → σ1 98 = seat → (∀ i : Int, 0 ≤ i → i < s → σ1 97 i = rw_o mem s w i) → lr_R s (rw_B (rw_v V C ly mem seat s) (rw_o mem s) w) σ1 → (∀ c, c < 23 ∨ (33 < c ∧ c < 95) ∨ 98 < c → σ1 c = σ c) → rx_Go L (d + 4) mX6_search 15 [some (.inr 95), some (.inr 23), some (.inl ly), some (.inr 37), some (.inl (w : Int)), q5] [] σ1 (rx_PV KV) := by
    intro k
    induction k with
    | zero =>
      intro w q5 W1 σ1 hk a1 a2 a3 a4 a5 a6 a7
      exact body w q5 W1 σ1 (by omega) a1 a2 a3 a4 a5 a6 a7 (fun z => by omega)
    | succ k ih =>
      intro w q5 W1 σ1 hk a1 a2 a3 a4 a5 a6 a7
      exact body w q5 W1 σ1 (by omega) a1 a2 a3 a4 a5 a6 a7 (fun z q5 W1 σ1 => ih (w + 1) q5 W1 σ1 (by omega))
  obtain ⟨l, hl, _, _, f3, _⟩ := rw_fact hs5 (show 0 < rw_f s by omega)
  refine loop (rw_f s - 1) 0 none W _ (by omega) (ld_Cfr hV (fun c h1 h2 => by rw [up_c (by omega), hf0 c (by omega) (by omega) (by omega)])) ⟨fun k i hk _ _ => hW k i hk, fun q q0 q1 _ => hW 5 q (by unfold ld_w; omega), fun x x0 x1 _ => hW 4 x (by unfold ld_w; omega)⟩ (by rw [up_i (by decide)]; exact h4) (by rw [up_c (by decide)]; exact eseat) (fun i i0 i1 => ?_) ⟨(fun _ => up_s), (fun b q => by cases q)⟩ (fun c hc => by rw [up_c (by omega), hf0 c (by omega) (by omega) (by omega)])
  rw [up_c (by decide), emem]
  unfold rw_o
  rw [hl]
  show mem i = mem (rw_at l i)
  rw [f3 rfl i i0 i1]
end RWR
