/-! ===== posts that change places ===== -/
def ld_sw (V : rx_St) (a b : Int) : rx_St := fun k i => if k = 1 ∨ k = 2 then (if i = b then V k a else if i = a then V k b else V k i) else V k i
section SW0
variable {V : rx_St} {a b : Int}
theorem sw_k {k : Nat} (h : k ≠ 1) (h' : k ≠ 2) : ld_sw V a b k = V k := funext fun i => if_neg (by omega)
theorem sw_sw (h : a ≠ b) : ld_sw (ld_sw V a b) a b = V := by
  funext k i
  unfold ld_sw
  by_cases c : k = 1 ∨ k = 2
  · rw [if_pos c]
    by_cases e : i = b
    · rw [if_pos e, if_pos c, if_neg h, if_pos rfl, e]
    · rw [if_neg e]
      by_cases e2 : i = a
      · rw [if_pos e2, if_pos c, if_pos rfl, e2]
      · rw [if_neg e2, if_pos c, if_neg e, if_neg e2]
  · rw [if_neg c, if_neg c]
theorem wf_sw (hw : iv_Wf V) (ha : 0 ≤ a ∧ a < V 0 0) (hb : 0 ≤ b ∧ b < V 0 0) : iv_Wf (ld_sw V a b) := by
  obtain ⟨a1, a2, a3, a5, a6, a7, a8⟩ := hw
  have e : ∀ k, k = 1 ∨ k = 2 → ∀ i, ld_sw V a b k i = V k (if i = b then a else if i = a then b else i) := by
    intro k hk i
    unfold ld_sw
    rw [if_pos hk]
    by_cases e : i = b
    · rw [if_pos e, if_pos e]
    · rw [if_neg e, if_neg e]
      by_cases e2 : i = a
      · rw [if_pos e2, if_pos e2]
      · rw [if_neg e2, if_neg e2]
  have hs : ∀ i, 0 ≤ i → i < V 0 0 → 0 ≤ (if i = b then a else if i = a then b else i) ∧ (if i = b then a else if i = a then b else i) < V 0 0 := by
    intro i i0 i1
    split
    · omega
    · split <;> omega
  unfold iv_Wf
  rw [sw_k (k := 0) (by omega) (by omega), sw_k (k := 3) (by omega) (by omega), sw_k (k := 4) (by omega) (by omega), sw_k (k := 5) (by omega) (by omega), sw_k (k := 6) (by omega) (by omega), sw_k (k := 7) (by omega) (by omega), sw_k (k := 8) (by omega) (by omega), sw_k (k := 9) (by omega) (by omega), sw_k (k := 10) (by omega) (by omega)]
  refine ⟨a1, a2, a3, fun p h0 h1 => ?_, fun p q p0 p1 q0 q1 ex ey => ?_, a7, a8⟩
  · have h9 := a5 p h0 h1
    rw [e 1 (by omega), e 2 (by omega)]
    have h8 := a5 (if p = b then a else if p = a then b else p) (hs p h0 h1).1 (hs p h0 h1).2
    exact ⟨⟨h8.1.1, h8.1.2.1, h9.1.2.2⟩, h9.2⟩
  · rw [e 1 (by omega), e 1 (by omega)] at ex
    rw [e 2 (by omega), e 2 (by omega)] at ey
    have h8 := a6 (if p = b then a else if p = a then b else p) (if q = b then a else if q = a then b else q) (hs p p0 p1).1 (hs p p0 p1).2 (hs q q0 q1).1 (hs q q0 q1).2 ex ey
    revert h8
    repeat' split
    all_goals omega
theorem rs_c2_sw {T : rx_St} : rs_c2 (ld_sw V a b) T = rs_c2 V T := by
  funext r s
  unfold rs_c2 rs_cost rs_harm
  rw [sw_k (k := 0) (by omega) (by omega), sw_k (k := 6) (by omega) (by omega), sw_k (k := 7) (by omega) (by omega), sw_k (k := 8) (by omega) (by omega), sw_k (k := 9) (by omega) (by omega)]
end SW0
/-- may two posts be swapped -/
def sw_may (T V : rx_St) (a b : Int) : Bool := decide (rs_law T (V 0 12) 2 < 0 ∨ rs_ans T (rs_law T (V 0 12) 2) a b 0 ≠ 0)
/-- the cost behind a swap -/
noncomputable def sw_t (V : rx_St) (C : Int → Int → Int) (a b : Int) : Int := rs_tot ((ld_sw V a b) 5) (ld_sw V a b) 0 C
noncomputable def sw_in (V T : rx_St) (C : Int → Int → Int) : Nat → Int → Int → Int × Int → Int × Int
  | 0, _, _, st => st
  | k + 1, a, b, st => sw_in V T C k a (b + 1) (if sw_may T V a b = true ∧ sw_t V C a b < st.2 then (10 * a + b, sw_t V C a b) else st)
noncomputable def sw_out (V T : rx_St) (C : Int → Int → Int) : Nat → Int → Int × Int → Int × Int
  | 0, _, st => st
  | k + 1, a, st => sw_out V T C k (a + 1) (sw_in V T C k a (a + 1) st)
/-- the best swap: 10 times a, and b (-1: none), and the cost behind it -/
noncomputable def rs_best (V T : rx_St) (C : Int → Int → Int) : Int × Int := sw_out V T C (V 0 0).toNat 0 (-1, rs_tot (V 5) V 0 C)
/-- what such a pair is -/
def sw_ok (n : Int) (st : Int × Int) : Prop := (st.1 = -1 ∨ (0 ≤ st.1 ∧ 0 ≤ st.1 / 10 ∧ st.1 / 10 < st.1 % 10 ∧ st.1 % 10 < n)) ∧ 0 ≤ st.2 ∧ st.2 ≤ 400000
section SW
variable {L d : Nat} {σ V T : rx_St} {S : Int → Int} {Q : Int → Int → rx_St → Prop} {K : Int → rx_St → Prop} {KV : rx_St → Prop} {C : Int → Int → Int}
theorem sw_ok1 (hw : iv_Wf V) (hCb : ∀ r s, 0 ≤ C r s ∧ C r s ≤ 999) {a b : Int} {st : Int × Int} (ha : 0 ≤ a) (hab : a < b) (hb : b < V 0 0) (h : sw_ok (V 0 0) st) : sw_ok (V 0 0) (if sw_may T V a b = true ∧ sw_t V C a b < st.2 then (10 * a + b, sw_t V C a b) else st) := by
  have hn := wf_n hw
  by_cases c : sw_may T V a b = true ∧ sw_t V C a b < st.2
  · rw [if_pos c]
    have := rs_tot_b (P := (ld_sw V a b) 5) (w := 0) (wf_sw hw ⟨ha, by omega⟩ ⟨by omega, hb⟩) hCb
    unfold sw_ok sw_t
    refine ⟨Or.inr ?_, this⟩
    show 0 ≤ 10 * a + b ∧ 0 ≤ (10 * a + b) / 10 ∧ (10 * a + b) / 10 < (10 * a + b) % 10 ∧ (10 * a + b) % 10 < V 0 0
    omega
  · rw [if_neg c]
    exact h
theorem sw_in_ok (hw : iv_Wf V) (hCb : ∀ r s, 0 ≤ C r s ∧ C r s ≤ 999) : ∀ (k : Nat) (a b : Int) (st : Int × Int), 0 ≤ a → a < b → b + k = V 0 0 → sw_ok (V 0 0) st → sw_ok (V 0 0) (sw_in V T C k a b st)
  | 0, _, _, _, _, _, _, h => h
  | k + 1, a, b, st, ha, hab, hb, h => sw_in_ok hw hCb k a (b + 1) _ ha (by omega) (by omega) (sw_ok1 hw hCb ha hab (by omega) h)
theorem sw_out_ok (hw : iv_Wf V) (hCb : ∀ r s, 0 ≤ C r s ∧ C r s ≤ 999) : ∀ (k : Nat) (a : Int) (st : Int × Int), 0 ≤ a → a + k = V 0 0 → sw_ok (V 0 0) st → sw_ok (V 0 0) (sw_out V T C k a st)
  | 0, _, _, _, _, h => h
  | k + 1, a, st, ha, hb, h => sw_out_ok hw hCb k (a + 1) _ (by omega) (by omega) (sw_in_ok hw hCb k a (a + 1) st ha (by omega) (by omega) h)
theorem rs_best_ok (hw : iv_Wf V) (hCb : ∀ r s, 0 ≤ C r s ∧ C r s ≤ 999) : sw_ok (V 0 0) (rs_best V T C) := by
  have hn := wf_n hw
  exact sw_out_ok hw hCb _ _ _ (by omega) (by omega) ⟨Or.inl rfl, rs_tot_b hw hCb⟩
theorem c_swapPosts {A : Nat} (hA : rx_isO 1 A = true) (hV : ld_C A V σ) {a b : Int} (ha : 0 ≤ a ∧ a < 8) (hb : 0 ≤ b ∧ b < 8) (hab : a ≠ b) (h : ∀ σ', ld_C A (ld_sw V a b) σ' → (∀ c, c ≠ A + 1 → c ≠ A + 2 → σ' c = σ c) → KV σ') : rx_CV L d mX1_swapPosts [.inr A, .inl a, .inl b] σ KV := by
  refine bX1_swapPosts L d A hA a b σ KV ⟨ha, hb, ?_⟩
  refine h _ ?_ (fun c c1 c2 => by rw [up_c c2, up_c c1, up_c c2, up_c c1])
  have e1 : σ (A + 1) = V 1 := hV 1 (by omega)
  have e2 : σ (A + 2) = V 2 := hV 2 (by omega)
  rw [up_c (c := A + 1) (c' := A + 2) (by omega), e1, e2]
  have h1 := ld_Cup (ld_Cup (ld_Cup (ld_Cup hV (k := 1) (by omega) a (V 1 b)) (k := 2) (by omega) a (V 2 b)) (k := 1) (by omega) b (V 1 a)) (k := 2) (by omega) b (V 2 a)
  have e : rx_up (rx_up (rx_up (rx_up V 1 a (V 1 b)) 2 a (V 2 b)) 1 b (V 1 a)) 2 b (V 2 a) = ld_sw V a b := by
    funext k i
    unfold ld_sw
    by_cases c1 : k = 1
    · subst c1
      rw [if_pos (Or.inl rfl), up_c (by decide)]
      by_cases e : i = b
      · rw [up_e e, if_pos e]
      · rw [up_i e, if_neg e, up_c (by decide)]
        by_cases e2 : i = a
        · rw [up_e e2, if_pos e2]
        · rw [up_i e2, if_neg e2]
    · by_cases c2 : k = 2
      · subst c2
        rw [if_pos (Or.inr rfl)]
        by_cases e : i = b
        · rw [up_e e, if_pos e]
        · rw [up_i e, if_neg e, up_c (by decide)]
          by_cases e2 : i = a
          · rw [up_e e2, if_pos e2]
          · rw [up_i e2, if_neg e2, up_c (by decide)]
      · rw [if_neg (by omega), up_c c2, up_c c1, up_c c2, up_c c1]
  rw [e] at h1
  exact h1
theorem n_swap (hM : ld_M V (σ 126)) {a b : Int} (ha : 0 ≤ a ∧ a < 8) (hb : 0 ≤ b ∧ b < 8) (hab : a ≠ b) (h : ∀ σ', ld_M (ld_sw V a b) (σ' 126) → (∀ c, c ≠ 126 → σ' c = σ c) → (∀ i, ¬ (4 ≤ i ∧ i < 28) → σ' 126 i = σ 126 i) → KV σ') : rx_CV L d mX11_swap [.inr 125, .inl a, .inl b] σ KV := by
  refine bX11_swap L d a b σ KV ?_
  refine bX11_swap_2 L d a b 0 _ σ KV ?_
  rw [if_neg (by decide)]
  simp (disch := omega) only [rx_w_of, Int.add_zero]
  refine ⟨by omega, by omega, ?_⟩
  rw [ld_Mx hM ha.1 ha.2, ld_Mx hM hb.1 hb.2, Int.zero_add]
  refine bX11_swap_2 L d a b 1 _ _ KV ?_
  rw [if_neg (by decide)]
  simp (disch := omega) only [rx_w_of]
  refine ⟨by omega, by omega, ?_⟩
  simp (disch := omega) only [up_i]
  rw [ld_My hM ha.1 ha.2, ld_My hM hb.1 hb.2]
  refine bX11_swap_2 L d a b 2 _ _ KV ?_
  rw [if_pos (by decide)]
  have h1 := ld_Mup hM (k := 1) (i := a) (v := V 1 b) (j := 4 + 3 * a) (by unfold ld_ok; omega) (by unfold ld_i; simp)
  have h2 := ld_Mup h1 (k := 1) (i := b) (v := V 1 a) (j := 4 + 3 * b) (by unfold ld_ok; omega) (by unfold ld_i; simp)
  have h3 := ld_Mup h2 (k := 2) (i := a) (v := V 2 b) (j := 4 + 3 * a + 1) (by unfold ld_ok; omega) (by unfold ld_i; simp)
  have h4 := ld_Mup h3 (k := 2) (i := b) (v := V 2 a) (j := 4 + 3 * b + 1) (by unfold ld_ok; omega) (by unfold ld_i; simp)
  have e : rx_up (rx_up (rx_up (rx_up V 1 a (V 1 b)) 1 b (V 1 a)) 2 a (V 2 b)) 2 b (V 2 a) = ld_sw V a b := by
    funext k i
    unfold ld_sw
    by_cases c1 : k = 1
    · subst c1
      rw [if_pos (Or.inl rfl), up_c (by decide), up_c (by decide)]
      by_cases e : i = b
      · rw [up_e e, if_pos e]
      · rw [up_i e, if_neg e]
        by_cases e2 : i = a
        · rw [up_e e2, if_pos e2]
        · rw [up_i e2, if_neg e2]
    · by_cases c2 : k = 2
      · subst c2
        rw [if_pos (Or.inr rfl)]
        by_cases e : i = b
        · rw [up_e e, if_pos e]
        · rw [up_i e, if_neg e]
          by_cases e2 : i = a
          · rw [up_e e2, if_pos e2]
          · rw [up_i e2, if_neg e2, up_c (by decide), up_c (by decide)]
      · rw [if_neg (by omega), up_c c2, up_c c2, up_c c1, up_c c1]
  rw [e] at h4
  refine h _ h4 (fun c hc => by rw [up_c hc, up_c hc, up_c hc, up_c hc]) (fun i hi => by rw [up_i (by omega), up_i (by omega), up_i (by omega), up_i (by omega)])
theorem c_search {A : Nat} (hA : rx_isO 1 A = true) (hV : ld_C A V σ) (hw : iv_Wf V) (hT : tx_C T σ) (hTw : tx_Wf T (V 0 12)) (hC : rk_C C (V 0 6) σ) (hCb : ∀ r s, 0 ≤ C r s ∧ C r s ≤ 999)
    (h : ∀ σ', (∀ c, c ≠ 57 → c ≠ 78 → σ' c = σ c) → σ' 78 2 = (rs_best V T C).2 → (0 ≤ (rs_best V T C).1 → σ' 78 0 = (rs_best V T C).1 / 10 ∧ σ' 78 1 = (rs_best V T C).1 % 10) → K (if 0 ≤ (rs_best V T C).1 then 1 else 0) σ') : rx_CI L (d + 4) mX9_search [.inr 78, .inr A, .inr 37] σ K := by
  have hn := wf_n hw
  have ht := wf_t hw
  have hA57 : A + 10 < 57 := by rcases sh_1 hA with rfl | rfl | rfl <;> omega
  have hb := rs_law_b (T := T) (n := V 0 12) (key := 2) ht.1
  have inv : ∀ σ1 : rx_St, (∀ c, c ≠ 57 → c ≠ 78 → σ1 c = σ c) → ld_C A V σ1 ∧ tx_C T σ1 ∧ rk_C C (V 0 6) σ1 := fun σ1 hf => ⟨ld_Cfr hV (fun c h1 h2 => hf c (by omega) (by omega)), fun k hk => by rw [hf (39 + k) (by omega) (by omega)]; exact hT k hk, fun r s r0 r1 s0 s1 rs => by
    have := wf_m hw
    rw [hf (60 + r.toNat) (by omega) (by omega)]; exact hC r s r0 r1 s0 s1 rs⟩
  refine bX9_search L (d + 3) A hA σ K ?_
  rw [ld_C0 hV]
  refine c_lastOf hT ht ?_
  refine c_sum0 hA hV hw hC hCb ?_
  have outer : ∀ (k : Nat) (a : Int) (st : Int × Int) (q6 q7 : Option rx_V) (σ1 : rx_St), 0 ≤ a → a + k = V 0 0 → sw_ok (V 0 0) st → (∀ c, c ≠ 57 → c ≠ 78 → σ1 c = σ c) → σ1 78 2 = st.2 → (0 ≤ st.1 → σ1 78 0 = st.1 / 10 ∧ σ1 78 1 = st.1 % 10) → sw_out V T C k a st = rs_best V T C → rx_Go L (d + 4) mX9_search 31 [some (.inr 78), some (.inr A), some (.inr 37), some (.inl (rs_law T (V 0 12) 2)), some (.inl (if 0 ≤ st.1 then 1 else 0)), some (.inl a), q6, q7] [] σ1 (rx_PI K) := by
    intro k
    induction k with
    | zero =>
      intro a st q6 q7 σ1 a0 ha hok hf h2 h01 he
      refine bX9_search_31 L (d + 3) A hA _ _ a q6 q7 σ1 K ?_
      rw [ld_C0 (inv σ1 hf).1, if_pos (by omega)]
      have he : st = rs_best V T C := he
      subst he
      exact ⟨by split <;> omega, h σ1 hf h2 h01⟩
    | succ k ih =>
      intro a st q6 q7 σ1 a0 ha hok hf h2 h01 he
      refine bX9_search_31 L (d + 3) A hA _ _ a q6 q7 σ1 K ?_
      rw [ld_C0 (inv σ1 hf).1, if_neg (by omega), rx_w_of (by omega) (by omega)]
      have he : sw_out V T C k (a + 1) (sw_in V T C k a (a + 1) st) = rs_best V T C := he
      have inner : ∀ (j : Nat) (b : Int) (st : Int × Int) (q7 : Option rx_V) (σ1 : rx_St), a < b → b + j = V 0 0 → sw_ok (V 0 0) st → (∀ c, c ≠ 57 → c ≠ 78 → σ1 c = σ c) → σ1 78 2 = st.2 → (0 ≤ st.1 → σ1 78 0 = st.1 / 10 ∧ σ1 78 1 = st.1 % 10) → sw_out V T C k (a + 1) (sw_in V T C j a b st) = rs_best V T C → rx_Go L (d + 4) mX9_search 46 [some (.inr 78), some (.inr A), some (.inr 37), some (.inl (rs_law T (V 0 12) 2)), some (.inl (if 0 ≤ st.1 then 1 else 0)), some (.inl a), some (.inl b), q7] [] σ1 (rx_PI K) := by
        intro j
        induction j with
        | zero =>
          intro b st q7 σ1 hab hb9 hok hf h2 h01 he
          refine bX9_search_46 L (d + 3) A hA _ _ a b q7 σ1 K ?_
          rw [ld_C0 (inv σ1 hf).1, if_pos (by omega), rx_w_of (by omega) (by omega)]
          exact ih (a + 1) st _ _ σ1 (by omega) (by omega) hok hf h2 h01 he
        | succ j ihj =>
          intro b st q7 σ1 hab hb9 hok hf h2 h01 he
          have he : sw_out V T C k (a + 1) (sw_in V T C j a (b + 1) (if sw_may T V a b = true ∧ sw_t V C a b < st.2 then (10 * a + b, sw_t V C a b) else st)) = rs_best V T C := he
          have hok2 := sw_ok1 (T := T) (C := C) hw hCb a0 hab (by omega) hok
          have f136 : ∀ (q7 : Option rx_V) (st2 : Int × Int) (σ2 : rx_St), (if sw_may T V a b = true ∧ sw_t V C a b < st.2 then (10 * a + b, sw_t V C a b) else st) = st2 → (∀ c, c ≠ 57 → c ≠ 78 → σ2 c = σ c) → σ2 78 2 = st2.2 → (0 ≤ st2.1 → σ2 78 0 = st2.1 / 10 ∧ σ2 78 1 = st2.1 % 10) → rx_Go L (d + 4) mX9_search 136 [some (.inr 78), some (.inr A), some (.inr 37), some (.inl (rs_law T (V 0 12) 2)), some (.inl (if 0 ≤ st2.1 then 1 else 0)), some (.inl a), some (.inl b), q7] [] σ2 (rx_PI K) := by
            rintro q7 st2 σ2 rfl g1 g2 g3
            refine bX9_search_136 L (d + 3) A hA _ _ a b q7 σ2 K ?_
            rw [rx_w_of (by omega) (by omega)]
            exact ihj (b + 1) _ q7 σ2 (by omega) (by omega) hok2 g1 g2 g3 he
          have f78 : ∀ (q7 : Option rx_V) (σ2 : rx_St), sw_may T V a b = true → (∀ c, c ≠ 57 → c ≠ 78 → σ2 c = σ c) → σ2 78 2 = st.2 → (0 ≤ st.1 → σ2 78 0 = st.1 / 10 ∧ σ2 78 1 = st.1 % 10) → rx_Go L (d + 4) mX9_search 78 [some (.inr 78), some (.inr A), some (.inr 37), some (.inl (rs_law T (V 0 12) 2)), some (.inl (if 0 ≤ st.1 then 1 else 0)), some (.inl a), some (.inl b), q7] [] σ2 (rx_PI K) := by
            intro q7 σ2 hmay g1 g2 g3
            have hi := inv σ2 g1
            refine bX9_search_78 L (d + 3) A hA _ _ a b q7 σ2 K ?_
            refine c_swapPosts hA hi.1 (by omega) (by omega) (by omega) (fun σ3 hC3 hf3 => ?_)
            have hw3 := wf_sw hw (a := a) (b := b) ⟨a0, by omega⟩ ⟨by omega, by omega⟩
            have hC3' : rk_C C ((ld_sw V a b) 0 6) σ3 := by
              rw [sw_k (by omega) (by omega)]
              intro r s r0 r1 s0 s1 rs
              have := wf_m hw
              rw [hf3 (60 + r.toNat) (by omega) (by omega)]
              exact hi.2.2 r s r0 r1 s0 s1 rs
            refine c_sum hA hC3 hw3 hC3' hCb (fun v v0 hv => ?_)
            refine c_swapPosts hA hC3 (by omega) (by omega) (by omega) (fun σ4 hC4 hf4 => ?_)
            rw [sw_sw (by omega)] at hC4
            have hc4 : ∀ c, c ≠ 57 → c ≠ 78 → σ4 c = σ c := by
              intro c c1 c2
              by_cases e1 : c = A + 1
              · rw [e1, hC4 1 (by omega), hV 1 (by omega)]
              · by_cases e2 : c = A + 2
                · rw [e2, hC4 2 (by omega), hV 2 (by omega)]
                · rw [hf4 c e1 e2, hf3 c e1 e2, g1 c c1 c2]
            have h78 : σ4 78 = σ2 78 := by rw [hf4 78 (by omega) (by omega), hf3 78 (by omega) (by omega)]
            rw [h78, g2]
            have h3 : σ3 78 2 = st.2 := by rw [hf3 78 (by omega) (by omega), g2]
            rw [h3] at hv
            have hvt : (v < st.2 → v = sw_t V C a b) ∧ (st.2 ≤ v → st.2 ≤ sw_t V C a b) := by
              unfold sw_t
              rcases hv with e | ⟨e1, e2⟩
              · rw [← e]
                exact ⟨fun _ => rfl, fun g => g⟩
              · exact ⟨fun g => by omega, fun _ => by omega⟩
            by_cases c : st.2 ≤ v
            · rw [if_pos c]
              have := hvt.2 c
              refine f136 _ st σ4 (by rw [if_neg (by omega)]) hc4 (by rw [h78]; exact g2) (fun q => by rw [h78]; exact g3 q)
            · rw [if_neg c]
              have hv2 := hvt.1 (by omega)
              subst hv2
              have he2 : (if sw_may T V a b = true ∧ sw_t V C a b < st.2 then (10 * a + b, sw_t V C a b) else st) = (10 * a + b, sw_t V C a b) := by rw [if_pos ⟨hmay, by omega⟩]
              have h136 := f136 (some (.inl (sw_t V C a b))) (10 * a + b, sw_t V C a b) (rx_up (rx_up (rx_up σ4 78 0 a) 78 1 b) 78 2 (sw_t V C a b)) he2 (fun c c1 c2 => by rw [up_c c2, up_c c2, up_c c2]; exact hc4 c c1 c2) (by rw [up_s]) (fun _ => by
                simp (disch := omega) only [up_i, up_s]
                omega)
              have e1 : (if 0 ≤ ((10 * a + b, sw_t V C a b) : Int × Int).1 then (1 : Int) else 0) = 1 := if_pos (by show 0 ≤ 10 * a + b; omega)
              rw [e1] at h136
              exact h136
          refine bX9_search_46 L (d + 3) A hA _ _ a b q7 σ1 K ?_
          have hi := inv σ1 hf
          rw [ld_C0 hi.1, if_neg (by omega)]
          by_cases c : rs_law T (V 0 12) 2 < 0
          · rw [if_pos c]
            exact f78 _ σ1 (decide_eq_true (Or.inl c)) hf h2 h01
          · rw [if_neg c]
            refine c_answer hi.2.1 ht.2 hTw ⟨by omega, hb.2⟩ (fun σ2 hf2 => ?_)
            have hf2' : ∀ c, c ≠ 57 → c ≠ 78 → σ2 c = σ c := fun c c1 c2 => by rw [hf2 c c1]; exact hf c c1 c2
            have h78 : σ2 78 = σ1 78 := hf2 78 (by decide)
            by_cases z : rs_ans T (rs_law T (V 0 12) 2) a b 0 = 0
            · rw [if_neg (fun q => q z)]
              have hno : sw_may T V a b = false := decide_eq_false (fun q => q.elim c (fun q => q z))
              exact f136 _ st σ2 (by rw [if_neg (fun q => by rw [hno] at q; cases q.1)]) hf2' (by rw [h78]; exact h2) (fun q => by rw [h78]; exact h01 q)
            · rw [if_pos z]
              exact f78 _ σ2 (decide_eq_true (Or.inr z)) hf2' (by rw [h78]; exact h2) (fun q => by rw [h78]; exact h01 q)
      exact inner k (a + 1) st _ σ1 (by omega) (by omega) hok hf h2 h01 he
  have := outer (V 0 0).toNat 0 (-1, rs_tot (V 5) V 0 C) none none (rx_up σ 78 2 (rs_tot (V 5) V 0 C)) (by omega) (by omega) ⟨Or.inl rfl, rs_tot_b hw hCb⟩ (fun c c1 c2 => up_c c2) up_s (fun q => by
    have : (0 : Int) ≤ -1 := q
    omega) rfl
  exact this
end SW
