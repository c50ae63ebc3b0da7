/-! ===== the best row: taking seats, the next order ===== -/
theorem rw_120 {s : Nat} (hs : s ≤ 5) : rw_f s ≤ 120 ∧ 1 ≤ rw_f s := by
  have h : ∀ s : Fin 6, rw_f s.val ≤ 120 ∧ 1 ≤ rw_f s.val := by decide
  exact h ⟨s, by omega⟩
theorem rw_fact {s w : Nat} (hs : s ≤ 5) (hw : w < rw_f s) : ∃ l, rwk s w = some l ∧ (∀ i : Int, 0 ≤ i → i < s → 0 ≤ rw_at l i ∧ rw_at l i < s) ∧ (∀ i j : Int, 0 ≤ i → i < s → 0 ≤ j → j < s → rw_at l i = rw_at l j → i = j) ∧ (w = 0 → ∀ i : Int, 0 ≤ i → i < s → rw_at l i = i) ∧ (nx_a s (rw_at l) = none → w + 1 = rw_f s) ∧ (∀ b, nx_a s (rw_at l) = some b → w + 1 < rw_f s ∧ ∃ l', rwk s (w + 1) = some l' ∧ ∀ i : Int, 0 ≤ i → i < s → b i = rw_at l' i) := by
  have h120 := rw_120 hs
  have hc := rw_all ⟨s, by omega⟩ ⟨w, by omega⟩ hw
  have hc : rw_chk s w = true := hc
  unfold rw_chk at hc
  cases hl : rwk s w with
  | none =>
    rw [hl] at hc
    cases hc
  | some l =>
    rw [hl] at hc
    simp only [Bool.and_eq_true] at hc
    obtain ⟨⟨⟨⟨h1, h2⟩, h3⟩, _⟩, h4⟩ := hc
    refine ⟨l, rfl, fun i i0 i1 => ?_, fun i j i0 i1 j0 j1 e => ?_, fun w0 i i0 i1 => ?_, fun e => ?_, fun b e => ?_⟩
    · have := List.all_eq_true.mp h1 i.toNat (List.mem_range.mpr (by omega))
      have := of_decide_eq_true this
      rw [show ((i.toNat : Nat) : Int) = i by omega] at this
      exact this
    · have := List.all_eq_true.mp h2 i.toNat (List.mem_range.mpr (by omega))
      have := List.all_eq_true.mp this j.toNat (List.mem_range.mpr (by omega))
      have := of_decide_eq_true this
      rw [show ((i.toNat : Nat) : Int) = i by omega, show ((j.toNat : Nat) : Int) = j by omega] at this
      have := this e
      omega
    · have := (of_decide_eq_true h3) w0 ⟨i.toNat, by omega⟩ (show i.toNat < s by omega)
      have this : rw_at l ((i.toNat : Nat) : Int) = ((i.toNat : Nat) : Int) := this
      rw [show ((i.toNat : Nat) : Int) = i by omega] at this
      exact this
    · rw [e] at h4
      exact of_decide_eq_true h4
    · rw [e] at h4
      simp only [Bool.and_eq_true] at h4
      refine ⟨of_decide_eq_true h4.1, ?_⟩
      have h5 := h4.2
      cases hl' : rwk s (w + 1) with
      | none =>
        rw [hl'] at h5
        cases h5
      | some l' =>
        rw [hl'] at h5
        refine ⟨l', rfl, fun i i0 i1 => ?_⟩
        have := List.all_eq_true.mp h5 i.toNat (List.mem_range.mpr (by omega))
        have := of_decide_eq_true this
        rw [show ((i.toNat : Nat) : Int) = i by omega] at this
        exact this
theorem rw_at0 (x : Int) (l : List Int) : rw_at (x :: l) 0 = x := rfl
theorem rw_atS (x : Int) (l : List Int) {i : Int} (h : 0 ≤ i) : rw_at (x :: l) (i + 1) = rw_at l i := by
  unfold rw_at
  rw [show (i + 1).toNat = i.toNat + 1 by omega]
  rfl
section RWS
variable {L d : Nat} {σ V T : rx_St} {K : Int → rx_St → Prop} {KV : rx_St → Prop} {mem seat : Int → Int}
theorem n_sit {s : Int} (hs : 0 ≤ s ∧ s ≤ 5) (hmem : ∀ i, 0 ≤ i → i < s → 0 ≤ mem i ∧ mem i < 8) {q1 q2 : Option rx_V} : ∀ (n : Nat) (rest by' free k : Int) (l : List Int) (q7 q8 : Option rx_V) (σ1 : rx_St), rwk_out s n rest by' free k = some l → 0 ≤ k → k + n = s → σ1 125 20 = s → (∀ i, 0 ≤ i → i < s → σ1 139 i = mem i ∧ σ1 140 i = seat i) → (∀ i : Int, 0 ≤ i → i < n → 0 ≤ rw_at l i ∧ rw_at l i < s) → (∀ i j : Int, 0 ≤ i → i < n → 0 ≤ j → j < n → mem (rw_at l i) = mem (rw_at l j) → i = j) →
    (∀ σ', (∀ i : Int, 0 ≤ i → i < n → σ' 141 (k + i) = mem (rw_at l i)) → (∀ j, j < k → σ' 141 j = σ1 141 j) → (∀ i : Int, 0 ≤ i → i < n → σ' 133 (mem (rw_at l i)) = seat (k + i)) → (∀ q, (∀ i : Int, 0 ≤ i → i < n → mem (rw_at l i) ≠ q) → σ' 133 q = σ1 133 q) → (∀ c, c ≠ 133 → c ≠ 141 → σ' c = σ1 c) → KV σ') → rx_Go L d mX11_sits 18 [some (.inr 125), q1, q2, some (.inl rest), some (.inl by'), some (.inl free), some (.inl k), q7, q8] [] σ1 (rx_PV KV) := by
  intro n
  induction n with
  | zero =>
    intro rest by' free k l q7 q8 σ1 hl k0 hk h20 hms hr hi hK
    refine bX11_sits_18 L d q1 q2 rest by' free k q7 q8 σ1 KV ?_
    rw [h20, if_pos (by omega)]
    exact hK σ1 (fun i i0 i1 => by omega) (fun _ _ => rfl) (fun i i0 i1 => by omega) (fun _ _ => rfl) (fun _ _ _ => rfl)
  | succ n ih =>
    intro rest by' free k l q7 q8 σ1 hl k0 hk h20 hms hr hi hK
    unfold rwk_out at hl
    refine bX11_sits_18 L d q1 q2 rest by' free k q7 q8 σ1 KV ?_
    rw [h20, if_neg (by omega)]
    by_cases z : rx_w (s - k) = 0 ∨ rx_w (Int.tdiv by' (rx_w (s - k))) = 0
    · rw [if_pos z] at hl
      cases hl
    rw [if_neg z] at hl
    refine ⟨fun q => z (Or.inl q), fun q => z (Or.inr q), fun q => z (Or.inr q), ?_⟩
    generalize rx_w (Int.tdiv by' (rx_w (s - k))) = b at *
    cases hx : rwk_in 9 free (rx_w (Int.tdiv rest b)) 0 with
    | none =>
      rw [hx] at hl
      cases hl
    | some x =>
      rw [hx] at hl
      cases hl2 : rwk_out s n (Int.tmod rest b) b (rx_alu 3 free (rx_alu 5 (rx_alu 6 1 x.2) (-1))) (k + 1) with
      | none =>
        simp only [hl2] at hl
        cases hl
      | some l2 =>
        simp only [hl2] at hl
        cases hl
        have hx2 := hr 0 (by omega) (by omega)
        rw [rw_at0] at hx2
        have hmx := hms x.2 hx2.1 hx2.2
        have hsk := hms k k0 (by omega)
        have hmb := hmem x.2 hx2.1 hx2.2
        have inn : ∀ (f : Nat) (nth m : Int), rwk_in f free nth m = some x → rx_Go L d mX11_sits 53 [some (.inr 125), q1, q2, some (.inl (Int.tmod rest b)), some (.inl b), some (.inl free), some (.inl k), some (.inl nth), some (.inl m)] [] σ1 (rx_PV KV) := by
          intro f
          induction f with
          | zero =>
            intro nth m e
            cases e
          | succ f ihf =>
            intro nth m e
            unfold rwk_in at e
            refine bX11_sits_53 L d q1 q2 _ b free k nth m σ1 KV ?_
            by_cases c1 : rx_alu 3 (rx_alu 7 free m) 1 = 0
            · rw [if_pos c1] at e ⊢
              exact ihf _ _ e
            · rw [if_neg c1] at e ⊢
              by_cases c2 : nth ≤ 0
              · rw [if_pos c2] at e ⊢
                cases e
                rw [up_c (show (139 : Nat) ≠ 141 by decide), up_c (show (140 : Nat) ≠ 141 by decide), hmx.1, hsk.2, rx_w_of (by omega) (by omega)]
                refine ⟨by omega, by omega, by omega, ?_⟩
                have hdis : ∀ i : Int, 0 ≤ i → i < n → mem (rw_at l2 i) ≠ mem m := fun i i0 i1 e => by
                  have := hi (i + 1) 0 (by omega) (by omega) (by omega) (by omega)
                  rw [rw_atS _ _ i0, rw_at0] at this
                  have := this e
                  omega
                refine ih _ b _ (k + 1) l2 _ _ _ hl2 (by omega) (by omega) (by rw [up_c (by decide), up_c (by decide)]; exact h20) (fun i i0 i1 => by rw [up_c (by decide), up_c (by decide), up_c (by decide), up_c (by decide)]; exact hms i i0 i1) (fun i i0 i1 => ?_) (fun i j i0 i1 j0 j1 e => ?_) (fun σ' a1 a2 a3 a4 a5 => hK σ' (fun i i0 i1 => ?_) (fun j hj => ?_) (fun i i0 i1 => ?_) (fun q hq => ?_) (fun c h1 h2 => ?_))
                · have := hr (i + 1) (by omega) (by omega)
                  rw [rw_atS _ _ i0] at this
                  exact this
                · have := hi (i + 1) (j + 1) (by omega) (by omega) (by omega) (by omega)
                  rw [rw_atS _ _ i0, rw_atS _ _ j0] at this
                  have := this e
                  omega
                · by_cases e0 : i = 0
                  · rw [e0, rw_at0, Int.add_zero, a2 k (by omega), up_c (by decide), up_s]
                  · have := a1 (i - 1) (by omega) (by omega)
                    rw [show i = i - 1 + 1 by omega, rw_atS _ _ (by omega), show k + (i - 1 + 1) = k + 1 + (i - 1) by omega]
                    exact this
                · rw [a2 j (by omega), up_c (by decide), up_i (by omega)]
                · by_cases e0 : i = 0
                  · rw [e0, rw_at0, Int.add_zero, a4 (mem m) hdis, up_s]
                  · have := a3 (i - 1) (by omega) (by omega)
                    rw [show i = i - 1 + 1 by omega, rw_atS _ _ (by omega), show k + (i - 1 + 1) = k + 1 + (i - 1) by omega]
                    exact this
                · have h0 := hq 0 (by omega) (by omega)
                  rw [rw_at0] at h0
                  rw [a4 q (fun i i0 i1 => ?_), up_i (fun z => h0 z.symm), up_c (by decide)]
                  have := hq (i + 1) (by omega) (by omega)
                  rw [rw_atS _ _ i0] at this
                  exact this
                · rw [a5 c h1 h2, up_c h1, up_c h2]
              · rw [if_neg c2] at e ⊢
                exact ihf _ _ e
        exact inn 9 _ _ hx
theorem n_sits {s w : Nat} (hs : s ≤ 5) {l : List Int} (hl : rwk s w = some l) (hmem : ∀ i, 0 ≤ i → i < (s : Int) → 0 ≤ mem i ∧ mem i < 8) (h20 : σ 125 20 = s) (hms : ∀ i, 0 ≤ i → i < (s : Int) → σ 139 i = mem i ∧ σ 140 i = seat i) (hr : ∀ i : Int, 0 ≤ i → i < s → 0 ≤ rw_at l i ∧ rw_at l i < s) (hi : ∀ i j : Int, 0 ≤ i → i < s → 0 ≤ j → j < s → mem (rw_at l i) = mem (rw_at l j) → i = j) (hK : ∀ σ', (∀ i : Int, 0 ≤ i → i < s → σ' 141 i = mem (rw_at l i)) → (∀ i : Int, 0 ≤ i → i < s → σ' 133 (mem (rw_at l i)) = seat i) → (∀ q, (∀ i : Int, 0 ≤ i → i < s → mem (rw_at l i) ≠ q) → σ' 133 q = σ 133 q) → (∀ c, c ≠ 133 → c ≠ 141 → σ' c = σ c) → KV σ') : rx_CV L d mX11_sits [.inr 125, .inl (w : Int), .inl (rw_f s : Int)] σ KV := by
  refine bX11_sits L d _ _ σ KV ?_
  rw [h20]
  refine n_sit (s := s) (mem := mem) (seat := seat) ⟨by omega, by omega⟩ hmem s _ _ _ 0 l _ _ σ hl (by omega) (by omega) h20 hms hr hi (fun σ' a1 _ a3 a4 a5 => hK σ' (fun i i0 i1 => ?_) (fun i i0 i1 => ?_) a4 a5)
  · have := a1 i i0 i1
    rw [Int.zero_add] at this
    exact this
  · have := a3 i i0 i1
    rw [Int.zero_add] at this
    exact this
theorem c_exchange {a : Int → Int} {s i j : Int} (hs : s ≤ 5) (hi : 0 ≤ i ∧ i < s) (hj : 0 ≤ j ∧ j < s) (ha : ∀ x, 0 ≤ x → x < s → σ 97 x = mem (a x)) (h : ∀ σ', (∀ x, 0 ≤ x → x < s → σ' 97 x = mem (nx_ex a i j x)) → (∀ c, c ≠ 97 → σ' c = σ c) → KV σ') : rx_CV L d mX6_exchange [.inr 95, .inl i, .inl j] σ KV := by
  refine bX6_exchange L d i j σ KV ⟨by omega, by omega, h _ (fun x x0 x1 => ?_) (fun c hc => by rw [up_c hc, up_c hc])⟩
  unfold nx_ex
  by_cases e1 : x = j
  · rw [up_e e1, if_pos e1]
    exact ha i hi.1 hi.2
  · rw [up_i e1, if_neg e1]
    by_cases e2 : x = i
    · rw [up_e e2, if_pos e2]
      exact ha j hj.1 hj.2
    · rw [up_i e2, if_neg e2]
      exact ha x x0 x1
theorem c_nextOrder {s : Nat} (hs : s ≤ 5) (h4 : σ 95 4 = s) (hmo : ∀ i j, 0 ≤ i → i < (s : Int) → 0 ≤ j → j < (s : Int) → (mem i ≤ mem j ↔ i ≤ j)) {a : Int → Int} (har : ∀ i, 0 ≤ i → i < (s : Int) → 0 ≤ a i ∧ a i < s) (ha : ∀ i, 0 ≤ i → i < (s : Int) → σ 97 i = mem (a i)) (h0 : nx_a s a = none → K 0 σ) (h1 : ∀ b σ', nx_a s a = some b → (∀ i, 0 ≤ i → i < (s : Int) → σ' 97 i = mem (b i)) → (∀ c, c ≠ 97 → σ' c = σ c) → K 1 σ') : rx_CI L (d + 1) mX6_nextOrder [.inr 95] σ K := by
  refine bX6_nextOrder L d σ K ?_
  rw [h4]
  -- turning the end round
  have rev : ∀ (f : Nat) (i j : Int) (a : Int → Int) (σ1 : rx_St) (q1 q2 : Option rx_V), 0 ≤ i → j < s → j - i < 2 * f → (∀ x, 0 ≤ x → x < (s : Int) → σ1 97 x = mem (a x)) → (∀ c, c ≠ 97 → σ1 c = σ c) → (∀ σ', (∀ x, 0 ≤ x → x < (s : Int) → σ' 97 x = mem (nx_rev f a i j x)) → (∀ c, c ≠ 97 → σ' c = σ c) → K 1 σ') → rx_Go L (d + 1) mX6_nextOrder 99 [some (.inr 95), q1, q2, some (.inl i), some (.inl j)] [] σ1 (rx_PI K) := by
    intro f
    induction f with
    | zero =>
      intro i j a σ1 q1 q2 i0 j1 hf ha hfr hK
      refine bX6_nextOrder_99 L d q1 q2 i j σ1 K ?_
      rw [if_pos (by omega)]
      exact hK σ1 ha hfr
    | succ f ih =>
      intro i j a σ1 q1 q2 i0 j1 hf ha hfr hK
      refine bX6_nextOrder_99 L d q1 q2 i j σ1 K ?_
      unfold nx_rev at hK
      by_cases z : j ≤ i
      · rw [if_pos z]
        rw [if_pos z] at hK
        exact hK σ1 ha hfr
      · rw [if_neg z]
        rw [if_neg z] at hK
        refine c_exchange (s := s) (by omega) (by omega) (by omega) ha (fun σ2 ha2 hf2 => ?_)
        rw [rx_w_of (by omega) (by omega), rx_w_of (by omega) (by omega)]
        exact ih (i + 1) (j - 1) _ σ2 q1 q2 (by omega) (by omega) (by omega) ha2 (fun c hc => by rw [hf2 c hc]; exact hfr c hc) hK
  -- the greater one
  have gr : ∀ (n : Nat) (t : Int) (q3 q4 : Option rx_V), 0 ≤ t → t + 1 + n < s → (∀ σ', (∀ x, 0 ≤ x → x < (s : Int) → σ' 97 x = mem (nx_rev 5 (nx_ex a t (nx_gr a t n)) (t + 1) ((s : Int) - 1) x)) → (∀ c, c ≠ 97 → σ' c = σ c) → K 1 σ') → rx_Go L (d + 1) mX6_nextOrder 50 [some (.inr 95), some (.inl t), some (.inl (t + 1 + n)), q3, q4] [] σ (rx_PI K) := by
    intro n
    induction n with
    | zero =>
      intro t q3 q4 t0 ht hK
      refine bX6_nextOrder_50 L d t _ q3 q4 σ K ?_
      rw [rx_w_of (x := t + 1) (by omega) (by omega), if_pos (by omega)]
      refine c_exchange (s := s) (by omega) (by omega) (by omega) ha (fun σ2 ha2 hf2 => ?_)
      rw [hf2 95 (by decide), h4, rx_w_of (by omega) (by omega)]
      refine rev 5 (t + 1) (s - 1) _ σ2 _ _ (by omega) (by omega) (by omega) ha2 hf2 (fun σ' b1 b2 => hK σ' (fun x x0 x1 => ?_) b2)
      have := b1 x x0 x1
      rw [show t + 1 + ((0 : Nat) : Int) = t + 1 by omega] at this
      exact this
    | succ n ih =>
      intro t q3 q4 t0 ht hK
      refine bX6_nextOrder_50 L d t _ q3 q4 σ K ?_
      rw [rx_w_of (x := t + 1) (by omega) (by omega), if_neg (by omega)]
      have b1 := har t t0 (by omega)
      have b2 := har (t + 1 + (n + 1 : Nat)) (by omega) (by omega)
      have hcmp : σ 97 (t + 1 + (n + 1 : Nat)) ≤ σ 97 t ↔ a (t + 1 + ((n : Int) + 1)) ≤ a t := by
        rw [ha _ (by omega) (by omega), ha _ t0 (by omega), hmo _ _ b2.1 b2.2 b1.1 b1.2]
        exact Iff.rfl
      refine ⟨by omega, by omega, ?_⟩
      unfold nx_gr at hK
      by_cases z : σ 97 (t + 1 + (n + 1 : Nat)) ≤ σ 97 t
      · rw [if_pos z, rx_w_of (by omega) (by omega), show t + 1 + ((n + 1 : Nat) : Int) + -1 = t + 1 + n by omega]
        rw [if_pos (hcmp.mp z)] at hK
        exact ih t q3 q4 t0 (by omega) hK
      · rw [if_neg z]
        rw [if_neg (fun q => z (hcmp.mpr q))] at hK
        refine c_exchange (s := s) (by omega) (by omega) (by omega) ha (fun σ2 ha2 hf2 => ?_)
        rw [hf2 95 (by decide), h4, rx_w_of (by omega) (by omega)]
        exact rev 5 (t + 1) (s - 1) _ σ2 _ _ (by omega) (by omega) (by omega) ha2 hf2 hK
  have turn : ∀ (n : Nat) (t : Int) (q2 q3 q4 : Option rx_V), t = (n : Int) - 1 → n < s → (nx_turn a n = nx_turn a (s - 1)) → rx_Go L (d + 1) mX6_nextOrder 7 [some (.inr 95), some (.inl t), q2, q3, q4] [] σ (rx_PI K) := by
    intro n
    induction n with
    | zero =>
      intro t q2 q3 q4 ht hn e
      refine bX6_nextOrder_7 L d t q2 q3 q4 σ K ?_
      rw [if_pos (by omega)]
      refine h0 ?_
      unfold nx_a
      rw [← e]
      exact if_pos (show (-1 : Int) < 0 by decide)
    | succ n ih =>
      intro t q2 q3 q4 ht hn e
      refine bX6_nextOrder_7 L d t q2 q3 q4 σ K ?_
      have et : t = n := by omega
      rw [et, if_neg (by omega), rx_w_of (x := (n : Int) + 1) (by omega) (by omega), rx_w_of (x := (n : Int) + -1) (by omega) (by omega)]
      refine ⟨by omega, by omega, ?_⟩
      have b1 := har n (by omega) (by omega)
      have b2 := har (n + 1) (by omega) (by omega)
      have hcmp : σ 97 ((n : Int) + 1) ≤ σ 97 n ↔ a ((n : Int) + 1) ≤ a n := by
        rw [ha _ (by omega) (by omega), ha n (by omega) (by omega), hmo _ _ b2.1 b2.2 b1.1 b1.2]
      have e : (if a ((n : Int) + 1) ≤ a n then nx_turn a n else (n : Int)) = nx_turn a (s - 1) := e
      by_cases z : σ 97 ((n : Int) + 1) ≤ σ 97 n
      · rw [if_pos z]
        rw [if_pos (hcmp.mp z)] at e
        exact ih _ q2 q3 q4 (by omega) (by omega) e
      · rw [if_neg z, h4, rx_w_of (by omega) (by omega)]
        rw [if_neg (fun q => z (hcmp.mpr q))] at e
        have := gr (s - 2 - n) n q3 q4 (by omega) (by omega) (fun σ' c1 c2 => h1 _ σ' ?_ c1 c2)
        · rw [show (n : Int) + 1 + ((s - 2 - n : Nat) : Int) = (s : Int) - 1 by omega] at this
          exact this
        · unfold nx_a
          rw [← e, if_neg (by omega), show ((s : Int) - 2 - n).toNat = s - 2 - n by omega]
  by_cases z : s = 0
  · refine bX6_nextOrder_7 L d _ none none none σ K ?_
    rw [rx_w_of (by omega) (by omega), if_pos (by omega)]
    refine h0 ?_
    rw [z]
    rfl
  · exact turn (s - 1) _ none none none (by rw [rx_w_of (by omega) (by omega)]; omega) (by omega) rfl
end RWS
