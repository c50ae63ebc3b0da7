/-! ===== reading a text: words, names, numbers ===== -/
/-- what stands from f to e is the word -/
def rd_is (t : Int → Int) (f e : Int) (w : List Int) : Prop := e - f = (w.length : Int) ∧ ∀ i : Nat, i < w.length → w[i]? = some (t (f + i))
noncomputable def rd_key (t : Int → Int) (k f e : Int) : Int := if bo (k = -2 ∧ rd_is t f e [104, 97, 114, 109]) = true then 0 else if bo (k = -2 ∧ rd_is t f e [99, 114, 111, 115, 115]) = true then 1 else if bo (k = -2 ∧ rd_is t f e [115, 119, 97, 112]) = true then 2 else -1
def rd_name (t : Int → Int) (key f e : Int) : Int := if e - f = 1 then (if t f = 97 then (if key ≠ 0 then (if key ≠ 2 then 0 else -1) else -2) else if t f = 98 then (if key ≠ 0 then (if key ≠ 2 then 0 else -2) else -3) else if t f = 112 then (if key ≠ 1 then 0 else -1) else if t f = 113 then (if key ≠ 1 then 0 else -2) else if t f = 119 then (if key ≠ 0 then 0 else -1) else 0) else 0
section RDC
variable {L d : Nat} {σ : rx_St} {K : Int → rx_St → Prop} {KV : rx_St → Prop} {t : Int → Int} {n : Int}
theorem c_isHere (hn : 0 ≤ n ∧ n ≤ 96) (ht : σ 36 = t) (hf : 0 ≤ σ 34 7 ∧ σ 34 7 ≤ σ 34 8 ∧ σ 34 8 ≤ n) {A : Nat} (hA : rx_str A ≠ []) (h1 : σ 34 6 = -2 ∧ rd_is t (σ 34 7) (σ 34 8) (rx_str A) → K 1 σ) (h0 : ¬ (σ 34 6 = -2 ∧ rd_is t (σ 34 7) (σ 34 8) (rx_str A)) → K 0 σ) : rx_CI L d mX5_isHere [.inr 34, .inr A] σ K := by
  refine bX5_isHere L d A hA σ K ?_
  by_cases c1 : σ 34 6 = -2
  · rw [if_neg (fun q => q c1), rx_w_of (by omega) (by omega)]
    by_cases c2 : σ 34 8 - σ 34 7 = ((rx_str A).length : Int)
    · rw [if_pos c2]
      have key : ∀ (m x : Nat), x + m = (rx_str A).length → (∀ i : Nat, i < x → (rx_str A)[i]? = some (t (σ 34 7 + i))) → rx_Go L d mX5_isHere 29 [some (.inr 34), some (.inr A), some (.inl (x : Int))] [] σ (rx_PI K) := by
        intro m
        induction m with
        | zero =>
          intro x hx hw
          refine bX5_isHere_29 L d A hA x σ K ?_
          rw [if_pos (by omega)]
          exact h1 ⟨c1, c2, fun i hi => hw i (by omega)⟩
        | succ m ih =>
          intro x hx hw
          refine bX5_isHere_29 L d A hA x σ K ?_
          rw [if_neg (by omega), rx_w_of (by omega) (by omega), rx_w_of (by omega) (by omega), ht]
          refine ⟨by omega, by omega, (rx_str A)[x]'(by omega), ?_, ?_⟩
          · rw [show ((x : Int)).toNat = x by omega]
            exact List.getElem?_eq_getElem (by omega)
          · by_cases c3 : t (σ 34 7 + x) = (rx_str A)[x]'(by omega)
            · rw [if_pos c3]
              refine ih (x + 1) (by omega) (fun i hi => ?_)
              by_cases e : i = x
              · rw [e, c3]
                exact List.getElem?_eq_getElem (by omega)
              · exact hw i (by omega)
            · rw [if_neg c3]
              refine h0 (fun q => c3 ?_)
              have := q.2.2 x (by omega)
              rw [List.getElem?_eq_getElem (by omega)] at this
              exact (Option.some.inj this).symm
      exact key (rx_str A).length 0 (by omega) (fun i hi => by omega)
    · rw [if_neg c2]
      exact h0 (fun q => c2 q.2.1)
  · rw [if_pos c1]
    exact h0 (fun q => c1 q.1)
theorem c_keyHere (hn : 0 ≤ n ∧ n ≤ 96) (ht : σ 36 = t) (hf : 0 ≤ σ 34 7 ∧ σ 34 7 ≤ σ 34 8 ∧ σ 34 8 ≤ n) (h : K (rd_key t (σ 34 6) (σ 34 7) (σ 34 8)) σ) : rx_CI L (d + 1) mX5_keyHere [.inr 34] σ K := by
  have e1 : rx_str 161 = [104, 97, 114, 109] := rfl
  have e2 : rx_str 162 = [99, 114, 111, 115, 115] := by unfold rx_str; rw [if_neg (by decide), if_pos rfl]
  have e3 : rx_str 163 = [115, 119, 97, 112] := by unfold rx_str; rw [if_neg (by decide), if_neg (by decide), if_pos rfl]
  unfold rd_key at h
  refine bX5_keyHere L d σ K ?_
  refine c_isHere hn ht hf (by rw [e1]; decide) (fun c => ?_) (fun c => ?_)
  · rw [e1] at c
    rw [if_neg (by decide)]
    rw [if_pos (bo_t c)] at h
    exact h
  rw [e1] at c
  rw [if_pos rfl]
  rw [if_neg (by rw [bo_f c]; decide)] at h
  refine c_isHere hn ht hf (by rw [e2]; decide) (fun c => ?_) (fun c => ?_)
  · rw [e2] at c
    rw [if_neg (by decide)]
    rw [if_pos (bo_t c)] at h
    exact h
  rw [e2] at c
  rw [if_pos rfl]
  rw [if_neg (by rw [bo_f c]; decide)] at h
  refine c_isHere hn ht hf (by rw [e3]; decide) (fun c => ?_) (fun c => ?_)
  · rw [e3] at c
    rw [if_neg (by decide)]
    rw [if_pos (bo_t c)] at h
    exact h
  · rw [e3] at c
    rw [if_pos rfl]
    rw [if_neg (by rw [bo_f c]; decide)] at h
    exact h
theorem c_nameHere (hn : 0 ≤ n ∧ n ≤ 96) (ht : σ 36 = t) (hf : 0 ≤ σ 34 7 ∧ σ 34 7 ≤ σ 34 8 ∧ σ 34 8 ≤ n) (h : K (rd_name t (σ 34 1) (σ 34 7) (σ 34 8)) σ) : rx_CI L d mX5_nameHere [.inr 34] σ K := by
  refine bX5_nameHere L d σ K ?_
  rw [rx_w_of (by omega) (by omega), ht]
  unfold rd_name at h
  by_cases c : σ 34 8 - σ 34 7 = 1
  · rw [if_pos c] at h ⊢
    refine ⟨by omega, ?_⟩
    repeat' split at h
    all_goals simp_all
  · rw [if_neg c] at h ⊢
    exact h
theorem c_numberHere (hn : 0 ≤ n ∧ n ≤ 96) (ht : σ 36 = t) (hf : 0 ≤ σ 34 7 ∧ σ 34 7 ≤ σ 34 8 ∧ σ 34 8 ≤ n) (h4 : σ 34 8 - σ 34 7 ≤ 4) (hd : ∀ i, σ 34 7 ≤ i → i < σ 34 8 → 48 ≤ t i ∧ t i ≤ 57) (h : K (rd_nm t (σ 34 8 - σ 34 7).toNat (σ 34 7) 0) σ) : rx_CI L d mX5_numberHere [.inr 34] σ K := by
  refine bX5_numberHere L d σ K ?_
  have key : ∀ (m : Nat) (i v : Int), σ 34 7 ≤ i → i + m = σ 34 8 → 0 ≤ v → v ≤ 9999 → (m = 4 → v ≤ 0) → (m = 3 → v ≤ 9) → (m = 2 → v ≤ 99) → (m = 1 → v ≤ 999) → K (rd_nm t m i v) σ → rx_Go L d mX5_numberHere 7 [some (.inr 34), some (.inl v), some (.inl i)] [] σ (rx_PI K) := by
    intro m
    induction m with
    | zero =>
      intro i v i0 hi v0 v1 _ _ _ _ h
      refine bX5_numberHere_7 L d v i σ K ?_
      rw [if_pos (by omega)]
      exact h
    | succ m ih =>
      intro i v i0 hi v0 v1 a4 a3 a2 a1 h
      have hdi := hd i i0 (by omega)
      refine bX5_numberHere_7 L d v i σ K ?_
      rw [if_neg (by omega), ht, rx_w_of (x := 10 * v) (by omega) (by omega), rx_w_of (x := 10 * v + t i) (by omega) (by omega), rx_w_of (x := 10 * v + t i - 48) (by omega) (by omega), rx_w_of (x := i + 1) (by omega) (by omega)]
      exact ⟨by omega, ih (i + 1) _ (by omega) (by omega) (by omega) (by omega) (by omega) (by omega) (by omega) (by omega) h⟩
  exact key (σ 34 8 - σ 34 7).toNat (σ 34 7) 0 (by omega) (by omega) (by omega) (by omega) (by omega) (by omega) (by omega) (by omega) h
end RDC
