/-! ===== reading a text: the model's key ===== -/
section RDM
variable {L d : Nat} {σ : rx_St} {K : Int → rx_St → Prop} {KV : rx_St → Prop} {t : Int → Int} {n : Int}
theorem n_word (hn : 0 ≤ n ∧ n ≤ 96) (ht : ∀ i, 0 ≤ i → i < n → σ 142 i = t i) {f e o w : Int} {wd : List Int} (hf : 0 ≤ f ∧ f ≤ e ∧ e ≤ n) (h23 : σ 125 23 = e) (h24 : σ 125 24 = f) (hw0 : 0 ≤ w ∧ w < 3) (ho : 0 ≤ o ∧ o + wd.length ≤ 13) (h144 : σ 144 w = o) (h144b : σ 144 (w + 1) = o + wd.length) (h143 : ∀ i : Nat, i < wd.length → wd[i]? = some (σ 143 (o + i))) (hy : rd_is t f e wd → rx_CV L d mX11_go [.inr 125] (rx_up σ 125 28 w) (fun σ8 => K 1 σ8)) (hno : ¬ rd_is t f e wd → ∀ q2 q3 q4, rx_Go L (d + 1) mX11_takesKey 12 [some (.inr 125), some (.inl (w + 1)), q2, q3, q4] [] σ (rx_PI K)) {q2 q3 q4 : Option rx_V} : rx_Go L (d + 1) mX11_takesKey 12 [some (.inr 125), some (.inl w), q2, q3, q4] [] σ (rx_PI K) := by
  have off : ∀ x : Int, ¬ rd_is t f e wd → rx_Go L (d + 1) mX11_takesKey 55 [some (.inr 125), some (.inl w), some (.inl (wd.length : Int)), some (.inl 0), some (.inl x)] [] σ (rx_PI K) := by
    intro x hq
    refine bX11_takesKey_55 L d w _ 0 x σ K ?_
    rw [if_pos rfl, rx_w_of (by omega) (by omega)]
    split
    · exact hno hq _ _ _
    · exact hno hq _ _ _
  refine bX11_takesKey_12 L d w q2 q3 q4 σ K ?_
  rw [if_neg (by omega), rx_w_of (x := w + 1) (by omega) (by omega), h144, h144b, h23, h24, rx_w_of (x := o + wd.length - o) (by omega) (by omega), rx_w_of (x := e - f) (by omega) (by omega), show o + (wd.length : Int) - o = wd.length by omega]
  refine ⟨by omega, by omega, ?_⟩
  by_cases c : (wd.length : Int) = e - f
  · rw [if_neg (fun q => q c)]
    have key : ∀ (m x : Nat), x + m = wd.length → (∀ i : Nat, i < x → wd[i]? = some (t (f + i))) → rx_Go L (d + 1) mX11_takesKey 55 [some (.inr 125), some (.inl w), some (.inl (wd.length : Int)), some (.inl 1), some (.inl (x : Int))] [] σ (rx_PI K) := by
      intro m
      induction m with
      | zero =>
        intro x hx hp
        refine bX11_takesKey_55 L d w _ 1 x σ K ?_
        rw [if_pos (by omega), if_neg (by decide)]
        exact hy ⟨c.symm, fun i hi => hp i (by omega)⟩
      | succ m ih =>
        intro x hx hp
        refine bX11_takesKey_55 L d w _ 1 x σ K ?_
        rw [if_neg (by omega), if_neg (by decide), h24, h144, rx_w_of (x := f + x) (by omega) (by omega), rx_w_of (x := o + x) (by omega) (by omega), rx_w_of (x := (x : Int) + 1) (by omega) (by omega), ht (f + x) (by omega) (by omega)]
        refine ⟨by omega, by omega, by omega, ?_⟩
        have hc := h143 x (by omega)
        by_cases c3 : t (f + x) = σ 143 (o + x)
        · rw [if_neg (fun q => q c3)]
          refine ih (x + 1) (by omega) (fun i hi => ?_)
          by_cases ei : i = x
          · rw [ei, hc, c3]
          · exact hp i (by omega)
        · rw [if_pos c3]
          refine off _ (fun q => c3 ?_)
          have := q.2 x (by omega)
          rw [hc] at this
          exact (Option.some.inj this).symm
    exact key wd.length 0 (by omega) (fun i hi => by omega)
  · rw [if_pos c]
    exact off 0 (fun q => c q.1.symm)
end RDM
