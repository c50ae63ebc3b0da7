/-! ===== reading a text: the model takes its key, names ===== -/
section RDK
variable {L d : Nat} {σ : rx_St} {K : Int → rx_St → Prop} {KV : rx_St → Prop} {t : Int → Int} {n : Int} {S : Int → Int}
theorem n_takesKey (hn : 0 ≤ n ∧ n ≤ 96) (ht : ∀ i, 0 ≤ i → i < n → σ 142 i = t i) (hc : iv_const S σ) {k f e : Int} (hf : 0 ≤ f ∧ f ≤ e ∧ e ≤ n) (hk : -4 ≤ k) (hM : rd_M t k f e σ) (h1 : 0 ≤ rd_key t k f e → rx_CV L d mX11_go [.inr 125] (rx_up σ 125 28 (rd_key t k f e)) (fun σ8 => K 1 σ8)) (h0 : rd_key t k f e < 0 → K 0 σ) : rx_CI L (d + 1) mX11_takesKey [.inr 125] σ K := by
  obtain ⟨m1, m2, m3, m4, m5, m6, m7, m8, m9⟩ := hM
  obtain ⟨_, _, ⟨w0, w1, w2, w3, w4, w5, w6, w7, w8, w9, w10, w11, w12⟩, ⟨a0, a1, a2, a3⟩⟩ := hc
  refine bX11_takesKey L d σ K ?_
  by_cases c : k = -2
  · rw [if_pos (m4 c).1]
    unfold rd_key at h0 h1
    refine n_word (f := f) (e := e) (o := 0) (w := 0) (wd := [104, 97, 114, 109]) hn ht hf m1 m2 (by omega) (by decide) a0 a1 (fun i hi => ?_) (fun q => ?_) (fun q q2 q3 q4 => ?_)
    · have hi : i < 4 := hi
      have : i = 0 ∨ i = 1 ∨ i = 2 ∨ i = 3 := by omega
      rcases this with rfl | rfl | rfl | rfl
      · exact congrArg some w0.symm
      · exact congrArg some w1.symm
      · exact congrArg some w2.symm
      · exact congrArg some w3.symm
    · rw [if_pos (bo_t ⟨c, q⟩)] at h1
      exact h1 (by decide)
    rw [if_neg (by rw [bo_f (fun z => q z.2)]; decide)] at h0 h1
    rw [show (0 : Int) + 1 = 1 by decide]
    refine n_word (f := f) (e := e) (o := 4) (w := 1) (wd := [99, 114, 111, 115, 115]) hn ht hf m1 m2 (by omega) (by decide) a1 a2 (fun i hi => ?_) (fun q => ?_) (fun q q2 q3 q4 => ?_)
    · have hi : i < 5 := hi
      have : i = 0 ∨ i = 1 ∨ i = 2 ∨ i = 3 ∨ i = 4 := by omega
      rcases this with rfl | rfl | rfl | rfl | rfl
      · exact congrArg some w4.symm
      · exact congrArg some w5.symm
      · exact congrArg some w6.symm
      · exact congrArg some w7.symm
      · exact congrArg some w8.symm
    · rw [if_pos (bo_t ⟨c, q⟩)] at h1
      exact h1 (by decide)
    rw [if_neg (by rw [bo_f (fun z => q z.2)]; decide)] at h0 h1
    rw [show (1 : Int) + 1 = 2 by decide]
    refine n_word (f := f) (e := e) (o := 9) (w := 2) (wd := [115, 119, 97, 112]) hn ht hf m1 m2 (by omega) (by decide) a2 a3 (fun i hi => ?_) (fun q => ?_) (fun q q2 q3 q4 => ?_)
    · have hi : i < 4 := hi
      have : i = 0 ∨ i = 1 ∨ i = 2 ∨ i = 3 := by omega
      rcases this with rfl | rfl | rfl | rfl
      · exact congrArg some w9.symm
      · exact congrArg some w10.symm
      · exact congrArg some w11.symm
      · exact congrArg some w12.symm
    · rw [if_pos (bo_t ⟨c, q⟩)] at h1
      exact h1 (by decide)
    rw [if_neg (by rw [bo_f (fun z => q z.2)]; decide)] at h0 h1
    refine bX11_takesKey_12 L d _ q2 q3 q4 σ K ?_
    rw [if_pos (by decide)]
    exact h0 (by decide)
  · have hkey : rd_key t k f e = -1 := by
      unfold rd_key
      rw [if_neg (by rw [bo_f (fun z => c z.1)]; decide), if_neg (by rw [bo_f (fun z => c z.1)]; decide), if_neg (by rw [bo_f (fun z => c z.1)]; decide)]
    have htok : σ 125 25 ≠ 1 := by
      by_cases k1 : k = -1
      · rw [m3 k1]
        decide
      by_cases k3 : k = -3
      · by_cases z : e - f ≤ 4
        · rw [((m5 k3).1 z).1]
          decide
        · rw [(m5 k3).2 (by omega)]
          decide
      by_cases k4 : k = -4
      · rw [m6 k4]
        decide
      · rw [(m7 (by omega)).1]
        decide
    rw [if_neg htok]
    exact h0 (by rw [hkey]; decide)
end RDK
