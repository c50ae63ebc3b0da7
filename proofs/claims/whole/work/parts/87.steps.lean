/-! ===== reading a text: the model's steps ===== -/
def sg_B (t : Int → Int) (n key : Int) (τ0 : rx_St) : Prop := (0 ≤ n ∧ n ≤ 96) ∧ τ0 125 22 = n ∧ τ0 125 28 = key ∧ (∀ i, 0 ≤ i → i < n → τ0 142 i = t i) ∧ (∀ i, 0 ≤ i → i < n → 0 ≤ t i ∧ t i ≤ 255) ∧ 0 ≤ key ∧ key ≤ 2
def sg_F (τ0 τ : rx_St) : Prop := (∀ c, c ≠ 125 → c ≠ 145 → c ≠ 146 → c ≠ 147 → τ c = τ0 c) ∧ (∀ i, (i < 23 ∨ 27 < i) → i ≠ 32 → i ≠ 33 → i ≠ 35 → τ 125 i = τ0 125 i)
/-- what a token must be -/
def rd_W (t : Int → Int) (n k f e : Int) : Prop := 0 ≤ f ∧ f ≤ e ∧ e ≤ n ∧ -4 ≤ k ∧ k ≤ 255 ∧ (k ≠ -1 → f < e) ∧ (k = -3 → ∀ i, f ≤ i → i < e → 48 ≤ t i ∧ t i ≤ 57)
def sg_S (t : Int → Int) (τ0 : rx_St) (b k f e : Int) (C : List Int) (A : Int) (H : List Int) (Z : Int → Int) (z : Int) (τ : rx_St) : Prop := sg_F τ0 τ ∧ rd_M t k f e τ ∧ (ar_is (τ 145) C ∧ τ 125 32 = C.length) ∧ τ 125 33 = A ∧ (ar_is (τ 146) H ∧ τ 125 35 = H.length) ∧ (∀ i, 0 ≤ i → i < b → τ 147 i = Z i) ∧ τ 147 b = z
/-- the model's loop goes well from there -/
def sg_G (L d : Nat) (t : Int → Int) (τ0 : rx_St) (K : Int → rx_St → Prop) (x3 b k f e : Int) (C : List Int) (A : Int) (H : List Int) (Z : Int → Int) (z : Int) : Prop := ∀ (τ : rx_St) (q4 : Option rx_V), sg_S t τ0 b k f e C A H Z z τ → rx_Go L (d + 3) mX11_takesE 28 [some (.inr 125), some (.inl b), some (.inl (sg_n H)), some (.inl x3), q4] [] τ (rx_PI K)
def sg_X (τ0 : rx_St) (K : Int → rx_St → Prop) (f : Int) : Prop := ∀ τ', sg_F τ0 τ' → τ' 125 24 = f → K 0 τ'
theorem rd_b_all {t : Int → Int} {lo hi : Int} : ∀ (k : Nat) (j i : Int), j ≤ i → i < rd_b t lo hi k j → lo ≤ t i ∧ t i ≤ hi
  | 0, j, i, h1, h2 => by
    have h2 : i < j := h2
    omega
  | k + 1, j, i, h1, h2 => by
    unfold rd_b at h2
    by_cases c : lo ≤ t j ∧ t j ≤ hi
    · rw [if_pos c] at h2
      by_cases e : i = j
      · rw [e]
        exact c
      · exact rd_b_all k (j + 1) i (by omega) h2
    · rw [if_neg c] at h2
      omega
theorem rd_Wn {t : Int → Int} {n k e : Int} (hn : 0 ≤ n ∧ n ≤ 96) (htb : ∀ i, 0 ≤ i → i < n → 0 ≤ t i ∧ t i ≤ 255) (he : 0 ≤ e ∧ e ≤ n) : e ≤ rd_h t n 32 32 e ∧ rd_W t n (rd_K t n k e) (rd_h t n 32 32 e) (rd_t t n (rd_h t n 32 32 e)) := by
  have hb := rd_h_b (t := t) (lo := 32) (hi := 32) he.2
  unfold rd_K
  generalize rd_h t n 32 32 e = f at *
  have hkt := rd_kt (t := t) (n := n) (f := f) ⟨by omega, hb.2⟩
  have hk : -4 < rd_k t n f ∧ rd_k t n f ≤ 255 ∧ (rd_k t n f ≠ -1 → f < n) ∧ (rd_k t n f = -3 → ∀ i, f ≤ i → i < rd_t t n f → 48 ≤ t i ∧ t i ≤ 57) := by
    unfold rd_k rd_t
    by_cases c : f < n
    · rw [if_pos c, if_pos c]
      have := htb f (by omega) c
      by_cases c1 : 97 ≤ t f ∧ t f ≤ 122
      · rw [if_pos c1, if_pos c1]
        exact ⟨by omega, by omega, fun _ => c, fun q => by omega⟩
      rw [if_neg c1, if_neg c1]
      by_cases c2 : 48 ≤ t f ∧ t f ≤ 57
      · rw [if_pos c2, if_pos c2]
        refine ⟨by omega, by omega, fun _ => c, fun _ i i0 i1 => rd_b_all _ f i i0 i1⟩
      · rw [if_neg c2, if_neg c2]
        exact ⟨by omega, by omega, fun _ => c, fun q => by omega⟩
    · rw [if_neg c, if_neg c]
      exact ⟨by omega, by omega, fun q => absurd rfl q, fun q => by omega⟩
  obtain ⟨k1, k2, k3, k4⟩ := hk
  refine ⟨hb.1, ?_⟩
  split
  · next c =>
    refine ⟨by omega, hkt.1, hkt.2.1, by omega, by omega, fun _ => hkt.2.2 (k3 (by omega)), fun q => by omega⟩
  · exact ⟨by omega, hkt.1, hkt.2.1, by omega, k2, fun q => hkt.2.2 (k3 q), k4⟩
section MST
variable {L d : Nat} {t : Int → Int} {n key : Int} {τ0 τ τ' : rx_St} {K : Int → rx_St → Prop} {KV : rx_St → Prop} {b k f e A z : Int} {C H : List Int} {Z : Int → Int}
theorem rd_Mc (h : rd_M t k f e τ) (hi : ∀ i, 23 ≤ i → i ≤ 27 → τ' 125 i = τ 125 i) : rd_M t k f e τ' := by
  unfold rd_M
  rw [hi 23 (by decide) (by decide), hi 24 (by decide) (by decide), hi 25 (by decide) (by decide), hi 26 (by decide) (by decide), hi 27 (by decide) (by decide)]
  exact h
theorem sg_next (hB : sg_B t n key τ0) (hS : sg_S t τ0 b k f e C A H Z z τ) (he : 0 ≤ e ∧ e ≤ n) (hk : k = -2 ∨ k = -3 ∨ 0 ≤ k) (h : ∀ τ', sg_S t τ0 b (rd_K t n k e) (rd_h t n 32 32 e) (rd_t t n (rd_h t n 32 32 e)) C A H Z z τ' → KV τ') : rx_CV L (d + 1) mX11_go [.inr 125] τ KV := by
  obtain ⟨b1, b2, b3, b4, b5, b6⟩ := hB
  obtain ⟨hF, hM, hC, hA, hH, hZ, hz⟩ := hS
  refine n_go (k := k) (e := e) b1 (by rw [hF.2 22 (by omega) (by decide) (by decide) (by decide)]; exact b2) (fun i i0 i1 => by rw [hF.1 142 (by decide) (by decide) (by decide) (by decide)]; exact b4 i i0 i1) b5 he hM.1 (fun q => hM.2.2.2.2.2.2.2.1 q) (fun q => hM.2.2.2.2.2.2.2.2 (by omega)) (fun τ' m i c => ?_)
  refine h τ' ⟨⟨fun c' h1 h2 h3 h4 => by rw [c c' h1]; exact hF.1 c' h1 h2 h3 h4, fun j h1 h2 h3 h4 => by rw [i j h1]; exact hF.2 j h1 h2 h3 h4⟩, m, ?_, ?_, ?_, ?_, ?_⟩
  · rw [c 145 (by decide), i 32 (by decide)]
    exact hC
  · rw [i 33 (by decide)]
    exact hA
  · rw [c 146 (by decide), i 35 (by decide)]
    exact hH
  · rw [c 147 (by decide)]
    exact hZ
  · rw [c 147 (by decide)]
    exact hz
theorem sg_push {s : Int} (hS : sg_S t τ0 b k f e C A H Z z τ) : sg_S t τ0 b k f e C A (H ++ [s]) Z z (rx_up (rx_up τ 146 (H.length : Int) s) 125 35 ((H.length : Int) + 1)) := by
  obtain ⟨hF, hM, hC, hA, hH, hZ, hz⟩ := hS
  refine ⟨⟨fun c h1 h2 h3 h4 => by rw [up_c h1, up_c h3]; exact hF.1 c h1 h2 h3 h4, fun i h1 h2 h3 h4 => by rw [up_i h4, up_c (by decide)]; exact hF.2 i h1 h2 h3 h4⟩, rd_Mc hM (fun i h1 h2 => by rw [up_i (by omega), up_c (by decide)]), ?_, ?_, ⟨?_, ?_⟩, ?_, ?_⟩
  · rw [up_c (by decide), up_c (by decide), up_i (by decide), up_c (by decide)]
    exact hC
  · rw [up_i (by decide), up_c (by decide)]
    exact hA
  · rw [up_c (by decide)]
    exact ar_push hH.1 up_s (fun i hi => up_i hi)
  · rw [up_s, List.length_append]
    rfl
  · rw [up_c (by decide), up_c (by decide)]
    exact hZ
  · rw [up_c (by decide), up_c (by decide)]
    exact hz
theorem sg_pop {s : Int} (hS : sg_S t τ0 b k f e C A (H ++ [s]) Z z τ) : sg_S t τ0 b k f e C A H Z z (rx_up τ 125 35 (H.length : Int)) := by
  obtain ⟨hF, hM, hC, hA, hH, hZ, hz⟩ := hS
  refine ⟨⟨fun c h1 h2 h3 h4 => by rw [up_c h1]; exact hF.1 c h1 h2 h3 h4, fun i h1 h2 h3 h4 => by rw [up_i h4]; exact hF.2 i h1 h2 h3 h4⟩, rd_Mc hM (fun i h1 h2 => by rw [up_i (by omega)]), ?_, ?_, ⟨?_, up_s⟩, ?_, ?_⟩
  · rw [up_c (by decide), up_i (by decide)]
    exact hC
  · rw [up_i (by decide)]
    exact hA
  · rw [up_c (by decide)]
    exact ar_app hH.1
  · rw [up_c (by decide)]
    exact hZ
  · rw [up_c (by decide)]
    exact hz
theorem sg_zet {z' : Int} (hS : sg_S t τ0 b k f e C A H Z z τ) : sg_S t τ0 b k f e C A H Z z' (rx_up τ 147 b z') := by
  obtain ⟨hF, hM, hC, hA, hH, hZ, hz⟩ := hS
  refine ⟨⟨fun c h1 h2 h3 h4 => by rw [up_c h4]; exact hF.1 c h1 h2 h3 h4, fun i h1 h2 h3 h4 => by rw [up_c (by decide)]; exact hF.2 i h1 h2 h3 h4⟩, rd_Mc hM (fun i h1 h2 => by rw [up_c (by decide)]), ?_, ?_, ?_, fun i h0 h1 => ?_, up_s⟩
  · rw [up_c (by decide), up_c (by decide)]
    exact hC
  · rw [up_c (by decide)]
    exact hA
  · rw [up_c (by decide), up_c (by decide)]
    exact hH
  · rw [up_i (by omega)]
    exact hZ i h0 h1
/-- one bracket deeper -/
def sg_Z (Z : Int → Int) (b z : Int) : Int → Int := fun i => if i = b then z else Z i
theorem sg_deep (hS : sg_S t τ0 b k f e C A H Z z τ) : sg_S t τ0 (b + 1) k f e C A H (sg_Z Z b z) 0 (rx_up τ 147 (b + 1) 0) := by
  obtain ⟨hF, hM, hC, hA, hH, hZ, hz⟩ := hS
  refine ⟨⟨fun c h1 h2 h3 h4 => by rw [up_c h4]; exact hF.1 c h1 h2 h3 h4, fun i h1 h2 h3 h4 => by rw [up_c (by decide)]; exact hF.2 i h1 h2 h3 h4⟩, rd_Mc hM (fun i h1 h2 => by rw [up_c (by decide)]), ?_, ?_, ?_, fun i h0 h1 => ?_, up_s⟩
  · rw [up_c (by decide), up_c (by decide)]
    exact hC
  · rw [up_c (by decide)]
    exact hA
  · rw [up_c (by decide), up_c (by decide)]
    exact hH
  · rw [up_i (by omega)]
    unfold sg_Z
    by_cases c : i = b
    · rw [if_pos c, c]
      exact hz
    · rw [if_neg c]
      exact hZ i h0 (by omega)
theorem sg_high {z' : Int} (b0 : 0 ≤ b) (hS : sg_S t τ0 (b + 1) k f e C A H (sg_Z Z b z) z' τ) : sg_S t τ0 b k f e C A H Z z τ := by
  obtain ⟨hF, hM, hC, hA, hH, hZ, hz⟩ := hS
  refine ⟨hF, hM, hC, hA, hH, fun i h0 h1 => ?_, ?_⟩
  · have := hZ i h0 (by omega)
    unfold sg_Z at this
    rw [if_neg (by omega)] at this
    exact this
  · have := hZ b b0 (by omega)
    unfold sg_Z at this
    rw [if_pos rfl] at this
    exact this
theorem sg_leaf {v : Int} (hS : sg_S t τ0 b k f e C A H Z z τ) : sg_S t τ0 b k f e (C ++ [v]) (A + 1) H Z z (rx_up (rx_up (rx_up τ 145 (C.length : Int) v) 125 32 ((C.length : Int) + 1)) 125 33 (A + 1)) := by
  obtain ⟨hF, hM, hC, hA, hH, hZ, hz⟩ := hS
  refine ⟨⟨fun c h1 h2 h3 h4 => by rw [up_c h1, up_c h1, up_c h2]; exact hF.1 c h1 h2 h3 h4, fun i h1 h2 h3 h4 => by rw [up_i h3, up_i h2, up_c (by decide)]; exact hF.2 i h1 h2 h3 h4⟩, rd_Mc hM (fun i h1 h2 => by rw [up_i (by omega), up_i (by omega), up_c (by decide)]), ⟨?_, ?_⟩, up_s, ?_, ?_, ?_⟩
  · rw [up_c (by decide), up_c (by decide)]
    exact ar_push hC.1 up_s (fun i hi => up_i hi)
  · rw [up_i (by decide), up_s, List.length_append]
    rfl
  · rw [up_c (by decide), up_c (by decide), up_c (by decide), up_i (by decide), up_i (by decide), up_c (by decide)]
    exact hH
  · rw [up_c (by decide), up_c (by decide), up_c (by decide)]
    exact hZ
  · rw [up_c (by decide), up_c (by decide), up_c (by decide)]
    exact hz
theorem sg_set {l : Int} {r : List Int} (hT : sg_T l H) (hr : ∀ x ∈ r, x ≠ -11 ∧ l ≤ sg_r x) (hS : sg_S t τ0 b k f e C A (H ++ r.reverse) Z z τ) (hb : C.length + H.length + r.length ≤ 96) (h : ∀ τ', sg_S t τ0 b k f e (C ++ r) A H Z z τ' → KV τ') : rx_CV L (d + 1) mX11_settle [.inr 125, .inl l] τ KV := by
  obtain ⟨hF, hM, hC, hA, hH, hZ, hz⟩ := hS
  refine bX11_settle L d l τ KV ?_
  refine n_settle hT r C τ hr hH.1 (by rw [hH.2, List.length_append, List.length_reverse]; omega) hC.1 hC.2 hb (fun τ' a1 a2 a3 a4 a5 => ?_)
  refine h τ' ⟨⟨fun c h1 h2 h3 h4 => by rw [a5 c h1 h2]; exact hF.1 c h1 h2 h3 h4, fun i h1 h2 h3 h4 => by rw [a4 i h2 h4]; exact hF.2 i h1 h2 h3 h4⟩, rd_Mc hM (fun i h1 h2 => a4 i (by omega) (by omega)), ⟨a2, by rw [a3, List.length_append]; omega⟩, ?_, ⟨?_, a1⟩, ?_, ?_⟩
  · rw [a4 33 (by decide) (by decide)]
    exact hA
  · rw [a5 146 (by decide) (by decide)]
    exact ar_app hH.1
  · rw [a5 147 (by decide) (by decide)]
    exact hZ
  · rw [a5 147 (by decide) (by decide)]
    exact hz
theorem n_nameOf (hF : sg_F τ0 τ) (hB : sg_B t n key τ0) (he : e - f = 1) (h1 : rd_name t key f e < 0 → K (-(rd_name t key f e) - 1) τ) (h0 : ¬ rd_name t key f e < 0 → K (-1) τ) : rx_CI L d mX11_nameOf [.inr 125, .inl (t f)] τ K := by
  have hk : τ 125 28 = key := by rw [hF.2 28 (by omega) (by decide) (by decide) (by decide)]; exact hB.2.2.1
  have hkey : key = 0 ∨ key = 1 ∨ key = 2 := by
    have := hB.2.2.2.2.2
    omega
  refine bX11_nameOf L d (t f) τ K ?_
  rw [hk]
  unfold rd_name at h0 h1
  rw [if_pos he] at h0 h1
  generalize t f = a at *
  by_cases c1 : a = 97
  · subst c1
    rcases hkey with rfl | rfl | rfl <;> simp_all
  by_cases c2 : a = 98
  · subst c2
    rcases hkey with rfl | rfl | rfl <;> simp_all
  by_cases c3 : a = 112
  · subst c3
    rcases hkey with rfl | rfl | rfl <;> simp_all
  by_cases c4 : a = 113
  · subst c4
    rcases hkey with rfl | rfl | rfl <;> simp_all
  by_cases c5 : a = 119
  · subst c5
    rcases hkey with rfl | rfl | rfl <;> simp_all
  · rcases hkey with rfl | rfl | rfl <;> simp_all
end MST
