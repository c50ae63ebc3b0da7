/-! ===== reading a text: the model's tokens ===== -/
def rd_nm (t : Int → Int) : Nat → Int → Int → Int
  | 0, _, v => v
  | k + 1, i, v => rd_nm t k (i + 1) (10 * v + t i - 48)
theorem rd_nm_S {t : Int → Int} : ∀ (k : Nat) (i v : Int), rd_nm t (k + 1) i v = 10 * rd_nm t k i v + t (i + k) - 48
  | 0, i, v => by
    show 10 * v + t i - 48 = 10 * v + t (i + ((0 : Nat) : Int)) - 48
    rw [show i + ((0 : Nat) : Int) = i by omega]
  | k + 1, i, v => by
    show rd_nm t (k + 1) (i + 1) (10 * v + t i - 48) = 10 * rd_nm t k (i + 1) (10 * v + t i - 48) + t (i + ((k + 1 : Nat) : Int)) - 48
    rw [rd_nm_S k (i + 1), show i + 1 + (k : Int) = i + ((k + 1 : Nat) : Int) by omega]
/-- the token of kind k from f to e, as the model holds it -/
def rd_M (t : Int → Int) (k f e : Int) (σ : rx_St) : Prop := σ 125 23 = e ∧ σ 125 24 = f ∧ (k = -1 → σ 125 25 = 0) ∧ (k = -2 → σ 125 25 = 1 ∧ σ 125 26 = t f) ∧ (k = -3 → (e - f ≤ 4 → σ 125 25 = 2 ∧ σ 125 26 = rd_nm t (e - f).toNat f 0) ∧ (4 < e - f → σ 125 25 = 4)) ∧ (k = -4 → σ 125 25 = 4) ∧ (0 ≤ k → σ 125 25 = 3 ∧ σ 125 26 = k) ∧ (k = -2 ∨ k = -3 → σ 125 27 = e) ∧ (0 ≤ k → σ 125 27 < e)
section TOM
variable {L d : Nat} {σ : rx_St} {K : Int → rx_St → Prop} {KV : rx_St → Prop} {t : Int → Int} {n : Int}
theorem n_isLetter (hn : 0 ≤ n ∧ n ≤ 96) (h22 : σ 125 22 = n) (ht : ∀ i, 0 ≤ i → i < n → σ 142 i = t i) {i : Int} (i0 : 0 ≤ i) (h1 : i < n → 97 ≤ t i ∧ t i ≤ 122 → K 1 σ) (h0 : ¬ (i < n ∧ 97 ≤ t i ∧ t i ≤ 122) → K 0 σ) : rx_CI L d mX11_isLetter [.inr 125, .inl i] σ K := by
  refine bX11_isLetter L d i σ K ?_
  rw [h22]
  by_cases c : n ≤ i
  · rw [if_pos c]
    exact h0 (by omega)
  rw [if_neg c, ht i i0 (by omega)]
  refine ⟨by omega, ?_⟩
  by_cases c1 : t i < 97
  · rw [if_pos c1]
    exact h0 (by omega)
  rw [if_neg c1]
  by_cases c2 : 122 < t i
  · rw [if_pos c2]
    exact h0 (by omega)
  · rw [if_neg c2]
    exact h1 (by omega) (by omega)
theorem n_isFigure (hn : 0 ≤ n ∧ n ≤ 96) (h22 : σ 125 22 = n) (ht : ∀ i, 0 ≤ i → i < n → σ 142 i = t i) {i : Int} (i0 : 0 ≤ i) (h1 : i < n → 48 ≤ t i ∧ t i ≤ 57 → K 1 σ) (h0 : ¬ (i < n ∧ 48 ≤ t i ∧ t i ≤ 57) → K 0 σ) : rx_CI L d mX11_isFigure [.inr 125, .inl i] σ K := by
  refine bX11_isFigure L d i σ K ?_
  rw [h22]
  by_cases c : n ≤ i
  · rw [if_pos c]
    exact h0 (by omega)
  rw [if_neg c, ht i i0 (by omega)]
  refine ⟨by omega, ?_⟩
  by_cases c1 : t i < 48
  · rw [if_pos c1]
    exact h0 (by omega)
  rw [if_neg c1]
  by_cases c2 : 57 < t i
  · rw [if_pos c2]
    exact h0 (by omega)
  · rw [if_neg c2]
    exact h1 (by omega) (by omega)
theorem n_go (hn : 0 ≤ n ∧ n ≤ 96) (h22 : σ 125 22 = n) (ht : ∀ i, 0 ≤ i → i < n → σ 142 i = t i) (htb : ∀ i, 0 ≤ i → i < n → 0 ≤ t i ∧ t i ≤ 255) {k e : Int} (he : 0 ≤ e ∧ e ≤ n) (h23 : σ 125 23 = e) (hy : k = -2 ∨ k = -3 → σ 125 27 = e) (hz : ¬ (k = -2 ∨ k = -3) → σ 125 27 < e) (h : ∀ σ', rd_M t (rd_K t n k e) (rd_h t n 32 32 e) (rd_t t n (rd_h t n 32 32 e)) σ' → (∀ i, i < 23 ∨ 27 < i → σ' 125 i = σ 125 i) → (∀ c, c ≠ 125 → σ' c = σ c) → KV σ') : rx_CV L (d + 1) mX11_go [.inr 125] σ KV := by
  have hb := rd_h_b (t := t) (lo := 32) (hi := 32) he.2
  generalize ef : rd_h t n 32 32 e = f at *
  have hcl : σ 125 27 = f ↔ ((k = -2 ∨ k = -3) ∧ f = e) := by
    constructor
    · intro q
      by_cases c : k = -2 ∨ k = -3
      · have := hy c
        exact ⟨c, by omega⟩
      · have := hz c
        omega
    · intro q
      rw [hy q.1]
      exact q.2.symm
  have tkL : ∀ x : Int, (x = 1 ↔ σ 125 27 = f) → f < n → (rd_k t n f = -2 ∨ rd_k t n f = -3) → (x = 0 → rd_K t n k e = rd_k t n f) ∧ (x = 1 → rd_K t n k e = -4) := by
    intro x hxc fn hk
    unfold rd_K
    rw [ef]
    refine ⟨fun q => if_neg (fun z => ?_), fun q => if_pos ?_⟩
    · have := hxc.mpr (hcl.mpr ⟨z.1, z.2.1⟩)
      omega
    · have := hcl.mp (hxc.mp q)
      exact ⟨this.1, this.2, hk⟩
  -- letters
  have finL : ∀ (x j tok : Int) (σ1 : rx_St), (x = 0 ∨ x = 1) → (x = 1 ↔ σ 125 27 = f) → (x = 0 → tok = 1) → (x = 1 → tok = 4) → f < n → (97 ≤ t f ∧ t f ≤ 122) → rd_h t n 97 122 f = j → σ1 125 23 = j → σ1 125 24 = f → (∀ i, i < 23 ∨ 27 < i → σ1 125 i = σ 125 i) → (∀ c, c ≠ 125 → σ1 c = σ c) → rx_Go L (d + 1) mX11_go 130 [some (.inr 125), some (.inl x)] [] (rx_up σ1 125 25 tok) (rx_PV KV) := by
    intro x j tok σ1 hx hxc t0 t1 fn hl ej a23 a24 af ac
    have ek : rd_k t n f = -2 := by unfold rd_k; rw [if_pos fn, if_pos hl]
    have et : rd_t t n f = j := by unfold rd_t; rw [if_pos fn, if_pos hl]; exact ej
    have tk := tkL x hxc fn (Or.inl ek)
    refine bX11_go_130 L d _ _ KV ?_
    rw [up_i (show (24 : Int) ≠ 25 by decide), a24, up_c (show (142 : Nat) ≠ 125 by decide), ac 142 (by decide), ht f (by omega) fn]
    refine ⟨by omega, h _ ⟨?_, ?_, fun q => ?_, fun q => ?_, fun q => ?_, fun q => ?_, fun q => ?_, fun q => ?_, fun q => ?_⟩ (fun i hi => ?_) (fun c hc => ?_)⟩
    · rw [up_i (by decide), up_i (by decide), up_i (by decide), et]
      exact a23
    · rw [up_i (by decide), up_i (by decide), up_i (by decide)]
      exact a24
    · rcases hx with hx | hx
      · rw [tk.1 hx, ek] at q
        omega
      · rw [tk.2 hx] at q
        omega
    · rcases hx with hx | hx
      · refine ⟨?_, ?_⟩
        · rw [up_i (by decide), up_i (by decide), up_s]
          exact t0 hx
        · rw [up_i (by decide), up_s]
      · rw [tk.2 hx] at q
        omega
    · rcases hx with hx | hx
      · rw [tk.1 hx, ek] at q
        omega
      · rw [tk.2 hx] at q
        omega
    · rcases hx with hx | hx
      · rw [tk.1 hx, ek] at q
        omega
      · rw [up_i (by decide), up_i (by decide), up_s]
        exact t1 hx
    · rcases hx with hx | hx
      · rw [tk.1 hx, ek] at q
        omega
      · rw [tk.2 hx] at q
        omega
    · rw [up_s, up_i (by decide), up_i (by decide), et]
      exact a23
    · rcases hx with hx | hx
      · rw [tk.1 hx, ek] at q
        omega
      · rw [tk.2 hx] at q
        omega
    · rw [up_i (by omega), up_i (by omega), up_i (by omega)]
      exact af i hi
    · rw [up_c hc, up_c hc, up_c hc]
      exact ac c hc
  have letters : ∀ (m : Nat) (j x : Int) (σ1 : rx_St), f < n → (97 ≤ t f ∧ t f ≤ 122) → (x = 0 ∨ x = 1) → (x = 1 ↔ σ 125 27 = f) → f ≤ j → j + m = n → rd_h t n 97 122 j = rd_h t n 97 122 f → σ1 125 23 = j → σ1 125 24 = f → (∀ i, i < 23 ∨ 27 < i → σ1 125 i = σ 125 i) → (∀ c, c ≠ 125 → σ1 c = σ c) → rx_Go L (d + 1) mX11_go 93 [some (.inr 125), some (.inl x)] [] σ1 (rx_PV KV) := by
    have last : ∀ (j x : Int) (σ1 : rx_St), f < n → (97 ≤ t f ∧ t f ≤ 122) → (x = 0 ∨ x = 1) → (x = 1 ↔ σ 125 27 = f) → rd_h t n 97 122 f = j → σ1 125 23 = j → σ1 125 24 = f → (∀ i, i < 23 ∨ 27 < i → σ1 125 i = σ 125 i) → (∀ c, c ≠ 125 → σ1 c = σ c) → if x = 0 then rx_Go L (d + 1) mX11_go 130 [some (.inr 125), some (.inl x)] [] (rx_up σ1 125 25 1) (rx_PV KV) else rx_Go L (d + 1) mX11_go 130 [some (.inr 125), some (.inl x)] [] (rx_up σ1 125 25 4) (rx_PV KV) := by
      intro j x σ1 fn hl hx hxc ej a23 a24 af ac
      by_cases c : x = 0
      · rw [if_pos c]
        exact finL x j 1 σ1 hx hxc (fun _ => rfl) (fun q => by omega) fn hl ej a23 a24 af ac
      · rw [if_neg c]
        exact finL x j 4 σ1 hx hxc (fun q => absurd q c) (fun _ => rfl) fn hl ej a23 a24 af ac
    intro m
    induction m with
    | zero =>
      intro j x σ1 fn hl hx hxc fj hj ej a23 a24 af ac
      refine bX11_go_93 L d x σ1 KV ?_
      rw [a23]
      refine n_isLetter (t := t) hn (by rw [af 22 (by decide)]; exact h22) (fun i i0 i1 => by rw [ac 142 (by decide)]; exact ht i i0 i1) (by omega) (fun j1 c => by omega) (fun c => ?_)
      rw [if_pos rfl]
      rw [rd_h_e (by omega)] at ej
      exact last j x σ1 fn hl hx hxc ej.symm a23 a24 af ac
    | succ m ih =>
      intro j x σ1 fn hl hx hxc fj hj ej a23 a24 af ac
      refine bX11_go_93 L d x σ1 KV ?_
      rw [a23]
      refine n_isLetter (t := t) hn (by rw [af 22 (by decide)]; exact h22) (fun i i0 i1 => by rw [ac 142 (by decide)]; exact ht i i0 i1) (by omega) (fun j1 c => ?_) (fun c => ?_)
      · rw [if_neg (by decide), a23, rx_w_of (by omega) (by omega)]
        exact ih (j + 1) x _ fn hl hx hxc (by omega) (by omega) (by rw [← rd_h_y j1 c]; exact ej) up_s (by rw [up_i (by decide)]; exact a24) (fun i hi => by rw [up_i (by omega)]; exact af i hi) (fun c hc => by rw [up_c hc]; exact ac c hc)
      · rw [if_pos rfl]
        rw [rd_h_n (by omega) (fun q => c ⟨by omega, q⟩)] at ej
        exact last j x σ1 fn hl hx hxc ej.symm a23 a24 af ac
  -- figures
  have finF : ∀ (x j tok : Int) (σ1 : rx_St), (x = 0 ∨ x = 1) → (x = 1 ↔ σ 125 27 = f) → (x = 0 → j - f ≤ 4 → tok = 2) → (x = 0 → 4 < j - f → tok = 4) → (x = 1 → tok = 4) → f < n → ¬ (97 ≤ t f ∧ t f ≤ 122) → (48 ≤ t f ∧ t f ≤ 57) → rd_h t n 48 57 f = j → σ1 125 23 = j → σ1 125 24 = f → (j - f ≤ 4 → σ1 125 26 = rd_nm t (j - f).toNat f 0) → (∀ i, i < 23 ∨ 27 < i → σ1 125 i = σ 125 i) → (∀ c, c ≠ 125 → σ1 c = σ c) → rx_Go L (d + 1) mX11_go 264 [some (.inr 125), some (.inl x)] [] (rx_up σ1 125 25 tok) (rx_PV KV) := by
    intro x j tok σ1 hx hxc t0 t2 t1 fn hl hl2 ej a23 a24 a26 af ac
    have ek : rd_k t n f = -3 := by unfold rd_k; rw [if_pos fn, if_neg hl, if_pos hl2]
    have et : rd_t t n f = j := by unfold rd_t; rw [if_pos fn, if_neg hl, if_pos hl2]; exact ej
    have tk := tkL x hxc fn (Or.inr ek)
    refine bX11_go_264 L d _ _ KV ?_
    rw [up_i (show (23 : Int) ≠ 25 by decide), a23]
    refine h _ ⟨?_, ?_, fun q => ?_, fun q => ?_, fun q => ?_, fun q => ?_, fun q => ?_, fun q => ?_, fun q => ?_⟩ (fun i hi => ?_) (fun c hc => ?_)
    · rw [up_i (by decide), up_i (by decide), et]
      exact a23
    · rw [up_i (by decide), up_i (by decide)]
      exact a24
    · rcases hx with hx | hx
      · rw [tk.1 hx, ek] at q
        omega
      · rw [tk.2 hx] at q
        omega
    · rcases hx with hx | hx
      · rw [tk.1 hx, ek] at q
        omega
      · rw [tk.2 hx] at q
        omega
    · rcases hx with hx | hx
      · rw [et]
        refine ⟨fun z => ⟨?_, ?_⟩, fun z => ?_⟩
        · rw [up_i (by decide), up_s]
          exact t0 hx z
        · rw [up_i (by decide), up_i (by decide)]
          exact a26 z
        · rw [up_i (by decide), up_s]
          exact t2 hx z
      · rw [tk.2 hx] at q
        omega
    · rcases hx with hx | hx
      · rw [tk.1 hx, ek] at q
        omega
      · rw [up_i (by decide), up_s]
        exact t1 hx
    · rcases hx with hx | hx
      · rw [tk.1 hx, ek] at q
        omega
      · rw [tk.2 hx] at q
        omega
    · rw [up_s, et]
    · rcases hx with hx | hx
      · rw [tk.1 hx, ek] at q
        omega
      · rw [tk.2 hx] at q
        omega
    · rw [up_i (by omega), up_i (by omega)]
      exact af i hi
    · rw [up_c hc, up_c hc]
      exact ac c hc
  have figures : ∀ (m : Nat) (j x : Int) (σ1 : rx_St), f < n → ¬ (97 ≤ t f ∧ t f ≤ 122) → (48 ≤ t f ∧ t f ≤ 57) → (x = 0 ∨ x = 1) → (x = 1 ↔ σ 125 27 = f) → f ≤ j → j + m = n → rd_h t n 48 57 j = rd_h t n 48 57 f → σ1 125 23 = j → σ1 125 24 = f → (j - f ≤ 4 → σ1 125 26 = rd_nm t (j - f).toNat f 0 ∧ 0 ≤ σ1 125 26 ∧ (j - f = 0 → σ1 125 26 ≤ 0) ∧ (j - f = 1 → σ1 125 26 ≤ 9) ∧ (j - f = 2 → σ1 125 26 ≤ 99) ∧ (j - f = 3 → σ1 125 26 ≤ 999)) → (∀ i, i < 23 ∨ 27 < i → σ1 125 i = σ 125 i) → (∀ c, c ≠ 125 → σ1 c = σ c) → rx_Go L (d + 1) mX11_go 170 [some (.inr 125), some (.inl x)] [] σ1 (rx_PV KV) := by
    have last : ∀ (j x : Int) (σ1 : rx_St), f < n → ¬ (97 ≤ t f ∧ t f ≤ 122) → (48 ≤ t f ∧ t f ≤ 57) → (x = 0 ∨ x = 1) → (x = 1 ↔ σ 125 27 = f) → f ≤ j → j ≤ n → rd_h t n 48 57 f = j → σ1 125 23 = j → σ1 125 24 = f → (j - f ≤ 4 → σ1 125 26 = rd_nm t (j - f).toNat f 0) → (∀ i, i < 23 ∨ 27 < i → σ1 125 i = σ 125 i) → (∀ c, c ≠ 125 → σ1 c = σ c) → if x ≠ 0 then rx_Go L (d + 1) mX11_go 264 [some (.inr 125), some (.inl x)] [] (rx_up σ1 125 25 4) (rx_PV KV) else (if rx_w (σ1 125 23 - σ1 125 24) ≤ 4 then rx_Go L (d + 1) mX11_go 264 [some (.inr 125), some (.inl x)] [] (rx_up σ1 125 25 2) (rx_PV KV) else rx_Go L (d + 1) mX11_go 264 [some (.inr 125), some (.inl x)] [] (rx_up σ1 125 25 4) (rx_PV KV)) := by
      intro j x σ1 fn hl hl2 hx hxc fj jn ej a23 a24 a26 af ac
      by_cases c : x = 0
      · rw [if_neg (fun q => q c), a23, a24, rx_w_of (by omega) (by omega)]
        by_cases c2 : j - f ≤ 4
        · rw [if_pos c2]
          exact finF x j 2 σ1 hx hxc (fun _ _ => rfl) (fun _ q => by omega) (fun q => by omega) fn hl hl2 ej a23 a24 a26 af ac
        · rw [if_neg c2]
          exact finF x j 4 σ1 hx hxc (fun _ q => absurd q c2) (fun _ _ => rfl) (fun q => by omega) fn hl hl2 ej a23 a24 a26 af ac
      · rw [if_pos c]
        exact finF x j 4 σ1 hx hxc (fun q => absurd q c) (fun q => absurd q c) (fun _ => rfl) fn hl hl2 ej a23 a24 a26 af ac
    intro m
    induction m with
    | zero =>
      intro j x σ1 fn hl hl2 hx hxc fj hj ej a23 a24 a26 af ac
      refine bX11_go_170 L d x σ1 KV ?_
      refine n_isFigure (t := t) hn (by rw [af 22 (by decide)]; exact h22) (fun i i0 i1 => by rw [ac 142 (by decide)]; exact ht i i0 i1) (by omega) (fun j1 c => by omega) (fun c => ?_)
      rw [if_pos rfl]
      rw [rd_h_e (by omega)] at ej
      exact last j x σ1 fn hl hl2 hx hxc fj (by omega) ej.symm a23 a24 (fun q => (a26 q).1) af ac
    | succ m ih =>
      intro j x σ1 fn hl hl2 hx hxc fj hj ej a23 a24 a26 af ac
      refine bX11_go_170 L d x σ1 KV ?_
      refine n_isFigure (t := t) hn (by rw [af 22 (by decide)]; exact h22) (fun i i0 i1 => by rw [ac 142 (by decide)]; exact ht i i0 i1) (by omega) (fun j1 c => ?_) (fun c => ?_)
      · rw [a23] at j1 c
        rw [if_neg (by decide), a23, a24, rx_w_of (x := j - f) (by omega) (by omega), ac 142 (by decide), ht j (by omega) j1]
        have on : ∀ v : Int, (j + 1 - f ≤ 4 → v = rd_nm t (j + 1 - f).toNat f 0 ∧ 0 ≤ v ∧ (j + 1 - f = 0 → v ≤ 0) ∧ (j + 1 - f = 1 → v ≤ 9) ∧ (j + 1 - f = 2 → v ≤ 99) ∧ (j + 1 - f = 3 → v ≤ 999)) → rx_Go L (d + 1) mX11_go 225 [some (.inr 125), some (.inl x)] [] (rx_up σ1 125 26 v) (rx_PV KV) := by
          intro v hv
          refine bX11_go_225 L d x _ KV ?_
          rw [up_i (show (23 : Int) ≠ 26 by decide), a23, rx_w_of (by omega) (by omega)]
          exact ih (j + 1) x _ fn hl hl2 hx hxc (by omega) (by omega) (by rw [← rd_h_y j1 c]; exact ej) up_s (by rw [up_i (by decide), up_i (by decide)]; exact a24) (by rw [up_i (by decide), up_s]; exact hv) (fun i hi => by rw [up_i (by omega), up_i (by omega)]; exact af i hi) (fun c hc => by rw [up_c hc, up_c hc]; exact ac c hc)
        by_cases c4 : 4 ≤ j - f
        · rw [if_pos c4]
          exact on _ (fun q => by omega)
        · rw [if_neg c4]
          obtain ⟨v1, v2, v3, v4, v5, v6⟩ := a26 (by omega)
          refine ⟨by omega, ?_⟩
          rw [rx_w_of (x := 10 * σ1 125 26) (by omega) (by omega), rx_w_of (x := 10 * σ1 125 26 + t j) (by omega) (by omega), rx_w_of (x := 10 * σ1 125 26 + t j - 48) (by omega) (by omega)]
          refine on _ (fun q => ⟨?_, by omega, by omega, by omega, by omega, by omega⟩)
          rw [show (j + 1 - f).toNat = (j - f).toNat + 1 by omega, rd_nm_S, ← v1, show f + ((j - f).toNat : Int) = j by omega]
      · rw [if_pos rfl]
        rw [a23] at c
        rw [rd_h_n (by omega) (fun q => c ⟨by omega, q⟩)] at ej
        exact last j x σ1 fn hl hl2 hx hxc fj (by omega) ej.symm a23 a24 (fun q => (a26 q).1) af ac
  have main : ∀ (x : Int) (σ1 : rx_St), (x = 0 ∨ x = 1) → (x = 1 ↔ σ 125 27 = f) → σ1 125 23 = f → σ1 125 24 = f → σ1 125 27 = σ 125 27 → (∀ i, i < 23 ∨ 27 < i → σ1 125 i = σ 125 i) → (∀ c, c ≠ 125 → σ1 c = σ c) → rx_Go L (d + 1) mX11_go 63 [some (.inr 125), some (.inl x)] [] σ1 (rx_PV KV) := by
    intro x σ1 hx hxc a23 a24 a27 af ac
    refine bX11_go_63 L d x σ1 KV ?_
    rw [a24, af 22 (by decide), h22]
    by_cases c : f = n
    · rw [if_neg (fun q => q c)]
      have ek : rd_k t n f = -1 := if_neg (by omega)
      have et : rd_t t n f = n := if_neg (by omega)
      have eK : rd_K t n k e = -1 := by
        unfold rd_K
        rw [ef, ek, if_neg (by omega)]
      refine h _ ?_ (fun i hi => by rw [up_i (by omega)]; exact af i hi) (fun c hc => by rw [up_c hc]; exact ac c hc)
      rw [eK, et]
      refine ⟨by rw [up_i (by decide), a23]; exact c, by rw [up_i (by decide)]; exact a24, fun _ => up_s, fun q => by omega, fun q => by omega, fun q => by omega, fun q => by omega, fun q => by omega, fun q => by omega⟩
    · rw [if_pos c]
      have ht1 : ∀ i, 0 ≤ i → i < n → σ1 142 i = t i := fun i i0 i1 => by rw [ac 142 (by decide)]; exact ht i i0 i1
      have h221 : σ1 125 22 = n := by rw [af 22 (by decide)]; exact h22
      refine n_isLetter (t := t) hn h221 ht1 (by omega) (fun fn c1 => ?_) (fun c1 => ?_)
      · rw [if_neg (by decide)]
        exact letters (n - f).toNat f x σ1 fn c1 hx hxc (by omega) (by omega) rfl a23 a24 af ac
      · rw [if_pos rfl, a24]
        have c1' : ¬ (97 ≤ t f ∧ t f ≤ 122) := fun q => c1 ⟨by omega, q⟩
        refine n_isFigure (t := t) hn h221 ht1 (by omega) (fun fn c2 => ?_) (fun c2 => ?_)
        · rw [if_neg (by decide)]
          refine figures (n - f).toNat f x _ fn c1' c2 hx hxc (by omega) (by omega) rfl (by rw [up_i (by decide)]; exact a23) (by rw [up_i (by decide)]; exact a24) (fun _ => ?_) (fun i hi => by rw [up_i (by omega)]; exact af i hi) (fun c hc => by rw [up_c hc]; exact ac c hc)
          rw [up_s, show (f - f).toNat = 0 by omega]
          exact ⟨rfl, by omega, by omega, by omega, by omega, by omega⟩
        · have c2' : ¬ (48 ≤ t f ∧ t f ≤ 57) := fun q => c2 ⟨by omega, q⟩
          have fn : f < n := by omega
          have tb := htb f (by omega) fn
          have ek : rd_k t n f = t f := by unfold rd_k; rw [if_pos fn, if_neg c1', if_neg c2']
          have et : rd_t t n f = f + 1 := by unfold rd_t; rw [if_pos fn, if_neg c1', if_neg c2']
          have eK : rd_K t n k e = t f := by
            unfold rd_K
            rw [ef, ek, if_neg (by omega)]
          rw [if_pos rfl, up_i (show (24 : Int) ≠ 25 by decide), a24, up_c (show (142 : Nat) ≠ 125 by decide), ht1 f (by omega) fn, up_i (show (23 : Int) ≠ 26 by decide), up_i (show (23 : Int) ≠ 25 by decide), a23, rx_w_of (by omega) (by omega)]
          refine ⟨by omega, h _ ?_ (fun i hi => by rw [up_i (by omega), up_i (by omega), up_i (by omega)]; exact af i hi) (fun c hc => by rw [up_c hc, up_c hc, up_c hc]; exact ac c hc)⟩
          rw [eK, et]
          refine ⟨up_s, by rw [up_i (by decide), up_i (by decide), up_i (by decide)]; exact a24, fun q => by omega, fun q => by omega, fun q => by omega, fun q => by omega, fun _ => ⟨by rw [up_i (by decide), up_i (by decide), up_s], by rw [up_i (by decide), up_s]⟩, fun q => by omega, fun _ => ?_⟩
          rw [up_i (by decide), up_i (by decide), up_i (by decide), a27]
          by_cases w : k = -2 ∨ k = -3
          · rw [hy w]
            omega
          · have := hz w
            omega
  refine bX11_go L d σ KV ?_
  have blanks : ∀ (m : Nat) (j : Int) (q1 : Option rx_V) (σ1 : rx_St), 0 ≤ j → j + m = n → rd_h t n 32 32 j = f → σ1 125 23 = j → (∀ i, i ≠ 23 → σ1 125 i = σ 125 i) → (∀ c, c ≠ 125 → σ1 c = σ c) → rx_Go L (d + 1) mX11_go 0 [some (.inr 125), q1] [] σ1 (rx_PV KV) := by
    have f38 : ∀ (q1 : Option rx_V) (σ1 : rx_St), σ1 125 23 = f → (∀ i, i ≠ 23 → σ1 125 i = σ 125 i) → (∀ c, c ≠ 125 → σ1 c = σ c) → rx_Go L (d + 1) mX11_go 38 [some (.inr 125), q1] [] σ1 (rx_PV KV) := by
      intro q1 σ1 a23 af ac
      refine bX11_go_38 L d q1 σ1 KV ?_
      rw [up_s, up_i (show (27 : Int) ≠ 24 by decide), a23, af 27 (by decide)]
      have go : ∀ x : Int, (x = 0 ∨ x = 1) → (x = 1 ↔ σ 125 27 = f) → rx_Go L (d + 1) mX11_go 63 [some (.inr 125), some (.inl x)] [] (rx_up σ1 125 24 f) (rx_PV KV) := fun x hx hxc => main x _ hx hxc (by rw [up_i (by decide)]; exact a23) up_s (by rw [up_i (by decide)]; exact af 27 (by decide)) (fun i hi => by rw [up_i (by omega)]; exact af i (by omega)) (fun c hc => by rw [up_c hc]; exact ac c hc)
      by_cases c : f = σ 125 27
      · rw [if_neg (fun q => q c)]
        exact go 1 (Or.inr rfl) ⟨fun _ => c.symm, fun _ => rfl⟩
      · rw [if_pos c]
        exact go 0 (Or.inl rfl) ⟨fun q => by omega, fun q => absurd q.symm c⟩
    intro m
    induction m with
    | zero =>
      intro j q1 σ1 j0 hj ej a23 af ac
      refine bX11_go_0 L d q1 σ1 KV ?_
      rw [af 22 (by decide), h22, a23, if_pos (by omega)]
      rw [rd_h_e (by omega)] at ej
      exact f38 q1 σ1 (by omega) af ac
    | succ m ih =>
      intro j q1 σ1 j0 hj ej a23 af ac
      refine bX11_go_0 L d q1 σ1 KV ?_
      rw [af 22 (by decide), h22, a23, if_neg (by omega), ac 142 (by decide), ht j j0 (by omega), rx_w_of (by omega) (by omega)]
      refine ⟨by omega, ?_⟩
      by_cases c : t j = 32
      · rw [if_neg (fun q => q c)]
        exact ih (j + 1) q1 _ (by omega) (by omega) (by rw [← rd_h_y (by omega) (by omega)]; exact ej) up_s (fun i hi => by rw [up_i hi]; exact af i hi) (fun c hc => by rw [up_c hc]; exact ac c hc)
      · rw [if_pos c]
        rw [rd_h_n (by omega) (by omega)] at ej
        exact f38 q1 σ1 (by omega) af ac
  exact blanks (n - e).toNat e none σ he.1 (by omega) ef h23 (fun _ _ => rfl) (fun _ _ => rfl)
end TOM
