/-! ===== reading a text: signs, rows of signs, what waits ===== -/
/-- how tightly a sign binds, as the class says it -/
def sg_l (k : Int) : Int := if k = 38 then 1 else if k = 42 then 4 else if k = 43 then 3 else if k = 45 then 3 else if k = 47 then 4 else if k = 60 then 2 else if k = 61 then 2 else if k = 62 then 2 else if k = 124 then 0 else -1
/-- the rank of the model's sign -/
def sg_r (s : Int) : Int := if s ≠ -1 then (if s ≠ -2 then (if s < -5 then (if s < -7 then (if s < -9 then 6 else 5) else 4) else 3) else 2) else 1
theorem sg_c (k : Int) : (sg_l k = -1 ∧ k ≠ 38 ∧ k ≠ 42 ∧ k ≠ 43 ∧ k ≠ 45 ∧ k ≠ 47 ∧ k ≠ 60 ∧ k ≠ 61 ∧ k ≠ 62 ∧ k ≠ 124) ∨ k = 38 ∨ k = 42 ∨ k = 43 ∨ k = 45 ∨ k = 47 ∨ k = 60 ∨ k = 61 ∨ k = 62 ∨ k = 124 := by
  by_cases c : k = 38 ∨ k = 42 ∨ k = 43 ∨ k = 45 ∨ k = 47 ∨ k = 60 ∨ k = 61 ∨ k = 62 ∨ k = 124
  · exact Or.inr c
  · refine Or.inl ⟨?_, by omega⟩
    unfold sg_l
    rw [if_neg (by omega), if_neg (by omega), if_neg (by omega), if_neg (by omega), if_neg (by omega), if_neg (by omega), if_neg (by omega), if_neg (by omega), if_neg (by omega)]
theorem sg_p {k : Int} (h : 0 ≤ sg_l k) : sg_r (tx_enc (-k)) = sg_l k + 1 ∧ sg_l k ≤ 4 ∧ tx_two (-k) ∧ 33 ≤ k ∧ k ≤ 124 ∧ k ≠ 41 ∧ -9 ≤ tx_enc (-k) ∧ tx_enc (-k) ≤ -1 := by
  rcases sg_c k with ⟨q, -⟩ | q
  · omega
  · rcases q with rfl | rfl | rfl | rfl | rfl | rfl | rfl | rfl | rfl <;> (unfold tx_two; decide)
/-- a row of a store begins with a list -/
def ar_is (g : Int → Int) (l : List Int) : Prop := ∀ i : Nat, i < l.length → l[i]? = some (g i)
theorem ar_nil {g : Int → Int} : ar_is g [] := fun i h => absurd h (Nat.not_lt_zero i)
theorem ar_app {g : Int → Int} {l r : List Int} (h : ar_is g (l ++ r)) : ar_is g l := fun i hi => by
  have := h i (by rw [List.length_append]; omega)
  rw [List.getElem?_append_left hi] at this
  exact this
theorem ar_top {g : Int → Int} {l : List Int} {v : Int} (h : ar_is g (l ++ [v])) : g l.length = v := by
  have := h l.length (by rw [List.length_append]; exact Nat.lt_succ_self _)
  rw [List.getElem?_append_right (Nat.le_refl _), Nat.sub_self] at this
  exact (Option.some.inj this).symm
theorem ar_push {g g' : Int → Int} {l : List Int} {v : Int} (h : ar_is g l) (h1 : g' l.length = v) (h2 : ∀ i : Int, i ≠ l.length → g' i = g i) : ar_is g' (l ++ [v]) := by
  intro i hi
  rw [List.length_append] at hi
  have hi : i < l.length + 1 := hi
  by_cases c : i < l.length
  · rw [List.getElem?_append_left c, h2 i (by omega)]
    exact h i c
  · have e : i = l.length := by omega
    rw [e, List.getElem?_append_right (Nat.le_refl _), Nat.sub_self, h1]
    rfl
theorem ar_congr {g g' : Int → Int} {l : List Int} (h : ar_is g l) (e : ∀ i : Int, 0 ≤ i → i < l.length → g' i = g i) : ar_is g' l := fun i hi => by
  rw [e i (by omega) (by omega)]
  exact h i hi
theorem ar_get {g : Int → Int} {l r : List Int} {v : Int} (h : ar_is g (l ++ v :: r)) : g l.length = v := by
  have : ar_is g ((l ++ [v]) ++ r) := by rw [List.append_assoc]; exact h
  exact ar_top (ar_app this)
/-- how many nots wait -/
def sg_n (H : List Int) : Int := (H.countP (fun x => decide (x = -10)) : Nat)
theorem sg_n0 (H : List Int) : 0 ≤ sg_n H := Int.natCast_nonneg _
theorem sg_na {H r : List Int} : sg_n (H ++ r) = sg_n H + sg_n r := by
  unfold sg_n
  rw [List.countP_append]
  exact Int.natCast_add _ _
theorem sg_n1 : sg_n [-10] = 1 := rfl
theorem sg_ns {s : Int} (h : s ≠ -10) : sg_n [s] = 0 := by
  unfold sg_n
  rw [List.countP_cons, List.countP_nil, if_neg (by simpa using h)]
  rfl
theorem sg_nz : ∀ {p : List Int}, (∀ x ∈ p, x ≠ -10) → sg_n p = 0
  | [], _ => rfl
  | x :: p, h => by
    have e : sg_n (x :: p) = sg_n [x] + sg_n p := by rw [← sg_na]; rfl
    rw [e, sg_ns (h x (List.mem_cons_self)), sg_nz (fun y hy => h y (List.mem_cons_of_mem x hy))]
    rfl
/-- what H ends with lets a settling of rank l stop -/
def sg_T (l : Int) (H : List Int) : Prop := H = [] ∨ ∃ H' x, H = H' ++ [x] ∧ (x = -11 ∨ sg_r x < l)
section SIGN
variable {L d : Nat} {τ : rx_St} {K : Int → rx_St → Prop} {KV : rx_St → Prop}
theorem c_levelOf {k : Int} (h : K (sg_l k) τ) : rx_CI L d mX5_levelOf [.inl k] τ K := by
  refine bX5_levelOf L d k τ K ?_
  unfold sg_l at h
  repeat' split at h
  all_goals simp_all
theorem n_rank {s : Int} (h : K (sg_r s) τ) : rx_CI L d mX11_rank [.inl s] τ K := by
  refine bX11_rank L d s τ K ?_
  unfold sg_r at h
  repeat' split at h
  all_goals simp_all
  all_goals exact fun q => absurd q (by omega)
theorem n_notsOpen {H : List Int} (hH : ar_is (τ 146) H) (hl : τ 125 35 = H.length) (hb : H.length ≤ 96) (h : K (sg_n H) τ) : rx_CI L d mX11_notsOpen [.inr 125] τ K := by
  refine bX11_notsOpen L d τ K ?_
  have key : ∀ (r l : List Int), l ++ r = H → rx_Go L d mX11_notsOpen 4 [some (.inr 125), some (.inl (sg_n l)), some (.inl (l.length : Int))] [] τ (rx_PI K) := by
    intro r
    induction r with
    | nil =>
      intro l e
      rw [List.append_nil] at e
      refine bX11_notsOpen_4 L d _ _ τ K ?_
      rw [hl, if_pos (by rw [e]; omega), e]
      exact h
    | cons x r ih =>
      intro l e
      have hlen : l.length + (r.length + 1) = H.length := by rw [← e, List.length_append]; rfl
      have hx : τ 146 l.length = x := ar_get (by rw [e]; exact hH)
      have hn : 0 ≤ sg_n l ∧ sg_n l ≤ l.length := ⟨sg_n0 l, by unfold sg_n; exact Int.ofNat_le.mpr List.countP_le_length⟩
      refine bX11_notsOpen_4 L d _ _ τ K ?_
      rw [hl, if_neg (by omega), hx, rx_w_of (x := sg_n l + 0) (by omega) (by omega), rx_w_of (x := sg_n l + 1) (by omega) (by omega), rx_w_of (x := (l.length : Int) + 1) (by omega) (by omega)]
      have on := ih (l ++ [x]) (by rw [List.append_assoc]; exact e)
      rw [List.length_append, sg_na] at on
      refine ⟨by omega, ?_⟩
      by_cases c : x = -10
      · rw [if_neg (fun q => q c)]
        rw [c, sg_n1] at on
        exact on
      · rw [if_pos c]
        rw [sg_ns c] at on
        exact on
  exact key H [] rfl
/-- what settling changes -/
theorem n_settle {l : Int} {H : List Int} (hT : sg_T l H) : ∀ (r C : List Int) (τ : rx_St), (∀ x ∈ r, x ≠ -11 ∧ l ≤ sg_r x) → ar_is (τ 146) (H ++ r.reverse) → τ 125 35 = H.length + r.length → ar_is (τ 145) C → τ 125 32 = C.length → C.length + H.length + r.length ≤ 96 → (∀ τ' : rx_St, τ' 125 35 = H.length → ar_is (τ' 145) (C ++ r) → τ' 125 32 = C.length + r.length → (∀ i, i ≠ 32 → i ≠ 35 → τ' 125 i = τ 125 i) → (∀ c, c ≠ 125 → c ≠ 145 → τ' c = τ c) → KV τ') → rx_Go L (d + 1) mX11_settle 0 [some (.inr 125), some (.inl l)] [] τ (rx_PV KV) := by
  intro r
  induction r with
  | nil =>
    intro C τ hr hH h35 hC h32 hb h
    have e35 : τ 125 35 = H.length := by rw [h35]; exact Int.add_zero _
    have done : KV τ := h τ e35 (by rw [List.append_nil]; exact hC) (by rw [h32]; exact (Int.add_zero _).symm) (fun _ _ _ => rfl) (fun _ _ _ => rfl)
    refine bX11_settle_0 L d l τ KV ?_
    rw [e35]
    by_cases c : (H.length : Int) ≤ 0
    · rw [if_pos c]
      exact done
    · rw [if_neg c, rx_w_of (by omega) (by omega)]
      rcases hT with q | ⟨H', x, q, hx⟩
      · rw [q] at c
        exact absurd (Int.le_refl 0) c
      · have hlen : H.length = H'.length + 1 := by rw [q, List.length_append]; rfl
        have hb' : C.length + H.length + 0 ≤ 96 := hb
        have htop : τ 146 ((H.length : Int) - 1) = x := by
          have : ar_is (τ 146) (H' ++ [x]) := by rw [← q]; exact ar_app hH
          have := ar_top this
          rw [show (H.length : Int) - 1 = (H'.length : Int) by omega]
          exact this
        refine ⟨by omega, ?_⟩
        rw [htop]
        by_cases c2 : x = -11
        · rw [if_pos c2]
          exact done
        · rw [if_neg c2]
          refine n_rank ?_
          rw [if_pos (hx.resolve_left c2)]
          exact done
  | cons x r ih =>
    intro C τ hr hH h35 hC h32 hb h
    have hb' : C.length + H.length + (r.length + 1) ≤ 96 := hb
    have h35' : τ 125 35 = (H.length : Int) + (r.length + 1) := h35
    have hx := hr x List.mem_cons_self
    rw [List.reverse_cons, ← List.append_assoc] at hH
    have hl2 : (H ++ r.reverse).length = H.length + r.length := by rw [List.length_append, List.length_reverse]
    have htop : τ 146 ((H.length : Int) + r.length) = x := by
      have := ar_top hH
      rw [hl2] at this
      exact this
    refine bX11_settle_0 L d l τ KV ?_
    rw [h35', if_neg (by omega), rx_w_of (by omega) (by omega), show (H.length : Int) + (r.length + 1) - 1 = H.length + r.length by omega, htop]
    refine ⟨by omega, ?_⟩
    rw [if_neg hx.1]
    refine n_rank ?_
    rw [if_neg (by omega), h35', rx_w_of (x := (H.length : Int) + (r.length + 1) - 1) (by omega) (by omega), show (H.length : Int) + (r.length + 1) - 1 = H.length + r.length by omega]
    rw [up_s, up_i (show (32 : Int) ≠ 35 by decide), h32, up_c (show (146 : Nat) ≠ 125 by decide), htop, up_c (show (125 : Nat) ≠ 145 by decide), up_i (show (32 : Int) ≠ 35 by decide), h32, rx_w_of (by omega) (by omega)]
    refine ⟨by omega, by omega, ?_⟩
    refine ih (C ++ [x]) _ (fun y hy => hr y (List.mem_cons_of_mem x hy)) ?_ ?_ ?_ ?_ ?_ ?_
    · rw [up_c (by decide), up_c (by decide), up_c (by decide)]
      exact ar_app hH
    · rw [up_i (by decide), up_c (by decide), up_s]
    · rw [up_c (by decide)]
      exact ar_push hC up_s (fun i hi => by rw [up_i hi, up_c (by decide)])
    · rw [up_s, List.length_append]
      rfl
    · rw [List.length_append]
      show C.length + 1 + H.length + r.length ≤ 96
      omega
    · intro τ' a1 a2 a3 a4 a5
      refine h τ' a1 ?_ ?_ (fun i h1 h2 => ?_) (fun c h1 h2 => ?_)
      · rw [List.append_assoc] at a2
        exact a2
      · rw [a3, List.length_append]
        show (((C.length + 1 : Nat) : Int)) + r.length = C.length + ((r.length + 1 : Nat) : Int)
        omega
      · rw [a4 i h1 h2, up_i h1, up_c (by decide), up_i h2]
      · rw [a5 c h1 h2, up_c h1, up_c h2, up_c h1]
end SIGN
