/-! ===== sums ===== -/
def rs_sum (f : Int → Int) : Int → Nat → Int
  | _, 0 => 0
  | p, k + 1 => f p + rs_sum f (p + 1) k
theorem rs_sum_congr {f g : Int → Int} : ∀ (k : Nat) (p : Int), (∀ q, p ≤ q → q < p + k → f q = g q) → rs_sum f p k = rs_sum g p k
  | 0, _, _ => rfl
  | k + 1, p, h => by
    unfold rs_sum
    rw [h p (by omega) (by omega), rs_sum_congr k (p + 1) (fun q h1 h2 => h q (by omega) (by omega))]
theorem rs_sum_nn {f : Int → Int} : ∀ (k : Nat) (p : Int), (∀ q, p ≤ q → q < p + k → 0 ≤ f q) → 0 ≤ rs_sum f p k
  | 0, _, _ => Int.le_refl 0
  | k + 1, p, h => by
    unfold rs_sum
    have := h p (by omega) (by omega)
    have := rs_sum_nn k (p + 1) (fun q h1 h2 => h q (by omega) (by omega))
    omega
theorem rs_sum_z {f : Int → Int} : ∀ (k : Nat) (p : Int), (∀ q, p ≤ q → q < p + k → f q = 0) → rs_sum f p k = 0
  | 0, _, _ => rfl
  | k + 1, p, h => by
    unfold rs_sum
    rw [h p (by omega) (by omega), rs_sum_z k (p + 1) (fun q h1 h2 => h q (by omega) (by omega))]
    rfl
theorem rs_sum_app {f : Int → Int} : ∀ (k j : Nat) (p : Int), rs_sum f p (k + j) = rs_sum f p k + rs_sum f (p + k) j
  | 0, j, p => by
    rw [Nat.zero_add]
    show _ = 0 + rs_sum f (p + 0) j
    rw [Int.zero_add, Int.add_zero]
  | k + 1, j, p => by
    rw [show k + 1 + j = (k + j) + 1 by omega]
    show f p + rs_sum f (p + 1) (k + j) = f p + rs_sum f (p + 1) k + rs_sum f (p + ((k + 1 : Nat) : Int)) j
    rw [rs_sum_app k j (p + 1), show p + ((k + 1 : Nat) : Int) = p + 1 + k by omega]
    omega
/-- only one of them counts -/
theorem rs_sum_one {f : Int → Int} {k : Nat} {p q : Int} (h0 : p ≤ q) (h1 : q < p + k) (h : ∀ i, p ≤ i → i < p + k → i ≠ q → f i = 0) : rs_sum f p k = f q := by
  have e : k = (q - p).toNat + (1 + (k - 1 - (q - p).toNat)) := by omega
  rw [e, rs_sum_app, rs_sum_app, rs_sum_z (q - p).toNat p (fun i i0 i1 => h i i0 (by omega) (by omega)), rs_sum_z (k - 1 - (q - p).toNat) _ (fun i i0 i1 => h i (by omega) (by omega) (by omega))]
  show 0 + (f (p + ((q - p).toNat : Int)) + 0 + 0) = f q
  rw [show p + ((q - p).toNat : Int) = q by omega]
  omega
/-- over all pairs, the lesser first -/
def rs_ps (m : Int) (g : Int → Int → Int) : Int := rs_sum (fun r => rs_sum (fun s => g r s) (r + 1) (m - r - 1).toNat) 0 m.toNat
theorem rs_ps_congr {m : Int} {g h : Int → Int → Int} (e : ∀ r s, 0 ≤ r → r < s → s < m → g r s = h r s) : rs_ps m g = rs_ps m h := by
  unfold rs_ps
  refine rs_sum_congr _ _ (fun r r0 r1 => ?_)
  exact rs_sum_congr _ _ (fun s s0 s1 => e r s r0 (by omega) (by omega))
theorem rs_sum_le {f : Int → Int} {B : Int} : ∀ (k : Nat) (p : Int), (∀ q, p ≤ q → q < p + k → f q ≤ B) → rs_sum f p k ≤ k * B
  | 0, _, _ => by
    show (0 : Int) ≤ ((0 : Nat) : Int) * B
    simp
  | k + 1, p, h => by
    show f p + rs_sum f (p + 1) k ≤ _
    have h1 := h p (by omega) (by omega)
    have h2 := rs_sum_le k (p + 1) (fun q q0 q1 => h q (by omega) (by omega))
    have e : ((k + 1 : Nat) : Int) * B = k * B + B := by rw [Int.natCast_add, Int.add_mul]; simp
    omega
theorem rs_ps_b {m : Int} {g : Int → Int → Int} (hm : 0 ≤ m ∧ m ≤ 18) (hg : ∀ r s, 0 ≤ r → r < s → s < m → 0 ≤ g r s ∧ g r s ≤ 999) : 0 ≤ rs_ps m g ∧ rs_ps m g ≤ 400000 := by
  unfold rs_ps
  constructor
  · exact rs_sum_nn _ _ (fun q q0 q1 => rs_sum_nn _ _ (fun s s0 s1 => (hg q s (by omega) (by omega) (by omega)).1))
  · have := rs_sum_le (B := 18000) (f := fun r => rs_sum (fun s => g r s) (r + 1) (m - r - 1).toNat) m.toNat 0 (fun q q0 q1 => by
      have := rs_sum_le (B := 999) (f := fun s => g q s) (m - q - 1).toNat (q + 1) (fun s s0 s1 => (hg q s (by omega) (by omega) (by omega)).2)
      show rs_sum (fun s => g q s) (q + 1) (m - q - 1).toNat ≤ 18000
      omega)
    omega
/-- two loops, one in the other, over all pairs, that add what pairs give, up to a limit -/
theorem dl_loop {m lim : Int} {g : Int → Int → Int} {K' : Int → Prop} {Out : Int → Int → Prop} {In : Int → Int → Int → Prop} (hm : 0 ≤ m ∧ m ≤ 18) (hg : ∀ r s, 0 ≤ r → r < s → s < m → 0 ≤ g r s ∧ g r s ≤ 999)
    (hOut : ∀ r acc, 0 ≤ r → r ≤ m → 0 ≤ acc → acc ≤ 400000 → (m ≤ r → K' acc) → (r < m → lim ≤ acc → K' acc) → (r < m → acc < lim → In r (r + 1) acc) → Out r acc)
    (hIn : ∀ r s acc, 0 ≤ r → r < s → s ≤ m → 0 ≤ acc → acc ≤ 400000 → (s = m → Out (r + 1) acc) → (s < m → In r (s + 1) (acc + g r s)) → In r s acc)
    (hK : ∀ v, 0 ≤ v → (v = rs_ps m g ∨ (lim ≤ v ∧ v ≤ rs_ps m g)) → K' v) : Out 0 0 := by
  have key : ∀ (k : Nat) (r acc : Int), r + k = m → 0 ≤ r → 0 ≤ acc → acc ≤ 18000 * r → acc + rs_sum (fun r => rs_sum (fun s => g r s) (r + 1) (m - r - 1).toNat) r k = rs_ps m g → Out r acc := by
    intro k
    induction k with
    | zero =>
      intro r acc hr r0 a0 a1 e
      have e : acc + 0 = rs_ps m g := e
      exact hOut r acc r0 (by omega) a0 (by omega) (fun _ => hK acc a0 (Or.inl (by omega))) (fun q => by omega) (fun q => by omega)
    | succ k ih =>
      intro r acc hr r0 a0 a1 e
      have e : acc + (rs_sum (fun s => g r s) (r + 1) (m - r - 1).toNat + rs_sum (fun r => rs_sum (fun s => g r s) (r + 1) (m - r - 1).toNat) (r + 1) k) = rs_ps m g := e
      have nn : 0 ≤ rs_sum (fun r => rs_sum (fun s => g r s) (r + 1) (m - r - 1).toNat) (r + 1) k := rs_sum_nn _ _ (fun q q0 q1 => rs_sum_nn _ _ (fun s s0 s1 => (hg q s (by omega) (by omega) (by omega)).1))
      have nn2 : 0 ≤ rs_sum (fun s => g r s) (r + 1) (m - r - 1).toNat := rs_sum_nn _ _ (fun s s0 s1 => (hg r s (by omega) (by omega) (by omega)).1)
      refine hOut r acc r0 (by omega) a0 (by omega) (fun q => by omega) (fun _ q => hK acc a0 (Or.inr ⟨q, by omega⟩)) (fun _ _ => ?_)
      have inner : ∀ (j : Nat) (s acc : Int), s + j = m → r < s → 0 ≤ acc → acc ≤ 18000 * r + 1000 * s → acc + rs_sum (fun s => g r s) s j + rs_sum (fun r => rs_sum (fun s => g r s) (r + 1) (m - r - 1).toNat) (r + 1) k = rs_ps m g → In r s acc := by
        intro j
        induction j with
        | zero =>
          intro s acc hs rs b0 b1 e2
          have e2 : acc + 0 + rs_sum (fun r => rs_sum (fun s => g r s) (r + 1) (m - r - 1).toNat) (r + 1) k = rs_ps m g := e2
          exact hIn r s acc r0 rs (by omega) b0 (by omega) (fun _ => ih (r + 1) acc (by omega) (by omega) b0 (by omega) (by omega)) (fun q => by omega)
        | succ j ihj =>
          intro s acc hs rs b0 b1 e2
          have e2 : acc + (g r s + rs_sum (fun s => g r s) (s + 1) j) + rs_sum (fun r => rs_sum (fun s => g r s) (r + 1) (m - r - 1).toNat) (r + 1) k = rs_ps m g := e2
          have hgs := hg r s r0 rs (by omega)
          exact hIn r s acc r0 rs (by omega) b0 (by omega) (fun q => by omega) (fun _ => ihj (s + 1) (acc + g r s) (by omega) (by omega) (by omega) (by omega) (by omega))
      have ek : (m - r - 1).toNat = k := by omega
      rw [ek] at e
      exact inner k (r + 1) acc (by omega) (by omega) a0 (by omega) (by omega)
  refine key m.toNat 0 0 (by omega) (by omega) (by omega) (by omega) ?_
  rw [Int.zero_add]
  rfl
section MEET2
variable {L d : Nat} {σ V T : rx_St} {K : Int → rx_St → Prop} {KV : rx_St → Prop}
theorem rs_mL_mm {P : Int → Int} {r s : Int} : rs_mL P V r s ↔ ¬ ((rx_mn (P (V 7 r)) (P (V 8 r)) < P (V 7 s) ∧ P (V 7 s) < rx_mx (P (V 7 r)) (P (V 8 r))) ↔ (rx_mn (P (V 7 r)) (P (V 8 r)) < P (V 8 s) ∧ P (V 8 s) < rx_mx (P (V 7 r)) (P (V 8 r)))) := by
  have key : ∀ p a b : Int, rs_in p a b ↔ (rx_mn a b < p ∧ p < rx_mx a b) := by
    intro p a b
    unfold rs_in rx_mn rx_mx
    split <;> split <;> omega
  unfold rs_mL
  rw [key, key]
theorem c_meetInLine {A : Nat} (hA : rx_isO 1 A = true) (hV : ld_C A V σ) (hw : iv_Wf V) {r s : Int} (hr : 0 ≤ r ∧ r < V 0 6) (hs : 0 ≤ s ∧ s < V 0 6) (h1 : rs_mL (V 5) V r s → K 1 σ) (h0 : ¬ rs_mL (V 5) V r s → K 0 σ) : rx_CI L d mX1_meetInLine [.inr A, .inl r, .inl s] σ K := by
  have hn := wf_n hw
  have hm := wf_m hw
  have qr := wf_r hw hr.1 hr.2
  have qs := wf_r hw hs.1 hs.2
  rw [rs_mL_mm] at h1 h0
  refine bX1_meetInLine L d A hA r s σ K ?_
  rw [hV 7 (by omega), hV 8 (by omega), hV 5 (by omega)]
  refine ⟨by omega, by omega, by omega, by omega, by omega, by omega, ?_⟩
  generalize rx_mn (V 5 (V 7 r)) (V 5 (V 8 r)) = lo at *
  generalize rx_mx (V 5 (V 7 r)) (V 5 (V 8 r)) = hi at *
  repeat' split
  all_goals first | exact h1 (by omega) | exact h0 (by omega)
theorem c_upperLayer {A : Nat} (hA : rx_isO 1 A = true) (hV : ld_C A V σ) (hw : iv_Wf V) {r : Int} (hr : 0 ≤ r ∧ r < V 0 6) (h : K (rs_up V r) σ) : rx_CI L d mX1_upperLayer [.inr A, .inl r] σ K := by
  have hn := wf_n hw
  have hm := wf_m hw
  have qr := wf_r hw hr.1 hr.2
  have p1 := (wf_p hw (p := V 7 r) (by omega) (by omega)).1.2.2
  have p2 := (wf_p hw (p := V 8 r) (by omega) (by omega)).1.2.2
  refine bX1_upperLayer L d A hA r σ K ?_
  rw [hV 7 (by omega), hV 8 (by omega), hV 3 (by omega)]
  refine ⟨by omega, by omega, by omega, ?_⟩
  rw [rx_w_of (by omega) (by omega)]
  unfold rs_up at h
  by_cases c1 : V 3 (V 7 r) = V 3 (V 8 r) + 1
  · rw [if_pos c1] at h
    rw [if_neg (by unfold rx_ab; rw [if_pos (by omega)]; omega)]
    have e : rx_mn (V 3 (V 7 r)) (V 3 (V 8 r)) = V 3 (V 8 r) := by unfold rx_mn; rw [if_pos (by omega)]
    rw [e]
    exact h
  rw [if_neg c1] at h
  by_cases c2 : V 3 (V 8 r) = V 3 (V 7 r) + 1
  · rw [if_pos c2] at h
    rw [if_neg (by unfold rx_ab; rw [if_neg (by omega), rx_w_of (by omega) (by omega)]; omega)]
    have e : rx_mn (V 3 (V 7 r)) (V 3 (V 8 r)) = V 3 (V 7 r) := by unfold rx_mn; rw [if_neg (by omega)]
    rw [e]
    exact h
  rw [if_neg c2] at h
  rw [if_pos]
  · exact h
  · unfold rx_ab
    split
    · omega
    · rw [rx_w_of (by omega) (by omega)]
      omega
theorem rs_up_b (hw : iv_Wf V) {r : Int} (hr : 0 ≤ r ∧ r < V 0 6) : -1 ≤ rs_up V r ∧ rs_up V r < 4 := by
  have qr := wf_r hw hr.1 hr.2
  have p1 := (wf_p hw (p := V 7 r) (by omega) (by omega)).1.2.2
  have p2 := (wf_p hw (p := V 8 r) (by omega) (by omega)).1.2.2
  unfold rs_up
  repeat' split
  all_goals omega
theorem rs_end_b (hw : iv_Wf V) {r l : Int} (hr : 0 ≤ r ∧ r < V 0 6) : 0 ≤ rs_end V r l ∧ rs_end V r l < V 0 0 := by
  have qr := wf_r hw hr.1 hr.2
  unfold rs_end
  split <;> omega
theorem c_endIn {A : Nat} (hA : rx_isO 1 A = true) (hV : ld_C A V σ) (hw : iv_Wf V) {r l : Int} (hr : 0 ≤ r ∧ r < V 0 6) (h : K (rs_end V r l) σ) : rx_CI L d mX1_endIn [.inr A, .inl r, .inl l] σ K := by
  have hn := wf_n hw
  have hm := wf_m hw
  have qr := wf_r hw hr.1 hr.2
  refine bX1_endIn L d A hA r l σ K ?_
  rw [hV 7 (by omega), hV 8 (by omega), hV 3 (by omega)]
  refine ⟨by omega, by omega, ?_⟩
  unfold rs_end at h
  by_cases c : V 3 (V 7 r) = l
  · rw [if_neg (fun q => q c)]
    rw [if_pos c] at h
    exact h
  · rw [if_pos c]
    rw [if_neg c] at h
    exact h
theorem c_meetInLayers {A : Nat} (hA : rx_isO 1 A = true) (hV : ld_C A V σ) (hw : iv_Wf V) {r s : Int} (hr : 0 ≤ r ∧ r < V 0 6) (hs : 0 ≤ s ∧ s < V 0 6) (h1 : rs_mY (V 5) V r s → K 1 σ) (h0 : ¬ rs_mY (V 5) V r s → K 0 σ) : rx_CI L (d + 1) mX1_meetInLayers [.inr A, .inl r, .inl s] σ K := by
  have hn := wf_n hw
  have ub := rs_up_b hw hr
  have pl : ∀ p, 0 ≤ p ∧ p < V 0 0 → 0 ≤ V 5 p ∧ V 5 p < V 0 0 := fun p hp => by
    have := (wf_p hw hp.1 hp.2).2.2
    omega
  refine bX1_meetInLayers L d A hA r s σ K ?_
  refine c_upperLayer hA hV hw hr ?_
  unfold rs_mY at h1 h0
  by_cases c1 : rs_up V r < 0
  · rw [if_pos c1]
    exact h0 (fun q => by omega)
  rw [if_neg c1]
  refine c_upperLayer hA hV hw hs ?_
  by_cases c2 : rs_up V r = rs_up V s
  · rw [if_pos c2]
    refine c_endIn hA hV hw hr ?_
    have b1 := rs_end_b hw (l := rs_up V r) hr
    refine ⟨by omega, ?_⟩
    refine c_endIn hA hV hw hs ?_
    have b2 := rs_end_b hw (l := rs_up V r) hs
    refine ⟨by omega, ?_⟩
    rw [rx_w_of (x := rs_up V r + 1) (by omega) (by omega)]
    refine c_endIn hA hV hw hr ?_
    have b3 := rs_end_b hw (l := rs_up V r + 1) hr
    refine ⟨by omega, ?_⟩
    refine c_endIn hA hV hw hs ?_
    have b4 := rs_end_b hw (l := rs_up V r + 1) hs
    refine ⟨by omega, ?_⟩
    rw [hV 5 (by omega)]
    have e1 := pl _ b1
    have e2 := pl _ b2
    have e3 := pl _ b3
    have e4 := pl _ b4
    rw [rx_w_of (x := V 5 (rs_end V r (rs_up V r)) - V 5 (rs_end V s (rs_up V r))) (by omega) (by omega), rx_w_of (x := V 5 (rs_end V r (rs_up V r + 1)) - V 5 (rs_end V s (rs_up V r + 1))) (by omega) (by omega)]
    repeat' split
    all_goals first | exact h1 ⟨by omega, c2, by omega⟩ | exact h0 (fun q => absurd q.2.2 (by omega))
  · rw [if_neg c2]
    exact h0 (fun q => c2 q.2.1)
theorem c_meet {A : Nat} (hA : rx_isO 1 A = true) (hV : ld_C A V σ) (hw : iv_Wf V) {w r s : Int} (hr : 0 ≤ r ∧ r < V 0 6) (hs : 0 ≤ s ∧ s < V 0 6) (h1 : rs_meet (V 5) V w r s = true → K 1 σ) (h0 : rs_meet (V 5) V w r s = false → K 0 σ) : rx_CI L (d + 2) mX1_meet [.inr A, .inl w, .inl r, .inl s] σ K := by
  have hm := wf_m hw
  have qr := wf_r hw hr.1 hr.2
  have qs := wf_r hw hs.1 hs.2
  refine bX1_meet L (d + 1) A hA w r s σ K ?_
  refine c_shareEnd hA hV (by omega) (by omega) (fun g => ?_) (fun g => ?_)
  · rw [if_neg (by decide)]
    exact h0 (bo_f (fun q => q.1 g))
  rw [if_pos rfl]
  unfold rs_meet at h1 h0
  by_cases c0 : w = 0
  · rw [if_pos c0]
    rw [if_pos c0] at h1 h0
    refine ⟨by omega, by omega, ?_⟩
    rw [hV 7 (by omega), hV 8 (by omega)]
    exact c_meetStraight hA hV hw (by omega) (by omega) (by omega) (by omega) (fun q => ⟨Or.inr rfl, h1 (bo_t ⟨g, q⟩)⟩) (fun q => ⟨Or.inl rfl, h0 (bo_f (fun z => q z.2))⟩)
  rw [if_neg c0]
  rw [if_neg c0] at h1 h0
  by_cases c1 : w = 1
  · rw [if_pos c1]
    rw [if_pos c1] at h1 h0
    refine ⟨by omega, by omega, ?_⟩
    rw [hV 10 (by omega)]
    by_cases c2 : V 10 r = V 10 s
    · rw [if_neg (fun q => q c2)]
      refine c_meetInLine hA hV hw hr hs (fun q => ?_) (fun q => ?_)
      · rw [if_neg (by decide)]
        exact h1 (bo_t ⟨g, c2, q⟩)
      · rw [if_pos rfl]
        exact h0 (bo_f (fun z => q z.2.2))
    · rw [if_pos c2]
      exact h0 (bo_f (fun z => c2 z.2.1))
  · rw [if_neg c1]
    rw [if_neg c1] at h1 h0
    exact c_meetInLayers hA hV hw hr hs (fun q => ⟨Or.inr rfl, h1 (bo_t ⟨g, q⟩)⟩) (fun q => ⟨Or.inl rfl, h0 (bo_f (fun z => q z.2))⟩)
theorem c_pairsThatMeet {A : Nat} (hA : rx_isO 1 A = true) (hV : ld_C A V σ) (hw : iv_Wf V) {w : Int} (h : K (rs_ps (V 0 6) (fun r s => b01 (rs_meet (V 5) V w r s))) σ) : rx_CI L (d + 3) mX1_pairsThatMeet [.inr A, .inl w] σ K := by
  have hm := wf_m hw
  have e0 := ld_C0 hV
  refine bX1_pairsThatMeet L (d + 2) A hA w σ K ?_
  refine dl_loop (m := V 0 6) (lim := 2147483647) (g := fun r s => b01 (rs_meet (V 5) V w r s)) (K' := fun v => K v σ) (Out := fun r acc => ∀ q, rx_Go L (d + 3) mX1_pairsThatMeet 4 [some (.inr A), some (.inl w), some (.inl acc), some (.inl r), q] [] σ (rx_PI K)) (In := fun r s acc => rx_Go L (d + 3) mX1_pairsThatMeet 17 [some (.inr A), some (.inl w), some (.inl acc), some (.inl r), some (.inl s)] [] σ (rx_PI K)) hm (fun r s _ _ _ => by have := b01_b (rs_meet (V 5) V w r s); omega) ?_ ?_ ?_ none
  · intro r acc r0 r1 a0 a1 k1 k2 k3 q
    refine bX1_pairsThatMeet_4 L (d + 2) A hA w acc r q σ K ?_
    rw [e0]
    by_cases c : V 0 6 ≤ r
    · rw [if_pos c]
      exact k1 c
    · rw [if_neg c, rx_w_of (by omega) (by omega)]
      exact k3 (by omega) (by omega)
  · intro r s acc r0 rs s1 a0 a1 k1 k2
    refine bX1_pairsThatMeet_17 L (d + 2) A hA w acc r s σ K ?_
    rw [e0]
    by_cases c : V 0 6 ≤ s
    · rw [if_pos c, rx_w_of (by omega) (by omega)]
      exact k1 (by omega) _
    · rw [if_neg c]
      have k2 := k2 (by omega)
      refine c_meet hA hV hw (by omega) (by omega) (fun g => ?_) (fun g => ?_)
      · rw [if_neg (by decide), rx_w_of (by omega) (by omega), rx_w_of (by omega) (by omega)]
        rw [g] at k2
        exact k2
      · rw [if_pos rfl, rx_w_of (by omega) (by omega)]
        rw [g] at k2
        have e : acc + b01 false = acc := by unfold b01; simp
        rw [e] at k2
        exact k2
  · intro v v0 hv
    rcases hv with rfl | ⟨g1, g2⟩
    · exact h
    · have := rs_ps_b (g := fun r s => b01 (rs_meet (V 5) V w r s)) hm (fun r s _ _ _ => by have := b01_b (rs_meet (V 5) V w r s); omega)
      omega
end MEET2
