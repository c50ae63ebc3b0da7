section ROWS3
variable {L d : Nat} {σ V T : rx_St} {S : Int → Int} {Q : Int → Int → rx_St → Prop} {K : Int → rx_St → Prop} {KV : rx_St → Prop}
theorem c_hasPlaces {A : Nat} (hA : rx_isO 7 A = true) (hs : 0 ≤ σ A 1 ∧ σ A 1 ≤ 24) {i m : Int} (h1 : 0 ≤ i ∧ 0 ≤ m ∧ i + m ≤ σ A 1 → K 1 σ) (h0 : ¬ (0 ≤ i ∧ 0 ≤ m ∧ i + m ≤ σ A 1) → K 0 σ) : rx_CI L d mX7_hasPlaces [.inr A, .inl i, .inl m] σ K := by
  refine bX7_hasPlaces L d A hA i m σ K ?_
  by_cases c : i < 0
  · rw [if_pos c]
    exact h0 (by omega)
  rw [if_neg c]
  by_cases c2 : m < 0
  · rw [if_pos c2]
    exact h0 (by omega)
  rw [if_neg c2]
  by_cases c3 : σ A 1 < i
  · rw [if_pos c3]
    exact h0 (by omega)
  rw [if_neg c3, rx_w_of (by omega) (by omega)]
  by_cases c4 : σ A 1 - i < m
  · rw [if_pos c4]
    exact h0 (by omega)
  · rw [if_neg c4]
    exact h1 (by omega)
theorem o_copy {x p y q m : Int} (hp : rx_r p) (hq : rx_r q) (hm : rx_r m) (h : iv_A S V T σ) (hQ : ∀ v σ', Inv S σ' → Q v v σ') :
    rx_CI L (d + 2) mX10_copy [.inr 0, .inl x, .inl p, .inl y, .inl q, .inl m] σ (fun v1 σ1 => rx_CI L (d + 2) mX11_copy [.inr 125, .inl x, .inl p, .inl y, .inl q, .inl m] σ1 (fun v2 σ2 => Q v1 v2 σ2)) := by
  unfold rx_r at hp hq hm
  have hR := iv_R_of h
  have hbad : ¬ ((0 ≤ x ∧ x < 4) ∧ (0 ≤ y ∧ y < 4)) → rx_CI L (d + 2) mX11_copy [.inr 125, .inl x, .inl p, .inl y, .inl q, .inl m] σ (fun v2 σ2 => Q (-1000000001) v2 σ2) := by
    intro c
    refine bX11_copy L (d + 1) x p y q m σ _ ?_
    refine n_isSheet (fun c1 => ?_) (fun c1 => ?_)
    · rw [if_neg (by decide)]
      refine n_isSheet (fun c2 => absurd ⟨c1, c2⟩ c) (fun c2 => ?_)
      rw [if_neg (by decide)]
      exact o_same h hQ _
    · rw [if_pos rfl]
      exact o_same h hQ _
  refine bX10_copy L (d + 1) x p y q m σ _ ?_
  refine s_isSheet (fun c => ?_) (fun c => ?_)
  · rw [if_neg (by decide)]
    refine s_isSheet (fun c2 => ?_) (fun c2 => ?_)
    · rw [if_pos (by decide)]
      refine ⟨c, fun A hA hO => ⟨c2, fun B hB hP => ?_⟩⟩
      obtain ⟨s1, s2, s3, s4, s5⟩ := iv_sh hR.2.2.2.1 c hA
      obtain ⟨t1, t2, t3, t4, t5⟩ := iv_sh hR.2.2.2.1 c2 hB
      have hmod : ∀ (w : Int) (σ1 : rx_St), σ1 150 = σ 150 → σ1 151 = σ 151 → (σ A 0 = -1 ∨ σ B 0 = -1 → Q w (-1000000011) σ1) → (σ A 0 ≠ -1 → σ B 0 ≠ -1 → σ A 0 ≠ σ B 0 → Q w (-1000000012) σ1) → (σ A 0 ≠ -1 → σ B 0 ≠ -1 → σ A 0 = σ B 0 → ¬ ((0 ≤ p ∧ 0 ≤ m ∧ p + m ≤ σ A 1) ∧ (0 ≤ q ∧ 0 ≤ m ∧ q + m ≤ σ B 1)) → Q w (-1000000013) σ1) → (σ A 0 ≠ -1 → σ B 0 ≠ -1 → σ A 0 = σ B 0 → (0 ≤ p ∧ 0 ≤ m ∧ p + m ≤ σ A 1) → (0 ≤ q ∧ 0 ≤ m ∧ q + m ≤ σ B 1) → rx_Go L (d + 2) mX11_copy 104 [some (.inr 125), some (.inl x), some (.inl p), some (.inl y), some (.inl q), some (.inl m), some (.inl 0)] [] σ1 (rx_PI (fun v2 σ2 => Q w v2 σ2))) → rx_CI L (d + 2) mX11_copy [.inr 125, .inl x, .inl p, .inl y, .inl q, .inl m] σ1 (fun v2 σ2 => Q w v2 σ2) := by
        intro w σ1 e150 e151 q1 q2 q3 q4
        refine bX11_copy L (d + 1) x p y q m σ1 _ ?_
        refine n_isSheet (fun _ => ?_) (fun c1 => absurd c c1)
        rw [if_neg (by decide)]
        refine n_isSheet (fun _ => ?_) (fun c1 => absurd c2 c1)
        rw [if_pos (by decide), e150, e151, s2, t2, s4, t4]
        refine ⟨c, ?_⟩
        by_cases g1 : σ A 0 < 0
        · rw [if_pos g1]
          exact q1 (by omega)
        rw [if_neg g1]
        refine ⟨c2, ?_⟩
        by_cases g2 : 0 ≤ σ B 0
        · rw [if_pos g2]
          by_cases g3 : σ A 0 = σ B 0
          · rw [if_pos g3]
            by_cases g4 : p < 0
            · rw [if_pos g4]
              exact q3 (by omega) (by omega) g3 (by omega)
            rw [if_neg g4]
            by_cases g5 : q < 0
            · rw [if_pos g5]
              exact q3 (by omega) (by omega) g3 (by omega)
            rw [if_neg g5]
            by_cases g6 : m < 0
            · rw [if_pos g6]
              exact q3 (by omega) (by omega) g3 (by omega)
            rw [if_neg g6, rx_w_of (by omega) (by omega), rx_w_of (by omega) (by omega)]
            by_cases g7 : σ A 1 - m < p
            · rw [if_pos g7]
              exact q3 (by omega) (by omega) g3 (by omega)
            rw [if_neg g7]
            by_cases g8 : q ≤ σ B 1 - m
            · rw [if_pos g8]
              exact q4 (by omega) (by omega) g3 (by omega) (by omega)
            · rw [if_neg g8]
              exact q3 (by omega) (by omega) g3 (by omega)
          · rw [if_neg g3]
            exact q2 (by omega) (by omega) g3
        · rw [if_neg g2]
          exact q1 (by omega)
      refine c_isMissing hO (fun g => ?_) (fun g => ?_)
      · rw [if_pos (by decide)]
        exact hmod _ σ rfl rfl (fun _ => o_same h hQ _) (fun g2 => absurd g g2) (fun g2 => absurd g g2) (fun g2 => absurd g g2)
      rw [if_neg (by decide)]
      refine c_isMissing hP (fun f => ?_) (fun f => ?_)
      · rw [if_neg (by decide)]
        exact hmod _ σ rfl rfl (fun _ => o_same h hQ _) (fun _ g2 => absurd f g2) (fun _ g2 => absurd f g2) (fun _ g2 => absurd f g2)
      rw [if_pos rfl]
      by_cases g3 : σ A 0 = σ B 0
      · rw [if_pos g3]
        refine c_hasPlaces hO s3 (fun k1 => ?_) (fun k1 => ?_)
        · rw [if_neg (by decide)]
          refine c_hasPlaces hP t3 (fun k2 => ?_) (fun k2 => ?_)
          · rw [if_pos (by decide)]
            refine ⟨by unfold rx_cpOK; omega, ?_⟩
            have hc1 : ∀ c, c ≠ B + 1 → (rx_cp σ (A + 1) p (B + 1) q m) c = σ c := fun c hc => cp_c hc
            refine hmod _ _ (hc1 150 (by omega)) (hc1 151 (by omega)) (fun g9 => absurd g9 (by omega)) (fun _ _ g9 => absurd g3 g9) (fun _ _ _ g9 => absurd ⟨k1, k2⟩ g9) (fun _ _ _ _ _ => ?_)
            have hc1' := hc1
            generalize hσ1 : rx_cp σ (A + 1) p (B + 1) q m = σ1 at hc1' ⊢
            have key2 : ∀ (k : Nat) (j : Int) (σ2 : rx_St), 0 ≤ j → j + k = m → (∀ c, c ≠ 152 → c ≠ 157 → σ2 c = σ1 c) → (∀ i, 0 ≤ i → i < m → σ2 157 i = σ (A + 1) (p + i)) → (∀ i, σ2 152 i = if 24 * y + q ≤ i ∧ i < 24 * y + q + j then σ (A + 1) (p + (i - (24 * y + q))) else σ 152 i) → rx_Go L (d + 2) mX11_copy 141 [some (.inr 125), some (.inl x), some (.inl p), some (.inl y), some (.inl q), some (.inl m), some (.inl j)] [] σ2 (rx_PI (fun v2 σ2 => Q m v2 σ2)) := by
              intro k
              induction k with
              | zero =>
                intro j σ2 j0 hj hc h157 h152
                refine bX11_copy_141 L (d + 1) _ _ y q m j σ2 _ ?_
                rw [if_pos (by omega)]
                have hcs : ∀ c, c ≠ 152 → c ≠ 157 → c ≠ B + 1 → σ2 c = σ c := fun c h1 h2 h3 => by rw [hc c h1 h2, ← hσ1, cp_c h3]
                refine hQ _ _ ⟨V, T, iv_rest h (fun c i h1 h2 => ?_) ⟨iv_constfr hR.1 (fun c h9 => hcs c (by omega) (by omega) (by omega)), iv_tapefr hR.2.1 ?_ ?_ (hcs 36 (by omega) (by omega) (by omega)) (hcs 142 (by omega) (by omega) (by omega)), iv_waitfr hR.2.2.1 ?_ ?_ (hcs 101 (by omega) (by omega) (by omega)) (hcs 158 (by omega) (by omega) (by omega)), iv_shset hR.2.2.2.1 c2 hB (fun c h1 h2 h3 => hcs c (by omega) (by omega) h3) (fun z hz => ?_) (fun i hi => ?_) ?_, iv_slotfr hR.2.2.2.2 (fun c h9 => hcs c (by omega) (by omega) (by omega))⟩⟩
                · unfold fr_r at h2
                  unfold fr_k at h1
                  rw [hcs c (by omega) (by omega) (by omega)]
                · rw [hcs 34 (by omega) (by omega) (by omega)]
                · rw [hcs 125 (by omega) (by omega) (by omega)]
                · rw [hcs 0 (by omega) (by omega) (by omega)]
                · rw [hcs 125 (by omega) (by omega) (by omega)]
                · rw [hcs 150 (by omega) (by omega) (by omega), hcs 151 (by omega) (by omega) (by omega)]
                  exact ⟨rfl, rfl⟩
                · rw [h152, if_neg (by omega)]
                · unfold sh_is
                  rw [hcs 150 (by omega) (by omega) (by omega), hcs 151 (by omega) (by omega) (by omega), hcs B (by omega) (by omega) (by omega)]
                  refine ⟨t1, t2, t3, t4, fun i i0 i1 => ?_⟩
                  rw [h152, hc (B + 1) (by omega) (by omega), ← hσ1]
                  by_cases e : q ≤ i ∧ i < q + m
                  · rw [if_pos (by omega), cp_i e, show 24 * y + i - (24 * y + q) = i - q by omega]
                    exact ⟨rfl, (s5 _ (by omega) (by omega)).2⟩
                  · rw [if_neg (by omega), cp_o e]
                    exact t5 i i0 i1
              | succ k ih =>
                intro j σ2 j0 hj hc h157 h152
                refine bX11_copy_141 L (d + 1) _ _ y q m j σ2 _ ?_
                rw [if_neg (by omega)]
                simp (disch := omega) only [rx_w_of]
                refine ⟨by omega, by omega, ih (j + 1) _ (by omega) (by omega) (fun c h1 h2 => by rw [up_c h1]; exact hc c h1 h2) (fun i i0 i1 => by rw [up_c (by decide)]; exact h157 i i0 i1) (fun i => ?_)⟩
                by_cases e : i = 24 * y + q + j
                · rw [up_e e, if_pos (by omega), h157 j j0 (by omega), show i - (24 * y + q) = j by omega]
                · rw [up_i e, h152]
                  by_cases e2 : 24 * y + q ≤ i ∧ i < 24 * y + q + j
                  · rw [if_pos e2, if_pos (by omega)]
                  · rw [if_neg e2, if_neg (by omega)]
            have key1 : ∀ (k : Nat) (j : Int) (σ2 : rx_St), 0 ≤ j → j + k = m → (∀ c, c ≠ 157 → σ2 c = σ1 c) → (∀ i, 0 ≤ i → i < j → σ2 157 i = σ (A + 1) (p + i)) → rx_Go L (d + 2) mX11_copy 104 [some (.inr 125), some (.inl x), some (.inl p), some (.inl y), some (.inl q), some (.inl m), some (.inl j)] [] σ2 (rx_PI (fun v2 σ2 => Q m v2 σ2)) := by
              intro k
              induction k with
              | zero =>
                intro j σ2 j0 hj hc h157
                refine bX11_copy_104 L (d + 1) x p y q m j σ2 _ ?_
                rw [if_pos (by omega)]
                refine key2 m.toNat 0 σ2 (by omega) (by omega) (fun c h1 h2 => hc c h2) (fun i i0 i1 => h157 i i0 (by omega)) (fun i => ?_)
                rw [if_neg (by omega), hc 152 (by decide), hc1' 152 (by omega)]
              | succ k ih =>
                intro j σ2 j0 hj hc h157
                refine bX11_copy_104 L (d + 1) x p y q m j σ2 _ ?_
                rw [if_neg (by omega)]
                simp (disch := omega) only [rx_w_of]
                refine ⟨by omega, by omega, ih (j + 1) _ (by omega) (by omega) (fun c h1 => by rw [up_c h1]; exact hc c h1) (fun i i0 i1 => ?_)⟩
                by_cases e : i = j
                · rw [up_e e, hc 152 (by decide), hc1' 152 (by omega), Int.add_assoc, (s5 (p + j) (by omega) (by omega)).1, e]
                · rw [up_i e]
                  exact h157 i i0 (by omega)
            exact key1 m.toNat 0 σ1 (by omega) (by omega) (fun _ _ => rfl) (fun i i0 i1 => by omega)
          · rw [if_neg (by decide)]
            exact hmod _ σ rfl rfl (fun g9 => absurd g9 (by omega)) (fun _ _ g9 => absurd g3 g9) (fun _ _ _ _ => o_same h hQ _) (fun _ _ _ _ g9 => absurd g9 k2)
        · rw [if_pos rfl]
          exact hmod _ σ rfl rfl (fun g9 => absurd g9 (by omega)) (fun _ _ g9 => absurd g3 g9) (fun _ _ _ _ => o_same h hQ _) (fun _ _ _ g9 => absurd g9 k1)
      · rw [if_neg g3]
        exact hmod _ σ rfl rfl (fun g9 => absurd g9 (by omega)) (fun _ _ _ => o_same h hQ _) (fun _ _ g9 => absurd g9 g3) (fun _ _ g9 => absurd g9 g3)
    · rw [if_neg (by decide)]
      exact hbad (fun z => c2 z.2)
  · rw [if_pos rfl]
    exact hbad (fun z => c z.1)
theorem c_feedNumber {v n : Int} (hn : σ 34 0 = n) (h0 : 0 ≤ n ∧ n + 4 ≤ 96) (h : ∀ σ', σ' 34 0 = n + 4 → (∀ i, i ≠ 0 → σ' 34 i = σ 34 i) → (∀ c, c ≠ 34 → c ≠ 36 → σ' c = σ c) → (∀ i, σ' 36 i = if n ≤ i ∧ i < n + 4 then rx_alu 3 (rx_alu 7 v (24 - 8 * (i - n))) 255 else σ 36 i) → KV σ') : rx_CV L d mX5_feedNumber [.inr 34, .inl v] σ KV := by
  refine bX5_feedNumber L d v σ KV ?_
  have key : ∀ (k : Nat) (j : Int) (σ1 : rx_St), 0 ≤ j → j + k = 4 → σ1 34 0 = n + j → (∀ i, i ≠ 0 → σ1 34 i = σ 34 i) → (∀ c, c ≠ 34 → c ≠ 36 → σ1 c = σ c) → (∀ i, σ1 36 i = if n ≤ i ∧ i < n + j then rx_alu 3 (rx_alu 7 v (24 - 8 * (i - n))) 255 else σ 36 i) → rx_Go L d mX5_feedNumber 3 [some (.inr 34), some (.inl v), some (.inl (24 - 8 * j))] [] σ1 (rx_PV KV) := by
    intro k
    induction k with
    | zero =>
      intro j σ1 j0 hj e1 e2 e3 e4
      refine bX5_feedNumber_3 L d v _ σ1 KV ?_
      rw [if_pos (by omega)]
      have : j = 4 := by omega
      subst this
      exact h σ1 e1 e2 e3 e4
    | succ k ih =>
      intro j σ1 j0 hj e1 e2 e3 e4
      refine bX5_feedNumber_3 L d v _ σ1 KV ?_
      rw [if_neg (by omega), e1, if_neg (by omega)]
      refine ⟨by omega, ?_⟩
      rw [alu_feed v (by omega), up_c (by decide), e1, rx_w_of (by omega) (by omega), rx_w_of (by omega) (by omega), show 24 - 8 * j + -8 = 24 - 8 * (j + 1) by omega]
      refine ih (j + 1) _ (by omega) (by omega) (by rw [up_s]; omega) (fun i hi => by rw [up_i hi, up_c (by decide)]; exact e2 i hi) (fun c h1 h2 => by rw [up_c h1, up_c h2]; exact e3 c h1 h2) (fun i => ?_)
      rw [up_c (by decide)]
      by_cases e : i = n + j
      · rw [up_e e, if_pos (by omega), show i - n = j by omega]
      · rw [up_i e, e4]
        by_cases e5 : n ≤ i ∧ i < n + j
        · rw [if_pos e5, if_pos (by omega)]
        · rw [if_neg e5, if_neg (by omega)]
  exact key 4 0 σ (by omega) (by omega) (by omega) (fun _ _ => rfl) (fun _ _ _ => rfl) (fun i => by rw [if_neg (by omega)])
theorem o_feed {a b c : Int} (h : iv_A S V T σ) (hQ : ∀ v σ', Inv S σ' → Q v v σ') :
    rx_CI L (d + 1) mX10_feed [.inr 0, .inl a, .inl b, .inl c] σ (fun v1 σ1 => rx_CI L (d + 1) mX11_feed [.inr 125, .inl a, .inl b, .inl c] σ1 (fun v2 σ2 => Q v1 v2 σ2)) := by
  have hR := iv_R_of h
  obtain ⟨t1, t2, t3⟩ := hR.2.1
  refine bX10_feed L d a b c σ _ ?_
  rw [rx_w_of (by omega) (by omega)]
  by_cases g : σ 34 0 + 12 ≤ 96
  · rw [if_pos g]
    refine c_feedNumber (n := σ 34 0) rfl (by omega) (fun σ1 a1 a2 a3 a4 => ?_)
    refine c_feedNumber (n := σ 34 0 + 4) a1 (by omega) (fun σ2 b1 b2 b3 b4 => ?_)
    refine c_feedNumber (n := σ 34 0 + 4 + 4) b1 (by omega) (fun σ3 c1 c2 c3 c4 => ?_)
    have hcs : ∀ c, c ≠ 34 → c ≠ 36 → σ3 c = σ c := fun c h1 h2 => by rw [c3 c h1 h2, b3 c h1 h2, a3 c h1 h2]
    have h36 : ∀ i, σ3 36 i = if σ 34 0 ≤ i ∧ i < σ 34 0 + 12 then rx_alu 3 (rx_alu 7 (if i - σ 34 0 < 4 then a else if i - σ 34 0 < 8 then b else c) (24 - 8 * ((i - σ 34 0) % 4))) 255 else σ 36 i := by
      intro i
      rw [c4, b4, a4]
      by_cases e1 : σ 34 0 + 4 + 4 ≤ i ∧ i < σ 34 0 + 4 + 4 + 4
      · rw [if_pos e1, if_pos (by omega), if_neg (by omega), if_neg (by omega), show i - (σ 34 0 + 4 + 4) = (i - σ 34 0) % 4 by omega]
      rw [if_neg e1]
      by_cases e2 : σ 34 0 + 4 ≤ i ∧ i < σ 34 0 + 4 + 4
      · rw [if_pos e2, if_pos (by omega), if_neg (by omega), if_pos (by omega), show i - (σ 34 0 + 4) = (i - σ 34 0) % 4 by omega]
      rw [if_neg e2]
      by_cases e3 : σ 34 0 ≤ i ∧ i < σ 34 0 + 4
      · rw [if_pos e3, if_pos (by omega), if_pos (by omega), show i - σ 34 0 = (i - σ 34 0) % 4 by omega]
        congr 4
        omega
      · rw [if_neg e3, if_neg (by omega)]
    rw [c1]
    refine bX11_feed L (d + 1) a b c σ3 _ ?_
    have e22 : σ3 125 22 = σ 34 0 := by rw [hcs 125 (by decide) (by decide), t2]
    rw [e22, rx_w_of (by omega) (by omega), if_pos g]
    have key : ∀ (k : Nat) (j : Int) (q5 : Option rx_V) (σ4 : rx_St), 0 ≤ j → j + k = 12 → (∀ c, c ≠ 142 → σ4 c = σ3 c) → (∀ i, σ4 142 i = if σ 34 0 ≤ i ∧ i < σ 34 0 + j then σ3 36 i else σ 142 i) → rx_Go L (d + 1) mX11_feed 18 [some (.inr 125), some (.inl a), some (.inl b), some (.inl c), some (.inl j), q5] [] σ4 (rx_PI (fun v2 σ2 => Q (σ 34 0 + 4 + 4 + 4) v2 σ2)) := by
      intro k
      induction k with
      | zero =>
        intro j q5 σ4 j0 hj hc h142
        refine bX11_feed_18 L (d + 1) a b c j q5 σ4 _ ?_
        rw [if_pos (by omega), hc 125 (by decide), e22, up_s, rx_w_of (by omega) (by omega), show σ 34 0 + 12 = σ 34 0 + 4 + 4 + 4 by omega]
        have hc9 : ∀ c, c ≠ 34 → c ≠ 36 → c ≠ 142 → c ≠ 125 → (rx_up σ4 125 22 (σ 34 0 + 4 + 4 + 4)) c = σ c := fun c h1 h2 h3 h4 => by rw [up_c h4, hc c h3, hcs c h1 h2]
        refine hQ _ _ ⟨V, T, iv_rest h (fun c i h1 h2 => ?_) ⟨iv_constfr hR.1 (fun c h9 => hc9 c (by omega) (by omega) (by omega) (by omega)), ?_, iv_waitfr hR.2.2.1 ?_ ?_ (hc9 101 (by omega) (by omega) (by omega) (by omega)) (hc9 158 (by omega) (by omega) (by omega) (by omega)), iv_sheetfr hR.2.2.2.1 (fun c h9 => hc9 c (by omega) (by omega) (by omega) (by omega)), iv_slotfr hR.2.2.2.2 (fun c h9 => hc9 c (by omega) (by omega) (by omega) (by omega))⟩⟩
        · unfold fr_r at h2
          unfold fr_k at h1
          by_cases e : c = 125
          · subst e
            rw [up_i (by omega), hc 125 (by decide), hcs 125 (by decide) (by decide)]
          · rw [hc9 c (by omega) (by omega) (by omega) e]
        · unfold iv_tape
          rw [up_s, up_c (by decide), up_c (by decide), up_c (by decide), hc 34 (by decide), hc 36 (by decide), c1]
          refine ⟨by omega, rfl, fun i i0 i1 => ?_⟩
          rw [h142]
          by_cases e : σ 34 0 ≤ i
          · rw [if_pos (by omega), h36 i, if_pos (by omega)]
            exact ⟨rfl, alu_255 _⟩
          · rw [if_neg (by omega), h36 i, if_neg (by omega)]
            exact t3 i i0 (by omega)
        · rw [up_c (by decide), hc 0 (by decide), hcs 0 (by decide) (by decide)]
        · rw [up_i (by decide), hc 125 (by decide), hcs 125 (by decide) (by decide)]
      | succ k ih =>
        intro j q5 σ4 j0 hj hc h142
        refine bX11_feed_18 L (d + 1) a b c j q5 σ4 _ ?_
        have ej : Int.tmod j 4 = j % 4 := Int.tmod_eq_emod_of_nonneg j0
        rw [if_neg (by omega), hc 125 (by decide), e22, ej]
        simp (disch := omega) only [rx_w_of]
        have next : ∀ (w : Int), w = (if j < 4 then a else if j < 8 then b else c) → ∀ i, (rx_up σ4 142 (σ 34 0 + j) (rx_alu 3 (rx_alu 7 w (24 - 8 * (j % 4))) 255)) 142 i = if σ 34 0 ≤ i ∧ i < σ 34 0 + (j + 1) then σ3 36 i else σ 142 i := by
          rintro w rfl i
          by_cases e : i = σ 34 0 + j
          · rw [up_e e, if_pos (show σ 34 0 ≤ i ∧ i < σ 34 0 + (j + 1) by omega), h36 i, if_pos (show σ 34 0 ≤ i ∧ i < σ 34 0 + 12 by omega), show i - σ 34 0 = j by omega]
          · rw [up_i e, h142]
            by_cases e5 : σ 34 0 ≤ i ∧ i < σ 34 0 + j
            · rw [if_pos e5, if_pos (by omega)]
            · rw [if_neg e5, if_neg (by omega)]
        by_cases e1 : 4 ≤ j
        · rw [if_pos e1]
          by_cases e2 : 8 ≤ j
          · rw [if_pos e2]
            exact ⟨by omega, ih (j + 1) _ _ (by omega) (by omega) (fun c h1 => by rw [up_c h1]; exact hc c h1) (next c (by rw [if_neg (by omega), if_neg (by omega)]))⟩
          · rw [if_neg e2]
            exact ⟨by omega, ih (j + 1) _ _ (by omega) (by omega) (fun c h1 => by rw [up_c h1]; exact hc c h1) (next b (by rw [if_neg (by omega), if_pos (by omega)]))⟩
        · rw [if_neg e1]
          exact ⟨by omega, ih (j + 1) _ _ (by omega) (by omega) (fun c h1 => by rw [up_c h1]; exact hc c h1) (next a (by rw [if_pos (by omega)]))⟩
    exact key 12 0 _ σ3 (by omega) (by omega) (fun _ _ => rfl) (fun i => by rw [if_neg (by omega), hcs 142 (by decide) (by decide)])
  · rw [if_neg g]
    refine bX11_feed L (d + 1) a b c σ _ ?_
    rw [t2, rx_w_of (by omega) (by omega), if_neg g]
    exact o_same h hQ _
end ROWS3
