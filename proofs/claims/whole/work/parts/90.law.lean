/-! ===== the law's loop ===== -/
theorem rx_fi159 (ci k : Nat) : rx_fi ci k 159 = false := by
  unfold rx_fi
  have h : rx_SH[159]? = none := List.getElem?_eq_none (by decide +kernel)
  rw [h]
theorem rx_st159 {L : Nat} {i : rx_I} {ls ls' : List (Option rx_V)} {st st' : List rx_V} {σ σ' : rx_St} {pc' : Nat} (h : rx_step L i ls st σ = some (pc', ls', st', σ')) : σ' 159 = σ 159 := by
  obtain ⟨op, nx, a, b, c, sw⟩ := i
  have up : ∀ (o : Nat) (j x : Int), o ≠ 159 → rx_up σ o j x 159 = σ 159 := fun o j x ho => rx_up_ne (fun q => ho q.symm)
  have cp : ∀ (o : Nat) (p : Int) (e : Nat) (q n : Int), e < 159 → rx_cp σ o p e q n 159 = σ 159 := fun o p e q n ho => cp_c (by omega)
  have fi : ∀ (ci k o : Nat), rx_fi ci k o = true → o ≠ 159 := fun ci k o ho q => by rw [q, rx_fi159] at ho; cases ho
  unfold rx_step at h
  repeat' split at h
  all_goals first
    | (cases h; done)
    | (cases h; rfl)
    | (cases h; exact up _ _ _ (by omega))
    | (cases h; exact cp _ _ _ _ _ (by omega))
    | (cases h; exact up _ _ _ (fi _ _ _ (‹rx_fi _ _ _ = true ∧ _›).1))
theorem rx_keep {L : Nat} : ∀ (n d m pc : Nat) (ls : List (Option rx_V)) (st : List rx_V) (σ : rx_St) (r : Option rx_V) (σ' : rx_St), rx_exec L n d m pc ls st σ = some (r, σ') → σ' 159 = σ 159 := by
  intro n
  induction n with
  | zero =>
    intro d m pc ls st σ r σ' h
    cases h
  | succ n ih =>
    intro d m pc ls st σ r σ' h
    unfold rx_exec at h
    split at h
    · cases h
    · split at h
      · split at h
        · cases h
        · split at h
          · split at h
            · cases h
            · next h1 =>
              rw [ih _ _ _ _ _ _ _ _ h, ih _ _ _ _ _ _ _ _ h1]
          · cases h
      · split at h
        · split at h
          · split at h
            · cases h
              rfl
            · cases h
          · cases h
        · split at h
          · split at h
            · cases h
              rfl
            · cases h
          · split at h
            · cases h
            · next h1 =>
              rw [ih _ _ _ _ _ _ _ _ h, rx_st159 h1]
section LAW
variable {L d : Nat} {σ V T : rx_St} {S : Int → Int} {K : Int → rx_St → Prop} {N : rx_St → Prop}
theorem lw_two {m1 m2 : Nat} {as : List rx_V} {bs : (Int → Int) → List rx_V} (h : rx_CI L d m1 as σ (fun v1 σ1 => rx_CI L d m2 (bs (σ 159)) σ1 (fun v2 σ2 => v1 = v2 ∧ Inv S σ2))) (hn : ∀ σ2, Inv S σ2 → N σ2) : rx_CI L d m1 as σ (fun v1 σ1 => rx_CI L d m2 (bs (σ1 159)) σ1 (fun v2 σ2 => if v1 = v2 then N σ2 else K 0 σ2)) := by
  obtain ⟨n, r, σ1, h1, v1, h2, n2, r2, σ2, h3, v2, h4, h5, h6⟩ := h
  refine ⟨n, r, σ1, h1, v1, h2, ?_⟩
  have e := rx_keep _ _ _ _ _ _ _ _ _ h1
  show rx_CI L d m2 (bs (σ1 159)) σ1 _
  rw [e]
  refine ⟨n2, r2, σ2, h3, v2, h4, ?_⟩
  show if v1 = v2 then N σ2 else K 0 σ2
  rw [if_pos h5]
  exact hn σ2 h6
theorem lw_loop (hL : L ≤ 384) (hK : ∀ σ', K 1 σ') (o_text : ∀ (V T σ : rx_St) (Q : Int → Int → rx_St → Prop), iv_A S V T σ → (∀ v σ', Inv S σ' → Q v v σ') → rx_CI L (d + 200) mX10_text [.inr 0] σ (fun v1 σ1 => rx_CI L (d + 200) mX11_text [.inr 125] σ1 (fun v2 σ2 => Q v1 v2 σ2))) : ∀ (k : Nat) (x : Int) (σ : rx_St), 0 ≤ x → (L : Int) - x < 6 * k + 6 → Inv S σ → rx_Go L (d + 200 + 1) mL_law 18 [some (.inr 159), some (.inr 0), some (.inr 125), some (.inl x)] [] σ (rx_PI K) := by
  intro k
  induction k with
  | zero =>
    intro x σ x0 hx hI
    refine bL_law_18 L (d + 200) x σ K ?_
    rw [rx_w_of (by omega) (by omega), if_pos (by omega)]
    exact hK σ
  | succ k ih =>
    intro x σ x0 hx hI
    refine bL_law_18 L (d + 200) x σ K ?_
    rw [rx_w_of (x := (L : Int) - 6) (by omega) (by omega)]
    by_cases z : (L : Int) - 6 < x
    · rw [if_pos z]
      exact hK σ
    rw [if_neg z]
    refine ⟨by omega, ?_⟩
    rw [rx_w_of (x := x + 1) (by omega) (by omega), rx_w_of (x := x + 2) (by omega) (by omega), rx_w_of (x := x + 3) (by omega) (by omega), rx_w_of (x := x + 4) (by omega) (by omega), rx_w_of (x := x + 5) (by omega) (by omega), rx_w_of (x := x + 6) (by omega) (by omega)]
    obtain ⟨V, T, hA⟩ := hI
    have next : ∀ σ2, Inv S σ2 → rx_Go L (d + 200 + 1) mL_law 18 [some (.inr 159), some (.inr 0), some (.inr 125), some (.inl (x + 6))] [] σ2 (rx_PI K) := fun σ2 h2 => ih (x + 6) σ2 (by omega) (by omega) h2
    have rr : ∀ i, rx_r (σ 159 i) := fun i => by
      have := hA.2.2.2.2.2.1.1
      rw [this.1]
      exact this.2 i
    have fin : ∀ (v : Int) (σ' : rx_St), Inv S σ' → v = v ∧ Inv S σ' := fun v σ' h => ⟨rfl, h⟩
    generalize rx_alu 3 (σ 159 x) 63 = op
    by_cases c0 : op = 0
    · rw [if_pos c0]
      exact ⟨by omega, ⟨by omega, lw_two (bs := fun s => [.inr 125, .inl (s (x + 1)), .inl (s (x + 2))]) (o_post hA fin) next⟩⟩
    rw [if_neg c0]
    by_cases c1 : op = 1
    · rw [if_pos c1]
      exact ⟨by omega, ⟨by omega, lw_two (bs := fun s => [.inr 125, .inl (s (x + 1)), .inl (s (x + 2))]) (o_postTold hA fin) next⟩⟩
    rw [if_neg c1]
    by_cases c2 : op = 2
    · rw [if_pos c2]
      exact ⟨by omega, ⟨by omega, ⟨by omega, lw_two (bs := fun s => [.inr 125, .inl (s (x + 1)), .inl (s (x + 2)), .inl (s (x + 3))]) (o_move hA fin) next⟩⟩⟩
    rw [if_neg c2]
    by_cases c3 : op = 3
    · rw [if_pos c3]
      exact ⟨by omega, ⟨by omega, lw_two (bs := fun s => [.inr 125, .inl (s (x + 1)), .inl (s (x + 2))]) (o_layer hA fin) next⟩⟩
    rw [if_neg c3]
    by_cases c4 : op = 4
    · rw [if_pos c4]
      exact ⟨by omega, ⟨by omega, ⟨by omega, lw_two (bs := fun s => [.inr 125, .inl (s (x + 1)), .inl (s (x + 2)), .inl (s (x + 3))]) (o_road (rr _) hA fin) next⟩⟩⟩
    rw [if_neg c4]
    by_cases c5 : op = 5
    · rw [if_pos c5]
      exact ⟨by omega, ⟨by omega, lw_two (bs := fun s => [.inr 125, .inl (s (x + 1)), .inl (s (x + 2))]) (o_told hA fin) next⟩⟩
    rw [if_neg c5]
    by_cases c6 : op = 6
    · rw [if_pos c6]
      exact ⟨by omega, ⟨by omega, lw_two (bs := fun s => [.inr 125, .inl (s (x + 1)), .inl (s (x + 2))]) (o_as hA fin) next⟩⟩
    rw [if_neg c6]
    by_cases c7 : op = 7
    · rw [if_pos c7]
      exact ⟨by omega, ⟨by omega, lw_two (bs := fun s => [.inr 125, .inl (s (x + 1)), .inl (s (x + 2))]) (o_turns hA fin) next⟩⟩
    rw [if_neg c7]
    by_cases c8 : op = 8
    · rw [if_pos c8]
      exact ⟨by omega, ⟨by omega, ⟨by omega, lw_two (bs := fun s => [.inr 125, .inl (s (x + 1)), .inl (s (x + 2)), .inl (s (x + 3))]) (o_set hA fin) next⟩⟩⟩
    rw [if_neg c8]
    by_cases c9 : op = 9
    · rw [if_pos c9]
      exact ⟨by omega, lw_two (bs := fun s => [.inr 125, .inl (s (x + 1))]) (o_drop hA fin) next⟩
    rw [if_neg c9]
    by_cases c10 : op = 10
    · rw [if_pos c10]
      exact ⟨by omega, ⟨by omega, lw_two (bs := fun s => [.inr 125, .inl (s (x + 1)), .inl (s (x + 2))]) (o_cross hA fin) next⟩⟩
    rw [if_neg c10]
    by_cases c11 : op = 11
    · rw [if_pos c11]
      exact ⟨by omega, lw_two (bs := fun s => [.inr 125, .inl (s (x + 1))]) (o_straight hA fin) next⟩
    rw [if_neg c11]
    by_cases c12 : op = 12
    · rw [if_pos c12]
      exact lw_two (bs := fun _ => [.inr 125]) (o_bound hA fin) next
    rw [if_neg c12]
    by_cases c13 : op = 13
    · rw [if_pos c13]
      exact ⟨by omega, ⟨by omega, lw_two (bs := fun s => [.inr 125, .inl (s (x + 1)), .inl (s (x + 2))]) (o_would hA fin) next⟩⟩
    rw [if_neg c13]
    by_cases c14 : op = 14
    · rw [if_pos c14]
      exact ⟨by omega, lw_two (bs := fun s => [.inr 125, .inl (s (x + 1))]) (o_best hA fin) next⟩
    rw [if_neg c14]
    by_cases c15 : op = 15
    · rw [if_pos c15]
      exact ⟨by omega, lw_two (bs := fun s => [.inr 125, .inl (s (x + 1))]) (o_swaps hA fin) next⟩
    rw [if_neg c15]
    by_cases c16 : op = 16
    · rw [if_pos c16]
      exact ⟨by omega, lw_two (bs := fun s => [.inr 125, .inl (s (x + 1))]) (o_line hA fin) next⟩
    rw [if_neg c16]
    by_cases c17 : op = 17
    · rw [if_pos c17]
      exact ⟨by omega, lw_two (bs := fun s => [.inr 125, .inl (s (x + 1))]) (o_at hA fin) next⟩
    rw [if_neg c17]
    by_cases c18 : op = 18
    · rw [if_pos c18]
      exact ⟨by omega, lw_two (bs := fun s => [.inr 125, .inl (s (x + 1))]) (o_book hA fin) next⟩
    rw [if_neg c18]
    by_cases c19 : op = 19
    · rw [if_pos c19]
      exact ⟨by omega, lw_two (bs := fun s => [.inr 125, .inl (s (x + 1))]) (o_pages hA fin) next⟩
    rw [if_neg c19]
    by_cases c20 : op = 20
    · rw [if_pos c20]
      exact ⟨by omega, lw_two (bs := fun s => [.inr 125, .inl (s (x + 1))]) (o_bestLine hA fin) next⟩
    rw [if_neg c20]
    by_cases c21 : op = 21
    · rw [if_pos c21]
      exact ⟨by omega, lw_two (bs := fun s => [.inr 125, .inl (s (x + 1))]) (o_layers hA fin) next⟩
    rw [if_neg c21]
    by_cases c22 : op = 22
    · rw [if_pos c22]
      exact ⟨by omega, ⟨by omega, lw_two (bs := fun s => [.inr 125, .inl (s (x + 1)), .inl (s (x + 2))]) (o_bestRow hA fin) next⟩⟩
    rw [if_neg c22]
    by_cases c23 : op = 23
    · rw [if_pos c23]
      exact ⟨by omega, ⟨by omega, lw_two (bs := fun s => [.inr 125, .inl (s (x + 1)), .inl (s (x + 2))]) (o_deal hA fin) next⟩⟩
    rw [if_neg c23]
    by_cases c24 : op = 24
    · rw [if_pos c24]
      exact ⟨by omega, lw_two (bs := fun s => [.inr 125, .inl (s (x + 1))]) (o_seed hA fin) next⟩
    rw [if_neg c24]
    by_cases c25 : op = 25
    · rw [if_pos c25]
      exact ⟨by omega, ⟨by omega, ⟨by omega, lw_two (bs := fun s => [.inr 125, .inl (s (x + 1)), .inl (s (x + 2)), .inl (s (x + 3))]) (o_feed hA fin) next⟩⟩⟩
    rw [if_neg c25]
    by_cases c26 : op = 26
    · rw [if_pos c26]
      exact ⟨by omega, lw_two (bs := fun s => [.inr 125, .inl (s (x + 1))]) (o_trim hA fin) next⟩
    rw [if_neg c26]
    by_cases c27 : op = 27
    · rw [if_pos c27]
      exact lw_two (bs := fun _ => [.inr 125]) (o_text V T σ _ hA fin) next
    rw [if_neg c27]
    by_cases c28 : op = 28
    · rw [if_pos c28]
      exact ⟨by omega, ⟨by omega, lw_two (bs := fun s => [.inr 125, .inl (s (x + 1)), .inl (s (x + 2))]) (o_textTold hA fin) next⟩⟩
    rw [if_neg c28]
    by_cases c29 : op = 29
    · rw [if_pos c29]
      exact ⟨by omega, lw_two (bs := fun s => [.inr 125, .inl (s (x + 1))]) (o_why hA fin) next⟩
    rw [if_neg c29]
    by_cases c30 : op = 30
    · rw [if_pos c30]
      exact ⟨by omega, ⟨by omega, ⟨by omega, lw_two (bs := fun s => [.inr 125, .inl (s (x + 1)), .inl (s (x + 2)), .inl (s (x + 3))]) (o_sheet hA fin) next⟩⟩⟩
    rw [if_neg c30]
    by_cases c31 : op = 31
    · rw [if_pos c31]
      exact ⟨by omega, ⟨by omega, ⟨by omega, lw_two (bs := fun s => [.inr 125, .inl (s (x + 1)), .inl (s (x + 2)), .inl (s (x + 3))]) (o_mark hA fin) next⟩⟩⟩
    rw [if_neg c31]
    by_cases c32 : op = 32
    · rw [if_pos c32]
      exact ⟨by omega, lw_two (bs := fun s => [.inr 125, .inl (s (x + 1))]) (o_pour hA fin) next⟩
    rw [if_neg c32]
    by_cases c33 : op = 33
    · rw [if_pos c33]
      exact ⟨by omega, ⟨by omega, ⟨by omega, ⟨by omega, ⟨by omega, lw_two (bs := fun s => [.inr 125, .inl (s (x + 1)), .inl (s (x + 2)), .inl (s (x + 3)), .inl (s (x + 4)), .inl (s (x + 5))]) (o_copy (rr _) (rr _) (rr _) hA fin) next⟩⟩⟩⟩⟩
    rw [if_neg c33]
    by_cases c34 : op = 34
    · rw [if_pos c34]
      exact ⟨by omega, ⟨by omega, ⟨by omega, lw_two (bs := fun s => [.inr 125, .inl (s (x + 1)), .inl (s (x + 2)), .inl (s (x + 3))]) (o_lay hA fin) next⟩⟩⟩
    rw [if_neg c34]
    by_cases c35 : op = 35
    · rw [if_pos c35]
      exact ⟨by omega, ⟨by omega, lw_two (bs := fun s => [.inr 125, .inl (s (x + 1)), .inl (s (x + 2))]) (o_ask hA fin) next⟩⟩
    rw [if_neg c35]
    by_cases c36 : op = 36
    · rw [if_pos c36]
      exact ⟨by omega, ⟨by omega, lw_two (bs := fun s => [.inr 125, .inl (s (x + 1)), .inl (s (x + 2))]) (o_item hA fin) next⟩⟩
    rw [if_neg c36]
    by_cases c37 : op = 37
    · rw [if_pos c37]
      exact ⟨by omega, ⟨by omega, lw_two (bs := fun s => [.inr 125, .inl (s (x + 1)), .inl (s (x + 2))]) (o_rest hA fin) next⟩⟩
    rw [if_neg c37]
    by_cases c38 : op = 38
    · rw [if_pos c38]
      exact ⟨by omega, lw_two (bs := fun s => [.inr 125, .inl (s (x + 1))]) (o_tell hA fin) next⟩
    rw [if_neg c38]
    by_cases c39 : op = 39
    · rw [if_pos c39]
      exact ⟨by omega, lw_two (bs := fun s => [.inr 125, .inl (s (x + 1))]) (o_check hA fin) next⟩
    rw [if_neg c39]
    by_cases c40 : op = 40
    · rw [if_pos c40]
      exact lw_two (bs := fun _ => [.inr 125]) (o_keep hA fin) next
    rw [if_neg c40]
    by_cases c41 : op = 41
    · rw [if_pos c41]
      exact lw_two (bs := fun _ => [.inr 125]) (o_back hA fin) next
    rw [if_neg c41]
    by_cases c42 : op = 42
    · rw [if_pos c42]
      exact ⟨by omega, lw_two (bs := fun s => [.inr 125, .inl (s (x + 1))]) (o_count hA fin) next⟩
    rw [if_neg c42]
    exact next σ ⟨V, T, hA⟩
end LAW
