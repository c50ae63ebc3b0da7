section PGC
variable {L d : Nat} {σ V T : rx_St} {K : Int → rx_St → Prop} {KV : rx_St → Prop}
/-- the roads that cross a road, as bits -/
def pc_x (V : rx_St) (r x : Int) : Prop := (∀ s : Nat, s < 32 → (tb x s = true ↔ (s : Int) < V 0 6 ∧ rs_X V r s)) ∧ (x = 0 ↔ ∀ s, 0 ≤ s → s < V 0 6 → ¬ rs_X V r s)
theorem c_clashesOf {A : Nat} (hA : rx_isO 1 A = true) (hV : ld_C A V σ) (hw : iv_Wf V) {r : Int} (hr : 0 ≤ r ∧ r < V 0 6) (h : ∀ x, pc_x V r x → K x σ) : rx_CI L (d + 1) mX4_clashesOf [.inr A, .inl r] σ K := by
  have hm := wf_m hw
  refine bX4_clashesOf L d A hA r σ K ?_
  have key : ∀ (k : Nat) (s x : Int), 0 ≤ s → s + k = V 0 6 → (∀ b : Nat, b < 32 → (tb x b = true ↔ (b : Int) < s ∧ rs_X V r b)) → (x = 0 ↔ ∀ b, 0 ≤ b → b < s → ¬ rs_X V r b) → rx_Go L (d + 1) mX4_clashesOf 4 [some (.inr A), some (.inl r), some (.inl x), some (.inl s)] [] σ (rx_PI K) := by
    intro k
    induction k with
    | zero =>
      intro s x s0 hs hb hz
      refine bX4_clashesOf_4 L d A hA r x s σ K ?_
      rw [ld_C0 hV, if_pos (by omega)]
      have es : s = V 0 6 := by omega
      rw [es] at hb hz
      exact h x ⟨hb, hz⟩
    | succ k ih =>
      intro s x s0 hs hb hz
      refine bX4_clashesOf_4 L d A hA r x s σ K ?_
      rw [ld_C0 hV, if_neg (by omega), rx_w_of (by omega) (by omega)]
      have hno : ¬ rs_X V r s → rx_Go L (d + 1) mX4_clashesOf 4 [some (.inr A), some (.inl r), some (.inl x), some (.inl (s + 1))] [] σ (rx_PI K) := by
        intro hx
        refine ih (s + 1) x (by omega) (by omega) (fun b b32 => ?_) ?_
        · rw [hb b b32]
          constructor
          · rintro ⟨a1, a2⟩
            exact ⟨by omega, a2⟩
          · rintro ⟨a1, a2⟩
            refine ⟨?_, a2⟩
            have : (b : Int) ≠ s := fun e => hx (e ▸ a2)
            omega
        · rw [hz]
          constructor
          · intro g b b0 b1
            by_cases e : b = s
            · rw [e]
              exact hx
            · exact g b b0 (by omega)
          · intro g b b0 b1
            exact g b b0 (by omega)
      by_cases c : s = r
      · rw [if_pos c]
        exact hno (fun q => q.1 c.symm)
      · rw [if_neg c]
        refine c_shareEnd hA hV (by omega) (by omega) (fun g => ?_) (fun g => ?_)
        · rw [if_pos (by decide)]
          exact hno (fun q => q.2.1 g)
        · rw [if_neg (by decide)]
          refine c_meetInLine hA hV hw (by omega) (by omega) (fun g2 => ?_) (fun g2 => ?_)
          · rw [if_neg (by decide)]
            have hx : rs_X V r s := ⟨fun q => c q.symm, g, g2⟩
            have hbits : ∀ b : Nat, b < 32 → (tb (rx_alu 4 x (rx_alu 6 1 s)) b = true ↔ (b : Int) < s + 1 ∧ rs_X V r b) := by
              intro b b32
              rw [tb_or, tb_shl (by omega) (by omega), Bool.or_eq_true, hb b b32]
              constructor
              · rintro (⟨a1, a2⟩ | a)
                · exact ⟨by omega, a2⟩
                · have e := of_decide_eq_true a
                  rw [e]
                  exact ⟨by omega, hx⟩
              · rintro ⟨a1, a2⟩
                by_cases e : (b : Int) = s
                · exact Or.inr (decide_eq_true e)
                · exact Or.inl ⟨by omega, a2⟩
            refine ih (s + 1) _ (by omega) (by omega) hbits ⟨fun z => ?_, fun z => absurd hx (z s s0 (by omega))⟩
            have := (hbits s.toNat (by omega)).mpr ⟨by omega, by rw [show ((s.toNat : Nat) : Int) = s by omega]; exact hx⟩
            rw [z, tb_zero] at this
            cases this
          · rw [if_pos rfl]
            exact hno (fun q => g2 q.2.2)
  exact key (V 0 6).toNat 0 0 (by omega) (by omega) (fun b _ => ⟨(fun z => by rw [tb_zero] at z; cases z), (fun z => by omega)⟩) ⟨fun _ b b0 b1 => by omega, fun _ => rfl⟩
/-- which roads are on which page -/
def pc_B (c : Int → Int) (r : Int) (σ : rx_St) : Prop := ∀ g, 0 ≤ g → g < 18 → ∀ s : Nat, s < 32 → (tb (σ 82 g) s = true ↔ (s : Int) < r ∧ c s = g)
theorem c_paint (hw : iv_Wf V) (h79 : σ 79 3 = V 0 6) (h81 : ∀ r, 0 ≤ r → r < V 0 6 → pc_x V r (σ 81 r)) {most : Int} (hmo : 0 ≤ most ∧ most ≤ 17) : ∀ (k : Nat) (r u : Int) (c : Int → Int) (σ1 : rx_St) (K : Int → rx_St → Prop), 0 ≤ r → r + k = V 0 6 → u = pg_last c r.toNat + 1 → (∀ i, 0 ≤ i → i < r → 0 ≤ c i ∧ c i < most) → pc_B c r σ1 → (∀ i, 0 ≤ i → i < r → σ1 80 i = c i) → (∀ x, x ≠ 80 → x ≠ 82 → σ1 x = σ x) →
    (∀ e σ', pg_F (rs_X V) most k r c = some e → (∀ i, 0 ≤ i → i < V 0 6 → σ' 80 i = e i) → (∀ x, x ≠ 80 → x ≠ 82 → σ' x = σ x) → K 1 σ') → (∀ σ', pg_F (rs_X V) most k r c = none → pc_B c r σ' → (∀ i, 0 ≤ i → i < r → σ' 80 i = c i) → (∀ x, x ≠ 80 → x ≠ 82 → σ' x = σ x) → K 0 σ') → rx_CI L (d + k + 1) mX4_paint [.inr 79, .inl r, .inl u, .inl most] σ1 K := by
  have hm := wf_m hw
  intro k
  induction k with
  | zero =>
    intro r u c σ1 K r0 hr hu hc hB h80 hf hsome hnone
    refine bX4_paint L d r u most σ1 K ?_
    rw [hf 79 (by decide) (by decide), h79, if_pos (by omega)]
    exact hsome c σ1 rfl (fun i i0 i1 => h80 i i0 (by omega)) hf
  | succ k ih =>
    intro r u c σ1 K r0 hr hu hc hB h80 hf hsome hnone
    have hL := pg_last_ge (c := c) r.toNat
    have hLm := pg_last_lt (c := c) (many := most) r.toNat hmo.1 (fun i i0 i1 => (hc i i0 (by omega)).2)
    obtain ⟨x1, x2⟩ := h81 r r0 (by omega)
    have loop : ∀ (n : Nat) (g : Int) (σ1 : rx_St), 0 ≤ g → g + n ≤ most → pc_B c r σ1 → (∀ i, 0 ≤ i → i < r → σ1 80 i = c i) → (∀ x, x ≠ 80 → x ≠ 82 → σ1 x = σ x) → (∀ e σ', pg_T (fun g => if bo (pg_fit (rs_X V) c r g) = true then pg_F (rs_X V) most k (r + 1) (pg_put c r g) else none) n g = some e → (∀ i, 0 ≤ i → i < V 0 6 → σ' 80 i = e i) → (∀ x, x ≠ 80 → x ≠ 82 → σ' x = σ x) → K 1 σ') → (∀ σ', pg_T (fun g => if bo (pg_fit (rs_X V) c r g) = true then pg_F (rs_X V) most k (r + 1) (pg_put c r g) else none) n g = none → pc_B c r σ' → (∀ i, 0 ≤ i → i < r → σ' 80 i = c i) → (∀ x, x ≠ 80 → x ≠ 82 → σ' x = σ x) → K 0 σ') → rx_Go L (d + k + 1 + 1) mX4_paint 45 [some (.inr 79), some (.inl r), some (.inl u), some (.inl most), some (.inl (g + n)), some (.inl g)] [] σ1 (rx_PI K) := by
      intro n
      induction n with
      | zero =>
        intro g σ1 g0 gn hB h80 hf hsome hnone
        refine bX4_paint_45 L (d + k + 1) r u most _ g σ1 K ?_
        rw [if_pos (by omega)]
        exact hnone σ1 rfl hB h80 hf
      | succ n ihn =>
        intro g σ1 g0 gn hB h80 hf hsome hnone
        have next : ∀ σ2 : rx_St, (if bo (pg_fit (rs_X V) c r g) = true then pg_F (rs_X V) most k (r + 1) (pg_put c r g) else none) = none → pc_B c r σ2 → (∀ i, 0 ≤ i → i < r → σ2 80 i = c i) → (∀ x, x ≠ 80 → x ≠ 82 → σ2 x = σ x) → rx_Go L (d + k + 1 + 1) mX4_paint 45 [some (.inr 79), some (.inl r), some (.inl u), some (.inl most), some (.inl (g + (n + 1 : Nat))), some (.inl (g + 1))] [] σ2 (rx_PI K) := by
          intro σ2 hF hB2 h802 hf2
          have e : g + ((n + 1 : Nat) : Int) = g + 1 + n := by omega
          rw [e]
          refine ihn (g + 1) σ2 (by omega) (by omega) hB2 h802 hf2 (fun e σ' he => hsome e σ' ?_) (fun σ' he => hnone σ' ?_)
          · unfold pg_T
            rw [hF]
            exact he
          · unfold pg_T
            rw [hF]
            exact he
        refine bX4_paint_45 L (d + k + 1) r u most _ g σ1 K ?_
        rw [if_neg (by omega), hf 81 (by decide) (by decide), rx_w_of (x := g + 1) (by omega) (by omega), rx_w_of (x := r + 1) (by omega) (by omega)]
        refine ⟨by omega, by omega, ?_⟩
        have hfit : rx_alu 3 (σ 81 r) (σ1 82 g) = 0 ↔ pg_fit (rs_X V) c r g := by
          rw [alu_and0]
          constructor
          · intro z s s0 s1 es hx
            have h1 := (x1 s.toNat (by omega)).mpr ⟨by omega, by rw [show ((s.toNat : Nat) : Int) = s by omega]; exact hx⟩
            have h2 := (hB g g0 (by omega) s.toNat (by omega)).mpr ⟨by omega, by rw [show ((s.toNat : Nat) : Int) = s by omega]; exact es⟩
            have := z s.toNat (by omega)
            rw [h1, h2] at this
            cases this
          · intro z i i32
            cases h1 : tb (σ 81 r) i <;> cases h2 : tb (σ1 82 g) i
            · rfl
            · rfl
            · rfl
            · have a1 := (x1 i i32).mp h1
              have a2 := (hB g g0 (by omega) i i32).mp h2
              exact absurd a1.2 (z i (by omega) a2.1 a2.2)
        by_cases z : rx_alu 3 (σ 81 r) (σ1 82 g) = 0
        · rw [if_neg (fun q => q z)]
          have hF : (if bo (pg_fit (rs_X V) c r g) = true then pg_F (rs_X V) most k (r + 1) (pg_put c r g) else none) = pg_F (rs_X V) most k (r + 1) (pg_put c r g) := if_pos (bo_t (hfit.mp z))
          rw [up_c (by decide)]
          have hput : ∀ i, i ≠ r → pg_put c r g i = c i := fun i hi => if_neg hi
          have hputr : pg_put c r g r = g := if_pos rfl
          have eu : rx_mx u (g + 1) = pg_last (pg_put c r g) (r + 1).toNat + 1 := by
            rw [pg_last_put r0]
            unfold rx_mx
            split <;> split <;> omega
          refine ih (r + 1) _ (pg_put c r g) _ _ (by omega) (by omega) eu (fun i i0 i1 => ?_) (fun g' g'0 g'1 s s32 => ?_) (fun i i0 i1 => ?_) (fun x hx1 hx2 => by rw [up_c hx2, up_c hx1]; exact hf x hx1 hx2) (fun e σ' he h80' hf' => ?_) (fun σ' he hB' h80' hf' => ?_)
          · by_cases ei : i = r
            · rw [ei, hputr]
              omega
            · rw [hput i ei]
              exact hc i i0 (by omega)
          · by_cases eg : g' = g
            · rw [up_e eg, tb_or, tb_shl (by omega) (by omega), Bool.or_eq_true, hB g g0 (by omega) s s32, eg]
              constructor
              · rintro (⟨a1, a2⟩ | a)
                · exact ⟨by omega, by rw [hput _ (by omega)]; exact a2⟩
                · have e := of_decide_eq_true a
                  exact ⟨by omega, by rw [e, hputr]⟩
              · rintro ⟨a1, a2⟩
                by_cases e : (s : Int) = r
                · exact Or.inr (decide_eq_true e)
                · rw [hput _ e] at a2
                  exact Or.inl ⟨by omega, a2⟩
            · rw [up_i eg, up_c (by decide), hB g' g'0 g'1 s s32]
              constructor
              · rintro ⟨a1, a2⟩
                exact ⟨by omega, by rw [hput _ (by omega)]; exact a2⟩
              · rintro ⟨a1, a2⟩
                by_cases e : (s : Int) = r
                · rw [e, hputr] at a2
                  exact absurd a2.symm eg
                · rw [hput _ e] at a2
                  exact ⟨by omega, a2⟩
          · rw [up_c (by decide)]
            by_cases ei : i = r
            · rw [up_e ei, ei, hputr]
            · rw [up_i ei, hput i ei]
              exact h80 i i0 (by omega)
          · rw [if_neg (by decide)]
            refine hsome e σ' ?_ h80' hf'
            unfold pg_T
            rw [hF, he]
          · rw [if_pos rfl]
            refine next _ (by rw [hF, he]) (fun g' g'0 g'1 s s32 => ?_) (fun i i0 i1 => ?_) (fun x hx1 hx2 => by rw [up_c hx2]; exact hf' x hx1 hx2)
            · by_cases eg : g' = g
              · rw [up_e eg, tb_and, tb_xor, tb_shl (by omega) (by omega), tb_m1 s32, Bool.and_eq_true, hB' g g0 (by omega) s s32, eg]
                constructor
                · rintro ⟨⟨a1, a2⟩, a3⟩
                  have e : (s : Int) ≠ r := fun q => by
                    rw [decide_eq_true q] at a3
                    cases a3
                  rw [hput _ e] at a2
                  exact ⟨by omega, a2⟩
                · rintro ⟨a1, a2⟩
                  have e : (s : Int) ≠ r := by omega
                  exact ⟨⟨by omega, by rw [hput _ e]; exact a2⟩, by rw [decide_eq_false e]; rfl⟩
              · rw [up_i eg, hB' g' g'0 g'1 s s32]
                constructor
                · rintro ⟨a1, a2⟩
                  by_cases e : (s : Int) = r
                  · rw [e, hputr] at a2
                    exact absurd a2.symm eg
                  · rw [hput _ e] at a2
                    exact ⟨by omega, a2⟩
                · rintro ⟨a1, a2⟩
                  exact ⟨by omega, by rw [hput _ (by omega)]; exact a2⟩
            · rw [up_c (by decide), h80' i i0 (by omega), hput i (by omega)]
        · rw [if_pos z]
          exact next σ1 (if_neg (fun q => z (hfit.mpr (bo_of q)))) hB h80 hf
    refine bX4_paint L (d + k + 1) r u most σ1 K ?_
    rw [hf 79 (by decide) (by decide), h79, if_neg (by omega), if_pos (by omega), hf 81 (by decide) (by decide), rx_w_of (by omega) (by omega)]
    refine ⟨by omega, ?_⟩
    by_cases z : σ 81 r = 0
    · rw [if_neg (fun q => q z)]
      have hX := x2.mp z
      have hfree := pg_free (X := rs_X V) (many := most) (k := k) (r := r) (c := c) r0 hmo.1 hc (fun s s0 s1 => hX s s0 (by omega)) (fun s s0 s1 hx => hX s s0 (by omega) (rs_X_sym hw ⟨s0, by omega⟩ ⟨r0, by omega⟩ hx))
      have en : rx_mn 1 most = 0 + ((rx_mn 1 most).toNat : Int) := by unfold rx_mn; split <;> omega
      rw [hfree] at hsome hnone
      rw [en]
      exact loop (rx_mn 1 most).toNat 0 σ1 (by omega) (by unfold rx_mn; split <;> omega) hB h80 hf hsome hnone
    · rw [if_pos z]
      have en : rx_mn (u + 1) most = 0 + ((rx_mn most (pg_last c r.toNat + 2)).toNat : Int) := by unfold rx_mn; split <;> split <;> omega
      rw [en]
      exact loop (rx_mn most (pg_last c r.toNat + 2)).toNat 0 σ1 (by omega) (by unfold rx_mn; split <;> omega) hB h80 hf hsome hnone
/-- on eight pages all roads can be -/
theorem pg_eight (hw : iv_Wf V) (c : Int → Int) : pg_F (rs_X V) 8 (V 0 6).toNat 0 c ≠ none := by
  have hn := wf_n hw
  have hm := wf_m hw
  refine pg_sem (V 0 6).toNat 0 c (V 7) (by omega) (by omega) (fun i i0 i1 => by omega) (fun i i0 i1 => by omega) (fun i i0 i1 => ?_) (fun i j i0 i1 j0 j1 hx e => hx.2.1 (Or.inl e.symm))
  have := wf_r hw i0 (show i < V 0 6 by omega)
  omega
theorem c_search4 (hV : ld_C 1 V σ) (hw : iv_Wf V) (h : ∀ (q : Int) (e : Int → Int) (σ' : rx_St), 0 ≤ q → q ≤ 8 → pg_F (rs_X V) q (V 0 6).toNat 0 (fun _ => 0) = some e → (∀ q', 0 ≤ q' → q' < q → pg_F (rs_X V) q' (V 0 6).toNat 0 (fun _ => 0) = none) → (∀ i, 0 ≤ i → i < V 0 6 → σ' 80 i = e i) → (∀ x, x < 79 ∨ 82 < x → σ' x = σ x) → K q σ') : rx_CI L (d + 20) mX4_search [.inr 79, .inr 1] σ K := by
  have hm := wf_m hw
  refine bX4_search L (d + 19) 1 rfl σ K ?_
  have e1 : σ 1 = V 0 := ld_C0 hV
  rw [e1]
  have inv : ∀ σ1 : rx_St, (∀ x, x < 79 ∨ 82 < x → σ1 x = σ x) → ld_C 1 V σ1 := fun σ1 hf => ld_Cfr hV (fun c h1 h2 => hf c (by omega))
  have key2 : ∀ (k : Nat) (q : Int) (q1 : Option rx_V) (σ1 : rx_St), 0 ≤ q → q + k = 9 → (∀ x, x < 79 ∨ 82 < x → σ1 x = σ x) → σ1 79 3 = V 0 6 → (∀ r, 0 ≤ r → r < V 0 6 → pc_x V r (σ1 81 r)) → (∀ q', 0 ≤ q' → q' < q → pg_F (rs_X V) q' (V 0 6).toNat 0 (fun _ => 0) = none) → rx_Go L (d + 20) mX4_search 37 [some (.inr 79), q1, some (.inl q)] [] σ1 (rx_PI K) := by
    intro k
    induction k with
    | zero =>
      intro q q1 σ1 q0 hq hf h79 h81 hno
      exact absurd (hno 8 (by omega) (by omega)) (pg_eight hw _)
    | succ k ih =>
      intro q q1 σ1 q0 hq hf h79 h81 hno
      refine bX4_search_37 L (d + 19) q1 q σ1 K ?_
      rw [if_neg (by omega)]
      refine c_fill (n := 18) ⟨rx_len_eq (by decide +kernel), by decide⟩ (al_eq (n := 18) (t := 0) (by decide +kernel) (by decide) (by decide)) (by omega) (fun σ2 hz hf2 => ?_)
      have hpaint := c_paint (L := L) (d := d + 18 - (V 0 6).toNat) (σ := σ2) (V := V) (most := q) hw (by rw [hf2 79 (by decide)]; exact h79) (fun r r0 r1 => by rw [hf2 81 (by decide)]; exact h81 r r0 r1) ⟨q0, by omega⟩ (V 0 6).toNat 0 0 (fun _ => 0) σ2 (fun v8 σ7 => if v8 = 0 then (rx_Go L (d + 20) mX4_search 37 [some (.inr 79), q1, some (.inl (rx_w (q + 1)))] [] σ7 (rx_PI K)) else (K q σ7)) (by omega) (by omega) rfl (fun i i0 i1 => by omega) (fun g g0 g1 s s32 => ⟨(fun z => by rw [hz g g0 g1, tb_zero] at z; cases z), (fun z => by omega)⟩) (fun i i0 i1 => by omega) (fun _ _ _ => rfl) (fun e σ' he h80 hf' => ?_) (fun σ' he _ _ hf' => ?_)
      · rw [show d + 18 - (V 0 6).toNat + (V 0 6).toNat + 1 = d + 19 by omega] at hpaint
        exact hpaint
      · rw [if_neg (by decide)]
        refine h q e σ' q0 (by omega) he hno h80 (fun x hx => ?_)
        rw [hf' x (by omega) (by omega), hf2 x (by omega), hf x hx]
      · rw [if_pos rfl, rx_w_of (by omega) (by omega)]
        refine ih (q + 1) q1 σ' (by omega) (by omega) (fun x hx => by rw [hf' x (by omega) (by omega), hf2 x (by omega), hf x hx]) (by rw [hf' 79 (by decide) (by decide), hf2 79 (by decide)]; exact h79) (fun r r0 r1 => by rw [hf' 81 (by decide) (by decide), hf2 81 (by decide)]; exact h81 r r0 r1) (fun q' h1 h2 => ?_)
        by_cases e : q' = q
        · rw [e]
          exact he
        · exact hno q' h1 (by omega)
  have key1 : ∀ (k : Nat) (r : Int) (σ1 : rx_St), 0 ≤ r → r + k = V 0 6 → (∀ x, x < 79 ∨ 82 < x → σ1 x = σ x) → σ1 79 3 = V 0 6 → (∀ q, 0 ≤ q → q < r → pc_x V q (σ1 81 q)) → rx_Go L (d + 20) mX4_search 10 [some (.inr 79), some (.inr 1), some (.inl r)] [] σ1 (rx_PI K) := by
    intro k
    induction k with
    | zero =>
      intro r σ1 r0 hr hf h79 h81
      refine bX4_search_10 L (d + 19) 1 rfl r σ1 K ?_
      rw [h79, if_pos (by omega)]
      exact key2 9 0 _ σ1 (by omega) (by omega) hf h79 (fun q q0 q1 => h81 q q0 (by omega)) (fun q' h1 h2 => by omega)
    | succ k ih =>
      intro r σ1 r0 hr hf h79 h81
      refine bX4_search_10 L (d + 19) 1 rfl r σ1 K ?_
      rw [h79, if_neg (by omega)]
      refine c_clashesOf rfl (inv σ1 hf) hw ⟨r0, by omega⟩ (fun x hx => ?_)
      rw [rx_w_of (by omega) (by omega)]
      refine ⟨by omega, ih (r + 1) _ (by omega) (by omega) (fun y hy => by rw [up_c (by omega)]; exact hf y hy) (by rw [up_c (by decide)]; exact h79) (fun q q0 q1 => ?_)⟩
      by_cases e : q = r
      · rw [up_e e, e]
        exact hx
      · rw [up_i e]
        exact h81 q q0 (by omega)
  exact key1 (V 0 6).toNat 0 _ (by omega) (by omega) (fun x hx => up_c (by omega)) up_s (fun q q0 q1 => by omega)
end PGC
