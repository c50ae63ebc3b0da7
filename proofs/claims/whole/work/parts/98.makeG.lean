/-! ===== behind the constructors: the cells, what they hold ===== -/
set_option maxRecDepth 100000 in
def nk_G0 : List nk_E := [
  .inl (10, [some (.inr 1), some (.inr 12), some (.inr 23), some (.inl 0), some (.inr 34), some (.inr 37), some (.inr 78), some (.inr 79), some (.inr 83), some (.inr 95), some (.inr 99), some (.inr 100), some (.inr 101), some (.inl 0)]),
  .inl (1, [some (.inl 0), some (.inr 2), some (.inr 3), some (.inr 4), some (.inr 5), some (.inr 6), some (.inl 0), some (.inr 7), some (.inr 8), some (.inr 9), some (.inr 10), some (.inr 11), some (.inl 0), some (.inl 1)]),
  .inr (.inl (0, 8, [])),
  .inr (.inl (0, 8, [])),
  .inr (.inl (0, 8, [])),
  .inr (.inl (0, 8, [])),
  .inr (.inl (0, 8, [])),
  .inr (.inl (0, 18, [])),
  .inr (.inl (0, 18, [])),
  .inr (.inl (0, 18, [])),
  .inr (.inl (0, 18, [])),
  .inr (.inl (0, 18, [])),
  .inl (1, [some (.inl 0), some (.inr 13), some (.inr 14), some (.inr 15), some (.inr 16), some (.inr 17), some (.inl 0), some (.inr 18), some (.inr 19), some (.inr 20), some (.inr 21), some (.inr 22), some (.inl 0), some (.inl 1)]),
  .inr (.inl (0, 8, [])),
  .inr (.inl (0, 8, [])),
  .inr (.inl (0, 8, [])),
  .inr (.inl (0, 8, [])),
  .inr (.inl (0, 8, [])),
  .inr (.inl (0, 18, [])),
  .inr (.inl (0, 18, [])),
  .inr (.inl (0, 18, [])),
  .inr (.inl (0, 18, [])),
  .inr (.inl (0, 18, [])),
  .inl (1, [some (.inl 0), some (.inr 24), some (.inr 25), some (.inr 26), some (.inr 27), some (.inr 28), some (.inl 0), some (.inr 29), some (.inr 30), some (.inr 31), some (.inr 32), some (.inr 33), some (.inl 0), some (.inl 1)]),
  .inr (.inl (0, 8, [])),
  .inr (.inl (0, 8, [])),
  .inr (.inl (0, 8, [])),
  .inr (.inl (0, 8, [])),
  .inr (.inl (0, 8, [])),
  .inr (.inl (0, 18, [])),
  .inr (.inl (0, 18, [])),
  .inr (.inl (0, 18, [])),
  .inr (.inl (0, 18, [])),
  .inr (.inl (0, 18, [])),
  .inl (5, [some (.inl 0), some (.inl 0), some (.inl 0), some (.inl 0), some (.inr 35), some (.inr 36), some (.inl (-1)), some (.inl 0), some (.inl 0), some (.inl (-1))]),
  .inr (.inl (0, 96, [])),
  .inr (.inl (0, 96, [])),
  .inl (0, [some (.inr 38), some (.inr 58), some (.inr 59)]),
  .inl (2, [some (.inr 39), some (.inr 40), some (.inr 41), some (.inr 42), some (.inr 57)]),
  .inr (.inl (0, 14, [])),
  .inr (.inl (0, 14, [])),
  .inr (.inl (0, 14, [])),
  .inr (.inr (3, [some 43, some 44, some 45, some 46, some 47, some 48, some 49, some 50, some 51, some 52, some 53, some 54, some 55, some 56])),
  .inr (.inl (0, 96, [])),
  .inr (.inl (0, 96, [])),
  .inr (.inl (0, 96, [])),
  .inr (.inl (0, 96, [])),
  .inr (.inl (0, 96, [])),
  .inr (.inl (0, 96, [])),
  .inr (.inl (0, 96, [])),
  .inr (.inl (0, 96, [])),
  .inr (.inl (0, 96, [])),
  .inr (.inl (0, 96, [])),
  .inr (.inl (0, 96, [])),
  .inr (.inl (0, 96, [])),
  .inr (.inl (0, 96, [])),
  .inr (.inl (0, 96, [])),
  .inr (.inl (0, 96, [])),
  .inr (.inl (0, 18, [])),
  .inr (.inr (3, [some 60, some 61, some 62, some 63, some 64, some 65, some 66, some 67, some 68, some 69, some 70, some 71, some 72, some 73, some 74, some 75, some 76, some 77])),
  .inr (.inl (0, 18, [])),
  .inr (.inl (0, 18, [])),
  .inr (.inl (0, 18, [])),
  .inr (.inl (0, 18, [])),
  .inr (.inl (0, 18, [])),
  .inr (.inl (0, 18, [])),
  .inr (.inl (0, 18, [])),
  .inr (.inl (0, 18, [])),
  .inr (.inl (0, 18, [])),
  .inr (.inl (0, 18, [])),
  .inr (.inl (0, 18, [])),
  .inr (.inl (0, 18, [])),
  .inr (.inl (0, 18, [])),
  .inr (.inl (0, 18, [])),
  .inr (.inl (0, 18, [])),
  .inr (.inl (0, 18, [])),
  .inr (.inl (0, 18, [])),
  .inr (.inl (0, 18, [])),
  .inl (9, [some (.inl 0), some (.inl 0), some (.inl 0)]),
  .inl (4, [some (.inr 80), some (.inr 81), some (.inr 82), some (.inl 0)]),
  .inr (.inl (0, 18, [])),
  .inr (.inl (0, 18, [])),
  .inr (.inl (0, 18, [])),
  .inl (3, [some (.inr 84), some (.inl 0), some (.inr 85), some (.inl 0), some (.inl 0), some (.inr 86)]),
  .inr (.inl (0, 8, [])),
  .inr (.inl (0, 8, [])),
  .inr (.inr (3, [some 87, some 88, some 89, some 90, some 91, some 92, some 93, some 94])),
  .inr (.inl (0, 8, [])),
  .inr (.inl (0, 8, [])),
  .inr (.inl (0, 8, [])),
  .inr (.inl (0, 8, [])),
  .inr (.inl (0, 8, [])),
  .inr (.inl (0, 8, [])),
  .inr (.inl (0, 8, [])),
  .inr (.inl (0, 8, [])),
  .inl (6, [some (.inr 96), some (.inl 0), some (.inr 97), some (.inr 98), some (.inl 0)]),
  .inr (.inl (0, 5, [])),
  .inr (.inl (0, 5, [])),
  .inr (.inl (0, 5, [])),
  .inr (.inr (4, [some 102, some 104, some 106, some 108])),
  .inr (.inr (5, [some 110, some 113, some 116, some 119, some 122])),
  .inr (.inl (0, 60, [])),
  .inl (7, [some (.inl (-1)), some (.inl 0), some (.inr 103)]),
  .inr (.inl (0, 24, [])),
  .inl (7, [some (.inl (-1)), some (.inl 0), some (.inr 105)]),
  .inr (.inl (0, 24, [])),
  .inl (7, [some (.inl (-1)), some (.inl 0), some (.inr 107)]),
  .inr (.inl (0, 24, [])),
  .inl (7, [some (.inl (-1)), some (.inl 0), some (.inr 109)]),
  .inr (.inl (0, 24, [])),
  .inl (8, [some (.inl 0), some (.inl 0), some (.inl 0), some (.inr 111), some (.inl 0)]),
  .inl (7, [some (.inl (-1)), some (.inl 0), some (.inr 112)]),
  .inr (.inl (0, 24, [])),
  .inl (8, [some (.inl 0), some (.inl 0), some (.inl 0), some (.inr 114), some (.inl 0)]),
  .inl (7, [some (.inl (-1)), some (.inl 0), some (.inr 115)]),
  .inr (.inl (0, 24, [])),
  .inl (8, [some (.inl 0), some (.inl 0), some (.inl 0), some (.inr 117), some (.inl 0)]),
  .inl (7, [some (.inl (-1)), some (.inl 0), some (.inr 118)]),
  .inr (.inl (0, 24, [])),
  .inl (8, [some (.inl 0), some (.inl 0), some (.inl 0), some (.inr 120), some (.inl 0)]),
  .inl (7, [some (.inl (-1)), some (.inl 0), some (.inr 121)]),
  .inr (.inl (0, 24, [])),
  .inl (8, [some (.inl 0), some (.inl 0), some (.inl 0), some (.inr 123), some (.inl 0)]),
  .inl (7, [some (.inl (-1)), some (.inl 0), some (.inr 124)]),
  .inr (.inl (0, 24, [])),
  .inl (11, [some (.inr 126), some (.inr 127), some (.inr 128), some (.inl 0), some (.inr 129), some (.inr 130), some (.inr 131), some (.inl 0), some (.inl 0), some (.inr 132), some (.inr 133), some (.inr 134), some (.inr 135), some (.inr 136), some (.inr 137), some (.inr 138), some (.inl 0), some (.inr 139), some (.inr 140), some (.inr 141), some (.inl 0), some (.inr 142), some (.inl 0), some (.inl 0), some (.inl 0), some (.inl 0), some (.inl 0), some (.inl 0), some (.inl 0), some (.inr 143), some (.inr 144), some (.inr 145), some (.inl 0), some (.inl 0), some (.inr 146), some (.inl 0), some (.inr 147), some (.inr 148), some (.inr 149), some (.inr 150), some (.inr 151), some (.inr 152), some (.inr 153), some (.inr 154), some (.inr 155), some (.inr 156), some (.inr 157), some (.inr 158), some (.inl 0)]),
  .inr (.inl (0, 1498, [(0, 1)])),
  .inr (.inl (0, 1498, [])),
  .inr (.inl (0, 1498, [])),
  .inr (.inl (0, 18, [])),
  .inr (.inl (0, 324, [])),
  .inr (.inl (0, 8, [])),
  .inr (.inl (1, 8, [])),
  .inr (.inl (0, 8, [])),
  .inr (.inl (0, 18, [])),
  .inr (.inl (0, 18, [])),
  .inr (.inl (0, 9, [])),
  .inr (.inl (0, 9, [])),
  .inr (.inl (0, 8, [])),
  .inr (.inl (0, 8, [])),
  .inr (.inl (0, 8, [])),
  .inr (.inl (0, 8, [])),
  .inr (.inl (0, 96, [])),
  .inr (.inl (2, 13, [(12, 112), (11, 97), (10, 119), (9, 115), (8, 115), (7, 115), (6, 111), (5, 114), (4, 99), (3, 109), (2, 114), (1, 97), (0, 104)])),
  .inr (.inl (0, 4, [(3, 13), (2, 9), (1, 4), (0, 0)])),
  .inr (.inl (0, 96, [])),
  .inr (.inl (0, 96, [])),
  .inr (.inl (1, 10, [])),
  .inr (.inl (0, 96, [])),
  .inr (.inl (0, 4, [])),
  .inr (.inl (0, 4, [(3, (-1)), (2, (-1)), (1, (-1)), (0, (-1))])),
  .inr (.inl (0, 4, [])),
  .inr (.inl (0, 96, [])),
  .inr (.inl (0, 5, [])),
  .inr (.inl (0, 5, [])),
  .inr (.inl (0, 5, [])),
  .inr (.inl (0, 120, [])),
  .inr (.inl (0, 24, [])),
  .inr (.inl (0, 60, []))]
def nk_la0 : List (Option rx_V) := [some (.inr 159), some (.inr 0), some (.inr 125), some (.inl 0)]
def nk_eqE (E E' : nk_E) : Bool := match E, E' with
  | .inl a, .inl b => decide (a = b)
  | .inr (.inl a), .inr (.inl b) => decide (a = b)
  | .inr (.inr a), .inr (.inr b) => decide (a = b)
  | _, _ => false
theorem nk_eqE_ok {E E' : nk_E} (h : nk_eqE E E' = true) : E = E' := by
  match E, E', h with
  | .inl a, .inl b, h => rw [of_decide_eq_true (show decide (a = b) = true from h)]
  | .inr (.inl a), .inr (.inl b), h => rw [of_decide_eq_true (show decide (a = b) = true from h)]
  | .inr (.inr a), .inr (.inr b), h => rw [of_decide_eq_true (show decide (a = b) = true from h)]
  | .inl _, .inr _, h => cases h
  | .inr (.inl _), .inl _, h => cases h
  | .inr (.inr _), .inl _, h => cases h
  | .inr (.inl _), .inr (.inr _), h => cases h
  | .inr (.inr _), .inr (.inl _), h => cases h
def nk_eqG : List nk_E → List nk_E → Bool
  | [], [] => true
  | a :: G, b :: G' => nk_eqE a b && nk_eqG G G'
  | _, _ => false
theorem nk_eqG_ok : ∀ {G G' : List nk_E}, nk_eqG G G' = true → G = G'
  | [], [], _ => rfl
  | a :: G, b :: G', h => by
    have h : (nk_eqE a b && nk_eqG G G') = true := h
    rw [Bool.and_eq_true] at h
    rw [nk_eqE_ok h.1, nk_eqG_ok h.2]
  | [], _ :: _, h => by cases h
  | _ :: _, [], h => by cases h
def nk_end (r : Option nk_F) : Bool := match r with
  | some (pc, la, st, G, x, y) => decide (pc = 18) && decide (la = nk_la0) && decide (st = []) && decide (x = 159) && decide (y = 8757) && nk_eqG G nk_G0
  | none => false
set_option maxRecDepth 100000 in
theorem nk_run0 : nk_end (nk_exec 2000 6 12 0 [some (.inr 159), none, none, none] [] [] 0 0) = true := by decide +kernel
theorem nk_made : nk_exec 2000 6 12 0 [some (.inr 159), none, none, none] [] [] 0 0 = some (18, nk_la0, [], nk_G0, 159, 8757) := by
  have h := nk_run0
  generalize nk_exec 2000 6 12 0 [some (.inr 159), none, none, none] [] [] 0 0 = r at h
  match r, h with
  | some (pc, la, st, G, x, y), h =>
    simp only [nk_end, Bool.and_eq_true, decide_eq_true_eq] at h
    obtain ⟨⟨⟨⟨⟨rfl, rfl⟩, rfl⟩, rfl⟩, rfl⟩, h6⟩ := h
    rw [nk_eqG_ok h6]
  | none, h => cases h
def nk_shv (o : Option rx_V) : Option (Option Nat) := match o with
  | none => none
  | some (.inl _) => some none
  | some (.inr r) => some (some r)
/-- the cell is of that shape, and nothing of it is null -/
def nk_chk (E : nk_E) (sh : rx_Sh) : Bool := match E, sh with
  | .inl (ci, fs), .inl (cj, gs) => decide (ci = cj) && decide (fs.map nk_shv = gs.map some)
  | .inr (.inl (t, n, _)), .inr (.inl (t', n')) => decide (t = t') && decide (n = n')
  | .inr (.inr (t, rs)), .inr (.inr (t', rs')) => decide (t = t') && decide (rs = rs'.map some)
  | _, _ => false
def nk_fo (o : Option (Option rx_V)) : Int := match o with
  | some (some (.inl v)) => v
  | _ => 0
def nk_vl (E : nk_E) (j : Nat) : Int := match E with
  | .inl (_, fs) => nk_fo fs[j]?
  | .inr (.inl (_, _, w)) => nk_fn w j
  | .inr (.inr _) => 0
def nk_val (E : nk_E) (i : Int) : Int := if i < 0 then 0 else nk_vl E i.toNat
/-- the store behind the constructors -/
def nk_sg (ro : rx_St) : rx_St := fun c => match nk_G0[c]? with
  | some E => nk_val E
  | none => ro c
theorem nk_valN (E : nk_E) (j : Nat) : nk_val E (j : Int) = nk_vl E j := by
  unfold nk_val
  rw [if_neg (by omega), Int.toNat_natCast]
theorem nk_chkE {ad : Nat → Nat} {cA : Nat → ClassId} {E : nk_E} {sh : rx_Sh} (h : nk_chk E sh = true) : nk_enc ad cA E = rx_E ad cA sh (nk_val E) := by
  match E, sh, h with
  | .inl (ci, fs), .inl (cj, gs), h =>
    simp only [nk_chk, Bool.and_eq_true, decide_eq_true_eq] at h
    obtain ⟨rfl, h2⟩ := h
    have e : fs.map (nk_ev ad) = rx_fv ad (nk_val (.inl (ci, fs))) gs := by
      apply List.ext_getElem?
      intro k
      unfold rx_fv
      rw [List.getElem?_map, List.getElem?_mapIdx]
      have e : (fs.map nk_shv)[k]? = (gs.map some)[k]? := by rw [h2]
      rw [List.getElem?_map, List.getElem?_map] at e
      cases hf : fs[k]? with
      | none =>
        rw [hf] at e
        cases hg : gs[k]? with
        | none => rfl
        | some g => rw [hg] at e; cases e
      | some o =>
        rw [hf] at e
        cases hg : gs[k]? with
        | none => rw [hg] at e; cases e
        | some g =>
          rw [hg] at e
          have e1 : nk_shv o = some g := Option.some.inj e
          show some (nk_ev ad o) = some (rx_fv1 ad _ k g)
          match o, e1, hf with
          | some (.inl v), e1, hf =>
            cases e1
            show some (Value.int (Int32.ofInt v)) = some (Value.int (Int32.ofInt (nk_val (.inl (ci, fs)) (k : Int))))
            rw [nk_valN]
            show _ = some (Value.int (Int32.ofInt (nk_fo fs[k]?)))
            rw [hf]
            rfl
          | some (.inr r), e1, _ =>
            cases e1
            rfl
          | none, e1, _ => cases e1
    show (Sum.inr (ci, fs.map (nk_ev ad)) : va_E) = Sum.inr (ci, rx_fv ad (nk_val (.inl (ci, fs))) gs)
    rw [e]
  | .inr (.inl (t, n, w)), .inr (.inl (t', n')), h =>
    simp only [nk_chk, Bool.and_eq_true, decide_eq_true_eq] at h
    obtain ⟨rfl, rfl⟩ := h
    have e : (fun j : Nat => Int32.ofInt (nk_fn w j)) = (fun j : Nat => Int32.ofInt (nk_val (.inr (.inl (t, n, w))) (j : Int))) := by
      funext j
      rw [nk_valN]
      rfl
    show (Sum.inl (cA t, n, Sum.inl (fun j : Nat => Int32.ofInt (nk_fn w j))) : va_E) = Sum.inl (cA t, n, Sum.inl (fun j : Nat => Int32.ofInt (nk_val (.inr (.inl (t, n, w))) (j : Int))))
    rw [e]
  | .inr (.inr (t, rs)), .inr (.inr (t', rs')), h =>
    simp only [nk_chk, Bool.and_eq_true, decide_eq_true_eq] at h
    obtain ⟨rfl, rfl⟩ := h
    have e : (fun j : Nat => (((rs'.map some)[j]?).join).map ad) = (fun j : Nat => (rs'[j]?).map ad) := by
      funext j
      rw [List.getElem?_map]
      cases rs'[j]? <;> rfl
    show (Sum.inl (cA t, (rs'.map some).length, Sum.inr (Sum.inr (Sum.inr (Sum.inr (fun j => (((rs'.map some)[j]?).join).map ad))))) : va_E) = Sum.inl (cA t, rs'.length, Sum.inr (Sum.inr (Sum.inr (Sum.inr (fun j => (rs'[j]?).map ad)))))
    rw [e, List.length_map]
  | .inl _, .inr _, h => cases h
  | .inr (.inl _), .inl _, h => cases h
  | .inr (.inr _), .inl _, h => cases h
  | .inr (.inl _), .inr (.inr _), h => cases h
  | .inr (.inr _), .inr (.inl _), h => cases h
set_option maxRecDepth 100000 in
theorem nk_G0len : nk_G0.length = 159 := by decide +kernel
set_option maxRecDepth 100000 in
theorem nk_chkAll : (List.zipWith nk_chk nk_G0 rx_SH).all id = true := by decide +kernel
theorem nk_chkAt {c : Nat} {E : nk_E} (h : nk_G0[c]? = some E) : ∃ sh, rx_SH[c]? = some sh ∧ nk_chk E sh = true := by
  have hl : c < 159 := by
    have := (List.getElem?_eq_some_iff.mp h).1
    rw [nk_G0len] at this
    exact this
  cases hs : rx_SH[c]? with
  | none =>
    have := List.getElem?_eq_none_iff.mp hs
    rw [rx_SHlen] at this
    omega
  | some sh =>
    refine ⟨sh, rfl, ?_⟩
    have hz : (List.zipWith nk_chk nk_G0 rx_SH)[c]? = some (nk_chk E sh) := by
      rw [List.getElem?_zipWith, h, hs]
    exact List.all_eq_true.mp nk_chkAll _ (List.mem_of_getElem? hz)
section NKG
variable {ro : rx_St}
theorem nk_at {c : Nat} {E : nk_E} (h : nk_G0[c]? = some E) : nk_sg ro c = nk_val E := by
  unfold nk_sg
  rw [h]
theorem nk_hi {c : Nat} (h : 159 ≤ c) : nk_sg ro c = ro c := by
  unfold nk_sg
  rw [List.getElem?_eq_none (by rw [nk_G0len]; exact h)]
theorem nk_world {ad : Nat → Nat} {cA : Nat → ClassId} : nk_H ad cA nk_G0 = rx_W ad cA (nk_sg ro) := by
  apply List.ext_getElem?
  intro c
  unfold nk_H rx_W
  rw [List.getElem?_mapIdx, List.getElem?_mapIdx]
  cases hG : nk_G0[c]? with
  | none =>
    have h1 := List.getElem?_eq_none_iff.mp hG
    rw [nk_G0len] at h1
    rw [List.getElem?_eq_none (by rw [rx_SHlen]; exact h1)]
    rfl
  | some E =>
    obtain ⟨sh, h1, h2⟩ := nk_chkAt hG
    rw [h1]
    show some (ad c, nk_enc ad cA E) = some (ad c, rx_E ad cA sh (nk_sg ro c))
    rw [nk_at hG, nk_chkE h2]
/-- every number of the cells is an int -/
def nk_inE (E : nk_E) : Bool := match E with
  | .inl (_, fs) => fs.all (fun o => rx_inR (nk_fo (some o)))
  | .inr (.inl (_, _, w)) => w.all (fun q => rx_inR q.2)
  | .inr (.inr _) => true
set_option maxRecDepth 100000 in
theorem nk_inAll : nk_G0.all nk_inE = true := by decide +kernel
theorem nk_inr {v : Int} (h : rx_inR v = true) : rx_r v := by
  unfold rx_inR at h
  rw [Bool.and_eq_true, decide_eq_true_eq, decide_eq_true_eq] at h
  exact h
theorem nk_r0 : rx_r 0 := ⟨by omega, by omega⟩
theorem nk_fnr {w : List (Nat × Int)} (h : w.all (fun q => rx_inR q.2) = true) (j : Nat) : rx_r (nk_fn w j) := by
  unfold nk_fn
  induction w with
  | nil => exact nk_r0
  | cons a w ih =>
    rw [List.all_cons, Bool.and_eq_true] at h
    rw [List.lookup]
    cases j == a.1 with
    | true => exact nk_inr h.1
    | false => exact ih h.2
theorem nk_rng (hro : ∀ c i, rx_r (ro c i)) (c : Nat) (i : Int) : rx_r (nk_sg ro c i) := by
  cases hG : nk_G0[c]? with
  | none =>
    have h1 := List.getElem?_eq_none_iff.mp hG
    rw [nk_G0len] at h1
    rw [nk_hi h1]
    exact hro c i
  | some E =>
    rw [nk_at hG]
    have h1 := List.all_eq_true.mp nk_inAll E (List.mem_of_getElem? hG)
    unfold nk_val
    split
    · exact nk_r0
    · match E, h1 with
      | .inl (ci, fs), h1 =>
        show rx_r (nk_fo fs[i.toNat]?)
        cases hf : fs[i.toNat]? with
        | none => exact nk_r0
        | some o => exact nk_inr (List.all_eq_true.mp (show fs.all (fun o => rx_inR (nk_fo (some o))) = true from h1) o (List.mem_of_getElem? hf))
      | .inr (.inl (t, n, w)), h1 => exact nk_fnr h1 _
      | .inr (.inr _), _ => exact nk_r0
/-- a place of the store, by its number -/
theorem nk_v {c : Nat} {i v : Int} (h : (nk_G0[c]?).map (fun E => nk_val E i) = some v) : nk_sg ro c i = v := by
  obtain ⟨E, h1, h2⟩ := Option.map_eq_some_iff.mp h
  rw [nk_at h1]
  exact h2
def nk_zc (c : Nat) : Bool := match nk_G0[c]? with
  | some (.inr (.inl (_, _, []))) => true
  | _ => false
theorem nk_z {c : Nat} (h : nk_zc c = true) (i : Int) : nk_sg ro c i = 0 := by
  unfold nk_zc at h
  split at h
  · next hG =>
    rw [nk_at hG]
    unfold nk_val
    split <;> rfl
  · cases h
theorem nk_126 {i : Int} (h : i ≠ 0) : nk_sg ro 126 i = 0 := by
  rw [nk_at (c := 126) rfl]
  unfold nk_val
  split
  · rfl
  · show nk_fn [(0, 1)] i.toNat = 0
    have e : (i.toNat == 0) = false := by
      rw [beq_eq_false_iff_ne]
      omega
    unfold nk_fn
    rw [List.lookup, e]
    rfl
theorem iv_Wf0 {V : rx_St} (h0 : V 0 0 = 0) (h6 : V 0 6 = 0) (h12 : V 0 12 = 0) : iv_Wf V := by
  unfold iv_Wf
  rw [h0, h6, h12]
  exact ⟨by omega, by omega, by omega, fun p a b => by exfalso; omega, fun p q a b => by exfalso; omega, fun r a b => by exfalso; omega, fun r s a b => by exfalso; omega⟩
theorem nk_s0 : ∀ s : Nat, s < 4 → (nk_G0[102 + 2 * s]?).map (fun E => nk_val E 0) = some (-1) ∧ (nk_G0[102 + 2 * s]?).map (fun E => nk_val E 1) = some 0 ∧ (nk_G0[150]?).map (fun E => nk_val E s) = some (-1) ∧ nk_zc (102 + 2 * s + 1) = true := by decide +kernel
theorem nk_s1 : ∀ s : Nat, s < 5 → (nk_G0[110 + 3 * s]?).map (fun E => nk_val E 0) = some 0 := by decide +kernel
theorem nk_inv {S : Int → Int} (hS : ro 159 = S) (hr : ∀ i, rx_r (S i)) (hab : ro 160 0 = -1 ∧ ro 160 1 = 0 ∧ ro 160 2 = 0 ∧ ro 160 3 = 1 ∧ ro 160 4 = 2 ∧ ro 160 5 = 0) : Inv S (nk_sg ro) := by
  have v0 : nk_sg ro 1 0 = 0 := nk_v (by decide +kernel)
  have v6 : nk_sg ro 1 6 = 0 := nk_v (by decide +kernel)
  have v12 : nk_sg ro 1 12 = 0 := nk_v (by decide +kernel)
  have v13 : nk_sg ro 1 13 = 1 := nk_v (by decide +kernel)
  have m0 : nk_sg ro 126 0 = 1 := nk_v (by decide +kernel)
  have s03 : nk_sg ro 0 3 = 0 := nk_v (by decide +kernel)
  have m3 : nk_sg ro 125 3 = 0 := nk_v (by decide +kernel)
  have s34 : nk_sg ro 34 0 = 0 := nk_v (by decide +kernel)
  have m22 : nk_sg ro 125 22 = 0 := nk_v (by decide +kernel)
  have s13 : nk_sg ro 0 13 = 0 := nk_v (by decide +kernel)
  have m48 : nk_sg ro 125 48 = 0 := nk_v (by decide +kernel)
  refine ⟨fun k => nk_sg ro (1 + k), fun k => nk_sg ro (39 + k), iv_Wf0 v0 v6 v12, fun k _ => rfl, ?_, ?_, ?_, ?_, ?_, ?_, ?_, ?_⟩
  · intro k i h
    unfold ld_ok at h
    rcases h with ⟨rfl, h⟩ | h | h
    · rcases h with rfl | rfl | rfl | rfl
      · exact (nk_126 (by decide)).trans v0.symm
      · exact (nk_126 (by decide)).trans v6.symm
      · exact (nk_126 (by decide)).trans v12.symm
      · exact m0.trans v13.symm
    · have e : ld_i k i ≠ 0 := by
        unfold ld_i
        repeat' split
        all_goals omega
      rw [nk_126 e]
      have hk : k = 1 ∨ k = 2 ∨ k = 3 ∨ k = 4 := by omega
      rcases hk with rfl | rfl | rfl | rfl
      · exact (nk_z (c := 2) (by decide +kernel) i).symm
      · exact (nk_z (c := 3) (by decide +kernel) i).symm
      · exact (nk_z (c := 4) (by decide +kernel) i).symm
      · exact (nk_z (c := 5) (by decide +kernel) i).symm
    · have e : ld_i k i ≠ 0 := by
        unfold ld_i
        repeat' split
        all_goals omega
      rw [nk_126 e]
      have hk : k = 6 ∨ k = 7 ∨ k = 8 ∨ k = 9 ∨ k = 10 := by omega
      rcases hk with rfl | rfl | rfl | rfl | rfl
      · exact (nk_z (c := 7) (by decide +kernel) i).symm
      · exact (nk_z (c := 8) (by decide +kernel) i).symm
      · exact (nk_z (c := 9) (by decide +kernel) i).symm
      · exact (nk_z (c := 10) (by decide +kernel) i).symm
      · exact (nk_z (c := 11) (by decide +kernel) i).symm
  · exact ⟨Or.inl s03, m3.trans s03.symm, fun h => absurd (s03.symm.trans h) (by decide)⟩
  · refine ⟨fun k _ => rfl, fun t h0 h1 => ?_, fun t h0 h1 => ?_, fun h => absurd (s03.symm.trans h) (by decide)⟩
    · have h1 : t < nk_sg ro 1 12 := h1
      rw [v12] at h1
      exfalso
      omega
    · have h1 : t < nk_sg ro 1 12 := h1
      rw [v12] at h1
      exfalso
      omega
  · refine ⟨⟨(nk_hi (by omega)).trans hS, hr⟩, ?_, ?_, ?_⟩
    · rw [nk_hi (c := 160) (by omega)]
      exact hab
    · exact ⟨nk_v (by decide +kernel), nk_v (by decide +kernel), nk_v (by decide +kernel), nk_v (by decide +kernel), nk_v (by decide +kernel), nk_v (by decide +kernel), nk_v (by decide +kernel), nk_v (by decide +kernel), nk_v (by decide +kernel), nk_v (by decide +kernel), nk_v (by decide +kernel), nk_v (by decide +kernel), nk_v (by decide +kernel)⟩
    · exact ⟨nk_v (by decide +kernel), nk_v (by decide +kernel), nk_v (by decide +kernel), nk_v (by decide +kernel)⟩
  · refine ⟨?_, m22.trans s34.symm, fun i h0 h1 => ?_⟩
    · rw [s34]
      omega
    · rw [s34] at h1
      exfalso
      omega
  · refine ⟨?_, m48.trans s13.symm, fun i h0 h1 => ?_⟩
    · rw [s13]
      omega
    · rw [s13] at h1
      exfalso
      omega
  · intro s hs
    obtain ⟨a1, a2, a3, a4⟩ := nk_s0 s hs
    refine ⟨?_, (nk_v a3).trans (nk_v a1).symm, ?_, (nk_z (by decide +kernel) _).trans (nk_v a2).symm, fun i h0 h1 => ⟨(nk_z (by decide +kernel) _).trans (nk_z a4 _).symm, ?_⟩⟩
    · rw [nk_v a1]
      omega
    · rw [nk_v a2]
      omega
    · rw [nk_z a4]
      exact nk_r0
  · intro s hs
    have a1 : nk_sg ro (110 + 3 * s) 0 = 0 := nk_v (nk_s1 s hs)
    refine ⟨?_, (nk_z (by decide +kernel) _).trans a1.symm, fun h => absurd (a1.symm.trans h) (by decide), fun h => absurd (a1.symm.trans h) (by decide), fun h => absurd (a1.symm.trans h) (by decide)⟩
    rw [a1]
    omega
end NKG
