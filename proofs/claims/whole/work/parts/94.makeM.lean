/-! ===== the machine that makes cells: rows of rows ===== -/
section NKX
variable {p : Program} {l : Launch} {e : Env} {R : Room} {s : State} {m : MethodId} {args : Array Value} {below : List Frame} {meth : Method} {c : Code} {H : Heap} {locs : List Loc} {Q : State → Prop}
variable {D : va_G} {ad : Nat → Nat} {cA : Nat → ClassId} {N0 : Nat} {M : nk_M} {G G' : List nk_E} {pc pc' d x y x' y' : Nat} {lsA : Array Slot} {la la' : List (Option rx_V)} {st st' : List rx_V} {nx b c0 : Nat} {a : Int} {sw : List (Int × Nat)}
def nk_ad2 (ad : Nat → Nat) (g n q : Nat) (r : Nat → Nat) : Nat → Nat := fun c => if c = g then q else if g < c ∧ c ≤ g + n then r (c - g - 1) else ad c
theorem nk_grid {q k n : Nat} {r : Nat → Nat} {f : Nat → va_E} (h159 : G.length + 1 + n ≤ 159) (hG : nk_okG G = true) : nk_H (nk_ad2 ad G.length n q r) cA (G ++ (.inr (.inr (3, (List.range n).map (fun i => some (G.length + 1 + i)))) :: List.replicate n (.inr (.inl (0, k, []))))) = (nk_H ad cA G ++ [(q, .inl (cA 3, n, .inr (.inr (.inr (.inr (fun i => if i < n then some (r i) else none))))))]) ++ va_pl ([] ++ (List.range n).map r) (vr_up f ((List.range n).map r) (.inl (cA 0, k, .inl (fun j => Int32.ofInt (nk_fn [] j))))) := by
  have hag : ∀ c, c < G.length ∨ 159 ≤ c → nk_ad2 ad G.length n q r c = ad c := fun c hc => by
    unfold nk_ad2
    rw [if_neg (by omega), if_neg (by omega)]
  rw [nk_Hg hag hG, List.append_assoc, List.mapIdx_cons]
  congr 1
  show (nk_ad2 ad G.length n q r (0 + G.length), nk_enc (nk_ad2 ad G.length n q r) cA (.inr (.inr (3, (List.range n).map (fun i => some (G.length + 1 + i)))))) :: _ = (q, _) :: _
  have e1 : nk_ad2 ad G.length n q r (0 + G.length) = q := by
    rw [Nat.zero_add]
    exact if_pos rfl
  have e2 : nk_enc (nk_ad2 ad G.length n q r) cA (.inr (.inr (3, (List.range n).map (fun i => some (G.length + 1 + i))))) = .inl (cA 3, n, .inr (.inr (.inr (.inr (fun i => if i < n then some (r i) else none))))) := by
    have e3 : (fun j : Nat => ((((List.range n).map (fun i => some (G.length + 1 + i)))[j]?).join).map (nk_ad2 ad G.length n q r)) = (fun i => if i < n then some (r i) else none) := by
      funext j
      rw [List.getElem?_map]
      by_cases h : j < n
      · rw [List.getElem?_range h, if_pos h]
        show some (nk_ad2 ad G.length n q r (G.length + 1 + j)) = some (r j)
        unfold nk_ad2
        rw [if_neg (by omega), if_pos (by omega), show G.length + 1 + j - G.length - 1 = j by omega]
      · rw [List.getElem?_eq_none (by rw [List.length_range]; omega), if_neg h]
        rfl
    show (Sum.inl (cA 3, ((List.range n).map (fun i => some (G.length + 1 + i))).length, Sum.inr (Sum.inr (Sum.inr (Sum.inr (fun j : Nat => ((((List.range n).map (fun i => some (G.length + 1 + i)))[j]?).join).map (nk_ad2 ad G.length n q r)))))) : va_E) = _
    rw [e3, List.length_map, List.length_range]
  rw [e1, e2]
  congr 1
  apply List.ext_getElem?
  intro j
  rw [List.nil_append]
  unfold va_pl
  show _ = (List.map (fun a => (a, vr_up f (List.map r (List.range n)) (Sum.inl (cA 0, k, Sum.inl fun j => Int32.ofInt (nk_fn [] j))) a)) (List.map r (List.range n)))[j]?
  rw [List.getElem?_mapIdx, List.getElem?_replicate, List.getElem?_map, List.getElem?_map]
  by_cases h : j < n
  · rw [if_pos h, List.getElem?_range h]
    show some (nk_ad2 ad G.length n q r (j + 1 + G.length), (Sum.inl (cA 0, k, Sum.inl (fun j => Int32.ofInt (nk_fn [] j))) : va_E)) = some (r j, vr_up f ((List.range n).map r) _ (r j))
    rw [vr_up_in (List.mem_map.mpr ⟨j, List.mem_range.mpr h, rfl⟩)]
    unfold nk_ad2
    rw [if_neg (by omega), if_pos (by omega), show j + 1 + G.length - G.length - 1 = j by omega]
  · rw [if_neg h, List.getElem?_eq_none (by rw [List.length_range]; omega)]
    rfl
set_option maxHeartbeats 4000000 in
theorem nk_W_36 (F : nk_Facts) (X : nk_X D cA N0 p R s m args meth c M d) (hok : nk_ok M pc (36, nx, a, b, c0, sw) = true) (hs : nk_step M.2.2.2.2.1 M.2.2.2.2.2 (36, nx, a, b, c0, sw) la st G x y = some (pc', la', st', G', x', y')) (S : nk_S D ad cA N0 s M.2.2.1 la G lsA H locs)
    (kk : ∀ (ad' : Nat → Nat) (lsB : Array Slot) (H1 : Heap) (locs1 : List Loc), (∀ c, c < G.length ∨ 159 ≤ c → ad' c = ad c) → nk_S D ad' cA N0 s M.2.2.1 la' G' lsB H1 locs1 → W p l e R s m args below meth c H1 locs1 x' y' Q (F0 m pc' lsB (st'.map (rx_ev ad')))) : W p l e R s m args below meth c H locs x y Q (F0 m pc lsA (st.map (rx_ev ad))) := by
  obtain ⟨hx, hb, hml, hown, hts, hR, hEn, hin, hN0⟩ := X
  obtain ⟨hL, hP, hD, hSS⟩ := S
  simp only [nk_step] at hs
  split at hs
  · next k n st0 =>
    split at hs
    · next hc =>
      cases hs
      obtain ⟨hrm, hn0, hn1, hk0, hk1, hnn⟩ := hc
      obtain ⟨hG, hla, hst, hxm, hym, h159⟩ := nk_room_spec hrm
      have hnr : rx_r n := ⟨by omega, by omega⟩
      have hkr : rx_r k := ⟨by omega, by omega⟩
      simp only [nk_ok, Bool.and_eq_true, decide_eq_true_eq] at hok
      obtain ⟨⟨hd, rfl⟩, hlk⟩ := hok
      have hcy : s.vm.findClass (FieldType.array .int).toString = some (cA 0) := (hEn.1.1.2 0 (cA 0, .int) rfl).2
      have hcl : Cond.classLink (rx_cn M.2.2.2.1) (rx_hd sw 0).1.toNat ("[" ++ (FieldType.array .int).toString) ∈ rx_all := by
        have e : "[" ++ (FieldType.array .int).toString = "[[I" := by decide +kernel
        rw [e]
        exact F.2.2.2.2.1 _ hlk
      have hP0 : va_P D vwCl (nk_H ad cA G ++ va_pl [] (fun _ => (.inl (cA 0, 0, .inl (fun _ => 0)) : va_E))) H := by
        show va_P D vwCl (nk_H ad cA G ++ []) H
        rw [List.append_nil]
        exact hP
      have hD0 : va_D (nk_A N0) (nk_H ad cA G ++ va_pl [] (fun _ => (.inl (cA 0, 0, .inl (fun _ => 0)) : va_E))) := by
        show va_D (nk_A N0) (nk_H ad cA G ++ [])
        rw [List.append_nil]
        exact hD
      have hc1 : x + (1 + n.toNat) ≤ R.cells := by
        have := hR.2.2.1
        omega
      have hs1 : y + (n.toNat + n.toNat * k.toNat) ≤ R.slots := by
        have := hR.2.2.2
        omega
      refine va_mna (X := nk_H ad cA G) (L := []) (ty := .int) (cy := cA 0) (z := (k.toNat, .inl (fun j => Int32.ofInt (nk_fn [] j)))) hx hb hown (hts _ hcl) hEn.2.2.2.2 (hts _ F.2.2.2.2.2.2.1.1) hcy hEn.1.1 hP0 hD0 hSS (fun q hq => Nat.le_trans hN0 hq) (n := Int32.ofInt n) (k := Int32.ofInt k) (rx_nlt hnr hn0) (rx_nlt hkr hk0) (rx_nat hnr) (rx_nat hkr) (by omega) (by show k.toNat * 4 ≤ _; omega) (by omega) rfl rfl hc1 hs1 (fun c' => ?_) hd (fun q r cA' H1 hinj hnl hK1 hP1 hD1 hS1 => ?_)
      · show ({ cls := c', slots := Array.replicate k.toNat (.int 0), vm := .none } : Cell) = _
        rw [arrV_new]
        rfl
      · have hcA : cA' = cA 3 := nk_cA (t := 3) hEn.1.1 hK1 rfl (fun _ h => h)
        subst hcA
        rw [← nk_grid hnn hG] at hP1 hD1
        have hag : ∀ c, c < G.length ∨ 159 ≤ c → nk_ad2 ad G.length n.toNat q r c = ad c := fun c hc => by
          unfold nk_ad2
          rw [if_neg (by omega), if_neg (by omega)]
        have hk := kk (nk_ad2 ad G.length n.toNat q r) lsA H1 locs hag ⟨nk_L hag hla hL, hP1, hD1, hS1⟩
        rw [List.map_cons, nk_st hag hst] at hk
        have e : rx_ev (nk_ad2 ad G.length n.toNat q r) (.inr G.length) = .ref q := by
          show Value.ref (nk_ad2 ad G.length n.toNat q r G.length) = _
          unfold nk_ad2
          rw [if_pos rfl]
        rw [e] at hk
        exact hk
    · cases hs
  · cases hs
end NKX
