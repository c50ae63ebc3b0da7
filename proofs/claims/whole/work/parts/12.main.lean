theorem rx_cats {ad : Nat → Nat} (l : List rx_V) : ((l.map (rx_ev ad)).map (fun v => v.category)).sum = l.length := by
  induction l with
  | nil => rfl
  | cons v l ih =>
    rw [List.map_cons, List.map_cons, List.sum_cons, ih, rx_ev_cat, List.length_cons]
    omega
set_option maxRecDepth 100000 in
theorem rx_roomLe {d n : Nat} {R : Room} (h1 : d + 1 + 8 ≤ R.frames) (h2 : 64 * (d + 1 + 8) ≤ R.locals) (hn : n ≤ 40) : (rx_room d).frames + 1 ≤ R.frames ∧ 8 + (n + 11) + (rx_room d).locals ≤ R.locals := by
  refine ⟨?_, ?_⟩
  · show d + 8 + 1 ≤ R.frames
    omega
  · show 8 + (n + 11) + 64 * (d + 8) ≤ R.locals
    omega
theorem rx_isO_spec {ci o : Nat} (h : rx_isO ci o = true) : ∃ fs, rx_SH[o]? = some (.inl (ci, fs)) := by
  unfold rx_isO at h
  split at h
  · next i fs hs =>
    simp only [beq_iff_eq] at h
    exact ⟨fs, by rw [hs, h]⟩
  · cases h
section RXN
variable {D : va_G} {ad adV : Nat → Nat} {cA : Nat → ClassId} {L : Nat} {ro : rx_St} {l : Launch}
set_option maxHeartbeats 4000000 in
/-- one call, out of the called method's run -/
theorem rx_call (F : rx_Facts) (OK : ∀ m pc i, rx_ins m pc = some i → rx_ok (rx_mi m) pc i = true) {d mi pc nx b c0 : Nat} {a : Int} {sw : List (Int × Nat)} {la : List (Option rx_V)} {st : List rx_V} {σ σ1 : rx_St} {r1 : Option rx_V}
    (hok : rx_okC (rx_mi mi) pc (28, nx, a, b, c0, sw) = true) (hmay : rx_mayC (28, nx, a, b, c0, sw) st = true)
    {p : Program} {e : Env} {R : Room} {s : State} {m : MethodId} {args : Array Value} {below : List Frame} {meth : Method} {c : Code} {H : Heap} {locs : List Loc} {cells slots : Nat} {Q : State → Prop} {lsA : Array Slot}
    (X : rx_X D ad adV cA L ro p R s m args c cells slots mi (d + 1)) (S : rx_S D ad cA ro s (rx_mi mi).2.2.1 la st σ lsA H locs)
    (hrun : rx_RunW D ad adV cA L ro l d b 0 (rx_ent b (st.take c0).reverse) [] σ r1 σ1)
    (kk : ∀ (H1 : Heap) (locs1 : List Loc), rx_S D ad cA ro s (rx_mi mi).2.2.1 la (r1.toList ++ st.drop c0) σ1 lsA H1 locs1 → W p l e R s m args below meth c H1 locs1 cells slots Q (F0 m nx lsA ((r1.toList ++ st.drop c0).map (rx_ev ad)))) :
    W p l e R s m args below meth c H locs cells slots Q (F0 m pc lsA (st.map (rx_ev ad))) := by
  obtain ⟨hx, hb, hml, hown, hts, hR, hEn, hRo, hinj⟩ := X
  obtain ⟨hL, hlo, hso, hHp, hSS⟩ := S
  simp only [rx_mayC, Bool.and_eq_true, decide_eq_true_eq, Bool.or_eq_true] at hmay
  obtain ⟨⟨hc0, hd8⟩, hrecv⟩ := hmay
  simp only [rx_okC, Bool.and_eq_true, decide_eq_true_eq] at hok
  obtain ⟨⟨⟨rfl, hb247⟩, hb0⟩, hok⟩ := hok
  have hb0 : 0 < b := Nat.pos_of_ne_zero hb0
  obtain ⟨f1, f2, f3, f4, f5, f6, f7, f8, f9⟩ := F.2.2.2.2.2.2.2.2.2 b hb0 hb247
  have hst : st = st.take c0 ++ st.drop c0 := (List.take_append_drop c0 st).symm
  have haslen : (st.take c0).reverse.length = c0 := by
    rw [List.length_reverse, List.length_take]
    omega
  have has : rx_oks (st.take c0).reverse := fun v hv => hso v (List.mem_of_mem_take (List.mem_reverse.mp hv))
  have hsod : rx_oks (st.drop c0) := fun v hv => hso v (List.mem_of_mem_drop hv)
  have hstk : st.map (rx_ev ad) = (((st.take c0).reverse.map (rx_ev ad)).reverse ++ (st.drop c0).map (rx_ev ad)) := by
    rw [← List.map_reverse, List.reverse_reverse, ← List.map_append, List.take_append_drop]
  have hroom : (rx_room d).frames + 1 ≤ R.frames ∧ 8 + ((rx_mi b).2.2.1 + 11) + (rx_room d).locals ≤ R.locals := rx_roomLe hR.1 hR.2.1 f5
  have hWd : 2 * (F0 m pc lsA (st.map (rx_ev ad))).monitorRoom + (((st.drop c0).map (rx_ev ad)).map fun v => v.category).sum ≤ 8 := by
    rw [rx_cats]
    show 2 * 0 + _ ≤ 8
    omega
  have hPc : ∀ U : State, U.heap = H → s.WarmedH U.vm → rx_Pc D ad adV cA L ro (st.take c0).reverse σ ((st.take c0).reverse.map (rx_ev ad)).toArray U :=
    fun U hU hW => ⟨rfl, hEn.warm hW, by rw [hU]; exact (hRo.kept hSS.2.1).warm hW, by rw [hU]; exact hHp⟩
  have hfit : cells + 0 ≤ R.cells ∧ slots + 0 ≤ R.slots := ⟨hR.2.2.1, hR.2.2.2⟩
  have hback : ∀ (ac : Array Value), va_Run p l e R s m args below meth c H locs cells slots 0 0 (F0 m pc lsA (st.map (rx_ev ad))) ((st.drop c0).map (rx_ev ad)) (rx_Qc D ad cA ro r1 σ1 ac) (rx_A ad) → W p l e R s m args below meth c H locs cells slots Q (F0 m pc lsA (st.map (rx_ev ad))) := by
    intro ac hr
    refine rx_after hr hSS (fun H1 locs1 hrok hHp1 hS1 => ?_)
    have hk := kk H1 locs1 ⟨hL, hlo, ?_, hHp1, hS1⟩
    · have e9 : (r1.toList ++ st.drop c0).map (rx_ev ad) = (r1.map (rx_ev ad)).toList ++ (st.drop c0).map (rx_ev ad) := by
        cases r1 <;> simp
      rw [e9] at hk
      exact hk
    · intro v hv
      rcases List.mem_append.mp hv with h | h
      · exact hrok v (by cases r1 with
          | none => cases h
          | some w =>
            have h9 : v = w := by simpa using h
            rw [h9])
      · exact hsod v h
  by_cases ha0 : a = 0
  · rw [if_pos ha0] at hok
    simp only [Bool.and_eq_true, decide_eq_true_eq, rx_ml] at hok
    obtain ⟨⟨hd, hlk⟩, hnp⟩ := hok
    obtain ⟨g1, g2, g3⟩ := f8 c0 hnp
    have hM := rx_met F OK hinj hb0 hb247 (by rw [haslen]; exact g3) has hrun
    have hl := (F.2.2.2.2.2.2.2.2.1 _ (List.mem_of_getElem? hlk)).2 (fun h9 => by cases h9)
    exact hback _ (va_runS (As := (st.take c0).reverse.map (rx_ev ad)) ⟨hx, hb, hml, hown, hts⟩ hM ⟨callB_of c0 hts (rx_goodC f4) rfl rfl rfl (hts _ f6) (hts _ hl) ⟨f2, f3, g2⟩ hroom, hts _ g1⟩ ⟨rx_blind, hPc⟩ rfl (by rw [List.length_map]; exact haslen) hL.1.1 hstk hWd hd hfit)
  · rw [if_neg ha0] at hok
    by_cases ha1 : a = 1
    · rw [if_pos ha1] at hok
      simp only [Bool.and_eq_true, decide_eq_true_eq, rx_ml] at hok
      obtain ⟨⟨hd, hlk⟩, hnp⟩ := hok
      obtain ⟨g1, g2, g3⟩ := f8 c0 hnp
      have hM := rx_met F OK hinj hb0 hb247 (by rw [haslen]; exact g3) has hrun
      have hl := hEn.2 _ ((F.2.2.2.2.2.2.2.2.1 _ (List.mem_of_getElem? hlk)).1 rfl)
      exact hback _ (va_runSN (As := (st.take c0).reverse.map (rx_ev ad)) ⟨hx, hb, hml, hown, hts⟩ hM ⟨va_cnB c0 hts (rx_goodC f4) rfl rfl rfl hl (hts _ f6) ⟨f2, f3, g2⟩ hroom, hts _ g1, trivial⟩ ⟨rx_blind, hPc⟩ rfl (by rw [List.length_map]; exact haslen) hL.1.1 hstk hWd hd hfit)
    · rw [if_neg ha1] at hok
      simp only [Bool.and_eq_true, decide_eq_true_eq, rx_ml] at hok
      obtain ⟨⟨⟨hd, hlk⟩, hnp⟩, ha2⟩ := hok
      obtain ⟨g1, g2, g3, g4, g5, g6⟩ := f9 c0 hnp
      have hM := rx_met F OK hinj hb0 hb247 (by rw [haslen]; exact g4) has hrun
      have hl := (F.2.2.2.2.2.2.2.2.1 _ (List.mem_of_getElem? hlk)).2 (fun h9 => by cases h9)
      have hrecv := hrecv.resolve_left (by omega)
      generalize hae : (st.take c0).reverse = as at *
      match as, hrecv with
      | .inr o :: as1, hrecv =>
        have hrecv : rx_isO (a - 2).toNat o = true := hrecv
        rw [show (a - 2).toNat = (rx_mi b).2.2.2.2 by omega] at hrecv
        obtain ⟨fs, ho⟩ := rx_isO_spec hrecv
        obtain ⟨cell, k1, k2, k3⟩ := va_recv hEn.1 hHp.2.2 (rx_vw (by rw [rx_cl12]; exact g5)) (rx_W_at (ad := ad) (cA := cA) (σ := σ) ho)
        rw [g6] at k3
        have hn : as1.length + 1 = c0 := haslen
        obtain ⟨sg, hsg, hsg2⟩ : ∃ n, (parseMethodDescriptor (rx_mi b).1.desc).map (fun d => d.parameters.length) = some n ∧ n + 1 = c0 := by
          cases hp : parseMethodDescriptor (rx_mi b).1.desc with
          | none => rw [hp] at g3; cases g3
          | some d9 => rw [hp] at g3; exact ⟨_, rfl, Option.some.inj g3⟩
        refine hback _ (va_runV (C := (rx_mi b).1.cls) (b := ad o) (As := as1.map (rx_ev ad)) (n := sg) ⟨hx, hb, hml, hown, hts⟩ hM ⟨callB_of sg hts (rx_goodC f4) rfl rfl rfl (hts _ f6) (hts _ hl) ⟨f2, f3, hsg⟩ hroom, hts _ g1, hts _ g2⟩ ⟨rx_blind, ⟨cell, k1, k2, k3⟩, hPc⟩ rfl (by rw [List.length_map]; omega) hL.1.1 ?_ hWd hd hfit)
        show st.map (rx_ev ad) = _
        rw [hstk]
        simp [rx_ev]
set_option maxHeartbeats 4000000 in
/-- every run of the abstract machine is one of the machine -/
theorem rx_run (F : rx_Facts) (OK : ∀ m pc i, rx_ins m pc = some i → rx_ok (rx_mi m) pc i = true) (S26 : rx_StW 26) (S27 : rx_StW 27) : ∀ (n d mi pc : Nat) (la : List (Option rx_V)) (st : List rx_V) (σ : rx_St) (r : Option rx_V) (σ' : rx_St), rx_exec L n d mi pc la st σ = some (r, σ') → rx_RunW D ad adV cA L ro l d mi pc la st σ r σ' := by
  intro n
  induction n with
  | zero =>
    intro d mi pc la st σ r σ' h
    cases h
  | succ n ih =>
    intro d mi pc la st σ r σ' h p e R s m args below meth c H locs cells slots Q lsA X S K
    unfold rx_exec at h
    split at h
    · cases h
    next i hi =>
    have hok := OK _ _ _ hi
    split at h
    · next h28 =>
      split at h
      · cases h
      next d' =>
      split at h
      · next hmay =>
        split at h
        · cases h
        next r1 σ1 he =>
        obtain ⟨op, nx, a, b, c0, sw⟩ := i
        have h28 : op = 28 := h28
        subst h28
        refine rx_call F OK (nx := nx) (a := a) (b := b) (c0 := c0) (sw := sw) hok hmay X S (ih _ _ _ _ _ _ _ _ he) (fun H1 locs1 S1 => ?_)
        exact ih _ _ _ _ _ _ _ _ h p e R s m args below meth c H1 locs1 cells slots Q lsA X S1 K
      · cases h
    next h28 =>
    split at h
    · next h29 =>
      split at h
      · next v =>
        split at h
        · next hv =>
          cases h
          exact K pc lsA la _ H locs i hi (Or.inl ⟨h29, v, rfl, rfl, hv⟩) S
        · cases h
      · cases h
    next h29 =>
    split at h
    · next h30 =>
      split at h
      · cases h
        exact K pc lsA la _ H locs i hi (Or.inr ⟨h30, rfl, rfl⟩) S
      · cases h
    next h30 =>
    split at h
    · cases h
    next pc' la' st' σ1 hs =>
    exact rx_stepW F S26 S27 i X hok hs S (fun lsB H1 locs1 S1 => ih _ _ _ _ _ _ _ _ h p e R s m args below meth c H1 locs1 cells slots Q lsB X S1 K)
end RXN
