/-! ===== the machine that makes cells: calls, every run is one of the machine ===== -/
section NKC
variable {D : va_G} {cA : Nat → ClassId} {N0 : Nat} {l : Launch}
set_option maxHeartbeats 4000000 in
theorem nk_met (F : nk_Facts) {d y o : Nat} {G : List nk_E} {ad : Nat → Nat} {r : nk_F} {i : rx_I} (hy : y < 12) (h30 : i.1 = 30) (hok : nk_ok (nk_mi y) r.1 i = true) (hst : r.2.2.1 = []) (hxr : r.2.2.2.2.1 ≤ (nk_mi y).2.2.2.2.1) (hyr : r.2.2.2.2.2 ≤ (nk_mi y).2.2.2.2.2)
    (hrun : nk_RunW D cA N0 l d y 0 (some (.inr o) :: List.replicate ((nk_mi y).2.2.1 - 1) none) [] G 0 0 r) :
    Met l (nk_mi y).1 (Cond.code (nk_mi y).1 (nk_mi y).2.1 (nk_mi y).2.2.1 none :: rx_all) (nk_rm d (nk_mi y).2.2.2.2.1 (nk_mi y).2.2.2.2.2) (nk_Pc D cA N0 ad o G) (nk_Qc D cA N0 ad G r.2.2.2.1) (nk_mi y).2.2.2.2.1 (nk_mi y).2.2.2.2.2 (nk_A N0) := by
  obtain ⟨f1, f2, f3, f4, f5, f6, f7, f8, f9, f10⟩ := F.2.2.2.2.2.2.2.2 y hy
  refine Met.ofW (cc := (nk_mi y).2.1) (maxL := (nk_mi y).2.2.1) (ret := none) f1 rfl ?_
  intro p e s m args below meth c s₁ B hml hv
  obtain ⟨rfl, hEn, hN, hP, hD⟩ := hv
  have hts := atoms_spec (ws := Cond.code (nk_mi y).1 (nk_mi y).2.1 (nk_mi y).2.2.1 none :: rx_all) B.pre
  have hown : s.vm.findClass (nk_mi y).1.cls = some m.cls := findClass_of_methodNamed B.named
  rw [f7] at hown
  have hlocks := B.notSynchronized
  have hr := B.returns
  have hname : meth.name = "<init>" := ((name_of_methodNamed B.named B.method).1).trans f9
  have hX : nk_X D cA N0 p (headSpec (Cond.code (nk_mi y).1 (nk_mi y).2.1 (nk_mi y).2.2.1 none :: rx_all) (nk_rm d (nk_mi y).2.2.2.2.1 (nk_mi y).2.2.2.2.2)).room s m (([.inr o] : List rx_V).map (rx_ev ad)).toArray meth c (nk_mi y) d :=
    ⟨B.exec, B.bytes, hml, hown, fun w hw => hts w (List.mem_cons_of_mem _ hw), ⟨Nat.le_refl _, Nat.le_refl _, Nat.le_refl _, Nat.le_refl _⟩, hEn, fun _ => hname, hN⟩
  rw [lg_entry_eq]
  refine hrun p e _ s m _ below meth c s.heap [] _ _ ad hX ⟨nk_entL f5.2, hP, hD, va_S.rf⟩ ?_
  intro ad' lsB H1 locs1 hag S1
  obtain ⟨-, hP1, hD1, hS1⟩ := S1
  obtain ⟨op, nx, a, b, c0, sw⟩ := i
  have h30 : op = 30 := h30
  subst h30
  simp only [nk_ok, decide_eq_true_eq] at hok
  rw [hst]
  refine W.widen hxr hyr ?_
  exact W.vret B.exec B.bytes hr (fun t ht _ => ⟨rfl, ad', hag, by rw [ht]; exact hP1, hD1, hS1.F ht⟩) hS1.2.2 hok
set_option maxHeartbeats 4000000 in
theorem nk_call (F : nk_Facts) (OK : ∀ m pc i, nk_ins m pc = some i → nk_ok (nk_mi m) pc i = true) {d mi pc nx b c0 o x y : Nat} {a : Int} {sw : List (Int × Nat)} {la : List (Option rx_V)} {st : List rx_V} {G : List nk_E} {r : nk_F} {i2 : rx_I}
    (hok : nk_ok (nk_mi mi) pc (28, nx, a, b, c0, sw) = true) (hrm : nk_room G la (.inr o :: st) (x + (nk_mi b).2.2.2.2.1) (y + (nk_mi b).2.2.2.2.2) (nk_mi mi).2.2.2.2.1 (nk_mi mi).2.2.2.2.2 = true) (h8 : st.length ≤ 8)
    (hi2 : nk_ins b r.1 = some i2) (h30 : i2.1 = 30) (hst : r.2.2.1 = []) (hxr : r.2.2.2.2.1 ≤ (nk_mi b).2.2.2.2.1) (hyr : r.2.2.2.2.2 ≤ (nk_mi b).2.2.2.2.2)
    {p : Program} {e : Env} {R : Room} {s : State} {m : MethodId} {args : Array Value} {below : List Frame} {meth : Method} {c : Code} {H : Heap} {locs : List Loc} {Q : State → Prop} {lsA : Array Slot} {ad : Nat → Nat}
    (X : nk_X D cA N0 p R s m args meth c (nk_mi mi) (d + 1)) (S : nk_S D ad cA N0 s (nk_mi mi).2.2.1 la G lsA H locs)
    (hrun : nk_RunW D cA N0 l d b 0 (some (.inr o) :: List.replicate ((nk_mi b).2.2.1 - 1) none) [] G 0 0 r)
    (kk : ∀ (ad' : Nat → Nat) (lsB : Array Slot) (H1 : Heap) (locs1 : List Loc), (∀ c, c < G.length ∨ 159 ≤ c → ad' c = ad c) → nk_S D ad' cA N0 s (nk_mi mi).2.2.1 la r.2.2.2.1 lsB H1 locs1 → W p l e R s m args below meth c H1 locs1 (x + (nk_mi b).2.2.2.2.1) (y + (nk_mi b).2.2.2.2.2) Q (F0 m nx lsB (st.map (rx_ev ad')))) :
    W p l e R s m args below meth c H locs x y Q (F0 m pc lsA ((.inr o :: st).map (rx_ev ad))) := by
  obtain ⟨hx, hb, hml, hown, hts, hR, hEn, hin, hN0⟩ := X
  obtain ⟨hL, hP, hD, hSS⟩ := S
  obtain ⟨hG, hla, hstk, hxm, hym, h159⟩ := nk_room_spec hrm
  have hst2 : st.all (fun v => nk_rv G.length (some v)) = true := by
    rw [List.all_cons, Bool.and_eq_true] at hstk
    exact hstk.2
  simp only [nk_ok, Bool.and_eq_true, decide_eq_true_eq, Bool.or_eq_true] at hok
  obtain ⟨⟨⟨hd, rfl⟩, hb12⟩, hlk⟩ := hok
  obtain ⟨f1, f2, f3, f4, f5, f6, f7, f8, f9, f10⟩ := F.2.2.2.2.2.2.2.2 b hb12
  have hM := nk_met (ad := ad) F hb12 h30 (OK _ _ _ hi2) hst hxr hyr hrun
  have hroom : (rx_room d).frames + 1 ≤ R.frames ∧ 8 + ((nk_mi b).2.2.1 + 11) + (rx_room d).locals ≤ R.locals := rx_roomLe hR.1 hR.2.1 f5.1
  have hWd : 2 * (F0 m pc lsA ((.inr o :: st).map (rx_ev ad))).monitorRoom + ((st.map (rx_ev ad)).map fun v => v.category).sum ≤ 8 := by
    rw [rx_cats]
    show 2 * 0 + _ ≤ 8
    omega
  have hPc : ∀ U : State, U.heap = H → s.WarmedH U.vm → nk_Pc D cA N0 ad o G (Value.ref (ad o) :: []).toArray U :=
    fun U hU hW => ⟨rfl, hEn.warm hW, by rw [hU]; exact Nat.le_trans hN0 hSS.1, by rw [hU]; exact hP, hD⟩
  have hfit : x + (nk_mi b).2.2.2.2.1 ≤ R.cells ∧ y + (nk_mi b).2.2.2.2.2 ≤ R.slots := ⟨Nat.le_trans hxm hR.2.2.1, Nat.le_trans hym hR.2.2.2⟩
  have hback : ∀ (ac : Array Value), va_Run p l e R s m args below meth c H locs x y (nk_mi b).2.2.2.2.1 (nk_mi b).2.2.2.2.2 (F0 m pc lsA ((.inr o :: st).map (rx_ev ad))) (st.map (rx_ev ad)) (nk_Qc D cA N0 ad G r.2.2.2.1 ac) (nk_A N0) → W p l e R s m args below meth c H locs x y Q (F0 m pc lsA ((.inr o :: st).map (rx_ev ad))) := by
    intro ac hr
    refine nk_after hr hSS (fun ad' H1 locs1 hag hP1 hD1 hS1 => ?_)
    have hk := kk ad' lsA H1 locs1 hag ⟨nk_L hag hla hL, hP1, hD1, hS1⟩
    rw [nk_st hag hst2] at hk
    exact hk
  rcases hlk with hlk | hlk
  · have hl := (F.2.2.2.2.2.2.2.1 _ hlk).2 rfl
    exact hback _ (va_runI (b := ad o) (As := []) (n := 0) ⟨hx, hb, hml, hown, hts⟩ hM ⟨callB_of 0 hts (rx_goodC f4) rfl rfl rfl (hts _ f6) (hts _ hl) ⟨f2, f3, f10⟩ hroom, f9, hts _ f8⟩ ⟨nk_blind, hPc⟩ rfl rfl hL.1.1 rfl hWd hd hfit)
  · have hl := hEn.2.1 _ ((F.2.2.2.2.2.2.2.1 _ hlk).1 rfl)
    exact hback _ (va_runIN (b := ad o) (As := []) (n := 0) ⟨hx, hb, hml, hown, hts⟩ hM ⟨va_cnB 0 hts (rx_goodC f4) rfl rfl rfl hl (hts _ f6) ⟨f2, f3, f10⟩ hroom, f9, hts _ f8⟩ ⟨nk_blind, hPc⟩ rfl rfl hL.1.1 rfl hWd hd hfit)
set_option maxHeartbeats 4000000 in
theorem nk_run (F : nk_Facts) (OK : ∀ m pc i, nk_ins m pc = some i → nk_ok (nk_mi m) pc i = true) : ∀ (n d mi pc : Nat) (la : List (Option rx_V)) (st : List rx_V) (G : List nk_E) (x y : Nat) (r : nk_F), nk_exec n d mi pc la st G x y = some r → nk_RunW D cA N0 l d mi pc la st G x y r := by
  intro n
  induction n with
  | zero =>
    intro d mi pc la st G x y r h
    cases h
  | succ n ih =>
    intro d mi pc la st G x y r h p e R s m args below meth c H locs Q lsA ad X S K
    unfold nk_exec at h
    split at h
    · cases h
    next i hi =>
    have hok := OK _ _ _ hi
    split at h
    · next hstop =>
      cases h
      exact K ad lsA H locs (fun _ _ => rfl) S
    next hstop =>
    split at h
    · next h28 =>
      split at h
      · cases h
      next d' =>
      split at h
      · next o st' =>
        split at h
        · next hc =>
          split at h
          · next pcR laR G' xR yR he =>
            split at h
            · next hc2 =>
              obtain ⟨op, nx, a, b, c0, sw⟩ := i
              have h28 : op = 28 := h28
              subst h28
              obtain ⟨i2, hi2, h30⟩ := Option.map_eq_some_iff.mp hc2.1
              refine nk_call F OK (r := (pcR, laR, [], G', xR, yR)) hok hc.1 hc.2 hi2 h30 rfl hc2.2.2.1 hc2.2.2.2 X S (ih _ _ _ _ _ _ _ _ _ he) (fun ad' lsB H1 locs1 hag S1 => ?_)
              refine ih _ _ _ _ _ _ _ _ _ h p e R s m args below meth c H1 locs1 Q lsB ad' X S1 (fun ad2 lsC H2 locs2 hag2 S2 => K ad2 lsC H2 locs2 (fun c hc9 => ?_) S2)
              rw [hag2 c (hc9.imp (fun q => Nat.lt_of_lt_of_le q (Nat.le_of_ble_eq_true hc2.2.1)) id), hag c hc9]
            · cases h
          · cases h
        · cases h
      · cases h
    next h28 =>
    split at h
    · next pc' la' st' G' x' y' hs =>
      split at h
      · next hle =>
        refine nk_stepW F i X hok hs S (fun ad' lsB H1 locs1 hag S1 => ?_)
        refine ih _ _ _ _ _ _ _ _ _ h p e R s m args below meth c H1 locs1 Q lsB ad' X S1 (fun ad2 lsC H2 locs2 hag2 S2 => K ad2 lsC H2 locs2 (fun c hc9 => ?_) S2)
        rw [hag2 c (hc9.imp (fun q => Nat.lt_of_lt_of_le q (Nat.le_of_ble_eq_true hle)) id), hag c hc9]
      · cases h
    · cases h
end NKC
