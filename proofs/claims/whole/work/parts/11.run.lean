/-- what a step of a kind gives, for all that stands round it -/
def rx_StW (k : Nat) : Prop := ∀ (p : Program) (l : Launch) (e : Env) (R : Room) (s : State) (m : MethodId) (args : Array Value) (below : List Frame) (meth : Method) (c : Code) (H : Heap) (locs : List Loc) (cells slots : Nat) (Q : State → Prop) (D : va_G) (ad adV : Nat → Nat) (cA : Nat → ClassId) (L : Nat) (ro σ σ' : rx_St) (pc pc' mi d : Nat) (lsA : Array Slot) (la la' : List (Option rx_V)) (st st' : List rx_V) (nx b c0 : Nat) (a : Int) (sw : List (Int × Nat)),
  rx_X D ad adV cA L ro p R s m args c cells slots mi d → rx_ok (rx_mi mi) pc (k, nx, a, b, c0, sw) = true → rx_step L (k, nx, a, b, c0, sw) la st σ = some (pc', la', st', σ') → rx_S D ad cA ro s (rx_mi mi).2.2.1 la st σ lsA H locs →
  (∀ (lsB : Array Slot) (H1 : Heap) (locs1 : List Loc), rx_S D ad cA ro s (rx_mi mi).2.2.1 la' st' σ' lsB H1 locs1 → W p l e R s m args below meth c H1 locs1 cells slots Q (F0 m pc' lsB (st'.map (rx_ev ad)))) → W p l e R s m args below meth c H locs cells slots Q (F0 m pc lsA (st.map (rx_ev ad)))
section RXR
variable {p : Program} {l : Launch} {e : Env} {R : Room} {s : State} {m : MethodId} {args : Array Value} {below : List Frame} {meth : Method} {c : Code} {H : Heap} {locs : List Loc} {cells slots : Nat} {Q : State → Prop}
variable {D : va_G} {ad adV : Nat → Nat} {cA : Nat → ClassId} {L : Nat} {ro σ σ' : rx_St} {pc pc' mi d : Nat} {lsA : Array Slot} {la la' : List (Option rx_V)} {st st' : List rx_V}
set_option maxHeartbeats 4000000 in
theorem rx_stepW (F : rx_Facts) (S26 : rx_StW 26) (S27 : rx_StW 27) (i : rx_I) (X : rx_X D ad adV cA L ro p R s m args c cells slots mi d) (hok : rx_ok (rx_mi mi) pc i = true) (hs : rx_step L i la st σ = some (pc', la', st', σ')) (S : rx_S D ad cA ro s (rx_mi mi).2.2.1 la st σ lsA H locs)
    (kk : ∀ (lsB : Array Slot) (H1 : Heap) (locs1 : List Loc), rx_S D ad cA ro s (rx_mi mi).2.2.1 la' st' σ' lsB H1 locs1 → W p l e R s m args below meth c H1 locs1 cells slots Q (F0 m pc' lsB (st'.map (rx_ev ad)))) : W p l e R s m args below meth c H locs cells slots Q (F0 m pc lsA (st.map (rx_ev ad))) := by
  obtain ⟨op, nx, a, b, c0, sw⟩ := i
  match op, hok, hs with
  | 0, _, hs => cases hs
  | 1, hok, hs => exact rx_W_1 F X hok hs S kk
  | 2, hok, hs => exact rx_W_2 X hok hs S kk
  | 3, hok, hs => exact rx_W_3 X hok hs S kk
  | 4, hok, hs => exact rx_W_4 X hok hs S kk
  | 5, hok, hs => exact rx_W_5 X hok hs S kk
  | 6, hok, hs => exact rx_W_6 X hok hs S kk
  | 7, hok, hs => exact rx_W_7 X hok hs S kk
  | 8, hok, hs => exact rx_W_8 X hok hs S kk
  | 9, hok, hs => exact rx_W_9 X hok hs S kk
  | 10, hok, hs => exact rx_W_10 X hok hs S kk
  | 11, hok, hs => exact rx_W_11 X hok hs S kk
  | 12, hok, hs => exact rx_W_12 X hok hs S kk
  | 13, hok, hs => exact rx_W_13 X hok hs S kk
  | 14, hok, hs => exact rx_W_14 X hok hs S kk
  | 15, hok, hs => exact rx_W_15 X hok hs S kk
  | 16, hok, hs => exact rx_W_16 X hok hs S kk
  | 17, hok, hs => exact rx_W_17 F X hok hs S kk
  | 18, hok, hs => exact rx_W_18 F X hok hs S kk
  | 19, hok, hs => exact rx_W_19 F X hok hs S kk
  | 20, hok, hs => exact rx_W_20 X hok hs S kk
  | 21, hok, hs => exact rx_W_21 X hok hs S kk
  | 22, hok, hs => exact rx_W_22 X hok hs S kk
  | 23, hok, hs => exact rx_W_23 X hok hs S kk
  | 24, hok, hs => exact rx_W_24 F X hok hs S kk
  | 25, hok, hs => exact rx_W_25 F X hok hs S kk
  | 26, hok, hs => exact S26 _ _ _ _ _ _ _ _ _ _ _ _ _ _ _ _ _ _ _ _ _ _ _ _ _ _ _ _ _ _ _ _ _ _ _ _ _ X hok hs S kk
  | 27, hok, hs => exact S27 _ _ _ _ _ _ _ _ _ _ _ _ _ _ _ _ _ _ _ _ _ _ _ _ _ _ _ _ _ _ _ _ _ _ _ _ _ X hok hs S kk
  | 28, _, hs => cases hs
  | 29, _, hs => cases hs
  | 30, _, hs => cases hs
  | 31, hok, hs => exact rx_W_31 F X hok hs S kk
  | 32, hok, hs => exact rx_W_32 F X hok hs S kk
  | n + 33, _, hs => cases hs
/-- behind a call -/
theorem rx_after {g : JFrame} {rest : List Value} {ac : Array Value} {r : Option rx_V} (hr : va_Run p l e R s m args below meth c H locs cells slots 0 0 g rest (rx_Qc D ad cA ro r σ' ac) (rx_A ad)) (hS : va_S (rx_A ad) s.heap H locs)
    (kk : ∀ (H1 : Heap) (locs1 : List Loc), (∀ v, r = some v → rx_okv v) → rx_Hp D ad cA ro σ' H1 → va_S (rx_A ad) s.heap H1 locs1 → W p l e R s m args below meth c H1 locs1 cells slots Q { g with pc := g.pc + 3, stack := (r.map (rx_ev ad)).toList ++ rest }) : W p l e R s m args below meth c H locs cells slots Q g := by
  intro T hT X
  obtain ⟨v, st₀, t, T', L0, h0, X', hL, e1, e2, ⟨hv, hHp, hF, hrok⟩, st⟩ := hr T hT X
  cases hv
  rw [h0.symm] at hS
  have hS1 : va_S (rx_A ad) s.heap T'.heap (locs ++ L0) := by
    refine ⟨Nat.le_trans hS.1 (by rw [e1]; exact hF.1), fun q h1 h2 => ?_, fun q hq => ?_⟩
    · rw [e1, hF.2 q (Nat.lt_of_lt_of_le h1 hS.1) h2]
      exact hS.2.1 q h1 h2
    · rcases List.mem_append.mp hq with h | h
      · exact hS.2.2 q h
      · exact hL q h
  obtain ⟨t2, a1, b1⟩ := kk T'.heap (locs ++ L0) hrok (by rw [e1]; exact hHp) hS1 T' rfl X'
  exact ⟨t2, st t2 a1, b1⟩
end RXR
theorem rx_goodAll : GoodIn rx_all rx_all := by
  intro w hw
  exact ⟨hw, good_of_word (List.mem_filter.mp hw).2⟩
theorem rx_goodC {w : Cond} (h : w ∈ rx_all) : GoodIn rx_all (w :: rx_all) := by
  intro v hv
  rcases List.mem_cons.mp hv with rfl | hv
  · exact rx_goodAll _ h
  · exact rx_goodAll _ hv
theorem rx_sl {ad : Nat → Nat} (as : List rx_V) : (lg_sl (as.map (rx_ev ad))).length = as.length := by
  induction as with
  | nil => rfl
  | cons v as ih =>
    simp only [lg_sl, List.map_cons, List.flatMap_cons, List.length_append, List.length_cons] at ih ⊢
    rw [ih, rx_ev_cat]
    simp
    omega
theorem rx_lvargs {ad : Nat → Nat} : ∀ (as : List rx_V) (i k : Nat) (v : rx_V), as[k]? = some v → (i + k, rx_ev ad v) ∈ lv_args i (as.map (rx_ev ad))
  | [], i, k, v, h => by cases h
  | x :: as, i, 0, v, h => by
    cases h
    exact List.mem_cons_self
  | x :: as, i, k + 1, v, h => by
    have h1 : as[k]? = some v := h
    have ih := rx_lvargs (ad := ad) as (i + 1) k v h1
    rw [List.map_cons]
    unfold lv_args
    rw [rx_ev_cat]
    refine List.mem_cons_of_mem _ ?_
    rw [show i + (k + 1) = i + 1 + k by omega]
    exact ih
theorem rx_entL {ad : Nat → Nat} {y : Nat} {as : List rx_V} (hlen : as.length ≤ (rx_mi y).2.2.1) :
    rx_L ad (lg_sl (as.map (rx_ev ad)) ++ List.replicate ((rx_mi y).2.2.1 - (lg_sl (as.map (rx_ev ad))).length) Slot.unset).toArray (rx_mi y).2.2.1 (rx_ent y as) := by
  have h := lv_entry (as.map (rx_ev ad)) (n := (rx_mi y).2.2.1) (by rw [rx_sl]; exact hlen)
  refine ⟨⟨h.1, h.2.1, fun q hq => h.2.2 q ?_⟩, ?_⟩
  · obtain ⟨v, h1, h2⟩ := rx_encl_mem.mp hq
    have h3 : as[q.1]? = some v := by
      unfold rx_ent at h1
      rw [List.getElem?_append] at h1
      split at h1
      · rw [List.getElem?_map] at h1
        cases ha : as[q.1]? with
        | none => rw [ha] at h1; cases h1
        | some w => rw [ha] at h1; cases h1; rfl
      · have h5 := List.mem_of_getElem? h1
        rw [List.mem_replicate] at h5
        cases h5.2
    have h4 := rx_lvargs (ad := ad) as 0 q.1 v h3
    rw [Nat.zero_add, ← h2] at h4
    exact h4
  · unfold rx_ent
    rw [List.length_append, List.length_map, List.length_replicate]
    omega
theorem rx_entO {y : Nat} {as : List rx_V} (h : rx_oks as) : rx_okl (rx_ent y as) := by
  intro v hv
  unfold rx_ent at hv
  rcases List.mem_append.mp hv with h1 | h1
  · obtain ⟨w, h2, h3⟩ := List.mem_map.mp h1
    cases h3
    exact h _ h2
  · rw [List.mem_replicate] at h1
    cases h1.2
/-- a return: what stands on the stack, what is answered -/
def rx_retI (i : rx_I) (r : Option rx_V) (st : List rx_V) : Prop := (i.1 = 29 ∧ ∃ v, st = [.inl v] ∧ r = some (.inl v) ∧ (i.2.2.1 = 0 ∨ v = 0 ∨ v = 1)) ∨ (i.1 = 30 ∧ st = [] ∧ r = none)
/-- a run of the abstract machine, as the machine's -/
def rx_RunW (D : va_G) (ad adV : Nat → Nat) (cA : Nat → ClassId) (L : Nat) (ro : rx_St) (l : Launch) (d mi pc : Nat) (la : List (Option rx_V)) (st : List rx_V) (σ : rx_St) (r : Option rx_V) (σ' : rx_St) : Prop :=
  ∀ (p : Program) (e : Env) (R : Room) (s : State) (m : MethodId) (args : Array Value) (below : List Frame) (meth : Method) (c : Code) (H : Heap) (locs : List Loc) (cells slots : Nat) (Q : State → Prop) (lsA : Array Slot),
    rx_X D ad adV cA L ro p R s m args c cells slots mi d → rx_S D ad cA ro s (rx_mi mi).2.2.1 la st σ lsA H locs →
    (∀ (pcR : Nat) (lsB : Array Slot) (laR : List (Option rx_V)) (stR : List rx_V) (H1 : Heap) (locs1 : List Loc) (i : rx_I), rx_ins mi pcR = some i → rx_retI i r stR → rx_S D ad cA ro s (rx_mi mi).2.2.1 laR stR σ' lsB H1 locs1 → W p l e R s m args below meth c H1 locs1 cells slots Q (F0 m pcR lsB (stR.map (rx_ev ad)))) →
    W p l e R s m args below meth c H locs cells slots Q (F0 m pc lsA (st.map (rx_ev ad)))
section RXM
variable {D : va_G} {ad adV : Nat → Nat} {cA : Nat → ClassId} {L : Nat} {ro σ σ' : rx_St} {l : Launch}
set_option maxHeartbeats 4000000 in
theorem rx_met (F : rx_Facts) (OK : ∀ m pc i, rx_ins m pc = some i → rx_ok (rx_mi m) pc i = true) (hinj : L ≤ 384 ∧ ∀ i j, i < 159 → j < 159 → ad i = ad j → i = j) {d y : Nat} {as : List rx_V} {r : Option rx_V} (hy : 0 < y) (hy2 : y < 247) (hlen : as.length ≤ (rx_mi y).2.2.1) (has : rx_oks as)
    (hrun : rx_RunW D ad adV cA L ro l d y 0 (rx_ent y as) [] σ r σ') :
    Met l (rx_mi y).1 (Cond.code (rx_mi y).1 (rx_mi y).2.1 (rx_mi y).2.2.1 (rx_mi y).2.2.2.1 :: rx_all) (rx_room d) (rx_Pc D ad adV cA L ro as σ) (rx_Qc D ad cA ro r σ') 0 0 (rx_A ad) := by
  obtain ⟨f1, f2, f3, f4, f5, f6, f7, -⟩ := F.2.2.2.2.2.2.2.2.2 y hy hy2
  refine Met.ofW (cc := (rx_mi y).2.1) (maxL := (rx_mi y).2.2.1) (ret := (rx_mi y).2.2.2.1) f1 rfl ?_
  intro p e s m args below meth c s₁ B hml hv
  obtain ⟨rfl, hEn, hRo, hHp⟩ := hv
  have hts := atoms_spec (ws := Cond.code (rx_mi y).1 (rx_mi y).2.1 (rx_mi y).2.2.1 (rx_mi y).2.2.2.1 :: rx_all) B.pre
  have hown : s.vm.findClass (rx_mi y).1.cls = some m.cls := findClass_of_methodNamed B.named
  rw [f7] at hown
  have hlocks := B.notSynchronized
  have hr := B.returns
  have hX : rx_X D ad adV cA L ro p (headSpec (Cond.code (rx_mi y).1 (rx_mi y).2.1 (rx_mi y).2.2.1 (rx_mi y).2.2.2.1 :: rx_all) (rx_room d)).room s m (as.map (rx_ev ad)).toArray c 0 0 y d :=
    ⟨B.exec, B.bytes, hml, hown, fun w hw => hts w (List.mem_cons_of_mem _ hw), ⟨Nat.le_refl _, Nat.le_refl _, Nat.zero_le _, Nat.zero_le _⟩, hEn, hRo, hinj⟩
  rw [lg_entry_eq]
  refine hrun p e _ s m _ below meth c s.heap [] 0 0 _ _ hX ⟨rx_entL hlen, rx_entO has, (fun v hv => by cases hv), hHp, va_S.rf⟩ ?_
  intro pcR lsB laR stR H1 locs1 i hi hret S1
  obtain ⟨-, -, hso1, hHp1, hS1⟩ := S1
  have hok := OK _ _ _ hi
  obtain ⟨op, nx, a, b, c0, sw⟩ := i
  rcases hret with ⟨h29, v, rfl, rfl, hv⟩ | ⟨h30, rfl, rfl⟩
  · have hq : ∀ t : State, t.heap = H1 → rx_Hp D ad cA ro σ' t.heap ∧ va_F (rx_A ad) s t ∧ ∀ w, some (Sum.inl v : rx_V) = some w → rx_okv w := fun t ht => ⟨by rw [ht]; exact hHp1, hS1.F ht, fun w hw => by cases hw; exact hso1.hd⟩
    have h29 : op = 29 := h29
    subst h29
    simp only [rx_ok, Bool.and_eq_true, decide_eq_true_eq] at hok
    obtain ⟨hd, hok⟩ := hok
    by_cases ha : a = 0
    · rw [if_pos ha] at hok
      have hok := of_decide_eq_true hok
      rw [hok] at hr
      exact W.iret (v := Int32.ofInt v) B.exec B.bytes hr (fun t ht _ => ⟨rfl, hq t ht⟩) hS1.2.2 hd
    · rw [if_neg ha] at hok
      have hok := of_decide_eq_true hok
      rw [hok] at hr
      have hv01 : v = 0 ∨ v = 1 := hv.resolve_left ha
      exact W.zret (v := Int32.ofInt v) B.exec B.bytes hr (rx_narZ hv01) (fun t ht _ => ⟨rfl, hq t ht⟩) hS1.2.2 hd
  · have hq : ∀ t : State, t.heap = H1 → rx_Hp D ad cA ro σ' t.heap ∧ va_F (rx_A ad) s t ∧ ∀ w, (none : Option rx_V) = some w → rx_okv w := fun t ht => ⟨by rw [ht]; exact hHp1, hS1.F ht, fun w hw => by cases hw⟩
    have h30 : op = 30 := h30
    subst h30
    simp only [rx_ok, Bool.and_eq_true, decide_eq_true_eq] at hok
    obtain ⟨hd, hok⟩ := hok
    rw [hok] at hr
    exact W.vret B.exec B.bytes hr (fun t ht _ => ⟨rfl, hq t ht⟩) hS1.2.2 hd
end RXM
