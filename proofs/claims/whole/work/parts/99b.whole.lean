def R_law : String := "RoadsCrossedLaw"
def lw_P (b : Addr) (xs : List Int32) (args : Array Value) (s : State) : Prop := args = #[.ref b] ∧ s.IntsAt b xs ∧ xs.length ≤ 384 ∧ (Jvm.Cond.and given_1 narrow_1).before args s = true
def lw_Q (_ : Array Value) (s : State) (o : Outcome) (t : State) : Prop := o = .returned (some (.int 1)) ∧ Framed s o t [] 600000 7302250
def lw_Z (below : List Frame) (a : Array Value) (s : State) : State → Prop := fun t => ∃ o, t.status = .running ∧ Ended t below o ∧ lw_Q a s o t
/-- the law's own end, with 1 on the stack, nothing written that was there before, its room as the claim has it -/
theorem lw_ret {p : Program} {l : Launch} {e : Env} {s : State} {m : MethodId} {below : List Frame} {meth : Method} {c : Code} {b : Nat} (hx : p.tables.exec = Jvm.exec) (hb : c.code = code) (hr : meth.sig.returnType = ret) (hlocks : meth.locks = false) {pc : Nat} {H : Heap} {ls : Array Slot} (hdg : decode code pc = .ok (.ireturn, 1)) : W p l e room_1 s m #[Value.ref b] below meth c H [] 600000 7302250 (lw_Z below #[Value.ref b] s) (F0 m pc ls [.int 1]) := by
  intro T hT X
  obtain ⟨fs, hret, hrun, hended, hW, hframe⟩ := X.leave (v := some (.int 1)) (hlocks := hlocks) (fun h => by rw [hr] at h; cases h)
  have hmeth' : T.vm.method? m = some meth := X.method'
  refine ⟨T.setFrames fs, ?_, .returned (some (.int 1)), hrun, hended, rfl, ⟨_, rfl⟩, hW, hframe⟩
  jvm_step X.here [X.here.top, hx, hb, hdg, hmeth', hr, ret, narrow_b1]
  (try refine ⟨rfl, ?_⟩); (try refine ⟨rfl, ?_⟩)
  first | (intro acts; rw [hret _ acts rfl rfl rfl]) | rw [hret _ _ rfl rfl rfl]
  exact Steps.refl _
/-- what holds at the law's entry: the machine, the code, the tables' words (any of lw_tbl by 'hts w (by decide +kernel)'), the script of L ints xs at the cell b, what the Statement gives of the start (any of its parts by flat_of_before) -/
def lw_At (p : Program) (s : State) (m : MethodId) (meth : Method) (c : Code) (b L : Nat) (xs : Nat → Int32) : Prop :=
  p.tables.exec = Jvm.exec ∧ c.code = code ∧ meth.sig.returnType = ret ∧ c.maxLocals = 4 ∧ s.vm.findClass R_law = some m.cls ∧ (∀ w ∈ lw_tbl, w.before #[Value.ref b] s = true) ∧ va_X b L xs s s.heap ∧ b < s.heap.size ∧ meth.locks = false ∧ (Jvm.Cond.and given_1 narrow_1).before #[Value.ref b] s = true
/-- the script and the row of kinds, as whole numbers -/
def st_sc (xs : Nat → Int32) (j : Int) : Int := if j < 0 then 0 else (xs j.toNat).toInt
def st_kd (j : Int) : Int := if j = 0 then -1 else if j = 3 then 1 else if j = 4 then 2 else 0
def st_rd (xs : Nat → Int32) : rx_St := fun c => if c = 159 then st_sc xs else if c = 160 then st_kd else fun _ => 0
theorem st_scN (xs : Nat → Int32) (j : Nat) : Int32.ofInt (st_rd xs 159 j) = xs j := by
  have e : st_rd xs 159 = st_sc xs := if_pos rfl
  rw [e]
  unfold st_sc
  rw [if_neg (by omega), Int.toNat_natCast, Int32.ofInt_toInt]
theorem st_rng (xs : Nat → Int32) (c : Nat) (j : Int) : rx_r (st_rd xs c j) := by
  unfold st_rd
  split
  · unfold st_sc
    split
    · exact nk_r0
    · have h1 := (xs j.toNat).le_toInt
      have h2 := (xs j.toNat).toInt_lt
      exact ⟨by omega, by omega⟩
  · split
    · unfold st_kd
      repeat' split
      all_goals exact ⟨by omega, by omega⟩
    · exact nk_r0
set_option maxHeartbeats 4000000 in
theorem whole_start {p : Program} {e : Env} {s : State} {m : MethodId} {below : List Frame} {meth : Method} {c : Code} (l : Launch) (hflags : l.flags = flags0) {b L : Nat} {xs : Nat → Int32} (hL : L ≤ 384) (C0 : lw_At p s m meth c b L xs) : W p l e room_1 s m #[Value.ref b] below meth c s.heap [] 0 0 (lw_Z below #[Value.ref b] s) (entryFrame m ([Value.ref b] : List Value).toArray 4) := by
  obtain ⟨hx, hb, hr, hml, hown, hts, hX, hbl, hlocks, hgv⟩ := C0
  have htsA := st_all hts
  have hab : st_rd xs 160 0 = -1 ∧ st_rd xs 160 1 = 0 ∧ st_rd xs 160 2 = 0 ∧ st_rd xs 160 3 = 1 ∧ st_rd xs 160 4 = 2 ∧ st_rd xs 160 5 = 0 := ⟨rfl, rfl, rfl, rfl, rfl, rfl⟩
  obtain ⟨D, cA, hEn⟩ := st_env hts
  obtain ⟨ad0, adV, h0, hRo⟩ := st_ro (ro := st_rd xs) hts hX hbl hgv (st_scN xs) hab
  have hXn : nk_X D cA s.heap.size p room_1 s m #[Value.ref b] meth c (nk_mi 12) 6 :=
    ⟨hx, hb, hml, hown, htsA, ⟨Nat.le_of_ble_eq_true rfl, Nat.le_of_ble_eq_true rfl, Nat.le_of_ble_eq_true rfl, Nat.le_of_ble_eq_true rfl⟩, hEn, fun h => absurd h (by decide), Nat.le_refl _⟩
  have hrun := nk_run (D := D) (cA := cA) (N0 := s.heap.size) (l := l) nf_all nk_OK 2000 6 12 0 _ _ _ _ _ _ nk_made
  have hLs := nk_entL (ad := ad0) (nL := 4) (o := 159) (by decide)
  have ev : ([.inr 159] : List rx_V).map (rx_ev ad0) = [Value.ref b] := by
    show [Value.ref (ad0 159)] = _
    rw [h0]
  rw [ev] at hLs
  rw [lg_entry_eq]
  refine hrun p e room_1 s m #[Value.ref b] below meth c s.heap [] _ _ ad0 hXn ⟨hLs, fun k q h => (by cases h), ⟨fun i j p q h => (by cases h), fun k q h => (by cases h)⟩, va_S.rf⟩ ?_
  intro ad lsB H1 locs1 hag S1
  obtain ⟨hL1, hP1, hD1, hS1⟩ := S1
  have hP1 : va_P D vwCl (nk_H ad cA nk_G0) H1 := hP1
  have hD1 : va_D (nk_A s.heap.size) (nk_H ad cA nk_G0) := hD1
  rw [nk_world (ro := st_rd xs)] at hP1 hD1
  have hat : ∀ k, k < 159 → ∃ E, (rx_W ad cA (nk_sg (st_rd xs)))[k]? = some (ad k, E) := fun k hk => by
    have hs : rx_SH[k]? = some rx_SH[k] := List.getElem?_eq_getElem (by rw [rx_SHlen]; exact hk)
    exact ⟨_, rx_W_at hs⟩
  have hinj : ∀ i j, i < 159 → j < 159 → ad i = ad j → i = j := fun i j hi hj h => by
    obtain ⟨E, h1⟩ := hat i hi
    obtain ⟨E', h2⟩ := hat j hj
    exact hD1.1 i j _ _ h1 h2 h
  have hge : ∀ q, rx_A ad q → s.heap.size ≤ q := fun q hq => by
    obtain ⟨k, hk, rfl⟩ := hq
    obtain ⟨E, h1⟩ := hat k hk
    exact hD1.2 k _ h1
  refine va_forget (fun q hq => hS1.2.2 q hq) ?_
  refine W.widen (k := 600000) (n := 7302250) (Nat.le_of_ble_eq_true rfl) (Nat.le_of_ble_eq_true rfl) ?_
  have hInv : Inv (st_rd xs 159) (nk_sg (st_rd xs)) := nk_inv rfl (st_rng xs 159) hab
  obtain ⟨n, r, σ1, he, v, hv, hv1⟩ := lw_loop (L := L) (d := 0) (S := st_rd xs 159) (K := fun v _ => v = 1) hL (fun _ => rfl) (fun V T σ Q h hQ => o_text h hQ) 64 0 (nk_sg (st_rd xs)) (by omega) (by omega) hInv
  have hv1 : v = 1 := hv1
  subst hv1
  subst hv
  have hXr : rx_X D ad adV cA L (st_rd xs) p room_1 s m #[Value.ref b] c 600000 7302250 mL_law (0 + 200 + 1) :=
    ⟨hx, hb, hml, hown, htsA, ⟨Nat.le_of_ble_eq_true rfl, Nat.le_of_ble_eq_true rfl, Nat.le_of_ble_eq_true rfl, Nat.le_of_ble_eq_true rfl⟩, hEn.1, hRo.to (fun k hk => hag k (Or.inr hk)) hge, hL, hinj⟩
  have hokl : rx_okl nk_la0 := by
    intro v hv
    simp only [nk_la0, List.mem_cons, List.not_mem_nil, or_false, Option.some.injEq] at hv
    rcases hv with rfl | rfl | rfl | rfl
    · trivial
    · trivial
    · trivial
    · exact nk_r0
  refine rx_run (D := D) (ad := ad) (adV := adV) (cA := cA) (L := L) (ro := st_rd xs) (l := l) rf_all rx_OK rx_S26 rx_S27 n (0 + 200 + 1) mL_law 18 _ [] _ _ σ1 he p e room_1 s m #[Value.ref b] below meth c H1 [] 600000 7302250 _ lsB hXr ⟨hL1, hokl, fun v h => (by cases h), ⟨nk_rng (st_rng xs), fun k hk => nk_hi hk, hP1⟩, hS1.1, fun q hq _ => hS1.2.1 q hq (Nat.not_le.mpr hq), fun l h => (by cases h)⟩ ?_
  intro pcR lsC laR stR H2 locs2 i hi hret S2
  rcases hret with ⟨h29, v, hst, hv, -⟩ | ⟨-, -, hn⟩
  · cases hv
    have hok := rx_OK _ _ _ hi
    obtain ⟨op, nx, a, b1, c1, sw⟩ := i
    have h29 : op = 29 := h29
    subst h29
    simp only [rx_ok, Bool.and_eq_true, decide_eq_true_eq] at hok
    have hd : decode code pcR = .ok (.ireturn, 1) := hok.1
    refine va_forget (fun q hq => hge _ (S2.2.2.2.2.2.2 q hq)) ?_
    rw [hst]
    have e1 : ([.inl 1] : List rx_V).map (rx_ev ad) = [.int 1] := by
      show [Value.int (Int32.ofInt 1)] = _
      rw [show Int32.ofInt 1 = 1 from by decide]
    rw [e1]
    exact lw_ret hx hb hr hlocks hd
  · cases hn
set_option maxHeartbeats 4000000 in
theorem lw_walk (l : Launch) (hflags : l.flags = flags0) (b : Addr) (xs : List Int32) : MetFree l x (headSpec (Jvm.Cond.code x code maxLocals ret :: tables_1) room_1) (lw_P b xs) (fun _ _ _ _ _ => True) lw_Q := by
  refine MetFree.of_bodyS (code := code) (maxLocals := maxLocals) (ret := ret) (by decide) ?_ ?_
  · intro args s m h hn
    obtain ⟨meth, c, h1, h2, h3, h4, h5, h6, -, -⟩ := Cond.code_spec hn (atoms_spec (ws := Jvm.Cond.code x code maxLocals ret :: tables_1) h _ List.mem_cons_self)
    exact ⟨meth, c, h1, h2, h3, h4, h5, h6⟩
  · intro p e s m args below meth c s₁ B hml0 hP _
    obtain ⟨rfl, hx, hbd, hgv⟩ := hP
    obtain ⟨scr, harrAt, hlist, hof, hsmall⟩ := hx
    obtain ⟨hcb, hkn, -, -⟩ := State.arrayAt?_spec harrAt
    have hown : s.vm.findClass R_law = some m.cls := findClass_of_methodNamed B.named
    have hts0 : ∀ c ∈ (Jvm.Cond.code x code maxLocals ret :: tables_1), c.before #[Value.ref b] s = true := atoms_spec (ws := Jvm.Cond.code x code maxLocals ret :: tables_1) B.pre
    have hts : ∀ w ∈ lw_tbl, w.before #[Value.ref b] s = true := k2_hts_sels lw_privs (fun w hw => hts0 w (List.mem_cons_of_mem _ hw)) lw_privs_ok
    have hml : c.maxLocals = 4 := B.maxLocals_eq (hts0 _ List.mem_cons_self)
    have X₀ : Stand p l e room_1 s m #[Value.ref b] below meth c s₁ [] 0 0 := Stand.of_body B
    have hh0 : s₁.heap = s.heap := by rw [B.state]; rfl
    have hsz : scr.slots.size = xs.length := by rw [← Array.length_toList, hlist, List.length_map]
    have hval : ∀ j : Nat, j < xs.length → scr.slots[j]? = some (.int (xs.getD j 0)) := fun j hj => by
      rw [← Array.getElem?_toList, hlist]
      simp [hj]
    have hbl : b < s.heap.size := (Array.getElem?_eq_some_iff.mp hcb).1
    have hX : va_X b xs.length (fun j => xs.getD j 0) s s.heap := ⟨scr, hcb, hof, hkn, hsz, hval⟩
    have K : W p l e room_1 s m #[Value.ref b] below meth c s₁.heap [] 0 0 (lw_Z below #[Value.ref b] s) (entryFrame m ([Value.ref b] : List Value).toArray 4) := by
      rw [hh0]
      exact whole_start l hflags hbd ⟨B.exec, B.bytes, B.returns, hml, hown, hts, hX, hbl, B.notSynchronized, hgv⟩
    obtain ⟨t, a1, o, b1, b2, b3⟩ := K s₁ rfl X₀
    exact ⟨t, o, a1, b1, b2, b3⟩
theorem lw_pre_spec {args : Array Value} {s : State} (h : (Jvm.Cond.and given_1 narrow_1).before args s = true) (hr : rest_1_c.before args s = true) : ∃ (b : Addr) (xs : List Int32), lw_P b xs args s := by
  have hs := flat_of_before _ h
  have hq := flat_of_before _ hr
  have hc : (Cond.count 1).before args s = true := hs _ (by decide +kernel)
  have harr : (Cond.arrayOf (.arg 0) .int).before args s = true := hs _ (by decide +kernel)
  have hle : (Cond.le (.length (.arg 0)) (.int 384)).before args s = true := hs _ (by decide +kernel)
  have hlen : (Cond.isInt (.length (.arg 0))).before args s = true := hq _ (by decide +kernel)
  have hall : (Cond.all (.arg 0) (.isInt (.elem (.arg 0) (.index 0)))).before args s = true := hq _ (by decide +kernel)
  obtain ⟨b, xs, hb, hx⟩ := State.ints_of_pre rfl harr hlen hall
  have hsm : xs.length < 2 ^ 31 := hx.choose_spec.2.2.2
  have hev : (Term.length (.arg 0)).eval args s none [] s = some (.int xs.length.toInt32) := hx.length_eval hb
  have hv := Cond.le_ints hev (show (Term.int 384).eval args s none [] s = some (.int 384) from rfl)
  have hd : xs.length.toInt32 ≤ 384 := by
    simpa [Cond.before, Cond.holds, hv] using hle
  have hN : xs.length ≤ 384 := (Int32.ofNat_le_ofNat hsm (by decide)).mp (show Int32.ofNat xs.length ≤ Int32.ofNat 384 from hd)
  exact ⟨b, xs, Cond.one_arg hc (show args[0]? = some (.ref b) from hb), hx, hN, h⟩
theorem lw_comes (l : Launch) (hflags : l.flags = flags0) : Comes l x (Jvm.Cond.code x code maxLocals ret :: tables_1) room_1 (fun tb e args s => Calls_1 tb e args s ∧ rest_1 tb e args s ∧ Pre_1 tb e args s)
    (fun _ _ args s o t => lw_Q args s o t) := by
  intro p e ha hc hk s m args below hf hfit hheap happ hpre
  obtain ⟨b, xs, hP⟩ := lw_pre_spec hpre.2.2 hpre.2.1
  obtain ⟨k, o, h1, h2, h3, hQ⟩ := lw_walk l hflags b xs p e ha hc hk s m args below hf ((Spec.applies_iff_loose hf).mp happ).1 hP trivial
  exact ⟨k, o, h1, h2, h3, hQ⟩
theorem lw_frame {s t : State} {o : Outcome} {args : Array Value} (h : Framed s o t [] 600000 7302250) :
    Framed s o t (fieldLocs frame_1_writes args s ++ arrayLocs frame_1_arrays args s ++ staticLocs frame_1_statics s) 600000 7302250 := h
theorem lw_limb (L : Cond) (hL : ∀ (args : Array Value) (s t : State), L.after args s (.returned (some (.int 1))) t = true) :
    ArmFor flags0 classFile x code maxLocals ret World_1 tables_1 room_1 Calls_1 rest_1 Pre_1
      (fun tb e a s o t => postC L tb e a s o t ∧ Framed s o t (fieldLocs frame_1_writes a s ++ arrayLocs frame_1_arrays a s ++ staticLocs frame_1_statics s) 600000 7302250) := by
  intro l hflags _ _ p e ha hc hk s m args below hf hfit hheap happ hpre
  obtain ⟨k, o, h1, h2, h3, rfl, hF⟩ := lw_comes l hflags p e ha hc hk s m args below hf hfit hheap happ hpre
  exact ⟨k, _, h1, h2, h3, hL args s _, lw_frame hF⟩
theorem i_vc : Claimed_1_1 ∧ Claimed_1_2 := ⟨lw_limb limb_1_1 (fun args s t => by simp [limb_1_1, Cond.after, Cond.holds, Cond.value]), lw_limb limb_1_2 (fun args s t => Cond.after_iff.mpr (by
  first | (rw [show limb_1_2 = Cond.eq .result (.int 1) from rfl, Cond.eq_ints (x := 1) (y := 1) rfl rfl]; simp; done) | (simp [limb_1_2, Cond.value, Term.eval]; done)))⟩
