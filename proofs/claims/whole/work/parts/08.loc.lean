/-! The variables and the stack; the context of a method; what a step asks -/
def rx_encl (ad : Nat → Nat) (la : List (Option rx_V)) : List (Nat × Value) := (la.mapIdx (fun i o => o.map (fun v => (i, rx_ev ad v)))).filterMap id
theorem rx_encl_mem {ad : Nat → Nat} {la : List (Option rx_V)} {q : Nat × Value} : q ∈ rx_encl ad la ↔ ∃ v, la[q.1]? = some (some v) ∧ q.2 = rx_ev ad v := by
  unfold rx_encl
  rw [List.mem_filterMap]
  constructor
  · rintro ⟨o, ho, h⟩
    simp only [id] at h
    subst h
    obtain ⟨i, hi⟩ := List.getElem?_of_mem ho
    rw [List.getElem?_mapIdx] at hi
    cases hl : la[i]? with
    | none => rw [hl] at hi; cases hi
    | some x =>
      rw [hl] at hi
      cases x with
      | none => cases hi
      | some v =>
        cases hi
        exact ⟨v, hl, rfl⟩
  · rintro ⟨v, h1, h2⟩
    refine ⟨some q, ?_, rfl⟩
    apply List.mem_of_getElem? (i := q.1)
    rw [List.getElem?_mapIdx, h1]
    show some (some (q.1, rx_ev ad v)) = _
    rw [← h2]
theorem rx_ev_cat (ad : Nat → Nat) (v : rx_V) : (rx_ev ad v).category = 1 := by
  cases v <;> rfl
def rx_L (ad : Nat → Nat) (lsA : Array Slot) (nL : Nat) (la : List (Option rx_V)) : Prop := lv_has lsA nL (rx_encl ad la) ∧ la.length = nL
theorem rx_L.at {ad : Nat → Nat} {lsA : Array Slot} {nL : Nat} {la : List (Option rx_V)} (h : rx_L ad lsA nL la) {b : Nat} {v : rx_V} (hv : la[b]? = some (some v)) : lsA[b]? = some (.val (rx_ev ad v)) :=
  h.1.2.2 (b, rx_ev ad v) (rx_encl_mem.mpr ⟨v, hv, rfl⟩)
theorem rx_L.set {ad : Nat → Nat} {lsA lsB : Array Slot} {nL : Nat} {la : List (Option rx_V)} (h : rx_L ad lsA nL la) {b : Nat} {v : rx_V} (hb : b < la.length)
    (h2 : lv_has lsB nL ((b, rx_ev ad v) :: (rx_encl ad la).filter (fun q => !(q.1 == b) && !(q.1 + 1 == b && q.2.category == 2)))) : rx_L ad lsB nL (la.set b (some v)) := by
  refine ⟨⟨h2.1, h2.2.1, fun q hq => h2.2.2 q ?_⟩, by rw [List.length_set]; exact h.2⟩
  obtain ⟨w, h3, h4⟩ := rx_encl_mem.mp hq
  rw [List.getElem?_set] at h3
  by_cases e : b = q.1
  · rw [if_pos e, if_pos hb] at h3
    cases h3
    refine List.mem_cons.mpr (Or.inl ?_)
    exact Prod.ext e.symm h4
  · rw [if_neg e] at h3
    refine List.mem_cons.mpr (Or.inr (List.mem_filter.mpr ⟨rx_encl_mem.mpr ⟨w, h3, h4⟩, ?_⟩))
    rw [h4, rx_ev_cat]
    simp [Ne.symm e]
def rx_okl (la : List (Option rx_V)) : Prop := ∀ v, some v ∈ la → rx_okv v
theorem rx_okl.set {la : List (Option rx_V)} (h : rx_okl la) {b : Nat} {v : rx_V} (hv : rx_okv v) : rx_okl (la.set b (some v)) := by
  intro w hw
  rcases List.mem_or_eq_of_mem_set hw with h1 | h1
  · exact h w h1
  · cases h1
    exact hv
theorem rx_okl.at {la : List (Option rx_V)} (h : rx_okl la) {b : Nat} {v : rx_V} (hv : la[b]? = some (some v)) : rx_okv v := h v (List.mem_of_getElem? hv)
def rx_oks (st : List rx_V) : Prop := ∀ v ∈ st, rx_okv v
theorem rx_oks.cons {st : List rx_V} (h : rx_oks st) {v : rx_V} (hv : rx_okv v) : rx_oks (v :: st) := fun w hw => (List.mem_cons.mp hw).elim (fun e => e ▸ hv) (h w)
theorem rx_oks.tl {st : List rx_V} {v : rx_V} (h : rx_oks (v :: st)) : rx_oks st := fun w hw => h w (List.mem_cons_of_mem _ hw)
theorem rx_oks.hd {st : List rx_V} {v : rx_V} (h : rx_oks (v :: st)) : rx_okv v := h v List.mem_cons_self
/-- where a method stands, as the machine has it -/
def rx_S (D : va_G) (ad : Nat → Nat) (cA : Nat → ClassId) (ro : rx_St) (s : State) (nL : Nat) (la : List (Option rx_V)) (st : List rx_V) (σ : rx_St) (lsA : Array Slot) (H : Heap) (locs : List Loc) : Prop :=
  rx_L ad lsA nL la ∧ rx_okl la ∧ rx_oks st ∧ rx_Hp D ad cA ro σ H ∧ va_S (rx_A ad) s.heap H locs
/-- what holds throughout a method -/
def rx_X (D : va_G) (ad adV : Nat → Nat) (cA : Nat → ClassId) (L : Nat) (ro : rx_St) (p : Program) (R : Room) (s : State) (m : MethodId) (args : Array Value) (c : Code) (cells slots mi d : Nat) : Prop :=
  p.tables.exec = Jvm.exec ∧ c.code = (rx_mi mi).2.1 ∧ c.maxLocals = (rx_mi mi).2.2.1 ∧ s.vm.findClass (rx_cn (rx_mi mi).2.2.2.2) = some m.cls ∧ (∀ w ∈ rx_all, w.before args s = true) ∧ (d + 8 ≤ R.frames ∧ 64 * (d + 8) ≤ R.locals ∧ cells ≤ R.cells ∧ slots ≤ R.slots) ∧ rx_Env D cA s ∧ rx_Ro ad adV L ro s s.heap ∧ L ≤ 384 ∧ ∀ i j, i < 159 → j < 159 → ad i = ad j → i = j
def rx_hn (k : Nat) : MethodName := match k with
  | 0 => Lib.Math.max.name
  | 1 => Lib.Math.min.name
  | _ => Lib.Math.abs.name
/-- what a program has checked of the tables: links, classes, methods, shapes -/
def rx_Facts : Prop :=
  (∀ q ∈ rx_FL, Cond.fieldLink (rx_cn q.1) q.2.1 ((rx_cl q.2.2.1).2.1 q.2.2.2).1 ((rx_cl q.2.2.1).2.1 q.2.2.2).2.1 ((rx_cl q.2.2.1).2.1 q.2.2.2).2.2.1 ∈ rx_all) ∧
  (∀ q ∈ rx_KL, Cond.constant (rx_cn q.1) q.2.1 (Int32.ofInt q.2.2) ∈ rx_all) ∧
  (∀ ci, ci < 12 → (∀ w ∈ u_ws (rx_cl ci).1 (rx_cl ci).2.1 (rx_cl ci).2.2, w ∈ rx_all) ∧ (∃ ty0 : Nat → FieldType, ∀ k, k < (rx_cl ci).2.2 → parseFieldDescriptor ((rx_cl ci).2.1 k).2.2.1 = some (ty0 k)) ∧ ∀ a, a < (rx_cl ci).2.2 → ∀ b, b < (rx_cl ci).2.2 → a ≠ b → ((rx_cl ci).2.1 a).2.1 ≠ ((rx_cl ci).2.1 b).2.1) ∧
  (∀ q ∈ rx_wI, parseFieldDescriptor ((rx_cl q.1).2.1 q.2).2.2.1 = some .int ∧ ((rx_cl q.1).2.1 q.2).2.2.2 = false) ∧
  (∀ q ∈ rx_wZ, parseFieldDescriptor ((rx_cl q.1).2.1 q.2).2.2.1 = some .boolean ∧ ((rx_cl q.1).2.1 q.2).2.2.2 = false) ∧
  (∀ q ∈ rx_AL, Cond.methodLink (rx_cn q.1) q.2 arraycopyName ∈ rx_all) ∧
  (Cond.native arraycopyName ∈ rx_all ∧ Cond.static arraycopyName ∈ rx_all ∧ Cond.initialized "java/lang/System" ∈ rx_all ∧ Cond.fieldLink (rx_cn 10) 385 "RoadsCrossed" "ABOVE" "[I" ∈ rx_all) ∧
  ((∀ q ∈ rx_HL, Cond.methodLink (rx_cn q.1) q.2.1 (rx_hn q.2.2) ∈ rx_all) ∧ (∀ k, k < 3 → Cond.static (rx_hn k) ∈ rx_all) ∧ Cond.initialized "java/lang/Math" ∈ rx_all ∧ Cond.code Lib.Math.max.name Lib.Math.max.code 2 (some .int) ∈ rx_all ∧ Cond.code Lib.Math.min.name Lib.Math.min.code 2 (some .int) ∈ rx_all ∧ Cond.code Lib.Math.abs.name Lib.Math.abs.code 1 (some .int) ∈ rx_all) ∧
  (∀ q ∈ rx_ML, (q.2.2.2 = 1 → Cond.methodLinkNest (rx_cn q.1) q.2.1 (rx_mi q.2.2.1).1 "RoadsCrossed" ∈ rx_nest) ∧ (q.2.2.2 ≠ 1 → Cond.methodLink (rx_cn q.1) q.2.1 (rx_mi q.2.2.1).1 ∈ rx_all)) ∧
  (∀ y, 0 < y → y < 247 → plainName (rx_mi y).1.cls = true ∧ (rx_mi y).1.cls ≠ "java/lang/invoke/MethodHandle" ∧ (rx_mi y).1.cls ≠ "java/lang/invoke/VarHandle" ∧ Cond.code (rx_mi y).1 (rx_mi y).2.1 (rx_mi y).2.2.1 (rx_mi y).2.2.2.1 ∈ rx_all ∧ (rx_mi y).2.2.1 ≤ 40 ∧ Cond.initialized (rx_mi y).1.cls ∈ rx_all ∧ (rx_mi y).1.cls = rx_cn (rx_mi y).2.2.2.2 ∧
    (∀ n, rx_np[y]? = some (n, true) → Cond.static (rx_mi y).1 ∈ rx_all ∧ (parseMethodDescriptor (rx_mi y).1.desc).map (fun d => d.parameters.length) = some n ∧ n ≤ (rx_mi y).2.2.1) ∧
    (∀ n, rx_np[y]? = some (n, false) → Cond.instanceMethod (rx_mi y).1 ∈ rx_all ∧ Cond.selects (rx_mi y).1.cls (rx_mi y).1 (rx_mi y).1 ∈ rx_all ∧ (parseMethodDescriptor (rx_mi y).1.desc).map (fun d => d.parameters.length + 1) = some n ∧ n ≤ (rx_mi y).2.2.1 ∧ (rx_mi y).2.2.2.2 < 12 ∧ (rx_cl (rx_mi y).2.2.2.2).1 = (rx_mi y).1.cls))
theorem rx_vw {b : Nat} (h : b < vwCl.length) : vwCl[b]? = some (rx_cl b) := by
  unfold rx_cl
  rw [List.getD_eq_getElem?_getD, List.getElem?_eq_getElem h]
  rfl
theorem rx_cl12 : vwCl.length = 12 := rfl
theorem rx_okP {M : rx_M} {pc op nx : Nat} {a : Int} {b c : Nat} {sw : List (Int × Nat)} (h : rx_ok M pc (op, nx, a, b, c, sw) = true) : rx_ok M pc (op, nx, a, b, c, sw) = true := h
theorem rx_sw_tab : ∀ (sw : List (Int × Nat)) (lo x : Int) (d : Nat), sw.map (fun q => q.1) = (List.range sw.length).map (fun (j : Nat) => lo + (j : Int)) → (x < lo ∨ lo + sw.length ≤ x → rx_sw sw x d = d) ∧ (lo ≤ x → x < lo + sw.length → (sw.map (fun q => (q.2 : Int)))[(x - lo).toNat]? = some ((rx_sw sw x d : Nat) : Int))
  | [], lo, x, d, _ => ⟨fun _ => rfl, fun h1 h2 => by simp at h2; omega⟩
  | q :: sw, lo, x, d, h => by
    rw [List.length_cons, List.range_succ_eq_map, List.map_cons, List.map_cons, List.map_map] at h
    have h0 : q.1 = lo := by
      have := (List.cons.inj h).1
      simpa using this
    have h1 : sw.map (fun q => q.1) = (List.range sw.length).map (fun (j : Nat) => (lo + 1) + (j : Int)) := by
      rw [(List.cons.inj h).2]
      apply List.map_congr_left
      intro j _
      simp only [Function.comp]
      omega
    obtain ⟨i1, i2⟩ := rx_sw_tab sw (lo + 1) x d h1
    rw [List.length_cons]
    refine ⟨fun hx => ?_, fun hx1 hx2 => ?_⟩
    · show (if x = q.1 then q.2 else rx_sw sw x d) = d
      rw [if_neg (by omega)]
      exact i1 (by omega)
    · show _ = some (((if x = q.1 then q.2 else rx_sw sw x d : Nat)) : Int)
      by_cases e : x = q.1
      · rw [if_pos e, show (x - lo).toNat = 0 by omega]
        rfl
      · rw [if_neg e, show (x - lo).toNat = (x - (lo + 1)).toNat + 1 by omega]
        exact i2 (by omega) (by omega)
theorem rx_sw_look : ∀ (ps : List (Int × Int)) (sw : List (Int × Nat)) (pc : Nat) (df x : Int) (d : Nat), ps.map (fun q => (q.1, (pc : Int) + q.2)) = sw.map (fun q => (q.1, (q.2 : Int))) → (pc : Int) + df = d → (pc : Int) + Op.lookupswitch.offset ps df x = (rx_sw sw x d : Nat)
  | [], [], pc, df, x, d, _, h => h
  | [], q :: sw, pc, df, x, d, h, _ => by cases h
  | r :: ps, [], pc, df, x, d, h, _ => by cases h
  | r :: ps, q :: sw, pc, df, x, d, h, hd => by
    obtain ⟨h1, h2⟩ := List.cons.inj h
    have h3 := Prod.mk.inj h1
    have ih := rx_sw_look ps sw pc df x d h2 hd
    obtain ⟨ra, ro⟩ := r
    rw [Op.lookupswitch.offset_cons]
    show _ = ((if x = q.1 then q.2 else rx_sw sw x d : Nat) : Int)
    by_cases e : ra = x
    · rw [if_pos e, if_pos (by rw [← e]; exact h3.1)]
      exact h3.2
    · rw [if_neg e, if_neg (fun g => e (by rw [g]; exact h3.1))]
      exact ih
