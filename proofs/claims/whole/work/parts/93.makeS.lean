/-! ===== the machine that makes cells: what is asked of an instruction, its steps ===== -/
/-- links by numbers, by a program of mine: fields (whose pool, which entry, of which class, which), classes that are made, classes of rows of rows, Object's constructor, constructors (.., of which class, 1: a nest mate's) -/
def nk_FL : List (Nat × Nat × Nat × Nat) := [(0, 12, 0, 0), (0, 18, 0, 1), (0, 24, 0, 2), (1, 9, 1, 0), (1, 15, 1, 1), (1, 19, 1, 2), (1, 22, 1, 3), (1, 25, 1, 4), (1, 28, 1, 5), (1, 31, 1, 6), (1, 34, 1, 7), (1, 37, 1, 8), (1, 40, 1, 9), (1, 43, 1, 10), (1, 46, 1, 11), (1, 49, 1, 12), (1, 52, 1, 13), (2, 9, 2, 0), (2, 15, 2, 1), (2, 18, 2, 2), (2, 23, 2, 3), (2, 26, 2, 4), (3, 9, 3, 0), (3, 15, 3, 1), (3, 19, 3, 2), (3, 22, 3, 3), (3, 25, 3, 4), (3, 30, 3, 5), (4, 9, 4, 0), (4, 15, 4, 1), (4, 18, 4, 2), (4, 21, 4, 3), (5, 9, 5, 0), (5, 15, 5, 1), (5, 18, 5, 2), (5, 21, 5, 3), (5, 24, 5, 4), (5, 28, 5, 5), (5, 31, 5, 6), (5, 34, 5, 7), (5, 37, 5, 8), (5, 40, 5, 9), (6, 9, 6, 0), (6, 15, 6, 1), (6, 19, 6, 2), (6, 22, 6, 3), (6, 25, 6, 4), (7, 9, 7, 0), (7, 15, 7, 1), (7, 18, 7, 2), (8, 9, 8, 0), (8, 15, 8, 1), (8, 18, 8, 2), (8, 24, 8, 3), (8, 28, 8, 4), (9, 9, 9, 0), (9, 15, 9, 1), (9, 18, 9, 2), (10, 12, 10, 0), (10, 18, 10, 1), (10, 21, 10, 2), (10, 24, 10, 3), (10, 31, 10, 4), (10, 38, 10, 5), (10, 45, 10, 6), (10, 52, 10, 7), (10, 59, 10, 8), (10, 66, 10, 9), (10, 72, 10, 10), (10, 78, 10, 11), (10, 82, 10, 12), (10, 86, 10, 13), (11, 9, 11, 0), (11, 13, 11, 1), (11, 16, 11, 2), (11, 19, 11, 4), (11, 22, 11, 5), (11, 25, 11, 6), (11, 28, 11, 9), (11, 32, 11, 10), (11, 35, 11, 11), (11, 38, 11, 12), (11, 41, 11, 13), (11, 44, 11, 14), (11, 47, 11, 15), (11, 50, 11, 17), (11, 53, 11, 18), (11, 56, 11, 19), (11, 59, 11, 21), (11, 62, 11, 29), (11, 66, 11, 30), (11, 69, 11, 31), (11, 72, 11, 34), (11, 75, 11, 36), (11, 78, 11, 37), (11, 81, 11, 38), (11, 84, 11, 39), (11, 87, 11, 40), (11, 90, 11, 41), (11, 93, 11, 42), (11, 96, 11, 43), (11, 99, 11, 44), (11, 102, 11, 45), (11, 105, 11, 46), (11, 108, 11, 47)]
def nk_CL : List (Nat × Nat × Nat) := [(0, 9, 2), (8, 21, 7), (10, 9, 1), (10, 28, 5), (10, 35, 0), (10, 42, 9), (10, 49, 4), (10, 56, 3), (10, 63, 6), (10, 70, 7), (10, 76, 8), (12, 7, 10), (12, 10, 11)]
def nk_XL : List (Nat × Nat) := [(0, 22), (2, 21), (3, 28)]
def nk_OL : List (Nat × Nat) := [(0, 3), (1, 3), (2, 3), (3, 3), (4, 3), (5, 3), (6, 3), (7, 3), (8, 3), (9, 3), (10, 3), (11, 1)]
def nk_IL : List (Nat × Nat × Nat × Nat) := [(0, 11, 2, 1), (8, 23, 7, 1), (10, 11, 1, 1), (10, 30, 5, 1), (10, 37, 0, 1), (10, 44, 9, 1), (10, 51, 4, 1), (10, 58, 3, 1), (10, 65, 6, 1), (10, 90, 7, 1), (10, 91, 8, 1), (12, 9, 10, 0), (12, 12, 11, 0)]
def nk_ms : List nk_M := [(yX0_init, cX0_init, 1, 0, 40, 1861), (yX1_init, cX1_init, 1, 1, 10, 130), (yX2_init, cX2_init, 1, 2, 19, 1496), (yX3_init, cX3_init, 1, 3, 11, 88), (yX4_init, cX4_init, 1, 4, 3, 54), (yX5_init, cX5_init, 1, 5, 2, 192), (yX6_init, cX6_init, 1, 6, 3, 15), (yX7_init, cX7_init, 1, 7, 1, 24), (yX8_init, cX8_init, 1, 8, 2, 27), (yX9_init, cX9_init, 1, 9, 0, 0), (yX10_init, cX10_init, 2, 10, 124, 3010), (yX11_init, cX11_init, 1, 11, 33, 5684), (yL_law, cL_law, 4, 12, 159, 8757)]
def nk_mi (m : Nat) : nk_M := nk_ms.getD m (yL_law, cL_law, 0, 0, 0, 0)
def nk_ok (M : nk_M) (pc : Nat) (i : rx_I) : Bool := match i with
  | (op, nx, a, b, c, sw) => match op with
    | 1 => (match b with
      | 0 => decide (decode M.2.1 pc = .ok (.iconst a, 1)) && decide (nx = pc + 1)
      | 1 => decide (decode M.2.1 pc = .ok (.bipush a, 2)) && decide (nx = pc + 2) && decide ((Int8.ofInt a).toInt32 = Int32.ofInt a)
      | _ => decide (decode M.2.1 pc = .ok (.sipush a, 3)) && decide (nx = pc + 3) && decide ((Int16.ofInt a).toInt32 = Int32.ofInt a))
    | 2 => decide (decode M.2.1 pc = .ok (.iload_n (Fin.ofNat 4 b), 1)) && decide (nx = pc + 1) && decide (b < 4)
    | 3 => decide (decode M.2.1 pc = .ok (.aload_n (Fin.ofNat 4 b), 1)) && decide (nx = pc + 1) && decide (b < 4)
    | 4 => decide (decode M.2.1 pc = .ok (.istore_n (Fin.ofNat 4 b), 1)) && decide (nx = pc + 1) && decide (b < 4)
    | 5 => decide (decode M.2.1 pc = .ok (.astore_n (Fin.ofNat 4 b), 1)) && decide (nx = pc + 1) && decide (b < 4)
    | 6 => decide (decode M.2.1 pc = .ok (.iinc b a, 3)) && decide (nx = pc + 3)
    | 10 => decide (decode M.2.1 pc = .ok (.dup, 1)) && decide (nx = pc + 1)
    | 14 => decide (decode M.2.1 pc = .ok (.if_icmp .ge a, 3)) && decide (nx = pc + 3) && decide ((pc : Int) + a = c)
    | 15 => decide (decode M.2.1 pc = .ok (.goto a, 3)) && decide ((pc : Int) + a = c)
    | 18 => decide (decode M.2.1 pc = .ok (.getfield (rx_hd sw 0).1.toNat, 3)) && decide (nx = pc + 3) && decide (b < vwCl.length) && decide (c < (rx_cl b).2.2) && decide ((M.2.2.2.1, (rx_hd sw 0).1.toNat, b, c) ∈ nk_FL)
    | 19 => decide (decode M.2.1 pc = .ok (.putfield (rx_hd sw 0).1.toNat, 3)) && decide (nx = pc + 3) && decide (b < vwCl.length) && decide (c < (rx_cl b).2.2) && decide ((M.2.2.2.1, (rx_hd sw 0).1.toNat, b, c) ∈ nk_FL) && decide (((rx_cl b).2.1 c).2.2.2 = false) && (if a = 0 then decide (parseFieldDescriptor ((rx_cl b).2.1 c).2.2.1 = some .int) else decide (parseFieldDescriptor ((rx_cl b).2.1 c).2.2.1 = some .boolean))
    | 20 => decide (decode M.2.1 pc = .ok (.putfield (rx_hd sw 0).1.toNat, 3)) && decide (nx = pc + 3) && decide (b < vwCl.length) && decide (c < (rx_cl b).2.2) && decide ((M.2.2.2.1, (rx_hd sw 0).1.toNat, b, c) ∈ nk_FL) && decide (((rx_cl b).2.1 c).2.2.2 = true) && decide ((parseFieldDescriptor ((rx_cl b).2.1 c).2.2.1).bind nk_ty = some false) && decide (((rx_cl b).2.1 c).1 = rx_cn M.2.2.2.1) && decide (M.2.2.2.1 < 12)
    | 21 => (if b = 0 then decide (decode M.2.1 pc = .ok (.iastore, 1)) else decide (decode M.2.1 pc = .ok (.castore, 1))) && decide (nx = pc + 1)
    | 33 => decide (decode M.2.1 pc = .ok (.new (rx_hd sw 0).1.toNat, 3)) && decide (nx = pc + 3) && decide (b < vwCl.length) && decide ((M.2.2.2.1, (rx_hd sw 0).1.toNat, b) ∈ nk_CL)
    | 34 => (match b with
      | 0 => decide (decode M.2.1 pc = .ok (.newarray .int, 2))
      | 1 => decide (decode M.2.1 pc = .ok (.newarray .boolean, 2))
      | 2 => decide (decode M.2.1 pc = .ok (.newarray .char, 2))
      | _ => false) && decide (nx = pc + 2)
    | 35 => decide (decode M.2.1 pc = .ok (.anewarray (rx_hd sw 0).1.toNat, 3)) && decide (nx = pc + 3) && decide (((M.2.2.2.1 = 10 ∧ (rx_hd sw 0).1.toNat = 70) ∧ b = 4) ∨ ((M.2.2.2.1 = 10 ∧ (rx_hd sw 0).1.toNat = 76) ∧ b = 5))
    | 36 => decide (decode M.2.1 pc = .ok (.multianewarray (rx_hd sw 0).1.toNat 2, 4)) && decide (nx = pc + 4) && decide ((M.2.2.2.1, (rx_hd sw 0).1.toNat) ∈ nk_XL)
    | 37 => decide (decode M.2.1 pc = .ok (.aastore, 1)) && decide (nx = pc + 1)
    | 38 => decide (decode M.2.1 pc = .ok (.invokespecial (rx_hd sw 0).1.toNat, 3)) && decide (nx = pc + 3) && decide ((M.2.2.2.1, (rx_hd sw 0).1.toNat) ∈ nk_OL)
    | 28 => decide (decode M.2.1 pc = .ok (.invokespecial (rx_hd sw 0).1.toNat, 3)) && decide (nx = pc + 3) && decide (b < 12) && (decide ((M.2.2.2.1, (rx_hd sw 0).1.toNat, b, 0) ∈ nk_IL) || decide ((M.2.2.2.1, (rx_hd sw 0).1.toNat, b, 1) ∈ nk_IL))
    | 30 => decide (decode M.2.1 pc = .ok (.return_, 1))
    | 39 => true
    | _ => false
/-- what a program has checked of the tables -/
def nk_Facts : Prop :=
  (∀ q ∈ nk_FL, Cond.fieldLink (rx_cn q.1) q.2.1 ((rx_cl q.2.2.1).2.1 q.2.2.2).1 ((rx_cl q.2.2.1).2.1 q.2.2.2).2.1 ((rx_cl q.2.2.1).2.1 q.2.2.2).2.2.1 ∈ rx_all) ∧
  (∀ q ∈ nk_CL, Cond.classLink (rx_cn q.1) q.2.1 (rx_cl q.2.2).1 ∈ rx_all) ∧
  (∀ ci, ci < 12 → Cond.instantiable (rx_cl ci).1 (rx_cl ci).2.2 ∈ rx_all ∧ Cond.initialized (rx_cl ci).1 ∈ rx_all ∧ (nk_df ci).length = (rx_cl ci).2.2 ∧ ∀ k, k < (rx_cl ci).2.2 → (parseFieldDescriptor ((rx_cl ci).2.1 k).2.2.1).bind nk_ty = some (decide ((nk_df ci)[k]? = some (some (.inl 0)))) ∧ ((nk_df ci)[k]? = some none ∨ (nk_df ci)[k]? = some (some (.inl 0)))) ∧
  (Cond.classLink (rx_cn 10) 70 "RoadsCrossed$Sheet" ∈ rx_all ∧ Cond.classLink (rx_cn 10) 76 "RoadsCrossed$Slot" ∈ rx_all) ∧
  (∀ q ∈ nk_XL, Cond.classLink (rx_cn q.1) q.2 "[[I" ∈ rx_all) ∧
  ((∀ q ∈ nk_OL, Cond.methodLink (rx_cn q.1) q.2 Lib.objectInit ∈ rx_all) ∧ Cond.instanceMethod Lib.objectInit ∈ rx_all ∧ Cond.code Lib.objectInit ⟨#[0xb1]⟩ 1 none ∈ rx_all) ∧
  (Cond.arrayClass .int ∈ rx_all ∧ Cond.arrayClass .boolean ∈ rx_all ∧ Cond.arrayClass .char ∈ rx_all) ∧
  (∀ q ∈ nk_IL, (q.2.2.2 = 1 → Cond.methodLinkNest (rx_cn q.1) q.2.1 (nk_mi q.2.2.1).1 "RoadsCrossed" ∈ nk_nest) ∧ (q.2.2.2 = 0 → Cond.methodLink (rx_cn q.1) q.2.1 (nk_mi q.2.2.1).1 ∈ rx_all)) ∧
  (∀ y, y < 12 → plainName (nk_mi y).1.cls = true ∧ (nk_mi y).1.cls ≠ "java/lang/invoke/MethodHandle" ∧ (nk_mi y).1.cls ≠ "java/lang/invoke/VarHandle" ∧ Cond.code (nk_mi y).1 (nk_mi y).2.1 (nk_mi y).2.2.1 none ∈ rx_all ∧ ((nk_mi y).2.2.1 ≤ 40 ∧ 1 ≤ (nk_mi y).2.2.1) ∧ Cond.initialized (nk_mi y).1.cls ∈ rx_all ∧ (nk_mi y).1.cls = rx_cn (nk_mi y).2.2.2.1 ∧ Cond.instanceMethod (nk_mi y).1 ∈ rx_all ∧ (nk_mi y).1.name = "<init>" ∧ (parseMethodDescriptor (nk_mi y).1.desc).map (fun d => d.parameters.length) = some 0)
def nk_X (D : va_G) (cA : Nat → ClassId) (N0 : Nat) (p : Program) (R : Room) (s : State) (m : MethodId) (args : Array Value) (meth : Method) (c : Code) (M : nk_M) (d : Nat) : Prop :=
  p.tables.exec = Jvm.exec ∧ c.code = M.2.1 ∧ c.maxLocals = M.2.2.1 ∧ s.vm.findClass (rx_cn M.2.2.2.1) = some m.cls ∧ (∀ w ∈ rx_all, w.before args s = true) ∧ (d + 8 ≤ R.frames ∧ 64 * (d + 8) ≤ R.locals ∧ M.2.2.2.2.1 ≤ R.cells ∧ M.2.2.2.2.2 ≤ R.slots) ∧ nk_Env D cA s ∧ (M.2.2.2.1 < 12 → meth.name = "<init>") ∧ N0 ≤ s.heap.size
def nk_S (D : va_G) (ad : Nat → Nat) (cA : Nat → ClassId) (N0 : Nat) (s : State) (nL : Nat) (la : List (Option rx_V)) (G : List nk_E) (lsA : Array Slot) (H : Heap) (locs : List Loc) : Prop :=
  rx_L ad lsA nL la ∧ va_P D vwCl (nk_H ad cA G) H ∧ va_D (nk_A N0) (nk_H ad cA G) ∧ va_S (nk_A N0) s.heap H locs
theorem nk_room_spec {G : List nk_E} {la : List (Option rx_V)} {st : List rx_V} {x y mc ms : Nat} (h : nk_room G la st x y mc ms = true) : nk_okG G = true ∧ la.all (nk_rv G.length) = true ∧ st.all (fun v => nk_rv G.length (some v)) = true ∧ x ≤ mc ∧ y ≤ ms ∧ G.length < 159 := by
  unfold nk_room nk_okA at h
  simp only [Bool.and_eq_true] at h
  exact ⟨h.1.1.1.1, h.1.1.1.2.1, h.1.1.1.2.2, Nat.le_of_ble_eq_true h.1.1.2, Nat.le_of_ble_eq_true h.1.2, nk_lt h.2⟩
theorem nk_cA {D : va_G} {cA : Nat → ClassId} {s : State} {t : Nat} {ty : FieldType} {cA' : ClassId} (hK : va_K D vwCl (rx_tys cA) s) (hK1 : va_K D vwCl (rx_tys cA ++ [(cA', ty)]) s) (ht : (rx_tys cA)[t]? = some (cA t, ty)) (hu : ∀ c, va_RA s c ty → s.vm.findClass ("[" ++ ty.toString) = some c) : cA' = cA t := by
  have h1 := hu _ (hK1.2 6 (cA', ty) rfl).2
  have h2 := hu _ (hK.2 t _ ht).2
  exact Option.some.inj (h1.symm.trans h2)
section NKS
variable {p : Program} {l : Launch} {e : Env} {R : Room} {s : State} {m : MethodId} {args : Array Value} {below : List Frame} {meth : Method} {c : Code} {H : Heap} {locs : List Loc} {Q : State → Prop}
variable {D : va_G} {ad : Nat → Nat} {cA : Nat → ClassId} {N0 : Nat} {M : nk_M} {G G' : List nk_E} {pc pc' d x y x' y' : Nat} {lsA : Array Slot} {la la' : List (Option rx_V)} {st st' : List rx_V} {nx b c0 : Nat} {a : Int} {sw : List (Int × Nat)}
set_option maxHeartbeats 4000000 in
theorem nk_W_1 (F : nk_Facts) (X : nk_X D cA N0 p R s m args meth c M d) (hok : nk_ok M pc (1, nx, a, b, c0, sw) = true) (hs : nk_step M.2.2.2.2.1 M.2.2.2.2.2 (1, nx, a, b, c0, sw) la st G x y = some (pc', la', st', G', x', y')) (S : nk_S D ad cA N0 s M.2.2.1 la G lsA H locs)
    (kk : ∀ (ad' : Nat → Nat) (lsB : Array Slot) (H1 : Heap) (locs1 : List Loc), (∀ c, c < G.length ∨ 159 ≤ c → ad' c = ad c) → nk_S D ad' cA N0 s M.2.2.1 la' G' lsB H1 locs1 → W p l e R s m args below meth c H1 locs1 x' y' Q (F0 m pc' lsB (st'.map (rx_ev ad')))) : W p l e R s m args below meth c H locs x y Q (F0 m pc lsA (st.map (rx_ev ad))) := by
  obtain ⟨hx, hb, hml, hown, hts, hR, hEn, hin, hN0⟩ := X
  obtain ⟨hL, hP, hD, hSS⟩ := S
  cases hs
  have hk := kk ad lsA H locs (fun _ _ => rfl) ⟨hL, hP, hD, hSS⟩
  simp only [nk_ok] at hok
  split at hok
  · simp only [Bool.and_eq_true, decide_eq_true_eq] at hok
    obtain ⟨hd, rfl⟩ := hok
    exact lv_iconst hx hb hd rfl hk
  · simp only [Bool.and_eq_true, decide_eq_true_eq] at hok
    obtain ⟨⟨hd, rfl⟩, hv⟩ := hok
    exact lv_bipush hx hb hd hv hk
  · simp only [Bool.and_eq_true, decide_eq_true_eq] at hok
    obtain ⟨⟨hd, rfl⟩, hv⟩ := hok
    exact lv_sipush hx hb hd hv hk
set_option maxHeartbeats 4000000 in
theorem nk_W_2 (F : nk_Facts) (X : nk_X D cA N0 p R s m args meth c M d) (hok : nk_ok M pc (2, nx, a, b, c0, sw) = true) (hs : nk_step M.2.2.2.2.1 M.2.2.2.2.2 (2, nx, a, b, c0, sw) la st G x y = some (pc', la', st', G', x', y')) (S : nk_S D ad cA N0 s M.2.2.1 la G lsA H locs)
    (kk : ∀ (ad' : Nat → Nat) (lsB : Array Slot) (H1 : Heap) (locs1 : List Loc), (∀ c, c < G.length ∨ 159 ≤ c → ad' c = ad c) → nk_S D ad' cA N0 s M.2.2.1 la' G' lsB H1 locs1 → W p l e R s m args below meth c H1 locs1 x' y' Q (F0 m pc' lsB (st'.map (rx_ev ad')))) : W p l e R s m args below meth c H locs x y Q (F0 m pc lsA (st.map (rx_ev ad))) := by
  obtain ⟨hx, hb, hml, hown, hts, hR, hEn, hin, hN0⟩ := X
  obtain ⟨hL, hP, hD, hSS⟩ := S
  simp only [nk_step] at hs
  split at hs
  · next v hv =>
    cases hs
    have hk := kk ad lsA H locs (fun _ _ => rfl) ⟨hL, hP, hD, hSS⟩
    have hl := hL.at hv
    simp only [nk_ok, Bool.and_eq_true, decide_eq_true_eq] at hok
    obtain ⟨⟨hd, rfl⟩, h4⟩ := hok
    exact lv_iload_n hx hb hd (show (Fin.ofNat 4 b).val = b from Nat.mod_eq_of_lt h4) hl hk
  · cases hs
set_option maxHeartbeats 4000000 in
theorem nk_W_3 (F : nk_Facts) (X : nk_X D cA N0 p R s m args meth c M d) (hok : nk_ok M pc (3, nx, a, b, c0, sw) = true) (hs : nk_step M.2.2.2.2.1 M.2.2.2.2.2 (3, nx, a, b, c0, sw) la st G x y = some (pc', la', st', G', x', y')) (S : nk_S D ad cA N0 s M.2.2.1 la G lsA H locs)
    (kk : ∀ (ad' : Nat → Nat) (lsB : Array Slot) (H1 : Heap) (locs1 : List Loc), (∀ c, c < G.length ∨ 159 ≤ c → ad' c = ad c) → nk_S D ad' cA N0 s M.2.2.1 la' G' lsB H1 locs1 → W p l e R s m args below meth c H1 locs1 x' y' Q (F0 m pc' lsB (st'.map (rx_ev ad')))) : W p l e R s m args below meth c H locs x y Q (F0 m pc lsA (st.map (rx_ev ad))) := by
  obtain ⟨hx, hb, hml, hown, hts, hR, hEn, hin, hN0⟩ := X
  obtain ⟨hL, hP, hD, hSS⟩ := S
  simp only [nk_step] at hs
  split at hs
  · next v hv =>
    cases hs
    have hk := kk ad lsA H locs (fun _ _ => rfl) ⟨hL, hP, hD, hSS⟩
    have hl := hL.at hv
    simp only [nk_ok, Bool.and_eq_true, decide_eq_true_eq] at hok
    obtain ⟨⟨hd, rfl⟩, h4⟩ := hok
    exact lv_aload_n hx hb hd (show (Fin.ofNat 4 b).val = b from Nat.mod_eq_of_lt h4) hl hk
  · cases hs
set_option maxHeartbeats 4000000 in
theorem nk_W_4 (F : nk_Facts) (X : nk_X D cA N0 p R s m args meth c M d) (hok : nk_ok M pc (4, nx, a, b, c0, sw) = true) (hs : nk_step M.2.2.2.2.1 M.2.2.2.2.2 (4, nx, a, b, c0, sw) la st G x y = some (pc', la', st', G', x', y')) (S : nk_S D ad cA N0 s M.2.2.1 la G lsA H locs)
    (kk : ∀ (ad' : Nat → Nat) (lsB : Array Slot) (H1 : Heap) (locs1 : List Loc), (∀ c, c < G.length ∨ 159 ≤ c → ad' c = ad c) → nk_S D ad' cA N0 s M.2.2.1 la' G' lsB H1 locs1 → W p l e R s m args below meth c H1 locs1 x' y' Q (F0 m pc' lsB (st'.map (rx_ev ad')))) : W p l e R s m args below meth c H locs x y Q (F0 m pc lsA (st.map (rx_ev ad))) := by
  obtain ⟨hx, hb, hml, hown, hts, hR, hEn, hin, hN0⟩ := X
  obtain ⟨hL, hP, hD, hSS⟩ := S
  simp only [nk_step] at hs
  split at hs
  · next v st0 =>
    split at hs
    · next hbl =>
      cases hs
      have hn : b < M.2.2.1 := by rw [← hL.2]; exact hbl
      simp only [nk_ok, Bool.and_eq_true, decide_eq_true_eq] at hok
      obtain ⟨⟨hd, rfl⟩, h4⟩ := hok
      exact lv_istore_n hx hb hd (show (Fin.ofNat 4 b).val = b from Nat.mod_eq_of_lt h4) hL.1 hn rfl (fun lsB h2 => kk ad lsB H locs (fun _ _ => rfl) ⟨hL.set (v := .inl v) hbl h2, hP, hD, hSS⟩)
    · cases hs
  · cases hs
set_option maxHeartbeats 4000000 in
theorem nk_W_5 (F : nk_Facts) (X : nk_X D cA N0 p R s m args meth c M d) (hok : nk_ok M pc (5, nx, a, b, c0, sw) = true) (hs : nk_step M.2.2.2.2.1 M.2.2.2.2.2 (5, nx, a, b, c0, sw) la st G x y = some (pc', la', st', G', x', y')) (S : nk_S D ad cA N0 s M.2.2.1 la G lsA H locs)
    (kk : ∀ (ad' : Nat → Nat) (lsB : Array Slot) (H1 : Heap) (locs1 : List Loc), (∀ c, c < G.length ∨ 159 ≤ c → ad' c = ad c) → nk_S D ad' cA N0 s M.2.2.1 la' G' lsB H1 locs1 → W p l e R s m args below meth c H1 locs1 x' y' Q (F0 m pc' lsB (st'.map (rx_ev ad')))) : W p l e R s m args below meth c H locs x y Q (F0 m pc lsA (st.map (rx_ev ad))) := by
  obtain ⟨hx, hb, hml, hown, hts, hR, hEn, hin, hN0⟩ := X
  obtain ⟨hL, hP, hD, hSS⟩ := S
  simp only [nk_step] at hs
  split at hs
  · next v st0 =>
    split at hs
    · next hbl =>
      cases hs
      have hn : b < M.2.2.1 := by rw [← hL.2]; exact hbl
      simp only [nk_ok, Bool.and_eq_true, decide_eq_true_eq] at hok
      obtain ⟨⟨hd, rfl⟩, h4⟩ := hok
      exact lv_astore_n hx hb hd (show (Fin.ofNat 4 b).val = b from Nat.mod_eq_of_lt h4) hL.1 hn rfl (fun lsB h2 => kk ad lsB H locs (fun _ _ => rfl) ⟨hL.set (v := .inr v) hbl h2, hP, hD, hSS⟩)
    · cases hs
  · cases hs
set_option maxHeartbeats 4000000 in
theorem nk_W_6 (F : nk_Facts) (X : nk_X D cA N0 p R s m args meth c M d) (hok : nk_ok M pc (6, nx, a, b, c0, sw) = true) (hs : nk_step M.2.2.2.2.1 M.2.2.2.2.2 (6, nx, a, b, c0, sw) la st G x y = some (pc', la', st', G', x', y')) (S : nk_S D ad cA N0 s M.2.2.1 la G lsA H locs)
    (kk : ∀ (ad' : Nat → Nat) (lsB : Array Slot) (H1 : Heap) (locs1 : List Loc), (∀ c, c < G.length ∨ 159 ≤ c → ad' c = ad c) → nk_S D ad' cA N0 s M.2.2.1 la' G' lsB H1 locs1 → W p l e R s m args below meth c H1 locs1 x' y' Q (F0 m pc' lsB (st'.map (rx_ev ad')))) : W p l e R s m args below meth c H locs x y Q (F0 m pc lsA (st.map (rx_ev ad))) := by
  obtain ⟨hx, hb, hml, hown, hts, hR, hEn, hin, hN0⟩ := X
  obtain ⟨hL, hP, hD, hSS⟩ := S
  simp only [nk_step] at hs
  split at hs
  · next v hv =>
    cases hs
    have hbl : b < la.length := (List.getElem?_eq_some_iff.mp hv).1
    have hn : b < M.2.2.1 := by rw [← hL.2]; exact hbl
    simp only [nk_ok, Bool.and_eq_true, decide_eq_true_eq] at hok
    obtain ⟨hd, rfl⟩ := hok
    obtain ⟨k, hk⟩ := List.getElem?_of_mem (rx_encl_mem.mpr ⟨.inl v, hv, rfl⟩ : (b, rx_ev ad (.inl v)) ∈ rx_encl ad la)
    refine lv_iinc (v := Int32.ofInt (rx_w (v + a))) hx hb hd hL.1 hk (rx_add v a) hn rfl (fun lsB h2 => ?_)
    exact kk ad lsB H locs (fun _ _ => rfl) ⟨hL.set (v := .inl (rx_w (v + a))) hbl h2, hP, hD, hSS⟩
  · cases hs
set_option maxHeartbeats 4000000 in
theorem nk_W_10 (F : nk_Facts) (X : nk_X D cA N0 p R s m args meth c M d) (hok : nk_ok M pc (10, nx, a, b, c0, sw) = true) (hs : nk_step M.2.2.2.2.1 M.2.2.2.2.2 (10, nx, a, b, c0, sw) la st G x y = some (pc', la', st', G', x', y')) (S : nk_S D ad cA N0 s M.2.2.1 la G lsA H locs)
    (kk : ∀ (ad' : Nat → Nat) (lsB : Array Slot) (H1 : Heap) (locs1 : List Loc), (∀ c, c < G.length ∨ 159 ≤ c → ad' c = ad c) → nk_S D ad' cA N0 s M.2.2.1 la' G' lsB H1 locs1 → W p l e R s m args below meth c H1 locs1 x' y' Q (F0 m pc' lsB (st'.map (rx_ev ad')))) : W p l e R s m args below meth c H locs x y Q (F0 m pc lsA (st.map (rx_ev ad))) := by
  obtain ⟨hx, hb, hml, hown, hts, hR, hEn, hin, hN0⟩ := X
  obtain ⟨hL, hP, hD, hSS⟩ := S
  simp only [nk_step] at hs
  split at hs
  · next v st0 =>
    cases hs
    simp only [nk_ok, Bool.and_eq_true, decide_eq_true_eq] at hok
    obtain ⟨hd, rfl⟩ := hok
    exact lv_dup hx hb hd (rx_ev_cat ad v) (kk ad lsA H locs (fun _ _ => rfl) ⟨hL, hP, hD, hSS⟩)
  · cases hs
set_option maxHeartbeats 4000000 in
theorem nk_W_14 (F : nk_Facts) (X : nk_X D cA N0 p R s m args meth c M d) (hok : nk_ok M pc (14, nx, a, b, c0, sw) = true) (hs : nk_step M.2.2.2.2.1 M.2.2.2.2.2 (14, nx, a, b, c0, sw) la st G x y = some (pc', la', st', G', x', y')) (S : nk_S D ad cA N0 s M.2.2.1 la G lsA H locs)
    (kk : ∀ (ad' : Nat → Nat) (lsB : Array Slot) (H1 : Heap) (locs1 : List Loc), (∀ c, c < G.length ∨ 159 ≤ c → ad' c = ad c) → nk_S D ad' cA N0 s M.2.2.1 la' G' lsB H1 locs1 → W p l e R s m args below meth c H1 locs1 x' y' Q (F0 m pc' lsB (st'.map (rx_ev ad')))) : W p l e R s m args below meth c H locs x y Q (F0 m pc lsA (st.map (rx_ev ad))) := by
  obtain ⟨hx, hb, hml, hown, hts, hR, hEn, hin, hN0⟩ := X
  obtain ⟨hL, hP, hD, hSS⟩ := S
  simp only [nk_step] at hs
  split at hs
  · next v2 v1 st0 =>
    split at hs
    · next hr =>
      cases hs
      have hr1 : rx_r v1 := by simpa [rx_inR, rx_r] using hr.1
      have hr2 : rx_r v2 := by simpa [rx_inR, rx_r] using hr.2
      have hk := kk ad lsA H locs (fun _ _ => rfl) ⟨hL, hP, hD, hSS⟩
      simp only [nk_ok, Bool.and_eq_true, decide_eq_true_eq] at hok
      obtain ⟨⟨hd, rfl⟩, ht⟩ := hok
      have hiff := rx_le hr2 hr1
      refine lv_icmp_ge (x := Int32.ofInt v1) (y := Int32.ofInt v2) hx hb hd ht (fun h => ?_) (fun h => ?_)
      · rw [if_pos (hiff.mp h)] at hk
        exact hk
      · rw [if_neg (fun g => h (hiff.mpr g))] at hk
        exact hk
    · cases hs
  · cases hs
set_option maxHeartbeats 4000000 in
theorem nk_W_15 (F : nk_Facts) (X : nk_X D cA N0 p R s m args meth c M d) (hok : nk_ok M pc (15, nx, a, b, c0, sw) = true) (hs : nk_step M.2.2.2.2.1 M.2.2.2.2.2 (15, nx, a, b, c0, sw) la st G x y = some (pc', la', st', G', x', y')) (S : nk_S D ad cA N0 s M.2.2.1 la G lsA H locs)
    (kk : ∀ (ad' : Nat → Nat) (lsB : Array Slot) (H1 : Heap) (locs1 : List Loc), (∀ c, c < G.length ∨ 159 ≤ c → ad' c = ad c) → nk_S D ad' cA N0 s M.2.2.1 la' G' lsB H1 locs1 → W p l e R s m args below meth c H1 locs1 x' y' Q (F0 m pc' lsB (st'.map (rx_ev ad')))) : W p l e R s m args below meth c H locs x y Q (F0 m pc lsA (st.map (rx_ev ad))) := by
  obtain ⟨hx, hb, hml, hown, hts, hR, hEn, hin, hN0⟩ := X
  obtain ⟨hL, hP, hD, hSS⟩ := S
  cases hs
  simp only [nk_ok, Bool.and_eq_true, decide_eq_true_eq] at hok
  exact lv_goto hx hb hok.1 hok.2 (kk ad lsA H locs (fun _ _ => rfl) ⟨hL, hP, hD, hSS⟩)
set_option maxHeartbeats 4000000 in
theorem nk_W_18 (F : nk_Facts) (X : nk_X D cA N0 p R s m args meth c M d) (hok : nk_ok M pc (18, nx, a, b, c0, sw) = true) (hs : nk_step M.2.2.2.2.1 M.2.2.2.2.2 (18, nx, a, b, c0, sw) la st G x y = some (pc', la', st', G', x', y')) (S : nk_S D ad cA N0 s M.2.2.1 la G lsA H locs)
    (kk : ∀ (ad' : Nat → Nat) (lsB : Array Slot) (H1 : Heap) (locs1 : List Loc), (∀ c, c < G.length ∨ 159 ≤ c → ad' c = ad c) → nk_S D ad' cA N0 s M.2.2.1 la' G' lsB H1 locs1 → W p l e R s m args below meth c H1 locs1 x' y' Q (F0 m pc' lsB (st'.map (rx_ev ad')))) : W p l e R s m args below meth c H locs x y Q (F0 m pc lsA (st.map (rx_ev ad))) := by
  obtain ⟨hx, hb, hml, hown, hts, hR, hEn, hin, hN0⟩ := X
  obtain ⟨hL, hP, hD, hSS⟩ := S
  simp only [nk_step] at hs
  split at hs
  · next o st0 =>
    split at hs
    · next ci fs hg =>
      split at hs
      · next r hf =>
        split at hs
        · next hci =>
          cases hs
          subst hci
          simp only [nk_ok, Bool.and_eq_true, decide_eq_true_eq] at hok
          obtain ⟨⟨⟨⟨hd, rfl⟩, hbl⟩, hcl⟩, hlk⟩ := hok
          have hcl2 := rf_all.2.2.1 ci hbl
          exact va_get (C := (rx_cl ci).1) (T := (rx_cl ci).2.1) (N := (rx_cl ci).2.2) (v := .ref (ad r)) hx hb hts hcl2.1 hown hEn.1.1 hP o (nk_Hat hg) (rx_vw hbl) c0 hcl (hts _ (F.1 _ hlk)) (fun _ h9 => h9) (by rw [List.getElem?_map, hf]; rfl) hd
            (kk ad lsA H locs (fun _ _ => rfl) ⟨hL, hP, hD, hSS⟩)
        · cases hs
      · cases hs
    · cases hs
  · cases hs
set_option maxHeartbeats 4000000 in
theorem nk_W_19 (F : nk_Facts) (X : nk_X D cA N0 p R s m args meth c M d) (hok : nk_ok M pc (19, nx, a, b, c0, sw) = true) (hs : nk_step M.2.2.2.2.1 M.2.2.2.2.2 (19, nx, a, b, c0, sw) la st G x y = some (pc', la', st', G', x', y')) (S : nk_S D ad cA N0 s M.2.2.1 la G lsA H locs)
    (kk : ∀ (ad' : Nat → Nat) (lsB : Array Slot) (H1 : Heap) (locs1 : List Loc), (∀ c, c < G.length ∨ 159 ≤ c → ad' c = ad c) → nk_S D ad' cA N0 s M.2.2.1 la' G' lsB H1 locs1 → W p l e R s m args below meth c H1 locs1 x' y' Q (F0 m pc' lsB (st'.map (rx_ev ad')))) : W p l e R s m args below meth c H locs x y Q (F0 m pc lsA (st.map (rx_ev ad))) := by
  obtain ⟨hx, hb, hml, hown, hts, hR, hEn, hin, hN0⟩ := X
  obtain ⟨hL, hP, hD, hSS⟩ := S
  simp only [nk_step] at hs
  split at hs
  · next v o st0 =>
    split at hs
    · next ci fs hg =>
      split at hs
      · next hc =>
        cases hs
        obtain ⟨hci, hcl0, ha⟩ := hc
        subst hci
        simp only [nk_ok, Bool.and_eq_true, decide_eq_true_eq] at hok
        obtain ⟨⟨⟨⟨⟨⟨hd, rfl⟩, hbl⟩, hcl⟩, hlk⟩, hfl⟩, hw⟩ := hok
        obtain ⟨hc1, ⟨ty0, hc2⟩, hc3⟩ := rf_all.2.2.1 ci hbl
        have hlen : c0 < (fs.map (nk_ev ad)).length := by rw [List.length_map]; exact hcl0
        have hk : ∀ (H1 : Heap) (locs1 : List Loc), va_P D vwCl ((nk_H ad cA G).set o (ad o, .inr (ci, (fs.map (nk_ev ad)).set c0 (.int (Int32.ofInt v))))) H1 → va_D (nk_A N0) ((nk_H ad cA G).set o (ad o, .inr (ci, (fs.map (nk_ev ad)).set c0 (.int (Int32.ofInt v))))) → va_S (nk_A N0) s.heap H1 locs1 → W p l e R s m args below meth c H1 locs1 x y Q (F0 m (pc + 3) lsA (st'.map (rx_ev ad))) := by
          intro H1 locs1 hP1 hD1 hS1
          have e : (fs.map (nk_ev ad)).set c0 (.int (Int32.ofInt v)) = (fs.set c0 (some (.inl v))).map (nk_ev ad) := by rw [List.map_set]; rfl
          have e2 : (nk_H ad cA G).set o (ad o, .inr (ci, (fs.map (nk_ev ad)).set c0 (.int (Int32.ofInt v)))) = nk_H ad cA (G.set o (.inl (ci, fs.set c0 (some (.inl v))))) := by
            rw [e]
            exact nk_Hset (E' := .inl (ci, fs.set c0 (some (.inl v)))) hg
          rw [e2] at hP1 hD1
          exact kk ad lsA H1 locs1 (fun _ _ => rfl) ⟨hL, hP1, hD1, hS1⟩
        by_cases ha0 : a = 0
        · rw [if_pos ha0] at hw
          exact va_put (C := (rx_cl ci).1) (T := (rx_cl ci).2.1) (N := (rx_cl ci).2.2) hx hb hts hc1 ty0 hc2 hc3 hown hEn.1.1 hP hD hSS o (nk_Hat hg) (rx_vw hbl) c0 hcl (hts _ (F.1 _ hlk)) (fun _ h9 => h9) hfl (ty := .int) (of_decide_eq_true hw) rfl rfl hlen hd hk
        · rw [if_neg ha0] at hw
          have hv0 : v = 0 := (ha.resolve_left ha0).2
          subst hv0
          exact va_put (C := (rx_cl ci).1) (T := (rx_cl ci).2.1) (N := (rx_cl ci).2.2) hx hb hts hc1 ty0 hc2 hc3 hown hEn.1.1 hP hD hSS o (nk_Hat hg) (rx_vw hbl) c0 hcl (hts _ (F.1 _ hlk)) (fun _ h9 => h9) hfl (ty := .boolean) (of_decide_eq_true hw) (rx_narZ (Or.inl rfl)) (rx_fitZ (Or.inl rfl)) hlen hd hk
      · cases hs
    · cases hs
  · cases hs
set_option maxHeartbeats 4000000 in
theorem nk_W_20 (F : nk_Facts) (X : nk_X D cA N0 p R s m args meth c M d) (hok : nk_ok M pc (20, nx, a, b, c0, sw) = true) (hs : nk_step M.2.2.2.2.1 M.2.2.2.2.2 (20, nx, a, b, c0, sw) la st G x y = some (pc', la', st', G', x', y')) (S : nk_S D ad cA N0 s M.2.2.1 la G lsA H locs)
    (kk : ∀ (ad' : Nat → Nat) (lsB : Array Slot) (H1 : Heap) (locs1 : List Loc), (∀ c, c < G.length ∨ 159 ≤ c → ad' c = ad c) → nk_S D ad' cA N0 s M.2.2.1 la' G' lsB H1 locs1 → W p l e R s m args below meth c H1 locs1 x' y' Q (F0 m pc' lsB (st'.map (rx_ev ad')))) : W p l e R s m args below meth c H locs x y Q (F0 m pc lsA (st.map (rx_ev ad))) := by
  obtain ⟨hx, hb, hml, hown, hts, hR, hEn, hin, hN0⟩ := X
  obtain ⟨hL, hP, hD, hSS⟩ := S
  simp only [nk_step] at hs
  split at hs
  · next v o st0 =>
    split at hs
    · next ci fs hg =>
      split at hs
      · next hc =>
        cases hs
        obtain ⟨hci, hcl0⟩ := hc
        subst hci
        simp only [nk_ok, Bool.and_eq_true, decide_eq_true_eq] at hok
        obtain ⟨⟨⟨⟨⟨⟨⟨⟨hd, rfl⟩, hbl⟩, hcl⟩, hlk⟩, hfl⟩, hw⟩, hdc⟩, h12⟩ := hok
        obtain ⟨hc1, ⟨ty0, hc2⟩, hc3⟩ := rf_all.2.2.1 ci hbl
        have hlen : c0 < (fs.map (nk_ev ad)).length := by rw [List.length_map]; exact hcl0
        obtain ⟨ty, hty, hty2⟩ := Option.bind_eq_some_iff.mp hw
        obtain ⟨-, ht2⟩ := nk_tyF hty2
        refine va_putF (C := (rx_cl ci).1) (T := (rx_cl ci).2.1) (N := (rx_cl ci).2.2) hx hb hts hc1 ty0 hc2 hc3 hown hEn.1.1 hP hD hSS o (nk_Hat hg) (rx_vw hbl) c0 hcl (hts _ (F.1 _ hlk)) (fun _ h9 => h9) hfl (hin h12) hdc (ty := ty) (v := .ref (ad v)) hty (ht2 _).1 (ht2 _).2 hlen hd (fun H1 locs1 hP1 hD1 hS1 => ?_)
        have e : (fs.map (nk_ev ad)).set c0 (.ref (ad v)) = (fs.set c0 (some (.inr v))).map (nk_ev ad) := by rw [List.map_set]; rfl
        have e2 : (nk_H ad cA G).set o (ad o, .inr (ci, (fs.map (nk_ev ad)).set c0 (.ref (ad v)))) = nk_H ad cA (G.set o (.inl (ci, fs.set c0 (some (.inr v))))) := by
          rw [e]
          exact nk_Hset (E' := .inl (ci, fs.set c0 (some (.inr v)))) hg
        rw [e2] at hP1 hD1
        exact kk ad lsA H1 locs1 (fun _ _ => rfl) ⟨hL, hP1, hD1, hS1⟩
      · cases hs
    · cases hs
  · cases hs
set_option maxHeartbeats 4000000 in
theorem nk_W_21 (F : nk_Facts) (X : nk_X D cA N0 p R s m args meth c M d) (hok : nk_ok M pc (21, nx, a, b, c0, sw) = true) (hs : nk_step M.2.2.2.2.1 M.2.2.2.2.2 (21, nx, a, b, c0, sw) la st G x y = some (pc', la', st', G', x', y')) (S : nk_S D ad cA N0 s M.2.2.1 la G lsA H locs)
    (kk : ∀ (ad' : Nat → Nat) (lsB : Array Slot) (H1 : Heap) (locs1 : List Loc), (∀ c, c < G.length ∨ 159 ≤ c → ad' c = ad c) → nk_S D ad' cA N0 s M.2.2.1 la' G' lsB H1 locs1 → W p l e R s m args below meth c H1 locs1 x' y' Q (F0 m pc' lsB (st'.map (rx_ev ad')))) : W p l e R s m args below meth c H locs x y Q (F0 m pc lsA (st.map (rx_ev ad))) := by
  obtain ⟨hx, hb, hml, hown, hts, hR, hEn, hin, hN0⟩ := X
  obtain ⟨hL, hP, hD, hSS⟩ := S
  simp only [nk_step] at hs
  split at hs
  · next v j o st0 =>
    split at hs
    · next t n w hg =>
      split at hs
      · next hc =>
        cases hs
        obtain ⟨ht, hj, hj0, hj1, hbb⟩ := hc
        subst ht
        have hjr : rx_r j := by simpa [rx_inR, rx_r] using hj
        have ew : upd (fun k => Int32.ofInt (nk_fn w k)) (Int32.ofInt j).toNatClampNeg (Int32.ofInt v) = (fun k => Int32.ofInt (nk_fn ((j.toNat, v) :: w) k)) := by
          rw [rx_nat hjr]
          funext k
          show (if k = j.toNat then Int32.ofInt v else Int32.ofInt (nk_fn w k)) = Int32.ofInt (((List.lookup k ((j.toNat, v) :: w))).getD 0)
          rw [List.lookup_cons]
          by_cases ek : k = j.toNat
          · rw [if_pos ek, ek]
            simp
          · rw [if_neg ek]
            have : (k == j.toNat) = false := by simpa using ek
            rw [this]
            rfl
        have e2 : ∀ cc0 : vp_A, cc0 = (n, .inl (upd (fun k => Int32.ofInt (nk_fn w k)) (Int32.ofInt j).toNatClampNeg (Int32.ofInt v))) → (nk_H ad cA G).set o (ad o, .inl (cA t, cc0)) = nk_H ad cA (G.set o (.inr (.inl (t, n, (j.toNat, v) :: w)))) := by
          intro cc0 e0
          rw [e0, ew]
          exact nk_Hset (E' := .inr (.inl (t, n, (j.toNat, v) :: w))) hg
        simp only [nk_ok, Bool.and_eq_true, decide_eq_true_eq] at hok
        obtain ⟨hd, rfl⟩ := hok
        rcases hbb with hb0 | ⟨hb2, hnar⟩
        · subst hb0
          rw [if_pos rfl] at hd
          refine va_iast hx hb hEn.1.1 hP hD hSS o 0 (nk_Hat hg) rfl (i := Int32.ofInt j) (x := Int32.ofInt v) (rx_vpin hjr hj0 hj1) (of_decide_eq_true hd) (fun H1 locs1 hP1 hD1 hS1 => ?_)
          rw [e2 _ rfl] at hP1 hD1
          exact kk ad lsA H1 locs1 (fun _ _ => rfl) ⟨hL, hP1, hD1, hS1⟩
        · subst hb2
          rw [if_neg (by decide)] at hd
          refine va_cast hx hb hEn.1.1 hP hD hSS o 2 (nk_Hat hg) rfl (i := Int32.ofInt j) (x := Int32.ofInt v) (rx_vpin hjr hj0 hj1) (of_decide_eq_true hd) (fun H1 locs1 hP1 hD1 hS1 => ?_)
          rw [hnar, e2 _ rfl] at hP1 hD1
          exact kk ad lsA H1 locs1 (fun _ _ => rfl) ⟨hL, hP1, hD1, hS1⟩
      · cases hs
    · cases hs
  · cases hs
set_option maxHeartbeats 4000000 in
theorem nk_W_33 (F : nk_Facts) (X : nk_X D cA N0 p R s m args meth c M d) (hok : nk_ok M pc (33, nx, a, b, c0, sw) = true) (hs : nk_step M.2.2.2.2.1 M.2.2.2.2.2 (33, nx, a, b, c0, sw) la st G x y = some (pc', la', st', G', x', y')) (S : nk_S D ad cA N0 s M.2.2.1 la G lsA H locs)
    (kk : ∀ (ad' : Nat → Nat) (lsB : Array Slot) (H1 : Heap) (locs1 : List Loc), (∀ c, c < G.length ∨ 159 ≤ c → ad' c = ad c) → nk_S D ad' cA N0 s M.2.2.1 la' G' lsB H1 locs1 → W p l e R s m args below meth c H1 locs1 x' y' Q (F0 m pc' lsB (st'.map (rx_ev ad')))) : W p l e R s m args below meth c H locs x y Q (F0 m pc lsA (st.map (rx_ev ad))) := by
  obtain ⟨hx, hb, hml, hown, hts, hR, hEn, hin, hN0⟩ := X
  obtain ⟨hL, hP, hD, hSS⟩ := S
  simp only [nk_step] at hs
  split at hs
  · next hc =>
    cases hs
    obtain ⟨hrm, hE0⟩ := hc
    obtain ⟨hG, hla, hst, hxm, hym, h159⟩ := nk_room_spec hrm
    simp only [nk_ok, Bool.and_eq_true, decide_eq_true_eq] at hok
    obtain ⟨⟨⟨hd, rfl⟩, hbl⟩, hlk⟩ := hok
    obtain ⟨hc1, ⟨ty0, hc2⟩, hc3⟩ := rf_all.2.2.1 b hbl
    obtain ⟨g1, g2, g3, g4⟩ := F.2.2.1 b hbl
    refine va_new (C := (rx_cl b).1) (T := (rx_cl b).2.1) (N := (rx_cl b).2.2) (fs := (nk_df b).map (nk_ev ad)) hx hb hts hc1 ty0 hc2 hown (hts _ (F.2.1 _ hlk)) (hts _ g1) (hts _ g2) hEn.1.1 hP hD hSS (fun q hq => Nat.le_trans hN0 hq) (rx_vw hbl) (fun j hj => ?_) (Nat.le_trans hxm hR.2.2.1) (by rw [← g3]; exact Nat.le_trans hym hR.2.2.2) hd (fun q H1 hP1 hD1 hS1 => ?_)
    · have h4 := g4 j hj
      rw [hc2 j hj] at h4
      have h4 : nk_ty (ty0 j) = some (decide ((nk_df b)[j]? = some (some (.inl 0)))) ∧ ((nk_df b)[j]? = some none ∨ (nk_df b)[j]? = some (some (.inl 0))) := h4
      unfold vp_V
      rw [List.getD_eq_getElem?_getD, List.getElem?_map]
      rcases h4.2 with h5 | h5
      · have h6 : nk_ty (ty0 j) = some false := by rw [h4.1, h5]; rfl
        rw [h5]
        exact (nk_tyF h6).1
      · have h6 : nk_ty (ty0 j) = some true := by rw [h4.1, h5]; rfl
        rw [h5]
        exact nk_tyT h6
    · have hk := kk (nk_ad ad G.length q) lsA H1 locs (fun c hc => nk_ade h159 hc) ⟨nk_L (fun c hc => nk_ade h159 hc) hla hL, by rw [nk_push h159 hG hE0]; exact hP1, by rw [nk_push h159 hG hE0]; exact hD1, hS1⟩
      rw [List.map_cons, nk_st (fun c hc => nk_ade h159 hc) hst] at hk
      have e : rx_ev (nk_ad ad G.length q) (.inr G.length) = .ref q := by show Value.ref _ = _; rw [nk_adn]
      rw [e, g3] at hk
      exact hk
  · cases hs
set_option maxHeartbeats 4000000 in
theorem nk_W_34 (F : nk_Facts) (X : nk_X D cA N0 p R s m args meth c M d) (hok : nk_ok M pc (34, nx, a, b, c0, sw) = true) (hs : nk_step M.2.2.2.2.1 M.2.2.2.2.2 (34, nx, a, b, c0, sw) la st G x y = some (pc', la', st', G', x', y')) (S : nk_S D ad cA N0 s M.2.2.1 la G lsA H locs)
    (kk : ∀ (ad' : Nat → Nat) (lsB : Array Slot) (H1 : Heap) (locs1 : List Loc), (∀ c, c < G.length ∨ 159 ≤ c → ad' c = ad c) → nk_S D ad' cA N0 s M.2.2.1 la' G' lsB H1 locs1 → W p l e R s m args below meth c H1 locs1 x' y' Q (F0 m pc' lsB (st'.map (rx_ev ad')))) : W p l e R s m args below meth c H locs x y Q (F0 m pc lsA (st.map (rx_ev ad))) := by
  obtain ⟨hx, hb, hml, hown, hts, hR, hEn, hin, hN0⟩ := X
  obtain ⟨hL, hP, hD, hSS⟩ := S
  simp only [nk_step] at hs
  split at hs
  · next n st0 =>
    split at hs
    · next hc =>
      cases hs
      obtain ⟨hrm, hn0, hn1⟩ := hc
      obtain ⟨hG, hla, hst, hxm, hym, h159⟩ := nk_room_spec hrm
      have hnr : rx_r n := ⟨by omega, by omega⟩
      have hE0 : ∀ t, nk_okE 0 (.inr (.inl (t, n.toNat, []))) = true := fun _ => rfl
      have hbytes : n.toNat ≤ 100000 := by omega
      have go : ∀ (q : Nat) (cA' : ClassId) (H1 : Heap), cA' = cA b → va_P D vwCl (nk_H ad cA G ++ [(q, .inl (cA', n.toNat, .inl (fun j => Int32.ofInt (nk_fn [] j))))]) H1 → va_D (nk_A N0) (nk_H ad cA G ++ [(q, .inl (cA', n.toNat, .inl (fun j => Int32.ofInt (nk_fn [] j))))]) → va_S (nk_A N0) s.heap H1 locs → W p l e R s m args below meth c H1 locs (x + 1) (y + n.toNat) Q (F0 m (pc + 2) lsA (.ref q :: st0.map (rx_ev ad))) := by
        intro q cA' H1 hcA hP1 hD1 hS1
        subst hcA
        simp only [nk_ok, Bool.and_eq_true, decide_eq_true_eq] at hok
        obtain ⟨-, rfl⟩ := hok
        have hk := kk (nk_ad ad G.length q) lsA H1 locs (fun c hc => nk_ade h159 hc) ⟨nk_L (fun c hc => nk_ade h159 hc) hla hL, by rw [nk_push h159 hG (hE0 b)]; exact hP1, by rw [nk_push h159 hG (hE0 b)]; exact hD1, hS1⟩
        rw [List.map_cons, nk_st (fun c hc => nk_ade h159 hc) hst] at hk
        have e : rx_ev (nk_ad ad G.length q) (.inr G.length) = .ref q := by show Value.ref _ = _; rw [nk_adn]
        rw [e] at hk
        exact hk
      have hok2 := hok
      simp only [nk_ok, Bool.and_eq_true, decide_eq_true_eq] at hok2
      obtain ⟨hd, -⟩ := hok2
      have hca : x + 1 ≤ R.cells := Nat.le_trans hxm hR.2.2.1
      have hsl : y + n.toNat ≤ R.slots := Nat.le_trans hym hR.2.2.2
      split at hd
      · refine va_newa (atype := .int) (ty := .int) (a0 := (n.toNat, .inl (fun j => Int32.ofInt (nk_fn [] j)))) hx hb (hts _ F.2.2.2.2.2.2.1.1) rfl hEn.1.1 hP hD hSS (fun q hq => Nat.le_trans hN0 hq) (fun _ => rfl) (rx_nlt hnr hn0) (rx_nat hnr) (by show n.toNat * 4 ≤ _; omega) hca hsl (of_decide_eq_true hd) (fun q cA' H1 hK1 hP1 hD1 hS1 => go q cA' H1 ?_ hP1 hD1 hS1)
        exact nk_cA (t := 0) hEn.1.1 hK1 rfl (fun _ h => h)
      · refine va_newa (atype := .boolean) (ty := .boolean) (a0 := (n.toNat, .inl (fun j => Int32.ofInt (nk_fn [] j)))) hx hb (hts _ F.2.2.2.2.2.2.1.2.1) rfl hEn.1.1 hP hD hSS (fun q hq => Nat.le_trans hN0 hq) (fun _ => rfl) (rx_nlt hnr hn0) (rx_nat hnr) (by show n.toNat * 1 ≤ _; omega) hca hsl (of_decide_eq_true hd) (fun q cA' H1 hK1 hP1 hD1 hS1 => go q cA' H1 ?_ hP1 hD1 hS1)
        exact nk_cA (t := 1) hEn.1.1 hK1 rfl (fun _ h => h)
      · refine va_newa (atype := .char) (ty := .char) (a0 := (n.toNat, .inl (fun j => Int32.ofInt (nk_fn [] j)))) hx hb (hts _ F.2.2.2.2.2.2.1.2.2) rfl hEn.1.1 hP hD hSS (fun q hq => Nat.le_trans hN0 hq) (fun _ => rfl) (rx_nlt hnr hn0) (rx_nat hnr) (by show n.toNat * 2 ≤ _; omega) hca hsl (of_decide_eq_true hd) (fun q cA' H1 hK1 hP1 hD1 hS1 => go q cA' H1 ?_ hP1 hD1 hS1)
        exact nk_cA (t := 2) hEn.1.1 hK1 rfl (fun _ h => h)
      · cases hd
    · cases hs
  · cases hs
set_option maxHeartbeats 4000000 in
theorem nk_W_35 (F : nk_Facts) (X : nk_X D cA N0 p R s m args meth c M d) (hok : nk_ok M pc (35, nx, a, b, c0, sw) = true) (hs : nk_step M.2.2.2.2.1 M.2.2.2.2.2 (35, nx, a, b, c0, sw) la st G x y = some (pc', la', st', G', x', y')) (S : nk_S D ad cA N0 s M.2.2.1 la G lsA H locs)
    (kk : ∀ (ad' : Nat → Nat) (lsB : Array Slot) (H1 : Heap) (locs1 : List Loc), (∀ c, c < G.length ∨ 159 ≤ c → ad' c = ad c) → nk_S D ad' cA N0 s M.2.2.1 la' G' lsB H1 locs1 → W p l e R s m args below meth c H1 locs1 x' y' Q (F0 m pc' lsB (st'.map (rx_ev ad')))) : W p l e R s m args below meth c H locs x y Q (F0 m pc lsA (st.map (rx_ev ad))) := by
  obtain ⟨hx, hb, hml, hown, hts, hR, hEn, hin, hN0⟩ := X
  obtain ⟨hL, hP, hD, hSS⟩ := S
  simp only [nk_step] at hs
  split at hs
  · next n st0 =>
    split at hs
    · next hc =>
      cases hs
      obtain ⟨hrm, hn0, hn1⟩ := hc
      obtain ⟨hG, hla, hst, hxm, hym, h159⟩ := nk_room_spec hrm
      have hnr : rx_r n := ⟨by omega, by omega⟩
      have hE0 : nk_okE 0 (.inr (.inr (b, List.replicate n.toNat none))) = true := List.all_eq_true.mpr (fun o ho => by rw [List.eq_of_mem_replicate ho]; rfl)
      have ee : nk_enc ad cA (.inr (.inr (b, List.replicate n.toNat none))) = .inl (cA b, n.toNat, .inr (.inr (.inr (.inr (fun _ => none))))) := by
        show (Sum.inl (cA b, (List.replicate n.toNat (none : Option Nat)).length, Sum.inr (Sum.inr (Sum.inr (Sum.inr (fun j => (((List.replicate n.toNat (none : Option Nat))[j]?).join).map ad))))) : va_E) = _
        rw [List.length_replicate]
        have : (fun j => (((List.replicate n.toNat (none : Option Nat))[j]?).join).map ad) = (fun _ : Nat => (none : Option Nat)) := by
          funext j
          rw [List.getElem?_replicate]
          split <;> rfl
        rw [this]
      simp only [nk_ok, Bool.and_eq_true, decide_eq_true_eq] at hok
      obtain ⟨⟨hd, rfl⟩, hlk⟩ := hok
      have go : ∀ (q : Nat) (cA' : ClassId) (H1 : Heap), cA' = cA b → va_P D vwCl (nk_H ad cA G ++ [(q, .inl (cA', n.toNat, .inr (.inr (.inr (.inr (fun _ => none))))))]) H1 → va_D (nk_A N0) (nk_H ad cA G ++ [(q, .inl (cA', n.toNat, .inr (.inr (.inr (.inr (fun _ => none))))))]) → va_S (nk_A N0) s.heap H1 locs → W p l e R s m args below meth c H1 locs (x + 1) (y + n.toNat) Q (F0 m (pc + 3) lsA (.ref q :: st0.map (rx_ev ad))) := by
        intro q cA' H1 hcA hP1 hD1 hS1
        subst hcA
        have hk := kk (nk_ad ad G.length q) lsA H1 locs (fun c hc => nk_ade h159 hc) ⟨nk_L (fun c hc => nk_ade h159 hc) hla hL, by rw [nk_push h159 hG hE0, ee]; exact hP1, by rw [nk_push h159 hG hE0, ee]; exact hD1, hS1⟩
        rw [List.map_cons, nk_st (fun c hc => nk_ade h159 hc) hst] at hk
        have e : rx_ev (nk_ad ad G.length q) (.inr G.length) = .ref q := by show Value.ref _ = _; rw [nk_adn]
        rw [e] at hk
        exact hk
      have hca : x + 1 ≤ R.cells := Nat.le_trans hxm hR.2.2.1
      have hsl : y + n.toNat ≤ R.slots := Nat.le_trans hym hR.2.2.2
      rcases hlk with ⟨⟨ho, hidx⟩, hb4⟩ | ⟨⟨ho, hidx⟩, hb5⟩
      · subst hb4
        rw [hidx] at hd
        refine va_newq (C := "RoadsCrossed$Sheet") hx hb hown (hts _ (by rw [ho]; exact F.2.2.2.1.1)) hEn.2.2.1 hEn.1.1 hP hD hSS (fun q hq => Nat.le_trans hN0 hq) (rx_nlt hnr hn0) (rx_nat hnr) (by omega) hca hsl hd (fun q cA' H1 hK1 hP1 hD1 hS1 => go q cA' H1 ?_ hP1 hD1 hS1)
        exact nk_cA (t := 4) hEn.1.1 hK1 rfl (fun _ h => by obtain ⟨_, _, _, _, _, h4⟩ := h; exact h4)
      · subst hb5
        rw [hidx] at hd
        refine va_newq (C := "RoadsCrossed$Slot") hx hb hown (hts _ (by rw [ho]; exact F.2.2.2.1.2)) hEn.2.2.2.1 hEn.1.1 hP hD hSS (fun q hq => Nat.le_trans hN0 hq) (rx_nlt hnr hn0) (rx_nat hnr) (by omega) hca hsl hd (fun q cA' H1 hK1 hP1 hD1 hS1 => go q cA' H1 ?_ hP1 hD1 hS1)
        exact nk_cA (t := 5) hEn.1.1 hK1 rfl (fun _ h => by obtain ⟨_, _, _, _, _, h4⟩ := h; exact h4)
    · cases hs
  · cases hs
set_option maxHeartbeats 4000000 in
theorem nk_W_37 (F : nk_Facts) (X : nk_X D cA N0 p R s m args meth c M d) (hok : nk_ok M pc (37, nx, a, b, c0, sw) = true) (hs : nk_step M.2.2.2.2.1 M.2.2.2.2.2 (37, nx, a, b, c0, sw) la st G x y = some (pc', la', st', G', x', y')) (S : nk_S D ad cA N0 s M.2.2.1 la G lsA H locs)
    (kk : ∀ (ad' : Nat → Nat) (lsB : Array Slot) (H1 : Heap) (locs1 : List Loc), (∀ c, c < G.length ∨ 159 ≤ c → ad' c = ad c) → nk_S D ad' cA N0 s M.2.2.1 la' G' lsB H1 locs1 → W p l e R s m args below meth c H1 locs1 x' y' Q (F0 m pc' lsB (st'.map (rx_ev ad')))) : W p l e R s m args below meth c H locs x y Q (F0 m pc lsA (st.map (rx_ev ad))) := by
  obtain ⟨hx, hb, hml, hown, hts, hR, hEn, hin, hN0⟩ := X
  obtain ⟨hL, hP, hD, hSS⟩ := S
  simp only [nk_step] at hs
  split at hs
  · next v j o st0 =>
    split at hs
    · next t rs ci fs hg hv =>
      split at hs
      · next hc =>
        cases hs
        obtain ⟨htc, hj, hj0, hj1⟩ := hc
        have hjr : rx_r j := by simpa [rx_inR, rx_r] using hj
        have ew : va_up (fun k => ((rs[k]?).join).map ad) (Int32.ofInt j).toNatClampNeg (some (ad v)) = (fun k => (((rs.set j.toNat (some v))[k]?).join).map ad) := by
          rw [rx_nat hjr]
          funext k
          show (if k = j.toNat then some (ad v) else ((rs[k]?).join).map ad) = _
          rw [List.getElem?_set]
          by_cases ek : k = j.toNat
          · rw [if_pos ek, if_pos ek.symm, if_pos (by omega)]
            rfl
          · rw [if_neg ek, if_neg (Ne.symm ek)]
        have e2 : (nk_H ad cA G).set o (ad o, .inl (cA t, rs.length, .inr (.inr (.inr (.inr (va_up (fun k => ((rs[k]?).join).map ad) (Int32.ofInt j).toNatClampNeg (some (ad v)))))))) = nk_H ad cA (G.set o (.inr (.inr (t, rs.set j.toNat (some v))))) := by
          rw [ew]
          have := nk_Hset (ad := ad) (cA := cA) (E' := .inr (.inr (t, rs.set j.toNat (some v)))) hg
          rw [← this]
          show _ = List.set _ _ (ad o, Sum.inl (cA t, (rs.set j.toNat (some v)).length, _))
          rw [List.length_set]
        simp only [nk_ok, Bool.and_eq_true, decide_eq_true_eq] at hok
        obtain ⟨hd, rfl⟩ := hok
        rcases htc with ⟨ht, hci⟩ | ⟨ht, hci⟩
        · subst ht
          subst hci
          refine va_astq hx hb hEn.1.1 hP hD hSS o 4 v 7 (r := rx_cl 7) (nk_Hat hg) rfl (nk_Hat hv) (rx_vw (by decide)) (i := Int32.ofInt j) (rx_vpin hjr hj0 hj1) hd (fun H1 locs1 hP1 hD1 hS1 => ?_)
          rw [e2] at hP1 hD1
          exact kk ad lsA H1 locs1 (fun _ _ => rfl) ⟨hL, hP1, hD1, hS1⟩
        · subst ht
          subst hci
          refine va_astq hx hb hEn.1.1 hP hD hSS o 5 v 8 (r := rx_cl 8) (nk_Hat hg) rfl (nk_Hat hv) (rx_vw (by decide)) (i := Int32.ofInt j) (rx_vpin hjr hj0 hj1) hd (fun H1 locs1 hP1 hD1 hS1 => ?_)
          rw [e2] at hP1 hD1
          exact kk ad lsA H1 locs1 (fun _ _ => rfl) ⟨hL, hP1, hD1, hS1⟩
      · cases hs
    · cases hs
  · cases hs
set_option maxHeartbeats 4000000 in
theorem nk_W_38 (F : nk_Facts) (X : nk_X D cA N0 p R s m args meth c M d) (hok : nk_ok M pc (38, nx, a, b, c0, sw) = true) (hs : nk_step M.2.2.2.2.1 M.2.2.2.2.2 (38, nx, a, b, c0, sw) la st G x y = some (pc', la', st', G', x', y')) (S : nk_S D ad cA N0 s M.2.2.1 la G lsA H locs)
    (kk : ∀ (ad' : Nat → Nat) (lsB : Array Slot) (H1 : Heap) (locs1 : List Loc), (∀ c, c < G.length ∨ 159 ≤ c → ad' c = ad c) → nk_S D ad' cA N0 s M.2.2.1 la' G' lsB H1 locs1 → W p l e R s m args below meth c H1 locs1 x' y' Q (F0 m pc' lsB (st'.map (rx_ev ad')))) : W p l e R s m args below meth c H locs x y Q (F0 m pc lsA (st.map (rx_ev ad))) := by
  obtain ⟨hx, hb, hml, hown, hts, hR, hEn, hin, hN0⟩ := X
  obtain ⟨hL, hP, hD, hSS⟩ := S
  simp only [nk_step] at hs
  split at hs
  · next o st0 =>
    split at hs
    · next h8 =>
      cases hs
      simp only [nk_ok, Bool.and_eq_true, decide_eq_true_eq] at hok
      obtain ⟨⟨hd, rfl⟩, hlk⟩ := hok
      obtain ⟨f1, f2, f3⟩ := F.2.2.2.2.2.1
      refine W.objInit hx hb hown (hts _ (f1 _ hlk)) (hts _ f2) (hts _ f3) (g := F0 m pc lsA (.ref (ad o) :: st'.map (rx_ev ad))) rfl (by rw [hml]; exact hL.1.1) rfl hd (by omega) ?_ (kk ad lsA H locs (fun _ _ => rfl) ⟨hL, hP, hD, hSS⟩)
      rw [rx_cats]
      show 2 * 0 + _ + 12 ≤ R.locals
      omega
    · cases hs
  · cases hs
end NKS
