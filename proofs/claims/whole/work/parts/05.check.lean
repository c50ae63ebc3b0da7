def rx_cc (b : Nat) : Jvm.ClassFile.Cond := match b with
  | 0 => .eq
  | 1 => .ne
  | 2 => .lt
  | 3 => .ge
  | 4 => .gt
  | _ => .le
def rx_inR (a : Int) : Bool := decide (-2147483648 ≤ a) && decide (a < 2147483648)
def rx_cl (ci : Nat) : vw_C := vwCl.getD ci (RX0, TX0, 0)
/-- a word of the tables, at its place, that every method may rely on -/
def rx_wd (p : Nat) (w : Cond) : Bool := decide (lw_tbl[p]? = some w) && goodWord w
def rx_hd (sw : List (Int × Nat)) (k : Nat) : Int × Nat := sw.getD k (0, 0)
def rx_alI (b : Nat) : Jvm.ClassFile.Instr := match b with
  | 0 => .iadd
  | 1 => .isub
  | 2 => .imul
  | 3 => .iand
  | 4 => .ior
  | 5 => .ixor
  | 6 => .ishl
  | 7 => .ishr
  | _ => .iushr
def rx_nest : List Cond := [.methodLinkNest "RoadsCrossed$Land" 71 ⟨"RoadsCrossed", "isPlace", "(II)Z"⟩ "RoadsCrossed", .methodLinkNest "RoadsCrossed$Costs" 50 ⟨"RoadsCrossed", "within", "(II)I"⟩ "RoadsCrossed", .methodLinkNest "RoadsCrossed$Costs" 56 ⟨"RoadsCrossed", "harmAs", "(III)I"⟩ "RoadsCrossed"]
/-- whether a call's words are there -/
noncomputable def rx_okC (M : rx_M) (pc : Nat) (i : rx_I) : Bool := match i with
  | (_, nx, a, b, c, sw) => decide (nx = pc + 3) && decide (b < rx_ms.length) && decide ((rx_mi b).1.cls ≠ "java/lang/invoke/MethodHandle") && decide ((rx_mi b).1.cls ≠ "java/lang/invoke/VarHandle") && plainName (rx_mi b).1.cls && rx_wd (rx_mi b).2.2.2.2 (.code (rx_mi b).1 (rx_mi b).2.1 (rx_mi b).2.2.1 (rx_mi b).2.2.2.1) && decide ((rx_mi b).2.2.1 ≤ 40) && decide (c ≤ (rx_mi b).2.2.1) &&
    (if a = 0 then decide (decode M.2.1 pc = .ok (.invokestatic (rx_hd sw 0).1.toNat, 3)) && rx_wd (rx_hd sw 0).2 (.methodLink M.1.cls (rx_hd sw 0).1.toNat (rx_mi b).1) && rx_wd (rx_hd sw 1).2 (.static (rx_mi b).1) && rx_wd (rx_hd sw 2).2 (.initialized (rx_mi b).1.cls) && decide ((parseMethodDescriptor (rx_mi b).1.desc).map (fun d => d.parameters.length) = some c)
     else if a = 1 then decide (decode M.2.1 pc = .ok (.invokestatic (rx_hd sw 0).1.toNat, 3)) && decide (Cond.methodLinkNest M.1.cls (rx_hd sw 0).1.toNat (rx_mi b).1 "RoadsCrossed" ∈ rx_nest) && rx_wd (rx_hd sw 1).2 (.static (rx_mi b).1) && rx_wd (rx_hd sw 2).2 (.initialized (rx_mi b).1.cls) && decide ((parseMethodDescriptor (rx_mi b).1.desc).map (fun d => d.parameters.length) = some c)
     else decide (decode M.2.1 pc = .ok (.invokevirtual (rx_hd sw 0).1.toNat, 3)) && rx_wd (rx_hd sw 0).2 (.methodLink M.1.cls (rx_hd sw 0).1.toNat (rx_mi b).1) && rx_wd (rx_hd sw 1).2 (.instanceMethod (rx_mi b).1) && rx_wd (rx_hd sw 2).2 (.selects (rx_mi b).1.cls (rx_mi b).1 (rx_mi b).1) && rx_wd (rx_hd sw 3).2 (.initialized (rx_mi b).1.cls) && decide ((parseMethodDescriptor (rx_mi b).1.desc).map (fun d => d.parameters.length + 1) = some c) && decide (2 ≤ a) && decide ((a - 2).toNat < vwCl.length) && decide ((rx_cl (a - 2).toNat).1 = (rx_mi b).1.cls))
noncomputable def rx_ok (M : rx_M) (pc : Nat) (i : rx_I) : Bool := match i with
  | (op, nx, a, b, c, sw) => match op with
    | 1 => rx_inR a && (match b with
      | 0 => decide (decode M.2.1 pc = .ok (.iconst a, 1)) && decide (nx = pc + 1)
      | 1 => decide (decode M.2.1 pc = .ok (.bipush a, 2)) && decide (nx = pc + 2) && decide ((Int8.ofInt a).toInt32 = Int32.ofInt a)
      | 2 => decide (decode M.2.1 pc = .ok (.sipush a, 3)) && decide (nx = pc + 3) && decide ((Int16.ofInt a).toInt32 = Int32.ofInt a)
      | 3 => decide (decode M.2.1 pc = .ok (.ldc (rx_hd sw 0).1.toNat, 2)) && decide (nx = pc + 2) && rx_wd (rx_hd sw 0).2 (.constant M.1.cls (rx_hd sw 0).1.toNat (Int32.ofInt a))
      | _ => decide (decode M.2.1 pc = .ok (.ldc_w (rx_hd sw 0).1.toNat, 3)) && decide (nx = pc + 3) && rx_wd (rx_hd sw 0).2 (.constant M.1.cls (rx_hd sw 0).1.toNat (Int32.ofInt a)))
    | 2 => if a = 0 then decide (decode M.2.1 pc = .ok (.iload_n (Fin.ofNat 4 b), 1)) && decide (nx = pc + 1) && decide (b < 4) else decide (decode M.2.1 pc = .ok (.iload b, 2)) && decide (nx = pc + 2)
    | 3 => if a = 0 then decide (decode M.2.1 pc = .ok (.aload_n (Fin.ofNat 4 b), 1)) && decide (nx = pc + 1) && decide (b < 4) else decide (decode M.2.1 pc = .ok (.aload b, 2)) && decide (nx = pc + 2)
    | 4 => if a = 0 then decide (decode M.2.1 pc = .ok (.istore_n (Fin.ofNat 4 b), 1)) && decide (nx = pc + 1) && decide (b < 4) else decide (decode M.2.1 pc = .ok (.istore b, 2)) && decide (nx = pc + 2)
    | 5 => if a = 0 then decide (decode M.2.1 pc = .ok (.astore_n (Fin.ofNat 4 b), 1)) && decide (nx = pc + 1) && decide (b < 4) else decide (decode M.2.1 pc = .ok (.astore b, 2)) && decide (nx = pc + 2)
    | 6 => decide (decode M.2.1 pc = .ok (.iinc b a, 3)) && decide (nx = pc + 3)
    | 7 => decide (decode M.2.1 pc = .ok (rx_alI b, 1)) && decide (nx = pc + 1) && decide (b ≤ 8)
    | 8 => (if b = 0 then decide (decode M.2.1 pc = .ok (.idiv, 1)) else decide (decode M.2.1 pc = .ok (.irem, 1))) && decide (nx = pc + 1)
    | 9 => (if b = 0 then decide (decode M.2.1 pc = .ok (.ineg, 1)) else decide (decode M.2.1 pc = .ok (.i2s, 1))) && decide (nx = pc + 1)
    | 10 => decide (decode M.2.1 pc = .ok (.dup, 1)) && decide (nx = pc + 1)
    | 11 => decide (decode M.2.1 pc = .ok (.dup2, 1)) && decide (nx = pc + 1)
    | 12 => decide (decode M.2.1 pc = .ok (.pop, 1)) && decide (nx = pc + 1)
    | 13 => decide (decode M.2.1 pc = .ok (.ifCond (rx_cc b) a, 3)) && decide (nx = pc + 3) && decide ((pc : Int) + a = c) && decide (b ≤ 5)
    | 14 => decide (decode M.2.1 pc = .ok (.if_icmp (rx_cc b) a, 3)) && decide (nx = pc + 3) && decide ((pc : Int) + a = c) && decide (b ≤ 5)
    | 15 => decide (decode M.2.1 pc = .ok (.goto a, 3)) && decide ((pc : Int) + a = c)
    | 16 => (match decode M.2.1 pc with
      | .ok (.tableswitch df lo hi offs, _) => decide ((pc : Int) + df = c) && decide (offs.toList.map (fun o => (pc : Int) + o) = sw.map (fun q => (q.2 : Int))) && decide (sw.map (fun q => q.1) = (List.range sw.length).map (fun (j : Nat) => lo + (j : Int))) && decide (lo + (sw.length : Int) = hi + 1)
      | .ok (.lookupswitch df ps, _) => decide ((pc : Int) + df = c) && decide (ps.toList.map (fun q => (q.1, (pc : Int) + q.2)) = sw.map (fun q => (q.1, (q.2 : Int)))) && (ps.toList.zip (ps.toList.drop 1)).all (fun (a, next) => a.1 < next.1)
      | _ => false)
    | 17 => decide (decode M.2.1 pc = .ok (.getfield (rx_hd sw 0).1.toNat, 3)) && decide (nx = pc + 3) && decide (b < vwCl.length) && decide (c < (rx_cl b).2.2) && rx_wd (rx_hd sw 0).2 (.fieldLink M.1.cls (rx_hd sw 0).1.toNat ((rx_cl b).2.1 c).1 ((rx_cl b).2.1 c).2.1 ((rx_cl b).2.1 c).2.2.1)
    | 18 => decide (decode M.2.1 pc = .ok (.getfield (rx_hd sw 0).1.toNat, 3)) && decide (nx = pc + 3) && decide (b < vwCl.length) && decide (c < (rx_cl b).2.2) && rx_wd (rx_hd sw 0).2 (.fieldLink M.1.cls (rx_hd sw 0).1.toNat ((rx_cl b).2.1 c).1 ((rx_cl b).2.1 c).2.1 ((rx_cl b).2.1 c).2.2.1)
    | 19 => decide (decode M.2.1 pc = .ok (.putfield (rx_hd sw 0).1.toNat, 3)) && decide (nx = pc + 3) && decide (b < vwCl.length) && decide (c < (rx_cl b).2.2) && rx_wd (rx_hd sw 0).2 (.fieldLink M.1.cls (rx_hd sw 0).1.toNat ((rx_cl b).2.1 c).1 ((rx_cl b).2.1 c).2.1 ((rx_cl b).2.1 c).2.2.1) && decide (((rx_cl b).2.1 c).2.2.2 = false) && (if a = 0 then decide (parseFieldDescriptor ((rx_cl b).2.1 c).2.2.1 = some .int) else decide (parseFieldDescriptor ((rx_cl b).2.1 c).2.2.1 = some .boolean))
    | 20 => (match b with
      | 0 => decide (decode M.2.1 pc = .ok (.iaload, 1))
      | 1 => decide (decode M.2.1 pc = .ok (.baload, 1))
      | 2 => decide (decode M.2.1 pc = .ok (.caload, 1))
      | _ => false) && decide (nx = pc + 1)
    | 21 => (match b with
      | 0 => decide (decode M.2.1 pc = .ok (.iastore, 1))
      | 1 => decide (decode M.2.1 pc = .ok (.bastore, 1))
      | 2 => decide (decode M.2.1 pc = .ok (.castore, 1))
      | _ => false) && decide (nx = pc + 1)
    | 22 => decide (decode M.2.1 pc = .ok (.aaload, 1)) && decide (nx = pc + 1)
    | 23 => decide (decode M.2.1 pc = .ok (.arraylength, 1)) && decide (nx = pc + 1)
    | 24 => if a = 0 then decide (decode M.2.1 pc = .ok (.getstatic (rx_hd sw 0).1.toNat, 3)) && decide (nx = pc + 3) && decide (b = 160) && rx_wd (rx_hd sw 0).2 (.fieldLink M.1.cls (rx_hd sw 0).1.toNat "RoadsCrossed" "ABOVE" "[I")
      else decide (decode M.2.1 pc = .ok (.ldc (rx_hd sw 0).1.toNat, 2)) && decide (nx = pc + 2) && (decide ((b, M.1.cls, (rx_hd sw 0).1.toNat) ∈ [(161, "RoadsCrossed$Reader", 73), (162, "RoadsCrossed$Reader", 79), (163, "RoadsCrossed$Reader", 81)]))
    | 25 => decide (decode M.2.1 pc = .ok (.invokestatic (rx_hd sw 0).1.toNat, 3)) && decide (nx = pc + 3) && rx_wd (rx_hd sw 0).2 (.methodLink M.1.cls (rx_hd sw 0).1.toNat arraycopyName)
    | 26 => decide (decode M.2.1 pc = .ok (.invokevirtual (rx_hd sw 0).1.toNat, 3)) && decide (nx = pc + 3) && rx_wd (rx_hd sw 0).2 (.methodLink M.1.cls (rx_hd sw 0).1.toNat yJ0_length_8abf5)
    | 27 => decide (decode M.2.1 pc = .ok (.invokevirtual (rx_hd sw 0).1.toNat, 3)) && decide (nx = pc + 3) && rx_wd (rx_hd sw 0).2 (.methodLink M.1.cls (rx_hd sw 0).1.toNat yJ0_charAt_5068e)
    | 28 => rx_okC M pc i
    | 29 => decide (decode M.2.1 pc = .ok (.ireturn, 1)) && (if a = 0 then decide (M.2.2.2.1 = some .int) else decide (M.2.2.2.1 = some .boolean))
    | 30 => decide (decode M.2.1 pc = .ok (.return_, 1)) && decide (M.2.2.2.1 = none)
    | _ => false
noncomputable def rx_okm (m : Nat) : Bool := (rx_tab.getD m []).all (fun q => rx_ok (rx_mi m) q.1 q.2)
