def rx_cc (b : Nat) : Jvm.ClassFile.Cond := match b with
  | 0 => .eq
  | 1 => .ne
  | 2 => .lt
  | 3 => .ge
  | 4 => .gt
  | _ => .le
def rx_inR (a : Int) : Bool := decide (-2147483648 ≤ a) && decide (a < 2147483648)
def rx_cl (ci : Nat) : vw_C := vwCl.getD ci (RX0, TX0, 0)
/-- a class by its number -/
def rx_cn (o : Nat) : String := rx_CN.getD o ""
/-- links by numbers: a field's (whose pool, which entry, of which class, which field), a method's (.., which one, in which way), a constant's -/
def rx_fl (j o i ci k : Nat) : Bool := decide (rx_FL[j]? = some (o, i, ci, k))
def rx_ml (j o i y w : Nat) : Bool := decide (rx_ML[j]? = some (o, i, y, w))
def rx_kl (j o i : Nat) (a : Int) : Bool := decide (rx_KL[j]? = some (o, i, a))
def rx_hd (sw : List (Int × Nat)) (k : Nat) : Int × Nat := sw.getD k (0, 0)
def rx_alI (b : Nat) : Jvm.ClassFile.Instr := match b with
  | 0 => .iadd
  | 1 => .isub
  | 2 => .imul
  | 3 => .iand
  | 4 => .ior
  | 5 => .ixor
  | 6 => .ishl
  | 7 => .ishr
  | _ => .iushr
/-- the fields that are written: ints, booleans -/
def rx_wI : List (Nat × Nat) := [(1, 0), (1, 6), (1, 12), (1, 13), (3, 1), (3, 3), (3, 4), (4, 3), (5, 0), (5, 1), (5, 2), (5, 3), (5, 6), (5, 7), (5, 8), (5, 9), (6, 1), (6, 4), (7, 0), (7, 1), (8, 0), (8, 1), (8, 2), (8, 4), (9, 0), (9, 1), (9, 2), (10, 13), (11, 7), (11, 8), (11, 16), (11, 20), (11, 22), (11, 23), (11, 24), (11, 25), (11, 26), (11, 27), (11, 28), (11, 32), (11, 33), (11, 35), (11, 48)]
def rx_wZ : List (Nat × Nat) := [(10, 3), (11, 3)]
def rx_nest : List Cond := [.methodLinkNest "RoadsCrossed$Land" 71 ⟨"RoadsCrossed", "isPlace", "(II)Z"⟩ "RoadsCrossed", .methodLinkNest "RoadsCrossed$Costs" 50 ⟨"RoadsCrossed", "within", "(II)I"⟩ "RoadsCrossed", .methodLinkNest "RoadsCrossed$Costs" 56 ⟨"RoadsCrossed", "harmAs", "(III)I"⟩ "RoadsCrossed"]
/-- whether a call's link is there -/
noncomputable def rx_okC (M : rx_M) (pc : Nat) (i : rx_I) : Bool := match i with
  | (_, nx, a, b, c, sw) => decide (nx = pc + 3) && decide (b < 247) && decide (b ≠ 0) &&
    (if a = 0 then decide (decode M.2.1 pc = .ok (.invokestatic (rx_hd sw 0).1.toNat, 3)) && rx_ml (rx_hd sw 0).2 M.2.2.2.2 (rx_hd sw 0).1.toNat b 0 && decide (rx_np[b]? = some (c, true))
     else if a = 1 then decide (decode M.2.1 pc = .ok (.invokestatic (rx_hd sw 0).1.toNat, 3)) && rx_ml (rx_hd sw 0).2 M.2.2.2.2 (rx_hd sw 0).1.toNat b 1 && decide (rx_np[b]? = some (c, true))
     else decide (decode M.2.1 pc = .ok (.invokevirtual (rx_hd sw 0).1.toNat, 3)) && rx_ml (rx_hd sw 0).2 M.2.2.2.2 (rx_hd sw 0).1.toNat b 2 && decide (rx_np[b]? = some (c, false)) && decide (a = 2 + (rx_mi b).2.2.2.2))
noncomputable def rx_ok (M : rx_M) (pc : Nat) (i : rx_I) : Bool := match i with
  | (op, nx, a, b, c, sw) => match op with
    | 1 => rx_inR a && (match b with
      | 0 => decide (decode M.2.1 pc = .ok (.iconst a, 1)) && decide (nx = pc + 1)
      | 1 => decide (decode M.2.1 pc = .ok (.bipush a, 2)) && decide (nx = pc + 2) && decide ((Int8.ofInt a).toInt32 = Int32.ofInt a)
      | 2 => decide (decode M.2.1 pc = .ok (.sipush a, 3)) && decide (nx = pc + 3) && decide ((Int16.ofInt a).toInt32 = Int32.ofInt a)
      | 3 => decide (decode M.2.1 pc = .ok (.ldc (rx_hd sw 0).1.toNat, 2)) && decide (nx = pc + 2) && rx_kl c M.2.2.2.2 (rx_hd sw 0).1.toNat a
      | _ => decide (decode M.2.1 pc = .ok (.ldc_w (rx_hd sw 0).1.toNat, 3)) && decide (nx = pc + 3) && rx_kl c M.2.2.2.2 (rx_hd sw 0).1.toNat a)
    | 2 => if a = 0 then decide (decode M.2.1 pc = .ok (.iload_n (Fin.ofNat 4 b), 1)) && decide (nx = pc + 1) && decide (b < 4) else decide (decode M.2.1 pc = .ok (.iload b, 2)) && decide (nx = pc + 2)
    | 3 => if a = 0 then decide (decode M.2.1 pc = .ok (.aload_n (Fin.ofNat 4 b), 1)) && decide (nx = pc + 1) && decide (b < 4) else decide (decode M.2.1 pc = .ok (.aload b, 2)) && decide (nx = pc + 2)
    | 4 => if a = 0 then decide (decode M.2.1 pc = .ok (.istore_n (Fin.ofNat 4 b), 1)) && decide (nx = pc + 1) && decide (b < 4) else decide (decode M.2.1 pc = .ok (.istore b, 2)) && decide (nx = pc + 2)
    | 5 => if a = 0 then decide (decode M.2.1 pc = .ok (.astore_n (Fin.ofNat 4 b), 1)) && decide (nx = pc + 1) && decide (b < 4) else decide (decode M.2.1 pc = .ok (.astore b, 2)) && decide (nx = pc + 2)
    | 6 => decide (decode M.2.1 pc = .ok (.iinc b a, 3)) && decide (nx = pc + 3)
    | 7 => decide (decode M.2.1 pc = .ok (rx_alI b, 1)) && decide (nx = pc + 1) && decide (b ≤ 8)
    | 8 => (if b = 0 then decide (decode M.2.1 pc = .ok (.idiv, 1)) else decide (decode M.2.1 pc = .ok (.irem, 1))) && decide (nx = pc + 1)
    | 9 => (if b = 0 then decide (decode M.2.1 pc = .ok (.ineg, 1)) else decide (decode M.2.1 pc = .ok (.i2s, 1))) && decide (nx = pc + 1)
    | 10 => decide (decode M.2.1 pc = .ok (.dup, 1)) && decide (nx = pc + 1)
    | 11 => decide (decode M.2.1 pc = .ok (.dup2, 1)) && decide (nx = pc + 1)
    | 12 => decide (decode M.2.1 pc = .ok (.pop, 1)) && decide (nx = pc + 1)
    | 13 => decide (decode M.2.1 pc = .ok (.ifCond (rx_cc b) a, 3)) && decide (nx = pc + 3) && decide ((pc : Int) + a = c) && decide (b ≤ 5)
    | 14 => decide (decode M.2.1 pc = .ok (.if_icmp (rx_cc b) a, 3)) && decide (nx = pc + 3) && decide ((pc : Int) + a = c) && decide (b ≤ 5)
    | 15 => decide (decode M.2.1 pc = .ok (.goto a, 3)) && decide ((pc : Int) + a = c)
    | 16 => (match decode M.2.1 pc with
      | .ok (.tableswitch df lo hi offs, _) => decide ((pc : Int) + df = c) && decide (offs.toList.map (fun o => (pc : Int) + o) = sw.map (fun q => (q.2 : Int))) && decide (sw.map (fun q => q.1) = (List.range sw.length).map (fun (j : Nat) => lo + (j : Int))) && decide (lo + (sw.length : Int) = hi + 1)
      | .ok (.lookupswitch df ps, _) => decide ((pc : Int) + df = c) && decide (ps.toList.map (fun q => (q.1, (pc : Int) + q.2)) = sw.map (fun q => (q.1, (q.2 : Int)))) && (ps.toList.zip (ps.toList.drop 1)).all (fun (a, next) => a.1 < next.1)
      | _ => false)
    | 17 => decide (decode M.2.1 pc = .ok (.getfield (rx_hd sw 0).1.toNat, 3)) && decide (nx = pc + 3) && decide (b < vwCl.length) && decide (c < (rx_cl b).2.2) && rx_fl (rx_hd sw 0).2 M.2.2.2.2 (rx_hd sw 0).1.toNat b c
    | 18 => decide (decode M.2.1 pc = .ok (.getfield (rx_hd sw 0).1.toNat, 3)) && decide (nx = pc + 3) && decide (b < vwCl.length) && decide (c < (rx_cl b).2.2) && rx_fl (rx_hd sw 0).2 M.2.2.2.2 (rx_hd sw 0).1.toNat b c
    | 19 => decide (decode M.2.1 pc = .ok (.putfield (rx_hd sw 0).1.toNat, 3)) && decide (nx = pc + 3) && decide (b < vwCl.length) && decide (c < (rx_cl b).2.2) && rx_fl (rx_hd sw 0).2 M.2.2.2.2 (rx_hd sw 0).1.toNat b c && (if a = 0 then decide ((b, c) ∈ rx_wI) else decide ((b, c) ∈ rx_wZ))
    | 20 => (match b with
      | 0 => decide (decode M.2.1 pc = .ok (.iaload, 1))
      | 1 => decide (decode M.2.1 pc = .ok (.baload, 1))
      | 2 => decide (decode M.2.1 pc = .ok (.caload, 1))
      | _ => false) && decide (nx = pc + 1)
    | 21 => (match b with
      | 0 => decide (decode M.2.1 pc = .ok (.iastore, 1))
      | 1 => decide (decode M.2.1 pc = .ok (.bastore, 1))
      | 2 => decide (decode M.2.1 pc = .ok (.castore, 1))
      | _ => false) && decide (nx = pc + 1)
    | 22 => decide (decode M.2.1 pc = .ok (.aaload, 1)) && decide (nx = pc + 1)
    | 23 => decide (decode M.2.1 pc = .ok (.arraylength, 1)) && decide (nx = pc + 1)
    | 24 => if a = 0 then decide (decode M.2.1 pc = .ok (.getstatic (rx_hd sw 0).1.toNat, 3)) && decide (nx = pc + 3) && decide (b = 160) && decide (M.2.2.2.2 = 10) && decide ((rx_hd sw 0).1.toNat = 385)
      else decide (decode M.2.1 pc = .ok (.ldc (rx_hd sw 0).1.toNat, 2)) && decide (nx = pc + 2) && decide (M.2.2.2.2 = 5) && decide ((b, (rx_hd sw 0).1.toNat) ∈ [(161, 73), (162, 79), (163, 81)])
    | 25 => decide (decode M.2.1 pc = .ok (.invokestatic (rx_hd sw 0).1.toNat, 3)) && decide (nx = pc + 3) && decide (rx_AL[(rx_hd sw 0).2]? = some (M.2.2.2.2, (rx_hd sw 0).1.toNat))
    | 26 => decide (decode M.2.1 pc = .ok (.invokevirtual (rx_hd sw 0).1.toNat, 3)) && decide (nx = pc + 3) && decide (M.2.2.2.2 = 5) && decide ((rx_hd sw 0).1.toNat = 65)
    | 27 => decide (decode M.2.1 pc = .ok (.invokevirtual (rx_hd sw 0).1.toNat, 3)) && decide (nx = pc + 3) && decide (M.2.2.2.2 = 5) && decide ((rx_hd sw 0).1.toNat = 69)
    | 28 => rx_okC M pc i
    | 29 => decide (decode M.2.1 pc = .ok (.ireturn, 1)) && (if a = 0 then decide (M.2.2.2.1 = some .int) else decide (M.2.2.2.1 = some .boolean))
    | 31 => decide (decode M.2.1 pc = .ok (.invokestatic (rx_hd sw 0).1.toNat, 3)) && decide (nx = pc + 3) && decide (rx_HL[(rx_hd sw 0).2]? = some (M.2.2.2.2, (rx_hd sw 0).1.toNat, b)) && decide (b ≤ 1)
    | 32 => decide (decode M.2.1 pc = .ok (.invokestatic (rx_hd sw 0).1.toNat, 3)) && decide (nx = pc + 3) && decide (rx_HL[(rx_hd sw 0).2]? = some (M.2.2.2.2, (rx_hd sw 0).1.toNat, 2))
    | 30 => decide (decode M.2.1 pc = .ok (.return_, 1)) && decide (M.2.2.2.1 = none)
    | _ => false
noncomputable def rx_okm (m : Nat) : Bool := (rx_tab.getD m []).all (fun q => rx_ok (rx_mi m) q.1 q.2)
