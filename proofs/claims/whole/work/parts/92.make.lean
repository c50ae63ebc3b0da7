/-! ===== the constructors: a machine that makes cells ===== -/
/-- a cell in the making: an object (its class, of each field null or what it holds), a row of numbers (of a type, so many, what was written into it), a row of references -/
abbrev nk_E : Type := (Nat × List (Option rx_V)) ⊕ ((Nat × Nat × List (Nat × Int)) ⊕ (Nat × List (Option Nat)))
/-- a constructor: name, bytes, variables, whose it is, how many cells and slots it makes -/
abbrev nk_M : Type := MethodName × ByteArray × Nat × Nat × Nat × Nat
def nk_ev (ad : Nat → Nat) (o : Option rx_V) : Value := match o with
  | none => .null
  | some v => rx_ev ad v
def nk_fn (w : List (Nat × Int)) (j : Nat) : Int := (w.lookup j).getD 0
def nk_enc (ad : Nat → Nat) (cA : Nat → ClassId) (E : nk_E) : va_E := match E with
  | .inl (ci, fs) => .inr (ci, fs.map (nk_ev ad))
  | .inr (.inl (t, n, w)) => .inl (cA t, n, .inl (fun j => Int32.ofInt (nk_fn w j)))
  | .inr (.inr (t, rs)) => .inl (cA t, rs.length, .inr (.inr (.inr (.inr (fun j => ((rs[j]?).join).map ad)))))
def nk_H (ad : Nat → Nat) (cA : Nat → ClassId) (G : List nk_E) : va_W := G.mapIdx (fun c E => (ad c, nk_enc ad cA E))
def nk_A (N0 : Nat) : Nat → Prop := fun q => N0 ≤ q
/-- references that lie within the first n cells -/
def nk_rv (n : Nat) (o : Option rx_V) : Bool := match o with
  | some (.inr r) => Nat.blt r n || Nat.ble 159 r
  | _ => true
def nk_rn (n : Nat) (o : Option Nat) : Bool := match o with
  | some r => Nat.blt r n
  | none => true
def nk_okE (n : Nat) (E : nk_E) : Bool := match E with
  | .inl (_, fs) => fs.all (nk_rv n)
  | .inr (.inl _) => true
  | .inr (.inr (_, rs)) => rs.all (nk_rn n)
def nk_okG (G : List nk_E) : Bool := G.all (nk_okE G.length)
def nk_okA (n : Nat) (la : List (Option rx_V)) (st : List rx_V) : Bool := la.all (nk_rv n) && st.all (fun v => nk_rv n (some v))
section NKW
variable {ad ad' : Nat → Nat} {cA : Nat → ClassId} {G F : List nk_E} {n : Nat}
theorem nk_lt {r n : Nat} (h : Nat.blt r n = true) : r < n := Nat.le_of_ble_eq_true h
theorem nk_lt2 {r n : Nat} (h : (Nat.blt r n || Nat.ble 159 r) = true) : r < n ∨ 159 ≤ r := by
  rw [Bool.or_eq_true] at h
  exact h.imp nk_lt Nat.le_of_ble_eq_true
theorem nk_rvE (h : ∀ c, c < n ∨ 159 ≤ c → ad' c = ad c) {v : rx_V} (hv : nk_rv n (some v) = true) : rx_ev ad' v = rx_ev ad v := by
  cases v with
  | inl i => rfl
  | inr r =>
    show Value.ref (ad' r) = Value.ref (ad r)
    rw [h r (nk_lt2 hv)]
theorem nk_evE (h : ∀ c, c < n ∨ 159 ≤ c → ad' c = ad c) {o : Option rx_V} (hv : nk_rv n o = true) : nk_ev ad' o = nk_ev ad o := by
  cases o with
  | none => rfl
  | some v => exact nk_rvE h hv
theorem nk_encE (h : ∀ c, c < n ∨ 159 ≤ c → ad' c = ad c) {E : nk_E} (hE : nk_okE n E = true) : nk_enc ad' cA E = nk_enc ad cA E := by
  match E, hE with
  | .inl (ci, fs), hE =>
    have hE : fs.all (nk_rv n) = true := hE
    show (Sum.inr (ci, fs.map (nk_ev ad')) : va_E) = Sum.inr (ci, fs.map (nk_ev ad))
    rw [List.map_congr_left (fun o ho => nk_evE h (List.all_eq_true.mp hE o ho))]
  | .inr (.inl (t, n', w)), _ => rfl
  | .inr (.inr (t, rs)), hE =>
    have hE : rs.all (nk_rn n) = true := hE
    have e : (fun j : Nat => ((rs[j]?).join).map ad') = (fun j : Nat => ((rs[j]?).join).map ad) := by
      funext j
      cases hj : rs[j]? with
      | none => rfl
      | some o =>
        cases o with
        | none => rfl
        | some r =>
          show some (ad' r) = some (ad r)
          rw [h r (Or.inl (nk_lt (List.all_eq_true.mp hE (some r) (List.mem_of_getElem? hj))))]
    show (Sum.inl (cA t, rs.length, Sum.inr (Sum.inr (Sum.inr (Sum.inr (fun j => ((rs[j]?).join).map ad'))))) : va_E) = Sum.inl (cA t, rs.length, Sum.inr (Sum.inr (Sum.inr (Sum.inr (fun j => ((rs[j]?).join).map ad)))))
    rw [e]
theorem nk_Hat {c : Nat} {E : nk_E} (h : G[c]? = some E) : (nk_H ad cA G)[c]? = some (ad c, nk_enc ad cA E) := by
  unfold nk_H
  rw [List.getElem?_mapIdx, h]
  rfl
theorem nk_Hset {c : Nat} {E E' : nk_E} (h : G[c]? = some E) : (nk_H ad cA G).set c (ad c, nk_enc ad cA E') = nk_H ad cA (G.set c E') := by
  have hl : c < G.length := (List.getElem?_eq_some_iff.mp h).1
  apply List.ext_getElem?
  intro j
  rw [List.getElem?_set]
  unfold nk_H
  rw [List.length_mapIdx, List.getElem?_mapIdx, List.getElem?_mapIdx, List.getElem?_set]
  by_cases e : c = j
  · subst e
    rw [if_pos rfl, if_pos rfl, if_pos hl, if_pos hl]
    rfl
  · rw [if_neg e, if_neg e]
theorem nk_Hg (h : ∀ c, c < G.length ∨ 159 ≤ c → ad' c = ad c) (hG : nk_okG G = true) : nk_H ad' cA (G ++ F) = nk_H ad cA G ++ F.mapIdx (fun c E => (ad' (c + G.length), nk_enc ad' cA E)) := by
  unfold nk_H
  rw [List.mapIdx_append]
  congr 1
  apply List.ext_getElem?
  intro j
  rw [List.getElem?_mapIdx, List.getElem?_mapIdx]
  cases hj : G[j]? with
  | none => rfl
  | some E =>
    have hl : j < G.length := (List.getElem?_eq_some_iff.mp hj).1
    show some (ad' j, nk_enc ad' cA E) = some (ad j, nk_enc ad cA E)
    rw [h j (Or.inl hl), nk_encE h (List.all_eq_true.mp hG E (List.mem_of_getElem? hj))]
/-- one cell more -/
def nk_ad (ad : Nat → Nat) (n q : Nat) : Nat → Nat := fun c => if c = n then q else ad c
theorem nk_adn {q : Nat} : nk_ad ad n q n = q := if_pos rfl
theorem nk_ade {q c : Nat} (hn : n < 159) (h : c < n ∨ 159 ≤ c) : nk_ad ad n q c = ad c := if_neg (by omega)
theorem nk_push {q : Nat} {E : nk_E} (h159 : G.length < 159) (hG : nk_okG G = true) (hE : nk_okE 0 E = true) : nk_H (nk_ad ad G.length q) cA (G ++ [E]) = nk_H ad cA G ++ [(q, nk_enc ad cA E)] := by
  rw [nk_Hg (fun c hc => nk_ade h159 hc) hG]
  show _ ++ [(nk_ad ad G.length q (0 + G.length), nk_enc (nk_ad ad G.length q) cA E)] = _
  rw [Nat.zero_add, nk_adn, nk_encE (n := 0) (ad := ad) (fun c hc => nk_ade h159 (Or.inr (hc.resolve_left (Nat.not_lt_zero c)))) hE]
theorem nk_L (h : ∀ c, c < n ∨ 159 ≤ c → ad' c = ad c) {lsA : Array Slot} {nL : Nat} {la : List (Option rx_V)} (hla : la.all (nk_rv n) = true) (hL : rx_L ad lsA nL la) : rx_L ad' lsA nL la := by
  refine ⟨⟨hL.1.1, hL.1.2.1, fun q hq => hL.1.2.2 q ?_⟩, hL.2⟩
  obtain ⟨v, h1, h2⟩ := rx_encl_mem.mp hq
  refine rx_encl_mem.mpr ⟨v, h1, ?_⟩
  rw [h2, nk_rvE h (List.all_eq_true.mp hla (some v) (List.mem_of_getElem? h1))]
theorem nk_st (h : ∀ c, c < n ∨ 159 ≤ c → ad' c = ad c) {st : List rx_V} (hs : st.all (fun v => nk_rv n (some v)) = true) : st.map (rx_ev ad') = st.map (rx_ev ad) :=
  List.map_congr_left (fun v hv => nk_rvE h (List.all_eq_true.mp hs v hv))
end NKW
/-- what a class's object is when it is made -/
def nk_DF : List (List (Option rx_V)) := [[none, none, none], [some (.inl 0), none, none, none, none, none, some (.inl 0), none, none, none, none, none, some (.inl 0), some (.inl 0)], [none, none, none, none, none], [none, some (.inl 0), none, some (.inl 0), some (.inl 0), none], [none, none, none, some (.inl 0)], [some (.inl 0), some (.inl 0), some (.inl 0), some (.inl 0), none, none, some (.inl 0), some (.inl 0), some (.inl 0), some (.inl 0)], [none, some (.inl 0), none, none, some (.inl 0)], [some (.inl 0), some (.inl 0), none], [some (.inl 0), some (.inl 0), some (.inl 0), none, some (.inl 0)], [some (.inl 0), some (.inl 0), some (.inl 0)], [none, none, none, some (.inl 0), none, none, none, none, none, none, none, none, none, some (.inl 0)], [none, none, none, some (.inl 0), none, none, none, some (.inl 0), some (.inl 0), none, none, none, none, none, none, none, some (.inl 0), none, none, none, some (.inl 0), none, some (.inl 0), some (.inl 0), some (.inl 0), some (.inl 0), some (.inl 0), some (.inl 0), some (.inl 0), none, none, none, some (.inl 0), some (.inl 0), none, some (.inl 0), none, none, none, none, none, none, none, none, none, none, none, none, some (.inl 0)]]
def nk_df (ci : Nat) : List (Option rx_V) := nk_DF.getD ci []
/-- what a type's first value is: true 0, false null -/
def nk_ty (ty : FieldType) : Option Bool := match ty with
  | .int => some true
  | .boolean => some true
  | .array _ => some false
  | .object _ => some false
  | _ => none
theorem nk_tyT {ty : FieldType} (h : nk_ty ty = some true) : defaultValue ty = .int 0 := by
  cases ty <;> first | rfl | cases h
theorem nk_tyF {ty : FieldType} (h : nk_ty ty = some false) : defaultValue ty = .null ∧ ∀ a : Nat, narrow ty (.ref a) = .ref a ∧ fits ty (.ref a) = true := by
  cases ty <;> first | exact ⟨rfl, fun a => ⟨rfl, rfl⟩⟩ | cases h
def nk_nest : List Cond := [.methodLinkNest "RoadsCrossed" 11 ⟨"RoadsCrossed$Land", "<init>", "()V"⟩ "RoadsCrossed", .methodLinkNest "RoadsCrossed" 30 ⟨"RoadsCrossed$Reader", "<init>", "()V"⟩ "RoadsCrossed", .methodLinkNest "RoadsCrossed" 37 ⟨"RoadsCrossed$Costs", "<init>", "()V"⟩ "RoadsCrossed", .methodLinkNest "RoadsCrossed$Costs" 11 ⟨"RoadsCrossed$Laws", "<init>", "()V"⟩ "RoadsCrossed", .methodLinkNest "RoadsCrossed" 44 ⟨"RoadsCrossed$SwapSearch", "<init>", "()V"⟩ "RoadsCrossed", .methodLinkNest "RoadsCrossed" 51 ⟨"RoadsCrossed$PageSearch", "<init>", "()V"⟩ "RoadsCrossed", .methodLinkNest "RoadsCrossed" 58 ⟨"RoadsCrossed$LineSearch", "<init>", "()V"⟩ "RoadsCrossed", .methodLinkNest "RoadsCrossed" 65 ⟨"RoadsCrossed$RowSearch", "<init>", "()V"⟩ "RoadsCrossed", .methodLinkNest "RoadsCrossed" 90 ⟨"RoadsCrossed$Sheet", "<init>", "()V"⟩ "RoadsCrossed", .methodLinkNest "RoadsCrossed" 91 ⟨"RoadsCrossed$Slot", "<init>", "()V"⟩ "RoadsCrossed", .methodLinkNest "RoadsCrossed$Slot" 23 ⟨"RoadsCrossed$Sheet", "<init>", "()V"⟩ "RoadsCrossed"]
def nk_Env (D : va_G) (cA : Nat → ClassId) (s : State) : Prop := rx_Env D cA s ∧ (∀ w ∈ nk_nest, va_Nw w s) ∧ va_AO "RoadsCrossed$Sheet" s ∧ va_AO "RoadsCrossed$Slot" s ∧ va_AOA .int s
theorem nk_Env.warm {D : va_G} {cA : Nat → ClassId} {s U : State} (hW : s.WarmedH U.vm) (h : nk_Env D cA s) : nk_Env D cA U := by
  refine ⟨h.1.warm hW, fun w hw => ?_, h.2.2.1.moved hW.alike, h.2.2.2.1.moved hW.alike, h.2.2.2.2.moved hW.alike⟩
  have h1 := h.2.1 w hw
  simp only [nk_nest, List.mem_cons, List.not_mem_nil, or_false] at hw
  rcases hw with rfl | rfl | rfl | rfl | rfl | rfl | rfl | rfl | rfl | rfl | rfl <;> exact va_Nw.warmM hW h1
abbrev nk_F : Type := Nat × List (Option rx_V) × List rx_V × List nk_E × Nat × Nat
def nk_room (G : List nk_E) (la : List (Option rx_V)) (st : List rx_V) (x y mc ms : Nat) : Bool := nk_okG G && nk_okA G.length la st && Nat.ble x mc && Nat.ble y ms && Nat.blt G.length 159
def nk_step (mc ms : Nat) (i : rx_I) (la : List (Option rx_V)) (st : List rx_V) (G : List nk_E) (x y : Nat) : Option nk_F := match i with
  | (op, nx, a, b, c, _) => match op with
    | 1 => some (nx, la, .inl a :: st, G, x, y)
    | 2 => (match la[b]? with
      | some (some (.inl v)) => some (nx, la, .inl v :: st, G, x, y)
      | _ => none)
    | 3 => (match la[b]? with
      | some (some (.inr v)) => some (nx, la, .inr v :: st, G, x, y)
      | _ => none)
    | 4 => (match st with
      | .inl v :: st => if b < la.length then some (nx, la.set b (some (.inl v)), st, G, x, y) else none
      | _ => none)
    | 5 => (match st with
      | .inr v :: st => if b < la.length then some (nx, la.set b (some (.inr v)), st, G, x, y) else none
      | _ => none)
    | 6 => (match la[b]? with
      | some (some (.inl v)) => some (nx, la.set b (some (.inl (rx_w (v + a)))), st, G, x, y)
      | _ => none)
    | 10 => (match st with
      | v :: st => some (nx, la, v :: v :: st, G, x, y)
      | _ => none)
    | 14 => (match st with
      | .inl v2 :: .inl v1 :: st => if rx_inR v1 = true ∧ rx_inR v2 = true then some (if v2 ≤ v1 then c else nx, la, st, G, x, y) else none
      | _ => none)
    | 15 => some (c, la, st, G, x, y)
    | 18 => (match st with
      | .inr o :: st => (match G[o]? with
        | some (.inl (ci, fs)) => (match fs[c]? with
          | some (some (.inr r)) => if ci = b then some (nx, la, .inr r :: st, G, x, y) else none
          | _ => none)
        | _ => none)
      | _ => none)
    | 19 => (match st with
      | .inl v :: .inr o :: st => (match G[o]? with
        | some (.inl (ci, fs)) => if ci = b ∧ c < fs.length ∧ (a = 0 ∨ (a = 1 ∧ v = 0)) then some (nx, la, st, G.set o (.inl (ci, fs.set c (some (.inl v)))), x, y) else none
        | _ => none)
      | _ => none)
    | 20 => (match st with
      | .inr v :: .inr o :: st => (match G[o]? with
        | some (.inl (ci, fs)) => if ci = b ∧ c < fs.length then some (nx, la, st, G.set o (.inl (ci, fs.set c (some (.inr v)))), x, y) else none
        | _ => none)
      | _ => none)
    | 21 => (match st with
      | .inl v :: .inl j :: .inr o :: st => (match G[o]? with
        | some (.inr (.inl (t, n, w))) => if t = b ∧ rx_inR j = true ∧ 0 ≤ j ∧ j < (n : Int) ∧ (b = 0 ∨ (b = 2 ∧ vp_nar .char (Int32.ofInt v) = Int32.ofInt v)) then some (nx, la, st, G.set o (.inr (.inl (t, n, (j.toNat, v) :: w))), x, y) else none
        | _ => none)
      | _ => none)
    | 33 => if nk_room G la st (x + 1) (y + (nk_df b).length) mc ms = true ∧ nk_okE 0 (.inl (b, nk_df b)) = true then some (nx, la, .inr G.length :: st, G ++ [.inl (b, nk_df b)], x + 1, y + (nk_df b).length) else none
    | 34 => (match st with
      | .inl n :: st => if nk_room G la st (x + 1) (y + n.toNat) mc ms = true ∧ 0 ≤ n ∧ n ≤ 100000 then some (nx, la, .inr G.length :: st, G ++ [.inr (.inl (b, n.toNat, []))], x + 1, y + n.toNat) else none
      | _ => none)
    | 35 => (match st with
      | .inl n :: st => if nk_room G la st (x + 1) (y + n.toNat) mc ms = true ∧ 0 ≤ n ∧ n ≤ 100000 then some (nx, la, .inr G.length :: st, G ++ [.inr (.inr (b, List.replicate n.toNat none))], x + 1, y + n.toNat) else none
      | _ => none)
    | 36 => (match st with
      | .inl k :: .inl n :: st => if nk_room G la st (x + 1 + n.toNat) (y + n.toNat + n.toNat * k.toNat) mc ms = true ∧ 0 ≤ n ∧ n ≤ 1000 ∧ 0 ≤ k ∧ k ≤ 1000 ∧ G.length + 1 + n.toNat ≤ 159 then some (nx, la, .inr G.length :: st, G ++ (.inr (.inr (3, (List.range n.toNat).map (fun i => some (G.length + 1 + i)))) :: List.replicate n.toNat (.inr (.inl (0, k.toNat, [])))), x + 1 + n.toNat, y + n.toNat + n.toNat * k.toNat) else none
      | _ => none)
    | 37 => (match st with
      | .inr v :: .inl j :: .inr o :: st => (match G[o]?, G[v]? with
        | some (.inr (.inr (t, rs))), some (.inl (ci, _)) => if ((t = 4 ∧ ci = 7) ∨ (t = 5 ∧ ci = 8)) ∧ rx_inR j = true ∧ 0 ≤ j ∧ j < (rs.length : Int) then some (nx, la, st, G.set o (.inr (.inr (t, rs.set j.toNat (some v)))), x, y) else none
        | _, _ => none)
      | _ => none)
    | 38 => (match st with
      | .inr _ :: st => if st.length ≤ 8 then some (nx, la, st, G, x, y) else none
      | _ => none)
    | _ => none
