noncomputable def rx_ins (m pc : Nat) : Option rx_I := (rx_tab.getD m []).lookup pc
noncomputable def rx_mi (m : Nat) : rx_M := rx_ms.getD m (yL_law, cL_law, 0, none, 0)
/-- the length of a row of numbers of a type (159 is the script, of L ints; 160 the class's own row of kinds) -/
noncomputable def rx_len (L t c : Nat) : Int := if c < 159 then (match rx_SH[c]? with
    | some (.inr (.inl (t', n))) => if t' = t then (n : Int) else 0
    | _ => 0)
  else if t = 0 ∧ c = 159 then (L : Int) else if t = 0 ∧ c = 160 then 6 else 0
noncomputable def rx_alen (L c : Nat) : Option Int := if c = 159 then some (L : Int) else if c = 160 then some 6 else (match rx_SH[c]? with
    | some (.inr (.inl (_, n))) => some (n : Int)
    | _ => none)
noncomputable def rx_fi (ci k c : Nat) : Bool := match rx_SH[c]? with
  | some (.inl (i, fs)) => i == ci && fs[k]? == some none
  | _ => false
noncomputable def rx_fr (ci k c : Nat) : Option Nat := match rx_SH[c]? with
  | some (.inl (i, fs)) => if i = ci then (fs[k]?).join else none
  | _ => none
noncomputable def rx_isO (ci c : Nat) : Bool := match rx_SH[c]? with
  | some (.inl (i, _)) => i == ci
  | _ => false
noncomputable def rx_ae (c : Nat) (i : Int) : Option Nat := match rx_SH[c]? with
  | some (.inr (.inr (_, rs))) => if 0 ≤ i then rs[i.toNat]? else none
  | _ => none
noncomputable def rx_str (c : Nat) : List Int := if c = 161 then [104, 97, 114, 109] else if c = 162 then [99, 114, 111, 115, 115] else if c = 163 then [115, 119, 97, 112] else []
/-- what a row of a type can hold of an int without a change -/
noncomputable def rx_fit (t : Nat) (x : Int) : Bool := match t with
  | 0 => true
  | 1 => x == 0 || x == 1
  | _ => false
noncomputable def rx_step (L : Nat) (i : rx_I) (ls : List (Option rx_V)) (st : List rx_V) (σ : rx_St) : Option rx_F := match i with
  | (op, nx, a, b, c, sw) => match op with
    | 1 => some (nx, ls, .inl a :: st, σ)
    | 2 => (match ls[b]? with
      | some (some (.inl x)) => some (nx, ls, .inl x :: st, σ)
      | _ => none)
    | 3 => (match ls[b]? with
      | some (some (.inr x)) => some (nx, ls, .inr x :: st, σ)
      | _ => none)
    | 4 => (match st with
      | .inl x :: st => if b < ls.length then some (nx, ls.set b (some (.inl x)), st, σ) else none
      | _ => none)
    | 5 => (match st with
      | .inr x :: st => if b < ls.length then some (nx, ls.set b (some (.inr x)), st, σ) else none
      | _ => none)
    | 6 => (match ls[b]? with
      | some (some (.inl x)) => some (nx, ls.set b (some (.inl (rx_w (x + a)))), st, σ)
      | _ => none)
    | 7 => (match st with
      | .inl y :: .inl x :: st => some (nx, ls, .inl (rx_alu b x y) :: st, σ)
      | _ => none)
    | 8 => (match st with
      | .inl y :: .inl x :: st => if y = 0 then none else some (nx, ls, .inl (rx_dr b x y) :: st, σ)
      | _ => none)
    | 9 => (match st with
      | .inl x :: st => some (nx, ls, .inl (rx_un b x) :: st, σ)
      | _ => none)
    | 10 => (match st with
      | x :: st => some (nx, ls, x :: x :: st, σ)
      | _ => none)
    | 11 => (match st with
      | x :: y :: st => some (nx, ls, x :: y :: x :: y :: st, σ)
      | _ => none)
    | 12 => (match st with
      | _ :: st => some (nx, ls, st, σ)
      | _ => none)
    | 13 => (match st with
      | .inl x :: st => some (if rx_cmp b x 0 = true then c else nx, ls, st, σ)
      | _ => none)
    | 14 => (match st with
      | .inl y :: .inl x :: st => some (if rx_cmp b x y = true then c else nx, ls, st, σ)
      | _ => none)
    | 15 => some (c, ls, st, σ)
    | 16 => (match st with
      | .inl x :: st => some (rx_sw sw x c, ls, st, σ)
      | _ => none)
    | 17 => (match st with
      | .inr o :: st => if rx_fi b c o = true then some (nx, ls, .inl (σ o c) :: st, σ) else none
      | _ => none)
    | 18 => (match st with
      | .inr o :: st => (match rx_fr b c o with
        | some r => some (nx, ls, .inr r :: st, σ)
        | none => none)
      | _ => none)
    | 19 => (match st with
      | .inl x :: .inr o :: st => if rx_fi b c o = true ∧ (a = 0 ∨ x = 0 ∨ x = 1) then some (nx, ls, st, rx_up σ o c x) else none
      | _ => none)
    | 20 => (match st with
      | .inl j :: .inr o :: st => if 0 ≤ j ∧ j < rx_len L b o then some (nx, ls, .inl (σ o j) :: st, σ) else none
      | _ => none)
    | 21 => (match st with
      | .inl x :: .inl j :: .inr o :: st => if (0 ≤ j ∧ j < rx_len L b o) ∧ o < 159 ∧ rx_fit b x = true then some (nx, ls, st, rx_up σ o j x) else none
      | _ => none)
    | 22 => (match st with
      | .inl j :: .inr o :: st => (match rx_ae o j with
        | some r => some (nx, ls, .inr r :: st, σ)
        | none => none)
      | _ => none)
    | 23 => (match st with
      | .inr o :: st => (match rx_alen L o with
        | some n => some (nx, ls, .inl n :: st, σ)
        | none => none)
      | _ => none)
    | 24 => some (nx, ls, .inr b :: st, σ)
    | 25 => (match st with
      | [.inl n, .inl dp, .inr d, .inl sp, .inr o] => if 0 ≤ n ∧ 0 ≤ sp ∧ sp + n ≤ rx_len L 0 o ∧ 0 ≤ dp ∧ dp + n ≤ rx_len L 0 d ∧ o < 159 ∧ d < 159 ∧ 0 < rx_len L 0 o ∧ 0 < rx_len L 0 d then some (nx, ls, [], rx_cp σ o sp d dp n) else none
      | _ => none)
    | 26 => (match st with
      | .inr o :: st => if rx_str o ≠ [] ∧ st.length ≤ 8 then some (nx, ls, .inl ((rx_str o).length : Int) :: st, σ) else none
      | _ => none)
    | 27 => (match st with
      | .inl j :: .inr o :: st => if 0 ≤ j ∧ st.length ≤ 8 then (match (rx_str o)[j.toNat]? with
        | some ch => some (nx, ls, .inl ch :: st, σ)
        | none => none) else none
      | _ => none)
    | 31 => (match st with
      | .inl y :: .inl x :: st => if st.length ≤ 40 then some (nx, ls, .inl (rx_mm b x y) :: st, σ) else none
      | _ => none)
    | 32 => (match st with
      | .inl x :: st => if st.length ≤ 40 then some (nx, ls, .inl (rx_ab x) :: st, σ) else none
      | _ => none)
    | _ => none
noncomputable def rx_ent (m : Nat) (as : List rx_V) : List (Option rx_V) := as.map some ++ List.replicate ((rx_mi m).2.2.1 - as.length) none
/-- whether a call may be made: its values are on the stack, few others below them, and it is on an object of its class -/
noncomputable def rx_mayC (i : rx_I) (st : List rx_V) : Bool := match i with
  | (_, _, a, _, c, _) => decide (c ≤ st.length) && decide ((st.drop c).length ≤ 8) && (decide (a < 2) || (match (st.take c).reverse with
    | .inr o :: _ => rx_isO (a - 2).toNat o
    | _ => false))
/-- n steps at most, d calls deep at most -/
noncomputable def rx_exec (L : Nat) : Nat → Nat → Nat → Nat → List (Option rx_V) → List rx_V → rx_St → Option (Option rx_V × rx_St)
  | 0, _, _, _, _, _, _ => none
  | n + 1, d, m, pc, ls, st, σ => match rx_ins m pc with
    | none => none
    | some i => if i.1 = 28 then (match d with
        | 0 => none
        | d' + 1 => if rx_mayC i st = true then (match rx_exec L n d' i.2.2.2.1 0 (rx_ent i.2.2.2.1 (st.take i.2.2.2.2.1).reverse) [] σ with
          | none => none
          | some (r, σ') => rx_exec L n (d' + 1) m i.2.1 ls (r.toList ++ st.drop i.2.2.2.2.1) σ') else none)
      else if i.1 = 29 then (match st with
        | [.inl v] => if i.2.2.1 = 0 ∨ v = 0 ∨ v = 1 then some (some (.inl v), σ) else none
        | _ => none)
      else if i.1 = 30 then (match st with
        | [] => some (none, σ)
        | _ => none)
      else (match rx_step L i ls st σ with
        | none => none
        | some (pc', ls', st', σ') => rx_exec L n d m pc' ls' st' σ')
