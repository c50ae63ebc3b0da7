/-! The abstract machine: ints as whole numbers, references as numbers of cells, the store as a function; what the class and the reference do behind their constructors makes no cell. -/
abbrev rx_V : Type := Int ⊕ Nat
abbrev rx_St : Type := Nat → Int → Int
/-- an instruction: what it is, the place behind it, an int, two numbers, a list -/
abbrev rx_I : Type := Nat × Nat × Int × Nat × Nat × List (Int × Nat)
/-- a cell's shape: an object (its class, of each field whether it is an int or which cell), a row of numbers (of a type, so many), a row of cells -/
abbrev rx_Sh : Type := (Nat × List (Option Nat)) ⊕ ((Nat × Nat) ⊕ (Nat × List Nat))
/-- a method: name, bytes, variables, what it returns, the place of its code among the words -/
abbrev rx_M : Type := MethodName × ByteArray × Nat × Option FieldType × Nat
def rx_w (x : Int) : Int := (x + 2147483648) % 4294967296 - 2147483648
def rx_up (σ : rx_St) (c : Nat) (i v : Int) : rx_St := fun c' i' => if c' = c ∧ i' = i then v else σ c' i'
/-- n places of the cell c from p on become those of the cell a from q on -/
def rx_cp (σ : rx_St) (a : Nat) (q : Int) (c : Nat) (p n : Int) : rx_St := fun c' i' => if c' = c ∧ p ≤ i' ∧ i' < p + n then σ a (q + (i' - p)) else σ c' i'
def rx_alu (k : Nat) (a b : Int) : Int := match k with
  | 0 => rx_w (a + b)
  | 1 => rx_w (a - b)
  | 2 => rx_w (a * b)
  | 3 => (Int32.ofInt a &&& Int32.ofInt b).toInt
  | 4 => (Int32.ofInt a ||| Int32.ofInt b).toInt
  | 5 => (Int32.ofInt a ^^^ Int32.ofInt b).toInt
  | 6 => (Int32.ofInt a <<< (Int32.ofInt b &&& 31)).toInt
  | 7 => (Int32.ofInt a >>> (Int32.ofInt b &&& 31)).toInt
  | _ => ((Int32.ofInt a).toUInt32 >>> ((Int32.ofInt b).toUInt32 &&& Int32.toUInt32 31)).toInt32.toInt
def rx_dr (k : Nat) (a b : Int) : Int := match k with
  | 0 => rx_w (a.tdiv b)
  | _ => a.tmod b
def rx_un (k : Nat) (a : Int) : Int := match k with
  | 0 => rx_w (-a)
  | _ => (Int32.ofInt a).toInt16.toInt32.toInt
/-- the greater, the lesser of two; an int without its sign -/
def rx_mx (x y : Int) : Int := if x < y then y else x
def rx_mn (x y : Int) : Int := if y < x then y else x
def rx_mm (k : Nat) (x y : Int) : Int := match k with
  | 0 => rx_mx x y
  | _ => rx_mn x y
def rx_ab (x : Int) : Int := if 0 ≤ x then x else rx_w (0 - x)
def rx_cmp (k : Nat) (a b : Int) : Bool := match k with
  | 0 => decide (a = b)
  | 1 => decide (a ≠ b)
  | 2 => decide (a < b)
  | 3 => decide (b ≤ a)
  | 4 => decide (b < a)
  | _ => decide (a ≤ b)
def rx_sw (l : List (Int × Nat)) (x : Int) (d : Nat) : Nat := match l with
  | [] => d
  | q :: l => if x = q.1 then q.2 else rx_sw l x d
/-- the state within a method: where it stands, its variables, its stack, the store -/
abbrev rx_F : Type := Nat × List (Option rx_V) × List rx_V × rx_St
