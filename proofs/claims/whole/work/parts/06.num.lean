/-- an int -/
def rx_r (x : Int) : Prop := -2147483648 ≤ x ∧ x < 2147483648
theorem rx_bmod (x : Int) : x.bmod 4294967296 = rx_w x := by
  unfold rx_w Int.bmod
  dsimp only
  split <;> omega
theorem rx_toInt (x : Int) : (Int32.ofInt x).toInt = rx_w x := by
  rw [Int32.toInt_ofInt]
  exact rx_bmod x
theorem rx_w_r (x : Int) : rx_r (rx_w x) := by
  unfold rx_r rx_w
  omega
theorem rx_w_id {x : Int} (h : rx_r x) : rx_w x = x := by
  unfold rx_r at h
  unfold rx_w
  omega
theorem rx_w_of {x : Int} (h1 : -2147483648 ≤ x) (h2 : x < 2147483648) : rx_w x = x := rx_w_id ⟨h1, h2⟩
theorem rx_of {x : Int} (h : rx_r x) : (Int32.ofInt x).toInt = x := by rw [rx_toInt, rx_w_id h]
theorem rx_ofw (x : Int) : Int32.ofInt (rx_w x) = Int32.ofInt x := by
  apply Int32.toInt.inj
  rw [rx_toInt, rx_toInt, rx_w_id (rx_w_r x)]
theorem rx_toR (x : Int32) : rx_r x.toInt := by
  have a := x.toInt_lt
  have b := x.le_toInt
  unfold rx_r
  omega
theorem rx_add (a b : Int) : Int32.ofInt a + Int32.ofInt b = Int32.ofInt (rx_w (a + b)) := by
  apply Int32.toInt.inj
  rw [Int32.toInt_add, rx_toInt, rx_toInt, rx_toInt, show (2 : Nat) ^ 32 = 4294967296 from rfl, rx_bmod]
  unfold rx_w
  omega
theorem rx_sub (a b : Int) : Int32.ofInt a - Int32.ofInt b = Int32.ofInt (rx_w (a - b)) := by
  apply Int32.toInt.inj
  rw [Int32.toInt_sub, rx_toInt, rx_toInt, rx_toInt, show (2 : Nat) ^ 32 = 4294967296 from rfl, rx_bmod]
  unfold rx_w
  omega
theorem rx_mul {a b : Int} (ha : rx_r a) (hb : rx_r b) : Int32.ofInt a * Int32.ofInt b = Int32.ofInt (rx_w (a * b)) := by
  apply Int32.toInt.inj
  rw [Int32.toInt_mul, rx_of ha, rx_of hb, rx_toInt, show (2 : Nat) ^ 32 = 4294967296 from rfl, rx_bmod, rx_w_id (rx_w_r _)]
theorem rx_neg (a : Int) : -Int32.ofInt a = Int32.ofInt (rx_w (-a)) := by
  apply Int32.toInt.inj
  rw [Int32.toInt_neg, rx_toInt, rx_toInt, show (2 : Nat) ^ 32 = 4294967296 from rfl, rx_bmod]
  unfold rx_w
  omega
theorem rx_div {a b : Int} (ha : rx_r a) (hb : rx_r b) : Int32.ofInt a / Int32.ofInt b = Int32.ofInt (rx_w (a.tdiv b)) := by
  apply Int32.toInt.inj
  rw [Int32.toInt_div, rx_of ha, rx_of hb, rx_toInt, show (2 : Nat) ^ 32 = 4294967296 from rfl, rx_bmod, rx_w_id (rx_w_r _)]
theorem rx_rem {a b : Int} (ha : rx_r a) (hb : rx_r b) : Int32.ofInt a - Int32.ofInt a / Int32.ofInt b * Int32.ofInt b = Int32.ofInt (a.tmod b) ∧ rx_r (a.tmod b) := by
  have h1 := Int32.toInt_mod (Int32.ofInt a) (Int32.ofInt b)
  rw [rx_of ha, rx_of hb] at h1
  have h2 : rx_r (a.tmod b) := by rw [← h1]; exact rx_toR _
  refine ⟨?_, h2⟩
  apply Int32.toInt.inj
  rw [rx_of h2, Int32.toInt_sub, Int32.toInt_mul, Int32.toInt_div, Int.bmod_mul_bmod, Int.sub_bmod_bmod, rx_of ha, rx_of hb, Int.mul_comm, ← Int.tmod_def, show (2 : Nat) ^ 32 = 4294967296 from rfl, rx_bmod, rx_w_id h2]
theorem rx_eq {a b : Int} (ha : rx_r a) (hb : rx_r b) : Int32.ofInt a = Int32.ofInt b ↔ a = b := by
  rw [← Int32.toInt_inj, rx_of ha, rx_of hb]
theorem rx_lt {a b : Int} (ha : rx_r a) (hb : rx_r b) : Int32.ofInt a < Int32.ofInt b ↔ a < b := by
  rw [Int32.lt_iff_toInt_lt, rx_of ha, rx_of hb]
theorem rx_le {a b : Int} (ha : rx_r a) (hb : rx_r b) : Int32.ofInt a ≤ Int32.ofInt b ↔ a ≤ b := by
  rw [Int32.le_iff_toInt_le, rx_of ha, rx_of hb]
theorem rx_0 : Int32.ofInt 0 = 0 := rfl
theorem rx_r0 : rx_r 0 := ⟨by omega, by omega⟩
theorem rx_nat {i : Int} (h : rx_r i) : (Int32.ofInt i).toNatClampNeg = i.toNat := by
  show (Int32.ofInt i).toInt.toNat = i.toNat
  rw [rx_of h]
theorem rx_vpin {i : Int} {n : Nat} (hr : rx_r i) (h0 : 0 ≤ i) (h1 : i < (n : Int)) : vp_in (Int32.ofInt i) n := by
  intro h
  rcases h with h | h
  · rw [← rx_0, rx_lt hr rx_r0] at h
    omega
  · rw [rx_nat hr] at h
    omega
theorem rx_nlt {i : Int} (hr : rx_r i) (h0 : 0 ≤ i) : ¬ Int32.ofInt i < 0 := by
  rw [← rx_0, rx_lt hr rx_r0]
  omega
theorem rx_alu_r (k : Nat) (a b : Int) : rx_r (rx_alu k a b) := by
  unfold rx_alu
  split <;> first | exact rx_w_r _ | exact rx_toR _
theorem rx_dr_r {k : Nat} {a b : Int} (ha : rx_r a) (hb : rx_r b) : rx_r (rx_dr k a b) := by
  unfold rx_dr
  split
  · exact rx_w_r _
  · exact (rx_rem ha hb).2
theorem rx_un_r (k : Nat) (a : Int) : rx_r (rx_un k a) := by
  unfold rx_un
  split <;> first | exact rx_w_r _ | exact rx_toR _
