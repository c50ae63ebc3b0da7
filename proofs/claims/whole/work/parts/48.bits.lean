/-! ===== ints as rows of bits ===== -/
def tb (a : Int) (i : Nat) : Bool := (Int32.ofInt a).toBitVec.getLsbD i
theorem tb_of (x : Int32) (i : Nat) : tb x.toInt i = x.toBitVec.getLsbD i := by
  unfold tb
  rw [Int32.ofInt_toInt]
theorem tb_and (a b : Int) (i : Nat) : tb (rx_alu 3 a b) i = (tb a i && tb b i) := by
  show tb (Int32.ofInt a &&& Int32.ofInt b).toInt i = _
  rw [tb_of]
  exact BitVec.getLsbD_and
theorem tb_or (a b : Int) (i : Nat) : tb (rx_alu 4 a b) i = (tb a i || tb b i) := by
  show tb (Int32.ofInt a ||| Int32.ofInt b).toInt i = _
  rw [tb_of]
  exact BitVec.getLsbD_or
theorem tb_xor (a b : Int) (i : Nat) : tb (rx_alu 5 a b) i = (tb a i ^^ tb b i) := by
  show tb (Int32.ofInt a ^^^ Int32.ofInt b).toInt i = _
  rw [tb_of]
  exact BitVec.getLsbD_xor
theorem tb_ge (a : Int) {i : Nat} (h : 32 ≤ i) : tb a i = false := BitVec.getLsbD_of_ge _ _ h
theorem tb_zero (i : Nat) : tb 0 i = false := by
  show (0#32).getLsbD i = false
  simp
theorem tb_m1 {i : Nat} (h : i < 32) : tb (-1) i = true := by
  have : ∀ j : Fin 32, tb (-1) j = true := by decide
  exact this ⟨i, h⟩
theorem tb_shl {s : Int} (h0 : 0 ≤ s) (h1 : s < 32) (i : Nat) : tb (rx_alu 6 1 s) i = decide ((i : Int) = s) := by
  have key : ∀ (t j : Fin 32), tb (rx_alu 6 1 ((t : Nat) : Int)) j = decide (((j : Nat) : Int) = ((t : Nat) : Int)) := by decide +kernel
  by_cases hi : i < 32
  · have := key ⟨s.toNat, by omega⟩ ⟨i, hi⟩
    rw [show ((s.toNat : Nat) : Int) = s by omega] at this
    exact this
  · rw [tb_ge _ (by omega)]
    symm
    apply decide_eq_false
    omega
theorem tb_ext {x y : Int32} (h : ∀ i, i < 32 → x.toBitVec.getLsbD i = y.toBitVec.getLsbD i) : x = y := by
  apply Int32.toBitVec_inj.mp
  exact BitVec.eq_of_getLsbD_eq h
theorem alu_and0 (a b : Int) : rx_alu 3 a b = 0 ↔ ∀ i, i < 32 → (tb a i && tb b i) = false := by
  show (Int32.ofInt a &&& Int32.ofInt b).toInt = 0 ↔ _
  constructor
  · intro h i hi
    rw [← tb_and]
    show tb (Int32.ofInt a &&& Int32.ofInt b).toInt i = false
    rw [h]
    exact tb_zero i
  · intro h
    have e : Int32.ofInt a &&& Int32.ofInt b = 0 := by
      apply tb_ext
      intro i hi
      rw [show (0 : Int32).toBitVec.getLsbD i = false from tb_zero i]
      rw [← h i hi, ← tb_and]
      exact (tb_of _ i).symm
    rw [e]
    rfl
theorem alu_ne (a b : Int) (h : rx_alu 3 a b ≠ 0) : ∃ i, i < 32 ∧ tb a i = true ∧ tb b i = true := by
  refine Classical.byContradiction (fun hc => h ((alu_and0 a b).mpr (fun i hi => ?_)))
  cases ha : tb a i <;> cases hb : tb b i
  · rfl
  · rfl
  · rfl
  · exact absurd ⟨i, hi, ha, hb⟩ hc
theorem sh_mod {s : Int} (h0 : 0 ≤ s) (h1 : s < 32) : ((Int32.ofInt s &&& 31).toBitVec.smod 32).toNat = s.toNat := by
  have key : ∀ t : Fin 32, ((Int32.ofInt ((t : Nat) : Int) &&& 31).toBitVec.smod 32).toNat = (t : Nat) := by decide +kernel
  have := key ⟨s.toNat, by omega⟩
  rw [show ((s.toNat : Nat) : Int) = s by omega] at this
  exact this
theorem tb_sshr (a : Int) {s : Int} (h0 : 0 ≤ s) (h1 : s < 32) {i : Nat} (hi : s.toNat + i < 32) : tb (rx_alu 7 a s) i = tb a (s.toNat + i) := by
  show tb (Int32.ofInt a >>> (Int32.ofInt s &&& 31)).toInt i = _
  rw [tb_of]
  show ((Int32.ofInt a).toBitVec.sshiftRight' ((Int32.ofInt s &&& 31).toBitVec.smod 32)).getLsbD i = _
  rw [BitVec.getLsbD_sshiftRight', sh_mod h0 h1, if_pos hi]
  unfold tb
  simp
  omega
theorem ush_mod {s : Int} (h0 : 0 ≤ s) (h1 : s < 32) : (((Int32.ofInt s).toUInt32 &&& Int32.toUInt32 31).toBitVec % 32).toNat = s.toNat := by
  have key : ∀ t : Fin 32, (((Int32.ofInt ((t : Nat) : Int)).toUInt32 &&& Int32.toUInt32 31).toBitVec % 32).toNat = (t : Nat) := by decide +kernel
  have := key ⟨s.toNat, by omega⟩
  rw [show ((s.toNat : Nat) : Int) = s by omega] at this
  exact this
theorem tb_ushr (a : Int) {s : Int} (h0 : 0 ≤ s) (h1 : s < 32) (i : Nat) : tb (rx_alu 8 a s) i = tb a (s.toNat + i) := by
  show tb (((Int32.ofInt a).toUInt32 >>> ((Int32.ofInt s).toUInt32 &&& Int32.toUInt32 31)).toInt32).toInt i = _
  rw [tb_of]
  show ((Int32.ofInt a).toBitVec >>> (((Int32.ofInt s).toUInt32 &&& Int32.toUInt32 31).toBitVec % 32)).getLsbD i = _
  rw [BitVec.ushiftRight_eq', BitVec.getLsbD_ushiftRight, ush_mod h0 h1]
  rfl
theorem alu_bit (a : Int) {s : Int} (h0 : 0 ≤ s) (h1 : s < 32) : rx_alu 3 (rx_alu 7 a s) 1 = if tb a s.toNat = true then 1 else 0 := by
  have e : ∀ x : Int, rx_alu 3 x 1 = if tb x 0 = true then 1 else 0 := by
    intro x
    have e1 : (Int32.ofInt x &&& Int32.ofInt 1) = if tb x 0 = true then (1 : Int32) else 0 := by
      apply tb_ext
      intro i hi
      have h1 : (1 : Int32).toBitVec.getLsbD i = decide (i = 0) := by
        have key : ∀ j : Fin 32, (1 : Int32).toBitVec.getLsbD j = decide ((j : Nat) = 0) := by decide
        exact key ⟨i, hi⟩
      have h0 : (0 : Int32).toBitVec.getLsbD i = false := tb_zero i
      have h2 : (Int32.ofInt x &&& Int32.ofInt 1).toBitVec.getLsbD i = (tb x i && decide (i = 0)) := by
        rw [← h1]
        exact BitVec.getLsbD_and
      rw [h2]
      by_cases c : i = 0
      · subst c
        by_cases c2 : tb x 0 = true
        · rw [if_pos c2, h1, c2]; rfl
        · rw [if_neg c2, h0]; simp [c2]
      · by_cases c2 : tb x 0 = true
        · rw [if_pos c2, h1]; simp [c]
        · rw [if_neg c2, h0]; simp [c]
    show (Int32.ofInt x &&& Int32.ofInt 1).toInt = _
    rw [e1]
    split <;> rfl
  rw [e, tb_sshr a h0 h1 (by omega)]
  rfl
theorem alu_pow {n : Int} (h0 : 0 ≤ n) (h1 : n < 31) : rx_alu 6 1 n = 2 ^ n.toNat := by
  have key : ∀ t : Fin 31, rx_alu 6 1 ((t : Nat) : Int) = 2 ^ (t : Nat) := by decide +kernel
  have := key ⟨n.toNat, by omega⟩
  rw [show ((n.toNat : Nat) : Int) = n by omega] at this
  exact this
/-- a shift without the sign gives no number below 0 -/
theorem alu_ush0 (a : Int) : 0 ≤ rx_alu 8 a 8 := by
  show 0 ≤ (((Int32.ofInt a).toUInt32 >>> ((Int32.ofInt 8).toUInt32 &&& Int32.toUInt32 31)).toInt32).toInt
  show 0 ≤ ((Int32.ofInt a).toBitVec >>> (((Int32.ofInt 8).toUInt32 &&& Int32.toUInt32 31).toBitVec % 32)).toInt
  have hb := ush_mod (s := 8) (by omega) (by omega)
  rw [BitVec.ushiftRight_eq', hb, BitVec.toInt_eq_toNat_of_lt]
  · omega
  · rw [BitVec.toNat_ushiftRight, Nat.shiftRight_eq_div_pow]
    have := (Int32.ofInt a).toBitVec.isLt
    show 2 * (_ / 2 ^ 8) < 2 ^ 32
    omega
theorem alu_255 (a : Int) : 0 ≤ rx_alu 3 a 255 ∧ rx_alu 3 a 255 ≤ 255 := by
  show 0 ≤ ((Int32.ofInt a).toBitVec &&& 255#32).toInt ∧ ((Int32.ofInt a).toBitVec &&& 255#32).toInt ≤ 255
  have h : ((Int32.ofInt a).toBitVec &&& 255#32).toNat ≤ 255 := by
    rw [BitVec.toNat_and]
    exact Nat.and_le_right
  rw [BitVec.toInt_eq_toNat_of_lt (by omega)]
  omega
theorem alu_feed (a : Int) {s : Int} (h : s = 0 ∨ s = 8 ∨ s = 16 ∨ s = 24) : rx_alu 3 (rx_alu 8 a s) 255 = rx_alu 3 (rx_alu 7 a s) 255 := by
  have e : Int32.ofInt (rx_alu 8 a s) &&& Int32.ofInt 255 = Int32.ofInt (rx_alu 7 a s) &&& Int32.ofInt 255 := by
    apply tb_ext
    intro i hi
    have h2 : ∀ x, (Int32.ofInt x &&& Int32.ofInt 255).toBitVec.getLsbD i = (tb x i && tb 255 i) := fun x => BitVec.getLsbD_and
    rw [h2, h2]
    have key : ∀ j : Fin 32, 8 ≤ (j : Nat) → tb 255 j = false := by decide
    by_cases c : i < 8
    · rw [tb_ushr a (by omega) (by omega), tb_sshr a (by omega) (by omega) (by omega)]
    · rw [key ⟨i, hi⟩ (by show 8 ≤ i; omega), Bool.and_false, Bool.and_false]
  show (Int32.ofInt (rx_alu 8 a s) &&& Int32.ofInt 255).toInt = _
  rw [e]
  rfl
