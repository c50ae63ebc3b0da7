/-! ===== the best row: orders by number ===== -/
def rw_f : Nat → Nat
  | 0 => 1
  | n + 1 => (n + 1) * rw_f n
def rwk_in : Nat → Int → Int → Int → Option (Int × Int)
  | 0, _, _, _ => none
  | f + 1, free, nth, m => if rx_alu 3 (rx_alu 7 free m) 1 = 0 then rwk_in f free (rx_w (nth - rx_alu 3 (rx_alu 7 free m) 1)) (rx_w (m + 1)) else if nth ≤ 0 then some (nth, m) else rwk_in f free (rx_w (nth - rx_alu 3 (rx_alu 7 free m) 1)) (rx_w (m + 1))
def rwk_out (s : Int) : Nat → Int → Int → Int → Int → Option (List Int)
  | 0, _, _, _, _ => some []
  | n + 1, rest, by', free, k => if rx_w (s - k) = 0 ∨ rx_w (Int.tdiv by' (rx_w (s - k))) = 0 then none else match rwk_in 9 free (rx_w (Int.tdiv rest (rx_w (Int.tdiv by' (rx_w (s - k)))))) 0 with
    | none => none
    | some x => match rwk_out s n (Int.tmod rest (rx_w (Int.tdiv by' (rx_w (s - k))))) (rx_w (Int.tdiv by' (rx_w (s - k)))) (rx_alu 3 free (rx_alu 5 (rx_alu 6 1 x.2) (-1))) (k + 1) with
      | none => none
      | some l => some (x.2 :: l)
def rwk (s w : Nat) : Option (List Int) := rwk_out s s w (rw_f s) (rx_w (rx_alu 6 1 s - 1)) 0
def rw_at (l : List Int) (i : Int) : Int := l.getD i.toNat 0
def nx_turn (a : Int → Int) : Nat → Int
  | 0 => -1
  | n + 1 => if a (n + 1) ≤ a n then nx_turn a n else n
def nx_gr (a : Int → Int) (t : Int) : Nat → Int
  | 0 => t + 1
  | n + 1 => if a (t + 1 + (n + 1)) ≤ a t then nx_gr a t n else t + 1 + (n + 1)
def nx_ex (a : Int → Int) (i j : Int) : Int → Int := fun x => if x = j then a i else if x = i then a j else a x
def nx_rev : Nat → (Int → Int) → Int → Int → (Int → Int)
  | 0, a, _, _ => a
  | f + 1, a, i, j => if j ≤ i then a else nx_rev f (nx_ex a i j) (i + 1) (j - 1)
def nx_a (s : Nat) (a : Int → Int) : Option (Int → Int) := if nx_turn a (s - 1) < 0 then none else some (nx_rev 5 (nx_ex a (nx_turn a (s - 1)) (nx_gr a (nx_turn a (s - 1)) ((s : Int) - 2 - nx_turn a (s - 1)).toNat)) (nx_turn a (s - 1) + 1) ((s : Int) - 1))
def rw_chk (s w : Nat) : Bool := match rwk s w with
  | none => false
  | some l => (List.range s).all (fun i => decide (0 ≤ rw_at l i ∧ rw_at l i < s)) && (List.range s).all (fun i => (List.range s).all (fun j => decide (rw_at l i = rw_at l j → i = j))) && decide (w = 0 → ∀ i : Fin 5, i.val < s → rw_at l i.val = i.val) && decide (l.length = s) && (match nx_a s (rw_at l) with
    | none => decide (w + 1 = rw_f s)
    | some b => decide (w + 1 < rw_f s) && (match rwk s (w + 1) with
      | none => false
      | some l' => (List.range s).all (fun i => decide (b i = rw_at l' i))))
theorem rw_all : ∀ s : Fin 6, ∀ w : Fin 120, w.val < rw_f s.val → rw_chk s.val w.val = true := by decide +kernel
