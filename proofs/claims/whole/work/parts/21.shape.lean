theorem rx_Go.ls {L d m pc : Nat} {ls la : List (Option rx_V)} {st : List rx_V} {σ : rx_St} {P : Option rx_V → rx_St → Prop} (h : ls = la) (k : rx_Go L d m pc la st σ P) : rx_Go L d m pc ls st σ P := h ▸ k
def rx_inc : List (Nat × rx_I) → Bool
  | [] => true
  | [_] => true
  | a :: b :: l => decide (a.1 < b.1) && rx_inc (b :: l)
theorem rx_inc_lt : ∀ (l : List (Nat × rx_I)) (a : Nat × rx_I), rx_inc (a :: l) = true → ∀ q ∈ l, a.1 < q.1
  | [], _, _, q, hq => by cases hq
  | b :: l, a, h, q, hq => by
    simp only [rx_inc, Bool.and_eq_true, decide_eq_true_eq] at h
    rcases List.mem_cons.mp hq with rfl | hq
    · exact h.1
    · exact Nat.lt_trans h.1 (rx_inc_lt l b h.2 q hq)
theorem rx_inc_tl {a : Nat × rx_I} {l : List (Nat × rx_I)} (h : rx_inc (a :: l) = true) : rx_inc l = true := by
  cases l with
  | nil => rfl
  | cons b l =>
    simp only [rx_inc, Bool.and_eq_true] at h
    exact h.2
theorem rx_look : ∀ (l : List (Nat × rx_I)) (j pc : Nat) (i : rx_I), rx_inc l = true → l[j]? = some (pc, i) → l.lookup pc = some i
  | [], j, pc, i, _, h => by cases h
  | a :: l, 0, pc, i, _, h => by
    cases h
    simp [List.lookup]
  | a :: l, j + 1, pc, i, hn, h => by
    have h1 : l[j]? = some (pc, i) := h
    have h2 := rx_inc_lt l a hn _ (List.mem_of_getElem? h1)
    have h3 : (pc == a.1) = false := by
      have h4 : a.1 < pc := h2
      simp
      omega
    rw [List.lookup, h3]
    exact rx_look l j pc i (rx_inc_tl hn) h1
theorem rx_atm {m pc : Nat} {i : rx_I} {l : List (Nat × rx_I)} (h : rx_tab.getD m [] = l) (hn : rx_inc l = true) (hj : (pc, i) ∈ l) : rx_ins m pc = some i := by
  unfold rx_ins
  rw [h]
  obtain ⟨j, hj⟩ := List.getElem?_of_mem hj
  exact rx_look l j pc i hn hj
theorem rx_at {m pc j : Nat} {i : rx_I} {l : List (Nat × rx_I)} (h : rx_tab.getD m [] = l) (hn : rx_inc l = true) (hj : l[j]? = some (pc, i)) : rx_ins m pc = some i := by
  unfold rx_ins
  rw [h]
  exact rx_look l j pc i hn hj
theorem sh_1 {A : Nat} (h : rx_isO 1 A = true) : A = 1 ∨ A = 12 ∨ A = 23 := by
  have hA : A < 159 := by
    obtain ⟨fs, h1⟩ := rx_isO_spec h
    exact rx_SH_lt h1
  have key : ∀ A, A < 159 → rx_isO 1 A = true → A = 1 ∨ A = 12 ∨ A = 23 := by decide +kernel
  exact key A hA h
theorem sh_7 {A : Nat} (h : rx_isO 7 A = true) : A = 102 ∨ A = 104 ∨ A = 106 ∨ A = 108 ∨ A = 111 ∨ A = 114 ∨ A = 117 ∨ A = 120 ∨ A = 123 := by
  have hA : A < 159 := by
    obtain ⟨fs, h1⟩ := rx_isO_spec h
    exact rx_SH_lt h1
  have key : ∀ A, A < 159 → rx_isO 7 A = true → A = 102 ∨ A = 104 ∨ A = 106 ∨ A = 108 ∨ A = 111 ∨ A = 114 ∨ A = 117 ∨ A = 120 ∨ A = 123 := by decide +kernel
  exact key A hA h
theorem sh_8 {A : Nat} (h : rx_isO 8 A = true) : A = 110 ∨ A = 113 ∨ A = 116 ∨ A = 119 ∨ A = 122 := by
  have hA : A < 159 := by
    obtain ⟨fs, h1⟩ := rx_isO_spec h
    exact rx_SH_lt h1
  have key : ∀ A, A < 159 → rx_isO 8 A = true → A = 110 ∨ A = 113 ∨ A = 116 ∨ A = 119 ∨ A = 122 := by decide +kernel
  exact key A hA h
theorem oo_10_0 : rx_isO 10 0 = true := by decide +kernel
theorem oo_11_125 : rx_isO 11 125 = true := by decide +kernel
theorem fr_0_0_37 : rx_fr 0 0 37 = some 38 := by decide +kernel
theorem fi_1_12 : ∀ {A : Nat}, rx_isO 1 A = true → rx_fi 1 12 A = true := fun {A} h => by rcases sh_1 h with rfl | rfl | rfl <;> decide +kernel
theorem oo_2_38 : rx_isO 2 38 = true := by decide +kernel
theorem fr_1_10 : ∀ {A : Nat}, rx_isO 1 A = true → rx_fr 1 10 A = some (A + 9) := fun {A} h => by rcases sh_1 h with rfl | rfl | rfl <;> decide +kernel
theorem ln_1_o9 : ∀ {A : Nat} (L : Nat), rx_isO 1 A = true → rx_len L 0 (A + 9) = 18 ∧ A + 9 < 159 := fun {A} L h => by rcases sh_1 h with rfl | rfl | rfl <;> exact ⟨rx_len_eq (by decide +kernel), by decide⟩
theorem fr_1_8 : ∀ {A : Nat}, rx_isO 1 A = true → rx_fr 1 8 A = some (A + 7) := fun {A} h => by rcases sh_1 h with rfl | rfl | rfl <;> decide +kernel
theorem ln_1_o7 : ∀ {A : Nat} (L : Nat), rx_isO 1 A = true → rx_len L 0 (A + 7) = 18 ∧ A + 7 < 159 := fun {A} L h => by rcases sh_1 h with rfl | rfl | rfl <;> exact ⟨rx_len_eq (by decide +kernel), by decide⟩
theorem fr_1_9 : ∀ {A : Nat}, rx_isO 1 A = true → rx_fr 1 9 A = some (A + 8) := fun {A} h => by rcases sh_1 h with rfl | rfl | rfl <;> decide +kernel
theorem ln_1_o8 : ∀ {A : Nat} (L : Nat), rx_isO 1 A = true → rx_len L 0 (A + 8) = 18 ∧ A + 8 < 159 := fun {A} L h => by rcases sh_1 h with rfl | rfl | rfl <;> exact ⟨rx_len_eq (by decide +kernel), by decide⟩
theorem fr_1_7 : ∀ {A : Nat}, rx_isO 1 A = true → rx_fr 1 7 A = some (A + 6) := fun {A} h => by rcases sh_1 h with rfl | rfl | rfl <;> decide +kernel
theorem ln_1_o6 : ∀ {A : Nat} (L : Nat), rx_isO 1 A = true → rx_len L 0 (A + 6) = 18 ∧ A + 6 < 159 := fun {A} L h => by rcases sh_1 h with rfl | rfl | rfl <;> exact ⟨rx_len_eq (by decide +kernel), by decide⟩
theorem fi_1_6 : ∀ {A : Nat}, rx_isO 1 A = true → rx_fi 1 6 A = true := fun {A} h => by rcases sh_1 h with rfl | rfl | rfl <;> decide +kernel
theorem fr_0_1_37 : rx_fr 0 1 37 = some 58 := by decide +kernel
theorem oo_0_37 : rx_isO 0 37 = true := by decide +kernel
theorem ln_58 : ∀ L : Nat, rx_len L 0 58 = 18 := fun _ => rx_len_eq (by decide +kernel)
theorem fr_0_2_37 : rx_fr 0 2 37 = some 59 := by decide +kernel
theorem ae_59 : ∀ {j : Int} (L : Nat), 0 ≤ j ∧ j < 18 → rx_ae 59 j = some (60 + j.toNat) ∧ rx_len L 0 (60 + j.toNat) = 18 ∧ 60 + j.toNat < 159 := fun {j} L h => by
  have h9 : j = 0 ∨ j = 1 ∨ j = 2 ∨ j = 3 ∨ j = 4 ∨ j = 5 ∨ j = 6 ∨ j = 7 ∨ j = 8 ∨ j = 9 ∨ j = 10 ∨ j = 11 ∨ j = 12 ∨ j = 13 ∨ j = 14 ∨ j = 15 ∨ j = 16 ∨ j = 17 := by omega
  rcases h9 with rfl | rfl | rfl | rfl | rfl | rfl | rfl | rfl | rfl | rfl | rfl | rfl | rfl | rfl | rfl | rfl | rfl | rfl <;> exact ⟨by decide +kernel, rx_len_eq (by decide +kernel), by decide⟩
theorem fi_1_0 : ∀ {A : Nat}, rx_isO 1 A = true → rx_fi 1 0 A = true := fun {A} h => by rcases sh_1 h with rfl | rfl | rfl <;> decide +kernel
theorem fr_1_1 : ∀ {A : Nat}, rx_isO 1 A = true → rx_fr 1 1 A = some (A + 1) := fun {A} h => by rcases sh_1 h with rfl | rfl | rfl <;> decide +kernel
theorem fr_1_2 : ∀ {A : Nat}, rx_isO 1 A = true → rx_fr 1 2 A = some (A + 2) := fun {A} h => by rcases sh_1 h with rfl | rfl | rfl <;> decide +kernel
theorem fr_1_3 : ∀ {A : Nat}, rx_isO 1 A = true → rx_fr 1 3 A = some (A + 3) := fun {A} h => by rcases sh_1 h with rfl | rfl | rfl <;> decide +kernel
theorem fr_1_4 : ∀ {A : Nat}, rx_isO 1 A = true → rx_fr 1 4 A = some (A + 4) := fun {A} h => by rcases sh_1 h with rfl | rfl | rfl <;> decide +kernel
theorem fr_1_5 : ∀ {A : Nat}, rx_isO 1 A = true → rx_fr 1 5 A = some (A + 5) := fun {A} h => by rcases sh_1 h with rfl | rfl | rfl <;> decide +kernel
theorem fr_1_11 : ∀ {A : Nat}, rx_isO 1 A = true → rx_fr 1 11 A = some (A + 10) := fun {A} h => by rcases sh_1 h with rfl | rfl | rfl <;> decide +kernel
theorem fi_1_13 : ∀ {A : Nat}, rx_isO 1 A = true → rx_fi 1 13 A = true := fun {A} h => by rcases sh_1 h with rfl | rfl | rfl <;> decide +kernel
theorem ln_1_o1 : ∀ {A : Nat} (L : Nat), rx_isO 1 A = true → rx_len L 0 (A + 1) = 8 ∧ A + 1 < 159 := fun {A} L h => by rcases sh_1 h with rfl | rfl | rfl <;> exact ⟨rx_len_eq (by decide +kernel), by decide⟩
theorem ln_1_o2 : ∀ {A : Nat} (L : Nat), rx_isO 1 A = true → rx_len L 0 (A + 2) = 8 ∧ A + 2 < 159 := fun {A} L h => by rcases sh_1 h with rfl | rfl | rfl <;> exact ⟨rx_len_eq (by decide +kernel), by decide⟩
theorem ln_1_o3 : ∀ {A : Nat} (L : Nat), rx_isO 1 A = true → rx_len L 0 (A + 3) = 8 ∧ A + 3 < 159 := fun {A} L h => by rcases sh_1 h with rfl | rfl | rfl <;> exact ⟨rx_len_eq (by decide +kernel), by decide⟩
theorem ln_1_o4 : ∀ {A : Nat} (L : Nat), rx_isO 1 A = true → rx_len L 0 (A + 4) = 8 ∧ A + 4 < 159 := fun {A} L h => by rcases sh_1 h with rfl | rfl | rfl <;> exact ⟨rx_len_eq (by decide +kernel), by decide⟩
theorem ln_1_o5 : ∀ {A : Nat} (L : Nat), rx_isO 1 A = true → rx_len L 0 (A + 5) = 8 ∧ A + 5 < 159 := fun {A} L h => by rcases sh_1 h with rfl | rfl | rfl <;> exact ⟨rx_len_eq (by decide +kernel), by decide⟩
theorem ln_1_o10 : ∀ {A : Nat} (L : Nat), rx_isO 1 A = true → rx_len L 0 (A + 10) = 18 ∧ A + 10 < 159 := fun {A} L h => by rcases sh_1 h with rfl | rfl | rfl <;> exact ⟨rx_len_eq (by decide +kernel), by decide⟩
theorem fr_2_0_38 : rx_fr 2 0 38 = some 39 := by decide +kernel
theorem fi_5_1_34 : rx_fi 5 1 34 = true := by decide +kernel
theorem ln_39 : ∀ L : Nat, rx_len L 0 39 = 14 := fun _ => rx_len_eq (by decide +kernel)
theorem fr_2_1_38 : rx_fr 2 1 38 = some 40 := by decide +kernel
theorem fi_5_2_34 : rx_fi 5 2 34 = true := by decide +kernel
theorem ln_40 : ∀ L : Nat, rx_len L 0 40 = 14 := fun _ => rx_len_eq (by decide +kernel)
theorem fr_2_2_38 : rx_fr 2 2 38 = some 41 := by decide +kernel
theorem fi_5_3_34 : rx_fi 5 3 34 = true := by decide +kernel
theorem ln_41 : ∀ L : Nat, rx_len L 0 41 = 14 := fun _ => rx_len_eq (by decide +kernel)
theorem fr_5_4_34 : rx_fr 5 4 34 = some 35 := by decide +kernel
theorem fr_2_3_38 : rx_fr 2 3 38 = some 42 := by decide +kernel
theorem ae_42 : ∀ {j : Int} (L : Nat), 0 ≤ j ∧ j < 14 → rx_ae 42 j = some (43 + j.toNat) ∧ rx_len L 0 (43 + j.toNat) = 96 ∧ 43 + j.toNat < 159 := fun {j} L h => by
  have h9 : j = 0 ∨ j = 1 ∨ j = 2 ∨ j = 3 ∨ j = 4 ∨ j = 5 ∨ j = 6 ∨ j = 7 ∨ j = 8 ∨ j = 9 ∨ j = 10 ∨ j = 11 ∨ j = 12 ∨ j = 13 := by omega
  rcases h9 with rfl | rfl | rfl | rfl | rfl | rfl | rfl | rfl | rfl | rfl | rfl | rfl | rfl | rfl <;> exact ⟨by decide +kernel, rx_len_eq (by decide +kernel), by decide⟩
theorem ln_35 : ∀ L : Nat, rx_len L 0 35 = 96 := fun _ => rx_len_eq (by decide +kernel)
theorem fr_2_4_38 : rx_fr 2 4 38 = some 57 := by decide +kernel
theorem ln_57 : ∀ L : Nat, rx_len L 0 57 = 96 := fun _ => rx_len_eq (by decide +kernel)
theorem fi_3_4_83 : rx_fi 3 4 83 = true := by decide +kernel
theorem fr_3_5_83 : rx_fr 3 5 83 = some 86 := by decide +kernel
theorem ae_86 : ∀ {j : Int} (L : Nat), 0 ≤ j ∧ j < 8 → rx_ae 86 j = some (87 + j.toNat) ∧ rx_len L 0 (87 + j.toNat) = 8 ∧ 87 + j.toNat < 159 := fun {j} L h => by
  have h9 : j = 0 ∨ j = 1 ∨ j = 2 ∨ j = 3 ∨ j = 4 ∨ j = 5 ∨ j = 6 ∨ j = 7 := by omega
  rcases h9 with rfl | rfl | rfl | rfl | rfl | rfl | rfl | rfl <;> exact ⟨by decide +kernel, rx_len_eq (by decide +kernel), by decide⟩
theorem fi_3_1_83 : rx_fi 3 1 83 = true := by decide +kernel
theorem fr_3_2_83 : rx_fr 3 2 83 = some 85 := by decide +kernel
theorem ln_85 : ∀ L : Nat, rx_len L 0 85 = 8 := fun _ => rx_len_eq (by decide +kernel)
theorem fi_3_3_83 : rx_fi 3 3 83 = true := by decide +kernel
theorem fr_3_0_83 : rx_fr 3 0 83 = some 84 := by decide +kernel
theorem ln_84 : ∀ L : Nat, rx_len L 0 84 = 8 := fun _ => rx_len_eq (by decide +kernel)
theorem oo_3_83 : rx_isO 3 83 = true := by decide +kernel
theorem fi_4_3_79 : rx_fi 4 3 79 = true := by decide +kernel
theorem fr_4_1_79 : rx_fr 4 1 79 = some 81 := by decide +kernel
theorem ln_81 : ∀ L : Nat, rx_len L 0 81 = 18 := fun _ => rx_len_eq (by decide +kernel)
theorem fr_4_2_79 : rx_fr 4 2 79 = some 82 := by decide +kernel
theorem ln_82 : ∀ L : Nat, rx_len L 0 82 = 18 := fun _ => rx_len_eq (by decide +kernel)
theorem fr_4_0_79 : rx_fr 4 0 79 = some 80 := by decide +kernel
theorem ln_80 : ∀ L : Nat, rx_len L 0 80 = 18 := fun _ => rx_len_eq (by decide +kernel)
theorem fi_5_0_34 : rx_fi 5 0 34 = true := by decide +kernel
theorem fr_5_5_34 : rx_fr 5 5 34 = some 36 := by decide +kernel
theorem ln_36 : ∀ L : Nat, rx_len L 0 36 = 96 := fun _ => rx_len_eq (by decide +kernel)
theorem fi_5_6_34 : rx_fi 5 6 34 = true := by decide +kernel
theorem fi_5_8_34 : rx_fi 5 8 34 = true := by decide +kernel
theorem fi_5_9_34 : rx_fi 5 9 34 = true := by decide +kernel
theorem oo_5_34 : rx_isO 5 34 = true := by decide +kernel
theorem fi_5_7_34 : rx_fi 5 7 34 = true := by decide +kernel
theorem oo_6_95 : rx_isO 6 95 = true := by decide +kernel
theorem fi_6_1_95 : rx_fi 6 1 95 = true := by decide +kernel
theorem fi_6_4_95 : rx_fi 6 4 95 = true := by decide +kernel
theorem fr_6_2_95 : rx_fr 6 2 95 = some 97 := by decide +kernel
theorem fr_6_0_95 : rx_fr 6 0 95 = some 96 := by decide +kernel
theorem ln_97 : ∀ L : Nat, rx_len L 0 97 = 5 := fun _ => rx_len_eq (by decide +kernel)
theorem ln_96 : ∀ L : Nat, rx_len L 0 96 = 5 := fun _ => rx_len_eq (by decide +kernel)
theorem fr_6_3_95 : rx_fr 6 3 95 = some 98 := by decide +kernel
theorem ln_98 : ∀ L : Nat, rx_len L 0 98 = 5 := fun _ => rx_len_eq (by decide +kernel)
theorem fi_7_0 : ∀ {A : Nat}, rx_isO 7 A = true → rx_fi 7 0 A = true := fun {A} h => by rcases sh_7 h with rfl | rfl | rfl | rfl | rfl | rfl | rfl | rfl | rfl <;> decide +kernel
theorem fi_7_1 : ∀ {A : Nat}, rx_isO 7 A = true → rx_fi 7 1 A = true := fun {A} h => by rcases sh_7 h with rfl | rfl | rfl | rfl | rfl | rfl | rfl | rfl | rfl <;> decide +kernel
theorem fr_7_2 : ∀ {A : Nat}, rx_isO 7 A = true → rx_fr 7 2 A = some (A + 1) := fun {A} h => by rcases sh_7 h with rfl | rfl | rfl | rfl | rfl | rfl | rfl | rfl | rfl <;> decide +kernel
theorem ln_7_o1 : ∀ {A : Nat} (L : Nat), rx_isO 7 A = true → rx_len L 0 (A + 1) = 24 ∧ A + 1 < 159 := fun {A} L h => by rcases sh_7 h with rfl | rfl | rfl | rfl | rfl | rfl | rfl | rfl | rfl <;> exact ⟨rx_len_eq (by decide +kernel), by decide⟩
theorem fi_8_0 : ∀ {A : Nat}, rx_isO 8 A = true → rx_fi 8 0 A = true := fun {A} h => by rcases sh_8 h with rfl | rfl | rfl | rfl | rfl <;> decide +kernel
theorem fi_9_2_78 : rx_fi 9 2 78 = true := by decide +kernel
theorem fi_9_0_78 : rx_fi 9 0 78 = true := by decide +kernel
theorem fi_9_1_78 : rx_fi 9 1 78 = true := by decide +kernel
theorem fr_10_0_0 : rx_fr 10 0 0 = some 1 := by decide +kernel
theorem oo_1_1 : rx_isO 1 1 = true := by decide +kernel
theorem fr_1_1_1 : rx_fr 1 1 1 = some 2 := by decide +kernel
theorem ln_2 : ∀ L : Nat, rx_len L 0 2 = 8 := fun _ => rx_len_eq (by decide +kernel)
theorem fr_1_2_1 : rx_fr 1 2 1 = some 3 := by decide +kernel
theorem ln_3 : ∀ L : Nat, rx_len L 0 3 = 8 := fun _ => rx_len_eq (by decide +kernel)
theorem fr_1_3_1 : rx_fr 1 3 1 = some 4 := by decide +kernel
theorem ln_4 : ∀ L : Nat, rx_len L 0 4 = 8 := fun _ => rx_len_eq (by decide +kernel)
theorem fr_1_5_1 : rx_fr 1 5 1 = some 6 := by decide +kernel
theorem ln_6 : ∀ L : Nat, rx_len L 0 6 = 8 := fun _ => rx_len_eq (by decide +kernel)
theorem fr_1_7_1 : rx_fr 1 7 1 = some 7 := by decide +kernel
theorem ln_7 : ∀ L : Nat, rx_len L 0 7 = 18 := fun _ => rx_len_eq (by decide +kernel)
theorem fr_1_8_1 : rx_fr 1 8 1 = some 8 := by decide +kernel
theorem ln_8 : ∀ L : Nat, rx_len L 0 8 = 18 := fun _ => rx_len_eq (by decide +kernel)
theorem fr_1_9_1 : rx_fr 1 9 1 = some 9 := by decide +kernel
theorem ln_9 : ∀ L : Nat, rx_len L 0 9 = 18 := fun _ => rx_len_eq (by decide +kernel)
theorem fr_1_10_1 : rx_fr 1 10 1 = some 10 := by decide +kernel
theorem ln_10 : ∀ L : Nat, rx_len L 0 10 = 18 := fun _ => rx_len_eq (by decide +kernel)
theorem fr_1_11_1 : rx_fr 1 11 1 = some 11 := by decide +kernel
theorem ln_11 : ∀ L : Nat, rx_len L 0 11 = 18 := fun _ => rx_len_eq (by decide +kernel)
theorem fr_10_5_0 : rx_fr 10 5 0 = some 37 := by decide +kernel
theorem fi_1_6_1 : rx_fi 1 6 1 = true := by decide +kernel
theorem fi_1_0_1 : rx_fi 1 0 1 = true := by decide +kernel
theorem fr_10_2_0 : rx_fr 10 2 0 = some 23 := by decide +kernel
theorem oo_1_23 : rx_isO 1 23 = true := by decide +kernel
theorem fr_10_6_0 : rx_fr 10 6 0 = some 78 := by decide +kernel
theorem oo_9_78 : rx_isO 9 78 = true := by decide +kernel
theorem fr_10_10_0 : rx_fr 10 10 0 = some 99 := by decide +kernel
theorem ae_99 : ∀ {j : Int}, 0 ≤ j ∧ j < 4 → rx_ae 99 j = some (102 + 2 * j.toNat) ∧ rx_isO 7 (102 + 2 * j.toNat) = true := fun {j} h => by
  have h9 : j = 0 ∨ j = 1 ∨ j = 2 ∨ j = 3 := by omega
  rcases h9 with rfl | rfl | rfl | rfl <;> decide +kernel
theorem fr_1_4_1 : rx_fr 1 4 1 = some 5 := by decide +kernel
theorem ln_5 : ∀ L : Nat, rx_len L 0 5 = 8 := fun _ => rx_len_eq (by decide +kernel)
theorem fr_10_7_0 : rx_fr 10 7 0 = some 79 := by decide +kernel
theorem oo_4_79 : rx_isO 4 79 = true := by decide +kernel
theorem fr_10_8_0 : rx_fr 10 8 0 = some 83 := by decide +kernel
theorem fr_10_9_0 : rx_fr 10 9 0 = some 95 := by decide +kernel
theorem fi_1_13_1 : rx_fi 1 13 1 = true := by decide +kernel
theorem fr_10_4_0 : rx_fr 10 4 0 = some 34 := by decide +kernel
theorem fi_1_12_1 : rx_fi 1 12 1 = true := by decide +kernel
theorem fr_10_11_0 : rx_fr 10 11 0 = some 100 := by decide +kernel
theorem ae_100 : ∀ {j : Int}, 0 ≤ j ∧ j < 5 → rx_ae 100 j = some (110 + 3 * j.toNat) ∧ rx_isO 8 (110 + 3 * j.toNat) = true := fun {j} h => by
  have h9 : j = 0 ∨ j = 1 ∨ j = 2 ∨ j = 3 ∨ j = 4 := by omega
  rcases h9 with rfl | rfl | rfl | rfl | rfl <;> decide +kernel
theorem fi_8_4 : ∀ {A : Nat}, rx_isO 8 A = true → rx_fi 8 4 A = true := fun {A} h => by rcases sh_8 h with rfl | rfl | rfl | rfl | rfl <;> decide +kernel
theorem fr_8_3 : ∀ {A : Nat}, rx_isO 8 A = true → rx_fr 8 3 A = some (A + 1) := fun {A} h => by rcases sh_8 h with rfl | rfl | rfl | rfl | rfl <;> decide +kernel
theorem so_8_1 : ∀ {A : Nat}, rx_isO 8 A = true → rx_isO 7 (A + 1) = true := fun {A} h => by rcases sh_8 h with rfl | rfl | rfl | rfl | rfl <;> decide +kernel
theorem fi_8_1 : ∀ {A : Nat}, rx_isO 8 A = true → rx_fi 8 1 A = true := fun {A} h => by rcases sh_8 h with rfl | rfl | rfl | rfl | rfl <;> decide +kernel
theorem fi_8_2 : ∀ {A : Nat}, rx_isO 8 A = true → rx_fi 8 2 A = true := fun {A} h => by rcases sh_8 h with rfl | rfl | rfl | rfl | rfl <;> decide +kernel
theorem fi_10_13_0 : rx_fi 10 13 0 = true := by decide +kernel
theorem fr_10_12_0 : rx_fr 10 12 0 = some 101 := by decide +kernel
theorem ln_101 : ∀ L : Nat, rx_len L 0 101 = 60 := fun _ => rx_len_eq (by decide +kernel)
theorem fi_10_3_0 : rx_fi 10 3 0 = true := by decide +kernel
theorem fr_10_1_0 : rx_fr 10 1 0 = some 12 := by decide +kernel
theorem oo_1_12 : rx_isO 1 12 = true := by decide +kernel
theorem fi_1_6_12 : rx_fi 1 6 12 = true := by decide +kernel
theorem ln_160 : ∀ L : Nat, rx_len L 0 160 = 6 := fun _ => rfl
theorem fr_11_0_125 : rx_fr 11 0 125 = some 126 := by decide +kernel
theorem ln_126 : ∀ L : Nat, rx_len L 0 126 = 1498 := fun _ => rx_len_eq (by decide +kernel)
theorem fr_11_38_125 : rx_fr 11 38 125 = some 149 := by decide +kernel
theorem ln_149 : ∀ L : Nat, rx_len L 0 149 = 4 := fun _ => rx_len_eq (by decide +kernel)
theorem fr_11_4_125 : rx_fr 11 4 125 = some 129 := by decide +kernel
theorem ln_129 : ∀ L : Nat, rx_len L 0 129 = 18 := fun _ => rx_len_eq (by decide +kernel)
theorem fr_11_5_125 : rx_fr 11 5 125 = some 130 := by decide +kernel
theorem ln_130 : ∀ L : Nat, rx_len L 0 130 = 324 := fun _ => rx_len_eq (by decide +kernel)
theorem fr_11_6_125 : rx_fr 11 6 125 = some 131 := by decide +kernel
theorem ln_131 : ∀ L : Nat, rx_len L 0 131 = 8 := fun _ => rx_len_eq (by decide +kernel)
theorem fi_11_7_125 : rx_fi 11 7 125 = true := by decide +kernel
theorem fi_11_8_125 : rx_fi 11 8 125 = true := by decide +kernel
theorem fr_11_39_125 : rx_fr 11 39 125 = some 150 := by decide +kernel
theorem ln_150 : ∀ L : Nat, rx_len L 0 150 = 4 := fun _ => rx_len_eq (by decide +kernel)
theorem fr_11_40_125 : rx_fr 11 40 125 = some 151 := by decide +kernel
theorem ln_151 : ∀ L : Nat, rx_len L 0 151 = 4 := fun _ => rx_len_eq (by decide +kernel)
theorem fr_11_9_125 : rx_fr 11 9 125 = some 132 := by decide +kernel
theorem ln_132 : ∀ L : Nat, rx_len L 1 132 = 8 := fun _ => rx_len_eq (by decide +kernel)
theorem fr_11_41_125 : rx_fr 11 41 125 = some 152 := by decide +kernel
theorem ln_152 : ∀ L : Nat, rx_len L 0 152 = 96 := fun _ => rx_len_eq (by decide +kernel)
theorem fr_11_10_125 : rx_fr 11 10 125 = some 133 := by decide +kernel
theorem ln_133 : ∀ L : Nat, rx_len L 0 133 = 8 := fun _ => rx_len_eq (by decide +kernel)
theorem fr_11_11_125 : rx_fr 11 11 125 = some 134 := by decide +kernel
theorem ln_134 : ∀ L : Nat, rx_len L 0 134 = 18 := fun _ => rx_len_eq (by decide +kernel)
theorem fr_11_12_125 : rx_fr 11 12 125 = some 135 := by decide +kernel
theorem ln_135 : ∀ L : Nat, rx_len L 0 135 = 18 := fun _ => rx_len_eq (by decide +kernel)
theorem fi_11_16_125 : rx_fi 11 16 125 = true := by decide +kernel
theorem fr_11_13_125 : rx_fr 11 13 125 = some 136 := by decide +kernel
theorem ln_136 : ∀ L : Nat, rx_len L 0 136 = 9 := fun _ => rx_len_eq (by decide +kernel)
theorem fr_11_14_125 : rx_fr 11 14 125 = some 137 := by decide +kernel
theorem ln_137 : ∀ L : Nat, rx_len L 0 137 = 9 := fun _ => rx_len_eq (by decide +kernel)
theorem fr_11_15_125 : rx_fr 11 15 125 = some 138 := by decide +kernel
theorem ln_138 : ∀ L : Nat, rx_len L 0 138 = 8 := fun _ => rx_len_eq (by decide +kernel)
theorem fi_11_20_125 : rx_fi 11 20 125 = true := by decide +kernel
theorem fr_11_18_125 : rx_fr 11 18 125 = some 140 := by decide +kernel
theorem ln_140 : ∀ L : Nat, rx_len L 0 140 = 8 := fun _ => rx_len_eq (by decide +kernel)
theorem fr_11_17_125 : rx_fr 11 17 125 = some 139 := by decide +kernel
theorem ln_139 : ∀ L : Nat, rx_len L 0 139 = 8 := fun _ => rx_len_eq (by decide +kernel)
theorem fr_11_19_125 : rx_fr 11 19 125 = some 141 := by decide +kernel
theorem ln_141 : ∀ L : Nat, rx_len L 0 141 = 8 := fun _ => rx_len_eq (by decide +kernel)
theorem fi_11_22_125 : rx_fi 11 22 125 = true := by decide +kernel
theorem fr_11_21_125 : rx_fr 11 21 125 = some 142 := by decide +kernel
theorem ln_142 : ∀ L : Nat, rx_len L 0 142 = 96 := fun _ => rx_len_eq (by decide +kernel)
theorem fi_11_23_125 : rx_fi 11 23 125 = true := by decide +kernel
theorem fi_11_24_125 : rx_fi 11 24 125 = true := by decide +kernel
theorem fi_11_27_125 : rx_fi 11 27 125 = true := by decide +kernel
theorem fi_11_25_125 : rx_fi 11 25 125 = true := by decide +kernel
theorem fi_11_26_125 : rx_fi 11 26 125 = true := by decide +kernel
theorem fr_11_30_125 : rx_fr 11 30 125 = some 144 := by decide +kernel
theorem ln_144 : ∀ L : Nat, rx_len L 0 144 = 4 := fun _ => rx_len_eq (by decide +kernel)
theorem fi_11_28_125 : rx_fi 11 28 125 = true := by decide +kernel
theorem fr_11_29_125 : rx_fr 11 29 125 = some 143 := by decide +kernel
theorem ln_143 : ∀ L : Nat, rx_len L 2 143 = 13 := fun _ => rx_len_eq (by decide +kernel)
theorem fi_11_35_125 : rx_fi 11 35 125 = true := by decide +kernel
theorem fr_11_34_125 : rx_fr 11 34 125 = some 146 := by decide +kernel
theorem ln_146 : ∀ L : Nat, rx_len L 0 146 = 96 := fun _ => rx_len_eq (by decide +kernel)
theorem fr_11_31_125 : rx_fr 11 31 125 = some 145 := by decide +kernel
theorem fi_11_32_125 : rx_fi 11 32 125 = true := by decide +kernel
theorem ln_145 : ∀ L : Nat, rx_len L 0 145 = 96 := fun _ => rx_len_eq (by decide +kernel)
theorem fi_11_33_125 : rx_fi 11 33 125 = true := by decide +kernel
theorem fr_11_36_125 : rx_fr 11 36 125 = some 147 := by decide +kernel
theorem ln_147 : ∀ L : Nat, rx_len L 1 147 = 10 := fun _ => rx_len_eq (by decide +kernel)
theorem fr_11_37_125 : rx_fr 11 37 125 = some 148 := by decide +kernel
theorem ln_148 : ∀ L : Nat, rx_len L 0 148 = 96 := fun _ => rx_len_eq (by decide +kernel)
theorem fr_11_46_125 : rx_fr 11 46 125 = some 157 := by decide +kernel
theorem ln_157 : ∀ L : Nat, rx_len L 0 157 = 24 := fun _ => rx_len_eq (by decide +kernel)
theorem fr_11_42_125 : rx_fr 11 42 125 = some 153 := by decide +kernel
theorem ln_153 : ∀ L : Nat, rx_len L 0 153 = 5 := fun _ => rx_len_eq (by decide +kernel)
theorem fr_11_43_125 : rx_fr 11 43 125 = some 154 := by decide +kernel
theorem ln_154 : ∀ L : Nat, rx_len L 0 154 = 5 := fun _ => rx_len_eq (by decide +kernel)
theorem fr_11_44_125 : rx_fr 11 44 125 = some 155 := by decide +kernel
theorem ln_155 : ∀ L : Nat, rx_len L 0 155 = 5 := fun _ => rx_len_eq (by decide +kernel)
theorem fr_11_45_125 : rx_fr 11 45 125 = some 156 := by decide +kernel
theorem ln_156 : ∀ L : Nat, rx_len L 0 156 = 120 := fun _ => rx_len_eq (by decide +kernel)
theorem fi_11_48_125 : rx_fi 11 48 125 = true := by decide +kernel
theorem fr_11_47_125 : rx_fr 11 47 125 = some 158 := by decide +kernel
theorem ln_158 : ∀ L : Nat, rx_len L 0 158 = 60 := fun _ => rx_len_eq (by decide +kernel)
theorem fi_11_3_125 : rx_fi 11 3 125 = true := by decide +kernel
theorem fr_11_2_125 : rx_fr 11 2 125 = some 128 := by decide +kernel
theorem fr_11_1_125 : rx_fr 11 1 125 = some 127 := by decide +kernel
