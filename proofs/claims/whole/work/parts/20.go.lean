/-! Runs of the abstract machine, goal first: what holds behind a run; a row a kind of instruction -/
theorem rx_mono (L : Nat) : ∀ (n k d m pc : Nat) (ls : List (Option rx_V)) (st : List rx_V) (σ : rx_St) (x : Option rx_V × rx_St), rx_exec L n d m pc ls st σ = some x → rx_exec L (n + k) d m pc ls st σ = some x := by
  intro n
  induction n with
  | zero =>
    intro k d m pc ls st σ x h
    cases h
  | succ n ih =>
    intro k d m pc ls st σ x h
    rw [show n + 1 + k = (n + k) + 1 by omega]
    unfold rx_exec at h ⊢
    split at h
    · cases h
    next i hi =>
    split at h
    · next h28 =>
      rw [if_pos h28]
      split at h
      · cases h
      next d' =>
      split at h
      · next hm =>
        rw [if_pos hm]
        split at h
        · cases h
        next r1 σ1 he =>
        rw [ih k _ _ _ _ _ _ _ he]
        exact ih k _ _ _ _ _ _ _ h
      · cases h
    next h28 =>
    rw [if_neg h28]
    split at h
    · next h29 =>
      rw [if_pos h29]
      exact h
    next h29 =>
    rw [if_neg h29]
    split at h
    · next h30 =>
      rw [if_pos h30]
      exact h
    next h30 =>
    rw [if_neg h30]
    split at h
    · cases h
    next pc' ls' st' σ' hs =>
    exact ih k _ _ _ _ _ _ _ h
def rx_Go (L d m pc : Nat) (ls : List (Option rx_V)) (st : List rx_V) (σ : rx_St) (P : Option rx_V → rx_St → Prop) : Prop := ∃ (n : Nat) (r : Option rx_V) (σ' : rx_St), rx_exec L n d m pc ls st σ = some (r, σ') ∧ P r σ'
def rx_PI (K : Int → rx_St → Prop) : Option rx_V → rx_St → Prop := fun r σ => ∃ v, r = some (.inl v) ∧ K v σ
def rx_PV (K : rx_St → Prop) : Option rx_V → rx_St → Prop := fun r σ => r = none ∧ K σ
/-- a call that answers an int; one that answers nothing -/
def rx_CI (L d y : Nat) (as : List rx_V) (σ : rx_St) (K : Int → rx_St → Prop) : Prop := rx_Go L d y 0 (rx_ent y as) [] σ (rx_PI K)
def rx_CV (L d y : Nat) (as : List rx_V) (σ : rx_St) (K : rx_St → Prop) : Prop := rx_Go L d y 0 (rx_ent y as) [] σ (rx_PV K)
theorem rx_Go.imp {L d m pc : Nat} {ls : List (Option rx_V)} {st : List rx_V} {σ : rx_St} {P P' : Option rx_V → rx_St → Prop} (h : rx_Go L d m pc ls st σ P) (hi : ∀ r σ, P r σ → P' r σ) : rx_Go L d m pc ls st σ P' := by
  obtain ⟨n, r, σ', h1, h2⟩ := h
  exact ⟨n, r, σ', h1, hi r σ' h2⟩
theorem rx_CI.imp {L d y : Nat} {as : List rx_V} {σ : rx_St} {K K' : Int → rx_St → Prop} (h : rx_CI L d y as σ K) (hi : ∀ v σ, K v σ → K' v σ) : rx_CI L d y as σ K' :=
  rx_Go.imp h fun r σ1 ⟨v, h1, h2⟩ => ⟨v, h1, hi v σ1 h2⟩
theorem rx_CV.imp {L d y : Nat} {as : List rx_V} {σ : rx_St} {K K' : rx_St → Prop} (h : rx_CV L d y as σ K) (hi : ∀ σ, K σ → K' σ) : rx_CV L d y as σ K' :=
  rx_Go.imp h fun r σ1 ⟨h1, h2⟩ => ⟨h1, hi σ1 h2⟩
theorem rx_CI.of {L d y : Nat} {as : List rx_V} {la : List (Option rx_V)} {σ : rx_St} {K : Int → rx_St → Prop} (he : rx_ent y as = la) (h : rx_Go L d y 0 la [] σ (rx_PI K)) : rx_CI L d y as σ K := by
  unfold rx_CI
  rw [he]
  exact h
theorem rx_CV.of {L d y : Nat} {as : List rx_V} {la : List (Option rx_V)} {σ : rx_St} {K : rx_St → Prop} (he : rx_ent y as = la) (h : rx_Go L d y 0 la [] σ (rx_PV K)) : rx_CV L d y as σ K := by
  unfold rx_CV
  rw [he]
  exact h
section GO
variable {L d m pc nx b c : Nat} {a : Int} {sw : List (Int × Nat)} {ls : List (Option rx_V)} {st : List rx_V} {σ : rx_St} {P : Option rx_V → rx_St → Prop}
theorem rx_gstep {i : rx_I} {pc' : Nat} {ls' : List (Option rx_V)} {st' : List rx_V} {σ' : rx_St} (hi : rx_ins m pc = some i) (h28 : ¬ i.1 = 28) (h29 : ¬ i.1 = 29) (h30 : ¬ i.1 = 30) (hs : rx_step L i ls st σ = some (pc', ls', st', σ')) (k : rx_Go L d m pc' ls' st' σ' P) : rx_Go L d m pc ls st σ P := by
  obtain ⟨n, r, σ1, h1, h2⟩ := k
  refine ⟨n + 1, r, σ1, ?_, h2⟩
  unfold rx_exec
  rw [hi]
  dsimp only
  rw [if_neg h28, if_neg h29, if_neg h30, hs]
  exact h1

theorem g_c (hi : rx_ins m pc = some (1, nx, a, b, c, sw)) (k : rx_Go L d m nx ls (.inl a :: st) σ P) : rx_Go L d m pc ls st σ P :=
  rx_gstep hi (fun h => by cases h) (fun h => by cases h) (fun h => by cases h) (show rx_step L (1, nx, a, b, c, sw) ls st σ = _ from rfl) k

theorem g_il {x : Int} (hi : rx_ins m pc = some (2, nx, a, b, c, sw)) (hl : ls[b]? = some (some (.inl x))) (k : rx_Go L d m nx ls (.inl x :: st) σ P) : rx_Go L d m pc ls st σ P :=
  rx_gstep hi (fun h => by cases h) (fun h => by cases h) (fun h => by cases h) (show rx_step L (2, nx, a, b, c, sw) ls st σ = _ from by simp only [rx_step, hl]) k

theorem g_al {x : Nat} (hi : rx_ins m pc = some (3, nx, a, b, c, sw)) (hl : ls[b]? = some (some (.inr x))) (k : rx_Go L d m nx ls (.inr x :: st) σ P) : rx_Go L d m pc ls st σ P :=
  rx_gstep hi (fun h => by cases h) (fun h => by cases h) (fun h => by cases h) (show rx_step L (3, nx, a, b, c, sw) ls st σ = _ from by simp only [rx_step, hl]) k

theorem g_is {x : Int} (hi : rx_ins m pc = some (4, nx, a, b, c, sw)) (hl : b < ls.length) (k : rx_Go L d m nx (ls.set b (some (.inl x))) st σ P) : rx_Go L d m pc ls (.inl x :: st) σ P :=
  rx_gstep hi (fun h => by cases h) (fun h => by cases h) (fun h => by cases h) (show rx_step L (4, nx, a, b, c, sw) ls (.inl x :: st) σ = _ from by simp only [rx_step, if_pos hl]) k

theorem g_as {x : Nat} (hi : rx_ins m pc = some (5, nx, a, b, c, sw)) (hl : b < ls.length) (k : rx_Go L d m nx (ls.set b (some (.inr x))) st σ P) : rx_Go L d m pc ls (.inr x :: st) σ P :=
  rx_gstep hi (fun h => by cases h) (fun h => by cases h) (fun h => by cases h) (show rx_step L (5, nx, a, b, c, sw) ls (.inr x :: st) σ = _ from by simp only [rx_step, if_pos hl]) k

theorem g_ii {x : Int} (hi : rx_ins m pc = some (6, nx, a, b, c, sw)) (hl : ls[b]? = some (some (.inl x))) (k : rx_Go L d m nx (ls.set b (some (.inl (rx_w (x + a))))) st σ P) : rx_Go L d m pc ls st σ P :=
  rx_gstep hi (fun h => by cases h) (fun h => by cases h) (fun h => by cases h) (show rx_step L (6, nx, a, b, c, sw) ls st σ = _ from by simp only [rx_step, hl]) k

theorem g_add {x y : Int} (hi : rx_ins m pc = some (7, nx, a, 0, c, sw)) (k : rx_Go L d m nx ls (.inl (rx_w (x + y)) :: st) σ P) : rx_Go L d m pc ls (.inl y :: .inl x :: st) σ P :=
  rx_gstep hi (fun h => by cases h) (fun h => by cases h) (fun h => by cases h) (show rx_step L (7, nx, a, 0, c, sw) ls (.inl y :: .inl x :: st) σ = _ from rfl) k

theorem g_sub {x y : Int} (hi : rx_ins m pc = some (7, nx, a, 1, c, sw)) (k : rx_Go L d m nx ls (.inl (rx_w (x - y)) :: st) σ P) : rx_Go L d m pc ls (.inl y :: .inl x :: st) σ P :=
  rx_gstep hi (fun h => by cases h) (fun h => by cases h) (fun h => by cases h) (show rx_step L (7, nx, a, 1, c, sw) ls (.inl y :: .inl x :: st) σ = _ from rfl) k

theorem g_mul {x y : Int} (hi : rx_ins m pc = some (7, nx, a, 2, c, sw)) (k : rx_Go L d m nx ls (.inl (rx_w (x * y)) :: st) σ P) : rx_Go L d m pc ls (.inl y :: .inl x :: st) σ P :=
  rx_gstep hi (fun h => by cases h) (fun h => by cases h) (fun h => by cases h) (show rx_step L (7, nx, a, 2, c, sw) ls (.inl y :: .inl x :: st) σ = _ from rfl) k

theorem g_bit {x y : Int} (hi : rx_ins m pc = some (7, nx, a, b, c, sw)) (k : rx_Go L d m nx ls (.inl (rx_alu b x y) :: st) σ P) : rx_Go L d m pc ls (.inl y :: .inl x :: st) σ P :=
  rx_gstep hi (fun h => by cases h) (fun h => by cases h) (fun h => by cases h) (show rx_step L (7, nx, a, b, c, sw) ls (.inl y :: .inl x :: st) σ = _ from rfl) k

theorem g_div {x y : Int} (hi : rx_ins m pc = some (8, nx, a, 0, c, sw)) (hy : ¬ y = 0) (k : rx_Go L d m nx ls (.inl (rx_w (x.tdiv y)) :: st) σ P) : rx_Go L d m pc ls (.inl y :: .inl x :: st) σ P :=
  rx_gstep hi (fun h => by cases h) (fun h => by cases h) (fun h => by cases h) (show rx_step L (8, nx, a, 0, c, sw) ls (.inl y :: .inl x :: st) σ = some (nx, ls, .inl (rx_w (x.tdiv y)) :: st, σ) from if_neg hy) k

theorem g_rem {x y : Int} (hi : rx_ins m pc = some (8, nx, a, 1, c, sw)) (hy : ¬ y = 0) (k : rx_Go L d m nx ls (.inl (x.tmod y) :: st) σ P) : rx_Go L d m pc ls (.inl y :: .inl x :: st) σ P :=
  rx_gstep hi (fun h => by cases h) (fun h => by cases h) (fun h => by cases h) (show rx_step L (8, nx, a, 1, c, sw) ls (.inl y :: .inl x :: st) σ = some (nx, ls, .inl (x.tmod y) :: st, σ) from if_neg hy) k

theorem g_neg {x : Int} (hi : rx_ins m pc = some (9, nx, a, 0, c, sw)) (k : rx_Go L d m nx ls (.inl (rx_w (-x)) :: st) σ P) : rx_Go L d m pc ls (.inl x :: st) σ P :=
  rx_gstep hi (fun h => by cases h) (fun h => by cases h) (fun h => by cases h) (show rx_step L (9, nx, a, 0, c, sw) ls (.inl x :: st) σ = _ from rfl) k

theorem g_i2s {x : Int} (hi : rx_ins m pc = some (9, nx, a, 1, c, sw)) (k : rx_Go L d m nx ls (.inl (rx_un 1 x) :: st) σ P) : rx_Go L d m pc ls (.inl x :: st) σ P :=
  rx_gstep hi (fun h => by cases h) (fun h => by cases h) (fun h => by cases h) (show rx_step L (9, nx, a, 1, c, sw) ls (.inl x :: st) σ = _ from rfl) k

theorem g_dup {x : rx_V} (hi : rx_ins m pc = some (10, nx, a, b, c, sw)) (k : rx_Go L d m nx ls (x :: x :: st) σ P) : rx_Go L d m pc ls (x :: st) σ P :=
  rx_gstep hi (fun h => by cases h) (fun h => by cases h) (fun h => by cases h) (show rx_step L (10, nx, a, b, c, sw) ls (x :: st) σ = _ from rfl) k

theorem g_dup2 {x y : rx_V} (hi : rx_ins m pc = some (11, nx, a, b, c, sw)) (k : rx_Go L d m nx ls (x :: y :: x :: y :: st) σ P) : rx_Go L d m pc ls (x :: y :: st) σ P :=
  rx_gstep hi (fun h => by cases h) (fun h => by cases h) (fun h => by cases h) (show rx_step L (11, nx, a, b, c, sw) ls (x :: y :: st) σ = _ from rfl) k

theorem g_pop {x : rx_V} (hi : rx_ins m pc = some (12, nx, a, b, c, sw)) (k : rx_Go L d m nx ls st σ P) : rx_Go L d m pc ls (x :: st) σ P :=
  rx_gstep hi (fun h => by cases h) (fun h => by cases h) (fun h => by cases h) (show rx_step L (12, nx, a, b, c, sw) ls (x :: st) σ = _ from rfl) k

theorem g_if0t {x : Int} (hi : rx_ins m pc = some (13, nx, a, 0, c, sw)) (h : x = 0) (k : rx_Go L d m c ls st σ P) : rx_Go L d m pc ls (.inl x :: st) σ P :=
  rx_gstep hi (fun h => by cases h) (fun h => by cases h) (fun h => by cases h) (show rx_step L (13, nx, a, 0, c, sw) ls (.inl x :: st) σ = some (c, ls, st, σ) from congrArg (fun z => some (z, ls, st, σ)) (if_pos (decide_eq_true h))) k
theorem g_if0f {x : Int} (hi : rx_ins m pc = some (13, nx, a, 0, c, sw)) (h : ¬ (x = 0)) (k : rx_Go L d m nx ls st σ P) : rx_Go L d m pc ls (.inl x :: st) σ P :=
  rx_gstep hi (fun h => by cases h) (fun h => by cases h) (fun h => by cases h) (show rx_step L (13, nx, a, 0, c, sw) ls (.inl x :: st) σ = some (nx, ls, st, σ) from congrArg (fun z => some (z, ls, st, σ)) (if_neg (fun g => h (of_decide_eq_true g)))) k

theorem g_ic0t {x y : Int} (hi : rx_ins m pc = some (14, nx, a, 0, c, sw)) (h : x = y) (k : rx_Go L d m c ls st σ P) : rx_Go L d m pc ls (.inl y :: .inl x :: st) σ P :=
  rx_gstep hi (fun h => by cases h) (fun h => by cases h) (fun h => by cases h) (show rx_step L (14, nx, a, 0, c, sw) ls (.inl y :: .inl x :: st) σ = some (c, ls, st, σ) from congrArg (fun z => some (z, ls, st, σ)) (if_pos (decide_eq_true h))) k
theorem g_ic0f {x y : Int} (hi : rx_ins m pc = some (14, nx, a, 0, c, sw)) (h : ¬ (x = y)) (k : rx_Go L d m nx ls st σ P) : rx_Go L d m pc ls (.inl y :: .inl x :: st) σ P :=
  rx_gstep hi (fun h => by cases h) (fun h => by cases h) (fun h => by cases h) (show rx_step L (14, nx, a, 0, c, sw) ls (.inl y :: .inl x :: st) σ = some (nx, ls, st, σ) from congrArg (fun z => some (z, ls, st, σ)) (if_neg (fun g => h (of_decide_eq_true g)))) k

theorem g_if1t {x : Int} (hi : rx_ins m pc = some (13, nx, a, 1, c, sw)) (h : x ≠ 0) (k : rx_Go L d m c ls st σ P) : rx_Go L d m pc ls (.inl x :: st) σ P :=
  rx_gstep hi (fun h => by cases h) (fun h => by cases h) (fun h => by cases h) (show rx_step L (13, nx, a, 1, c, sw) ls (.inl x :: st) σ = some (c, ls, st, σ) from congrArg (fun z => some (z, ls, st, σ)) (if_pos (decide_eq_true h))) k
theorem g_if1f {x : Int} (hi : rx_ins m pc = some (13, nx, a, 1, c, sw)) (h : ¬ (x ≠ 0)) (k : rx_Go L d m nx ls st σ P) : rx_Go L d m pc ls (.inl x :: st) σ P :=
  rx_gstep hi (fun h => by cases h) (fun h => by cases h) (fun h => by cases h) (show rx_step L (13, nx, a, 1, c, sw) ls (.inl x :: st) σ = some (nx, ls, st, σ) from congrArg (fun z => some (z, ls, st, σ)) (if_neg (fun g => h (of_decide_eq_true g)))) k

theorem g_ic1t {x y : Int} (hi : rx_ins m pc = some (14, nx, a, 1, c, sw)) (h : x ≠ y) (k : rx_Go L d m c ls st σ P) : rx_Go L d m pc ls (.inl y :: .inl x :: st) σ P :=
  rx_gstep hi (fun h => by cases h) (fun h => by cases h) (fun h => by cases h) (show rx_step L (14, nx, a, 1, c, sw) ls (.inl y :: .inl x :: st) σ = some (c, ls, st, σ) from congrArg (fun z => some (z, ls, st, σ)) (if_pos (decide_eq_true h))) k
theorem g_ic1f {x y : Int} (hi : rx_ins m pc = some (14, nx, a, 1, c, sw)) (h : ¬ (x ≠ y)) (k : rx_Go L d m nx ls st σ P) : rx_Go L d m pc ls (.inl y :: .inl x :: st) σ P :=
  rx_gstep hi (fun h => by cases h) (fun h => by cases h) (fun h => by cases h) (show rx_step L (14, nx, a, 1, c, sw) ls (.inl y :: .inl x :: st) σ = some (nx, ls, st, σ) from congrArg (fun z => some (z, ls, st, σ)) (if_neg (fun g => h (of_decide_eq_true g)))) k

theorem g_if2t {x : Int} (hi : rx_ins m pc = some (13, nx, a, 2, c, sw)) (h : x < 0) (k : rx_Go L d m c ls st σ P) : rx_Go L d m pc ls (.inl x :: st) σ P :=
  rx_gstep hi (fun h => by cases h) (fun h => by cases h) (fun h => by cases h) (show rx_step L (13, nx, a, 2, c, sw) ls (.inl x :: st) σ = some (c, ls, st, σ) from congrArg (fun z => some (z, ls, st, σ)) (if_pos (decide_eq_true h))) k
theorem g_if2f {x : Int} (hi : rx_ins m pc = some (13, nx, a, 2, c, sw)) (h : ¬ (x < 0)) (k : rx_Go L d m nx ls st σ P) : rx_Go L d m pc ls (.inl x :: st) σ P :=
  rx_gstep hi (fun h => by cases h) (fun h => by cases h) (fun h => by cases h) (show rx_step L (13, nx, a, 2, c, sw) ls (.inl x :: st) σ = some (nx, ls, st, σ) from congrArg (fun z => some (z, ls, st, σ)) (if_neg (fun g => h (of_decide_eq_true g)))) k

theorem g_ic2t {x y : Int} (hi : rx_ins m pc = some (14, nx, a, 2, c, sw)) (h : x < y) (k : rx_Go L d m c ls st σ P) : rx_Go L d m pc ls (.inl y :: .inl x :: st) σ P :=
  rx_gstep hi (fun h => by cases h) (fun h => by cases h) (fun h => by cases h) (show rx_step L (14, nx, a, 2, c, sw) ls (.inl y :: .inl x :: st) σ = some (c, ls, st, σ) from congrArg (fun z => some (z, ls, st, σ)) (if_pos (decide_eq_true h))) k
theorem g_ic2f {x y : Int} (hi : rx_ins m pc = some (14, nx, a, 2, c, sw)) (h : ¬ (x < y)) (k : rx_Go L d m nx ls st σ P) : rx_Go L d m pc ls (.inl y :: .inl x :: st) σ P :=
  rx_gstep hi (fun h => by cases h) (fun h => by cases h) (fun h => by cases h) (show rx_step L (14, nx, a, 2, c, sw) ls (.inl y :: .inl x :: st) σ = some (nx, ls, st, σ) from congrArg (fun z => some (z, ls, st, σ)) (if_neg (fun g => h (of_decide_eq_true g)))) k

theorem g_if3t {x : Int} (hi : rx_ins m pc = some (13, nx, a, 3, c, sw)) (h : 0 ≤ x) (k : rx_Go L d m c ls st σ P) : rx_Go L d m pc ls (.inl x :: st) σ P :=
  rx_gstep hi (fun h => by cases h) (fun h => by cases h) (fun h => by cases h) (show rx_step L (13, nx, a, 3, c, sw) ls (.inl x :: st) σ = some (c, ls, st, σ) from congrArg (fun z => some (z, ls, st, σ)) (if_pos (decide_eq_true h))) k
theorem g_if3f {x : Int} (hi : rx_ins m pc = some (13, nx, a, 3, c, sw)) (h : ¬ (0 ≤ x)) (k : rx_Go L d m nx ls st σ P) : rx_Go L d m pc ls (.inl x :: st) σ P :=
  rx_gstep hi (fun h => by cases h) (fun h => by cases h) (fun h => by cases h) (show rx_step L (13, nx, a, 3, c, sw) ls (.inl x :: st) σ = some (nx, ls, st, σ) from congrArg (fun z => some (z, ls, st, σ)) (if_neg (fun g => h (of_decide_eq_true g)))) k

theorem g_ic3t {x y : Int} (hi : rx_ins m pc = some (14, nx, a, 3, c, sw)) (h : y ≤ x) (k : rx_Go L d m c ls st σ P) : rx_Go L d m pc ls (.inl y :: .inl x :: st) σ P :=
  rx_gstep hi (fun h => by cases h) (fun h => by cases h) (fun h => by cases h) (show rx_step L (14, nx, a, 3, c, sw) ls (.inl y :: .inl x :: st) σ = some (c, ls, st, σ) from congrArg (fun z => some (z, ls, st, σ)) (if_pos (decide_eq_true h))) k
theorem g_ic3f {x y : Int} (hi : rx_ins m pc = some (14, nx, a, 3, c, sw)) (h : ¬ (y ≤ x)) (k : rx_Go L d m nx ls st σ P) : rx_Go L d m pc ls (.inl y :: .inl x :: st) σ P :=
  rx_gstep hi (fun h => by cases h) (fun h => by cases h) (fun h => by cases h) (show rx_step L (14, nx, a, 3, c, sw) ls (.inl y :: .inl x :: st) σ = some (nx, ls, st, σ) from congrArg (fun z => some (z, ls, st, σ)) (if_neg (fun g => h (of_decide_eq_true g)))) k

theorem g_if4t {x : Int} (hi : rx_ins m pc = some (13, nx, a, 4, c, sw)) (h : 0 < x) (k : rx_Go L d m c ls st σ P) : rx_Go L d m pc ls (.inl x :: st) σ P :=
  rx_gstep hi (fun h => by cases h) (fun h => by cases h) (fun h => by cases h) (show rx_step L (13, nx, a, 4, c, sw) ls (.inl x :: st) σ = some (c, ls, st, σ) from congrArg (fun z => some (z, ls, st, σ)) (if_pos (decide_eq_true h))) k
theorem g_if4f {x : Int} (hi : rx_ins m pc = some (13, nx, a, 4, c, sw)) (h : ¬ (0 < x)) (k : rx_Go L d m nx ls st σ P) : rx_Go L d m pc ls (.inl x :: st) σ P :=
  rx_gstep hi (fun h => by cases h) (fun h => by cases h) (fun h => by cases h) (show rx_step L (13, nx, a, 4, c, sw) ls (.inl x :: st) σ = some (nx, ls, st, σ) from congrArg (fun z => some (z, ls, st, σ)) (if_neg (fun g => h (of_decide_eq_true g)))) k

theorem g_ic4t {x y : Int} (hi : rx_ins m pc = some (14, nx, a, 4, c, sw)) (h : y < x) (k : rx_Go L d m c ls st σ P) : rx_Go L d m pc ls (.inl y :: .inl x :: st) σ P :=
  rx_gstep hi (fun h => by cases h) (fun h => by cases h) (fun h => by cases h) (show rx_step L (14, nx, a, 4, c, sw) ls (.inl y :: .inl x :: st) σ = some (c, ls, st, σ) from congrArg (fun z => some (z, ls, st, σ)) (if_pos (decide_eq_true h))) k
theorem g_ic4f {x y : Int} (hi : rx_ins m pc = some (14, nx, a, 4, c, sw)) (h : ¬ (y < x)) (k : rx_Go L d m nx ls st σ P) : rx_Go L d m pc ls (.inl y :: .inl x :: st) σ P :=
  rx_gstep hi (fun h => by cases h) (fun h => by cases h) (fun h => by cases h) (show rx_step L (14, nx, a, 4, c, sw) ls (.inl y :: .inl x :: st) σ = some (nx, ls, st, σ) from congrArg (fun z => some (z, ls, st, σ)) (if_neg (fun g => h (of_decide_eq_true g)))) k

theorem g_if5t {x : Int} (hi : rx_ins m pc = some (13, nx, a, 5, c, sw)) (h : x ≤ 0) (k : rx_Go L d m c ls st σ P) : rx_Go L d m pc ls (.inl x :: st) σ P :=
  rx_gstep hi (fun h => by cases h) (fun h => by cases h) (fun h => by cases h) (show rx_step L (13, nx, a, 5, c, sw) ls (.inl x :: st) σ = some (c, ls, st, σ) from congrArg (fun z => some (z, ls, st, σ)) (if_pos (decide_eq_true h))) k
theorem g_if5f {x : Int} (hi : rx_ins m pc = some (13, nx, a, 5, c, sw)) (h : ¬ (x ≤ 0)) (k : rx_Go L d m nx ls st σ P) : rx_Go L d m pc ls (.inl x :: st) σ P :=
  rx_gstep hi (fun h => by cases h) (fun h => by cases h) (fun h => by cases h) (show rx_step L (13, nx, a, 5, c, sw) ls (.inl x :: st) σ = some (nx, ls, st, σ) from congrArg (fun z => some (z, ls, st, σ)) (if_neg (fun g => h (of_decide_eq_true g)))) k

theorem g_ic5t {x y : Int} (hi : rx_ins m pc = some (14, nx, a, 5, c, sw)) (h : x ≤ y) (k : rx_Go L d m c ls st σ P) : rx_Go L d m pc ls (.inl y :: .inl x :: st) σ P :=
  rx_gstep hi (fun h => by cases h) (fun h => by cases h) (fun h => by cases h) (show rx_step L (14, nx, a, 5, c, sw) ls (.inl y :: .inl x :: st) σ = some (c, ls, st, σ) from congrArg (fun z => some (z, ls, st, σ)) (if_pos (decide_eq_true h))) k
theorem g_ic5f {x y : Int} (hi : rx_ins m pc = some (14, nx, a, 5, c, sw)) (h : ¬ (x ≤ y)) (k : rx_Go L d m nx ls st σ P) : rx_Go L d m pc ls (.inl y :: .inl x :: st) σ P :=
  rx_gstep hi (fun h => by cases h) (fun h => by cases h) (fun h => by cases h) (show rx_step L (14, nx, a, 5, c, sw) ls (.inl y :: .inl x :: st) σ = some (nx, ls, st, σ) from congrArg (fun z => some (z, ls, st, σ)) (if_neg (fun g => h (of_decide_eq_true g)))) k

theorem g_goto (hi : rx_ins m pc = some (15, nx, a, b, c, sw)) (k : rx_Go L d m c ls st σ P) : rx_Go L d m pc ls st σ P :=
  rx_gstep hi (fun h => by cases h) (fun h => by cases h) (fun h => by cases h) (show rx_step L (15, nx, a, b, c, sw) ls st σ = _ from rfl) k

theorem g_sw {x : Int} {t : Nat} (hi : rx_ins m pc = some (16, nx, a, b, c, sw)) (h : rx_sw sw x c = t) (k : rx_Go L d m t ls st σ P) : rx_Go L d m pc ls (.inl x :: st) σ P :=
  rx_gstep hi (fun h => by cases h) (fun h => by cases h) (fun h => by cases h) (show rx_step L (16, nx, a, b, c, sw) ls (.inl x :: st) σ = some (t, ls, st, σ) from congrArg (fun z => some (z, ls, st, σ)) h) k
theorem g_gf {o : Nat} {kI : Int} (hk : (c : Int) = kI) (hi : rx_ins m pc = some (17, nx, a, b, c, sw)) (h : rx_fi b c o = true) (k : rx_Go L d m nx ls (.inl (σ o kI) :: st) σ P) : rx_Go L d m pc ls (.inr o :: st) σ P := by
  subst hk
  exact rx_gstep hi (fun h => by cases h) (fun h => by cases h) (fun h => by cases h) (show rx_step L (17, nx, a, b, c, sw) ls (.inr o :: st) σ = some (nx, ls, .inl (σ o (c : Int)) :: st, σ) from if_pos h) k
theorem g_gr {o r : Nat} (hi : rx_ins m pc = some (18, nx, a, b, c, sw)) (h : rx_fr b c o = some r) (k : rx_Go L d m nx ls (.inr r :: st) σ P) : rx_Go L d m pc ls (.inr o :: st) σ P :=
  rx_gstep hi (fun h => by cases h) (fun h => by cases h) (fun h => by cases h) (show rx_step L (18, nx, a, b, c, sw) ls (.inr o :: st) σ = some (nx, ls, .inr r :: st, σ) from by simp only [rx_step, h]) k
theorem g_pf {o : Nat} {x kI : Int} (hk : (c : Int) = kI) (hi : rx_ins m pc = some (19, nx, a, b, c, sw)) (h : rx_fi b c o = true) (hz : a = 0 ∨ x = 0 ∨ x = 1) (k : rx_Go L d m nx ls st (rx_up σ o kI x) P) : rx_Go L d m pc ls (.inl x :: .inr o :: st) σ P := by
  subst hk
  exact rx_gstep hi (fun h => by cases h) (fun h => by cases h) (fun h => by cases h) (show rx_step L (19, nx, a, b, c, sw) ls (.inl x :: .inr o :: st) σ = some (nx, ls, st, rx_up σ o (c : Int) x) from if_pos ⟨h, hz⟩) k
theorem g_ld {o : Nat} {j n : Int} (hi : rx_ins m pc = some (20, nx, a, b, c, sw)) (hn : rx_len L b o = n) (h : 0 ≤ j ∧ j < n) (k : rx_Go L d m nx ls (.inl (σ o j) :: st) σ P) : rx_Go L d m pc ls (.inl j :: .inr o :: st) σ P :=
  rx_gstep hi (fun h => by cases h) (fun h => by cases h) (fun h => by cases h) (show rx_step L (20, nx, a, b, c, sw) ls (.inl j :: .inr o :: st) σ = some (nx, ls, .inl (σ o j) :: st, σ) from if_pos (by rw [hn]; exact h)) k
theorem g_st {o : Nat} {j n x : Int} (hi : rx_ins m pc = some (21, nx, a, b, c, sw)) (hn : rx_len L b o = n) (ho : o < 159) (h : 0 ≤ j ∧ j < n) (hf : rx_fit b x = true) (k : rx_Go L d m nx ls st (rx_up σ o j x) P) : rx_Go L d m pc ls (.inl x :: .inl j :: .inr o :: st) σ P :=
  rx_gstep hi (fun h => by cases h) (fun h => by cases h) (fun h => by cases h) (show rx_step L (21, nx, a, b, c, sw) ls (.inl x :: .inl j :: .inr o :: st) σ = some (nx, ls, st, rx_up σ o j x) from if_pos ⟨by rw [hn]; exact h, ho, hf⟩) k
theorem g_aa {o r : Nat} {j : Int} (hi : rx_ins m pc = some (22, nx, a, b, c, sw)) (h : rx_ae o j = some r) (k : rx_Go L d m nx ls (.inr r :: st) σ P) : rx_Go L d m pc ls (.inl j :: .inr o :: st) σ P :=
  rx_gstep hi (fun h => by cases h) (fun h => by cases h) (fun h => by cases h) (show rx_step L (22, nx, a, b, c, sw) ls (.inl j :: .inr o :: st) σ = some (nx, ls, .inr r :: st, σ) from by simp only [rx_step, h]) k
theorem g_len {o : Nat} {n : Int} (hi : rx_ins m pc = some (23, nx, a, b, c, sw)) (h : rx_alen L o = some n) (k : rx_Go L d m nx ls (.inl n :: st) σ P) : rx_Go L d m pc ls (.inr o :: st) σ P :=
  rx_gstep hi (fun h => by cases h) (fun h => by cases h) (fun h => by cases h) (show rx_step L (23, nx, a, b, c, sw) ls (.inr o :: st) σ = some (nx, ls, .inl n :: st, σ) from by simp only [rx_step, h]) k
theorem g_ref (hi : rx_ins m pc = some (24, nx, a, b, c, sw)) (k : rx_Go L d m nx ls (.inr b :: st) σ P) : rx_Go L d m pc ls st σ P :=
  rx_gstep hi (fun h => by cases h) (fun h => by cases h) (fun h => by cases h) (show rx_step L (24, nx, a, b, c, sw) ls st σ = _ from rfl) k
/-- whether so many places may be copied -/
def rx_cpOK (n sp n0 dp n1 : Int) : Prop := (0 ≤ n ∧ 0 ≤ sp ∧ sp + n ≤ n0 ∧ 0 ≤ dp ∧ dp + n ≤ n1) ∧ 0 < n0 ∧ 0 < n1
theorem g_cp {o q : Nat} {n sp dp n0 n1 : Int} (hi : rx_ins m pc = some (25, nx, a, b, c, sw)) (ho : rx_len L 0 o = n0) (hq : rx_len L 0 q = n1) (h : rx_cpOK n sp n0 dp n1) (hc : o < 159 ∧ q < 159) (k : rx_Go L d m nx ls [] (rx_cp σ o sp q dp n) P) : rx_Go L d m pc ls [.inl n, .inl dp, .inr q, .inl sp, .inr o] σ P :=
  rx_gstep hi (fun h => by cases h) (fun h => by cases h) (fun h => by cases h) (show rx_step L (25, nx, a, b, c, sw) ls [.inl n, .inl dp, .inr q, .inl sp, .inr o] σ = some (nx, ls, [], rx_cp σ o sp q dp n) from if_pos (by rw [ho, hq]; exact ⟨h.1.1, h.1.2.1, h.1.2.2.1, h.1.2.2.2.1, h.1.2.2.2.2, hc.1, hc.2, h.2.1, h.2.2⟩)) k
theorem g_sl {o : Nat} (hi : rx_ins m pc = some (26, nx, a, b, c, sw)) (h : rx_str o ≠ []) (hl : st.length ≤ 8) (k : rx_Go L d m nx ls (.inl ((rx_str o).length : Int) :: st) σ P) : rx_Go L d m pc ls (.inr o :: st) σ P :=
  rx_gstep hi (fun h => by cases h) (fun h => by cases h) (fun h => by cases h) (show rx_step L (26, nx, a, b, c, sw) ls (.inr o :: st) σ = some (nx, ls, .inl ((rx_str o).length : Int) :: st, σ) from if_pos ⟨h, hl⟩) k
theorem g_sc {o : Nat} {j ch : Int} (hi : rx_ins m pc = some (27, nx, a, b, c, sw)) (h0 : 0 ≤ j) (hl : st.length ≤ 8) (h : (rx_str o)[j.toNat]? = some ch) (k : rx_Go L d m nx ls (.inl ch :: st) σ P) : rx_Go L d m pc ls (.inl j :: .inr o :: st) σ P :=
  rx_gstep hi (fun h => by cases h) (fun h => by cases h) (fun h => by cases h) (show rx_step L (27, nx, a, b, c, sw) ls (.inl j :: .inr o :: st) σ = some (nx, ls, .inl ch :: st, σ) from by simp only [rx_step, if_pos (And.intro h0 hl), h]) k
theorem g_mx {x y : Int} (hi : rx_ins m pc = some (31, nx, a, 0, c, sw)) (hl : st.length ≤ 40) (k : rx_Go L d m nx ls (.inl (rx_mx x y) :: st) σ P) : rx_Go L d m pc ls (.inl y :: .inl x :: st) σ P :=
  rx_gstep hi (fun h => by cases h) (fun h => by cases h) (fun h => by cases h) (show rx_step L (31, nx, a, 0, c, sw) ls (.inl y :: .inl x :: st) σ = some (nx, ls, .inl (rx_mx x y) :: st, σ) from if_pos hl) k
theorem g_mn {x y : Int} (hi : rx_ins m pc = some (31, nx, a, 1, c, sw)) (hl : st.length ≤ 40) (k : rx_Go L d m nx ls (.inl (rx_mn x y) :: st) σ P) : rx_Go L d m pc ls (.inl y :: .inl x :: st) σ P :=
  rx_gstep hi (fun h => by cases h) (fun h => by cases h) (fun h => by cases h) (show rx_step L (31, nx, a, 1, c, sw) ls (.inl y :: .inl x :: st) σ = some (nx, ls, .inl (rx_mn x y) :: st, σ) from if_pos hl) k
theorem g_ab {x : Int} (hi : rx_ins m pc = some (32, nx, a, b, c, sw)) (hl : st.length ≤ 40) (k : rx_Go L d m nx ls (.inl (rx_ab x) :: st) σ P) : rx_Go L d m pc ls (.inl x :: st) σ P :=
  rx_gstep hi (fun h => by cases h) (fun h => by cases h) (fun h => by cases h) (show rx_step L (32, nx, a, b, c, sw) ls (.inl x :: st) σ = some (nx, ls, .inl (rx_ab x) :: st, σ) from if_pos hl) k
theorem g_call {as rest : List rx_V} {P1 : Option rx_V → rx_St → Prop} (hi : rx_ins m pc = some (28, nx, a, b, c, sw)) (hst : st = as.reverse ++ rest) (hl : as.length = c) (hr : rest.length ≤ 8) (hO : a < 2 ∨ ∃ (o : Nat) (as1 : List rx_V), as = .inr o :: as1 ∧ rx_isO (a - 2).toNat o = true)
    (h : rx_Go L d b 0 (rx_ent b as) [] σ P1) (k : ∀ r σ1, P1 r σ1 → rx_Go L (d + 1) m nx ls (r.toList ++ rest) σ1 P) : rx_Go L (d + 1) m pc ls st σ P := by
  obtain ⟨n, r, σ1, h1, h2⟩ := h
  obtain ⟨n2, r2, σ2, h3, h4⟩ := k r σ1 h2
  refine ⟨(n + n2) + 1, r2, σ2, ?_, h4⟩
  have e1 : st.take c = as.reverse := by rw [hst, ← hl, ← List.length_reverse, List.take_left]
  have e2 : st.drop c = rest := by rw [hst, ← hl, ← List.length_reverse, List.drop_left]
  have hm : rx_mayC (28, nx, a, b, c, sw) st = true := by
    simp only [rx_mayC, Bool.and_eq_true, decide_eq_true_eq, Bool.or_eq_true]
    rw [e1, e2, List.reverse_reverse]
    refine ⟨⟨by rw [hst, List.length_append, List.length_reverse]; omega, hr⟩, ?_⟩
    rcases hO with h9 | ⟨o, as1, rfl, h9⟩
    · exact Or.inl h9
    · exact Or.inr h9
  unfold rx_exec
  rw [hi]
  dsimp only
  rw [if_pos rfl, if_pos hm, e1, e2, List.reverse_reverse, rx_mono L n n2 _ _ _ _ _ _ _ h1]
  dsimp only
  rw [Nat.add_comm]
  exact rx_mono L n2 n _ _ _ _ _ _ _ h3
theorem g_ci {as rest : List rx_V} (hi : rx_ins m pc = some (28, nx, a, b, c, sw)) (hst : st = as.reverse ++ rest) (hl : as.length = c) (hr : rest.length ≤ 8) (hO : a < 2 ∨ ∃ (o : Nat) (as1 : List rx_V), as = .inr o :: as1 ∧ rx_isO (a - 2).toNat o = true)
    (h : rx_CI L d b as σ (fun v σ1 => rx_Go L (d + 1) m nx ls (.inl v :: rest) σ1 P)) : rx_Go L (d + 1) m pc ls st σ P := by
  refine g_call hi hst hl hr hO h (fun r σ1 h2 => ?_)
  obtain ⟨v, rfl, h3⟩ := h2
  exact h3
theorem g_cv {as rest : List rx_V} (hi : rx_ins m pc = some (28, nx, a, b, c, sw)) (hst : st = as.reverse ++ rest) (hl : as.length = c) (hr : rest.length ≤ 8) (hO : a < 2 ∨ ∃ (o : Nat) (as1 : List rx_V), as = .inr o :: as1 ∧ rx_isO (a - 2).toNat o = true)
    (h : rx_CV L d b as σ (fun σ1 => rx_Go L (d + 1) m nx ls rest σ1 P)) : rx_Go L (d + 1) m pc ls st σ P := by
  refine g_call hi hst hl hr hO h (fun r σ1 h2 => ?_)
  obtain ⟨rfl, h3⟩ := h2
  exact h3
theorem g_ri {K : Int → rx_St → Prop} {v : Int} (hi : rx_ins m pc = some (29, nx, a, b, c, sw)) (hz : a = 0 ∨ v = 0 ∨ v = 1) (h : K v σ) : rx_Go L d m pc ls [.inl v] σ (rx_PI K) := by
  refine ⟨1, some (.inl v), σ, ?_, v, rfl, h⟩
  unfold rx_exec
  rw [hi]
  dsimp only
  rw [if_neg (fun h => by cases h), if_pos rfl, if_pos hz]
theorem g_rv {K : rx_St → Prop} (hi : rx_ins m pc = some (30, nx, a, b, c, sw)) (h : K σ) : rx_Go L d m pc ls [] σ (rx_PV K) := by
  refine ⟨1, none, σ, ?_, rfl, h⟩
  unfold rx_exec
  rw [hi]
  rfl
end GO
