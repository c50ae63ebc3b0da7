/-! What the machine's heap holds of the abstract store, and what the tables say -/
def rx_ev (ad : Nat → Nat) (v : rx_V) : Value := match v with
  | .inl i => .int (Int32.ofInt i)
  | .inr r => .ref (ad r)
def rx_okv (v : rx_V) : Prop := match v with
  | .inl i => rx_r i
  | .inr _ => True
def rx_fv1 (ad : Nat → Nat) (f : Int → Int) (k : Nat) (o : Option Nat) : Value := match o with
  | none => .int (Int32.ofInt (f k))
  | some r => .ref (ad r)
def rx_fv (ad : Nat → Nat) (f : Int → Int) (fs : List (Option Nat)) : List Value := fs.mapIdx (fun k o => rx_fv1 ad f k o)
def rx_E (ad : Nat → Nat) (cA : Nat → ClassId) (sh : rx_Sh) (f : Int → Int) : va_E := match sh with
  | .inl (ci, fs) => .inr (ci, rx_fv ad f fs)
  | .inr (.inl (t, n)) => .inl (cA t, n, .inl (fun j => Int32.ofInt (f j)))
  | .inr (.inr (t, rs)) => .inl (cA t, rs.length, .inr (.inr (.inr (.inr (fun j => (rs[j]?).map ad)))))
noncomputable def rx_W (ad : Nat → Nat) (cA : Nat → ClassId) (σ : rx_St) : va_W := rx_SH.mapIdx (fun c sh => (ad c, rx_E ad cA sh (σ c)))
def rx_A (ad : Nat → Nat) : Nat → Prop := fun q => ∃ c : Nat, c < 159 ∧ q = ad c
def rx_tys (cA : Nat → ClassId) : List (ClassId × FieldType) := [(cA 0, .int), (cA 1, .boolean), (cA 2, .char), (cA 3, .array .int), (cA 4, .object "RoadsCrossed$Sheet"), (cA 5, .object "RoadsCrossed$Slot")]
noncomputable def rx_all : List Cond := lw_tbl.filter goodWord
theorem rx_SHlen : rx_SH.length = 159 := by decide +kernel
theorem rx_W_at {ad : Nat → Nat} {cA : Nat → ClassId} {σ : rx_St} {c : Nat} {sh : rx_Sh} (h : rx_SH[c]? = some sh) : (rx_W ad cA σ)[c]? = some (ad c, rx_E ad cA sh (σ c)) := by
  unfold rx_W
  rw [List.getElem?_mapIdx, h]
  rfl
theorem rx_SH_lt {c : Nat} {sh : rx_Sh} (h : rx_SH[c]? = some sh) : c < 159 := by
  have := (List.getElem?_eq_some_iff.mp h).1
  rw [rx_SHlen] at this
  exact this
theorem rx_W_set {ad : Nat → Nat} {cA : Nat → ClassId} {σ σ' : rx_St} {c : Nat} {sh : rx_Sh} (h : rx_SH[c]? = some sh) (ho : ∀ c', c' ≠ c → σ' c' = σ c') : (rx_W ad cA σ).set c (ad c, rx_E ad cA sh (σ' c)) = rx_W ad cA σ' := by
  apply List.ext_getElem?
  intro j
  rw [List.getElem?_set]
  unfold rx_W
  by_cases e : c = j
  · subst e
    have hl : c < (rx_SH.mapIdx (fun c sh => (ad c, rx_E ad cA sh (σ c)))).length := by
      rw [List.length_mapIdx, rx_SHlen]
      exact rx_SH_lt h
    rw [if_pos rfl, if_pos hl, List.getElem?_mapIdx, h]
    rfl
  · rw [if_neg e, List.getElem?_mapIdx, List.getElem?_mapIdx, ho j (Ne.symm e)]
theorem rx_up_ne {σ : rx_St} {c : Nat} {i v : Int} {c' : Nat} (h : c' ≠ c) : rx_up σ c i v c' = σ c' := by
  funext j
  simp [rx_up, h]
theorem rx_E_up {ad : Nat → Nat} {cA : Nat → ClassId} {σ : rx_St} {c t n : Nat} {i v : Int} (hi : 0 ≤ i) : rx_E ad cA (.inr (.inl (t, n))) (rx_up σ c i v c) = .inl (cA t, n, .inl (upd (fun j => Int32.ofInt (σ c j)) i.toNat (Int32.ofInt v))) := by
  simp only [rx_E, rx_up, upd]
  congr 3
  congr 1
  funext j
  show _ = if j = i.toNat then Int32.ofInt v else Int32.ofInt (σ c j)
  by_cases e : j = i.toNat
  · rw [if_pos e, if_pos ⟨trivial, by omega⟩]
  · rw [if_neg e, if_neg (fun h => e (by omega))]
theorem rx_fv_up {ad : Nat → Nat} {σ : rx_St} {c k : Nat} {v : Int} {fs : List (Option Nat)} (hk : fs[k]? = some none) : (rx_fv ad (σ c) fs).set k (.int (Int32.ofInt v)) = rx_fv ad (rx_up σ c k v c) fs := by
  apply List.ext_getElem?
  intro j
  rw [List.getElem?_set]
  unfold rx_fv
  by_cases e : k = j
  · subst e
    have hl : k < (fs.mapIdx (fun k o => rx_fv1 ad (σ c) k o)).length := by
      rw [List.length_mapIdx]
      exact (List.getElem?_eq_some_iff.mp hk).1
    rw [if_pos rfl, if_pos hl, List.getElem?_mapIdx, hk]
    simp [rx_fv1, rx_up]
  · rw [if_neg e, List.getElem?_mapIdx, List.getElem?_mapIdx]
    congr 1
    funext o
    cases o with
    | none =>
      have : ((j : Nat) : Int) ≠ (k : Int) := by omega
      simp [rx_fv1, rx_up, this]
    | some r => rfl
theorem rx_fv_at {ad : Nat → Nat} {f : Int → Int} {fs : List (Option Nat)} {k : Nat} {o : Option Nat} (hk : fs[k]? = some o) : (rx_fv ad f fs)[k]? = some (rx_fv1 ad f k o) := by
  unfold rx_fv
  rw [List.getElem?_mapIdx, hk]
  rfl
theorem rx_D {ad : Nat → Nat} {cA : Nat → ClassId} {σ : rx_St} (hinj : ∀ i j, i < 159 → j < 159 → ad i = ad j → i = j) : va_D (rx_A ad) (rx_W ad cA σ) := by
  have key : ∀ (k : Nat) (q : Nat × va_E), (rx_W ad cA σ)[k]? = some q → k < 159 ∧ q.1 = ad k := by
    intro k q h
    unfold rx_W at h
    rw [List.getElem?_mapIdx] at h
    cases hs : rx_SH[k]? with
    | none => rw [hs] at h; cases h
    | some sh =>
      rw [hs] at h
      cases h
      exact ⟨rx_SH_lt hs, rfl⟩
  refine ⟨fun i j p q hi hj e => ?_, fun k q h => ?_⟩
  · obtain ⟨a1, a2⟩ := key i p hi
    obtain ⟨b1, b2⟩ := key j q hj
    exact hinj i j a1 b1 (by rw [← a2, ← b2, e])
  · obtain ⟨a1, a2⟩ := key k q h
    exact ⟨k, a1, a2⟩
/-- the tables' part -/
def rx_Env (D : va_G) (cA : Nat → ClassId) (U : State) : Prop := va_K D vwCl (rx_tys cA) U ∧ ∀ w ∈ rx_nest, va_Nw w U
/-- the three words that are looked for, as the machine has them; where their bytes lie -/
def rx_Sr (ad adV : Nat → Nat) (U : State) (H : Heap) : Prop := vk_S 3 [4, 5, 4] [[104, 97, 114, 109], [99, 114, 111, 115, 115], [115, 119, 97, 112]] (fun i => ad (161 + i)) adV (rx_A ad) U H ∧ vk_R "RoadsCrossed$Reader" 73 "harm" (ad 161) U ∧ vk_R "RoadsCrossed$Reader" 79 "cross" (ad 162) U ∧ vk_R "RoadsCrossed$Reader" 81 "swap" (ad 163) U ∧ va_Z "java/lang/String" "COMPACT_STRINGS" "Z" (.int 1) (rx_A ad) U H ∧ va_Zq "jdk/internal/util/Preconditions" "SIOOBE_FORMATTER" "Ljava/util/function/BiFunction;" (rx_A ad) U H
/-- what nobody writes: the script, the row of kinds, the words -/
def rx_Ro (ad adV : Nat → Nat) (L : Nat) (ro : rx_St) (U : State) (H : Heap) : Prop := va_T .int (ad 159) L (fun j => .int (Int32.ofInt (ro 159 j))) (rx_A ad) U H ∧ va_T .int (ad 160) 6 (fun j => .int (Int32.ofInt (ro 160 j))) (rx_A ad) U H ∧ va_Z "RoadsCrossed" "ABOVE" "[I" (.ref (ad 160)) (rx_A ad) U H ∧ rx_Sr ad adV U H
def rx_Hp (D : va_G) (ad : Nat → Nat) (cA : Nat → ClassId) (ro σ : rx_St) (H : Heap) : Prop := (∀ c i, rx_r (σ c i)) ∧ (∀ c, 159 ≤ c → σ c = ro c) ∧ va_P D vwCl (rx_W ad cA σ) H
def rx_Pc (D : va_G) (ad adV : Nat → Nat) (cA : Nat → ClassId) (L : Nat) (ro : rx_St) (as : List rx_V) (σ : rx_St) : Array Value → State → Prop := fun v U => v = (as.map (rx_ev ad)).toArray ∧ rx_Env D cA U ∧ rx_Ro ad adV L ro U U.heap ∧ rx_Hp D ad cA ro σ U.heap
def rx_Qc (D : va_G) (ad : Nat → Nat) (cA : Nat → ClassId) (ro : rx_St) (r : Option rx_V) (σ' : rx_St) : Array Value → State → Outcome → State → Prop := fun _ st o t => o = .returned (r.map (rx_ev ad)) ∧ rx_Hp D ad cA ro σ' t.heap ∧ va_F (rx_A ad) st t ∧ ∀ v, r = some v → rx_okv v
def rx_room (d : Nat) : Room := { frames := d + 8, cells := 0, slots := 0, locals := 64 * (d + 8) }
theorem rx_Env.warm {D : va_G} {cA : Nat → ClassId} {s U : State} (hW : s.WarmedH U.vm) (h : rx_Env D cA s) : rx_Env D cA U := by
  refine ⟨va_K.moved hW.alike h.1, fun w hw => ?_⟩
  have h1 := h.2 w hw
  simp only [rx_nest, List.mem_cons, List.not_mem_nil, or_false] at hw
  rcases hw with rfl | rfl | rfl <;> exact va_Nw.warmM hW h1
theorem rx_Sr.warm {ad adV : Nat → Nat} {s U : State} {H : Heap} (hW : s.WarmedH U.vm) (h : rx_Sr ad adV s H) : rx_Sr ad adV U H :=
  ⟨h.1.moved hW.alike, h.2.1.warm hW, h.2.2.1.warm hW, h.2.2.2.1.warm hW, h.2.2.2.2.1.moved hW.alike, h.2.2.2.2.2.moved hW.alike⟩
theorem rx_Ro.warm {ad adV : Nat → Nat} {L : Nat} {ro : rx_St} {s U : State} {H : Heap} (hW : s.WarmedH U.vm) (h : rx_Ro ad adV L ro s H) : rx_Ro ad adV L ro U H :=
  ⟨h.1.moved hW.alike, h.2.1.moved hW.alike, h.2.2.1.moved hW.alike, h.2.2.2.warm hW⟩
theorem rx_Ro.kept {ad adV : Nat → Nat} {L : Nat} {ro : rx_St} {U : State} {H H1 : Heap} (h : rx_Ro ad adV L ro U H) (hq : ∀ a : Nat, a < H.size → ¬ rx_A ad a → H1[a]? = H[a]?) : rx_Ro ad adV L ro U H1 :=
  ⟨h.1.kept hq, h.2.1.kept hq, h.2.2.1.kept hq, h.2.2.2.1.kept hq, h.2.2.2.2.1, h.2.2.2.2.2.1, h.2.2.2.2.2.2.1, h.2.2.2.2.2.2.2.1.kept hq, h.2.2.2.2.2.2.2.2.kept hq⟩
theorem rx_blind {D : va_G} {ad adV : Nat → Nat} {cA : Nat → ClassId} {L : Nat} {ro : rx_St} {as : List rx_V} {σ : rx_St} : FrameBlind (rx_Pc D ad adV cA L ro as σ) := by
  intro a U g mk h
  obtain ⟨h1, h2, h3, h4⟩ := h
  have hv : (U.calling g mk a).vm = U.vm := rfl
  have hh : (U.calling g mk a).heap = U.heap := rfl
  have hW : U.vm.Alike (U.calling g mk a).vm := Vm.Alike.refl U.vm
  refine ⟨h1, ⟨va_K.moved hW h2.1, fun w hw => ?_⟩, ?_, by rw [hh]; exact h4⟩
  · have h5 := h2.2 w hw
    simp only [rx_nest, List.mem_cons, List.not_mem_nil, or_false] at hw
    rcases hw with rfl | rfl | rfl <;> exact va_Nw.same rfl hv.symm h5
  · rw [hh]
    exact ⟨h3.1.moved hW, h3.2.1.moved hW, h3.2.2.1.moved hW, h3.2.2.2.1.moved hW, h3.2.2.2.2.1.same hv, h3.2.2.2.2.2.1.same hv, h3.2.2.2.2.2.2.1.same hv, h3.2.2.2.2.2.2.2.1.moved hW, h3.2.2.2.2.2.2.2.2.moved hW⟩
