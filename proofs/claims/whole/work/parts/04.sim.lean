/-! A PURE MACHINE over the same bytecode: what follows ties it to the machine once, for every method; all later reasoning is about the pure one. -/
section AXS
/-- ids: 0 the script, i + 1 the cell at base + i -/
def ax_ad (b base i : Nat) : Nat := match i with
  | 0 => b
  | j + 1 => base + j
def ax_tr (b base : Nat) (v : Value) : Value := match v with
  | .ref i => .ref (ax_ad b base i)
  | v => v
abbrev ax_C : Type := (Nat × vp_A) ⊕ (Nat × List Value)
abbrev ax_H : Type := Nat → ax_C
/-- how many cells, what they hold by their ids, whether no exception lies among them yet -/
abbrev ax_M : Type := Nat × ax_H × Bool
def ax_up (h : ax_H) (i : Nat) (x : ax_C) : ax_H := fun q => if q = i then x else h q
def ax_E (b base : Nat) (cy : Nat → ClassId) (x : ax_C) : va_E := match x with
  | .inl a => .inl (cy a.1, a.2)
  | .inr o => .inr (o.1, o.2.map (ax_tr b base))
def ax_L (b base : Nat) (cy : Nat → ClassId) (M : ax_M) : va_W := (List.range M.1).map (fun j => (base + j, ax_E b base cy (M.2.1 (j + 1))))
def ax_A (base : Nat) : Nat → Prop := fun q => base ≤ q
def ax_lv (b base : Nat) (lv : List (Nat × Value)) : List (Nat × Value) := lv.map (fun q => (q.1, ax_tr b base q.2))
abbrev ax_tys (cy : Nat → ClassId) : List (ClassId × FieldType) := [(cy 0, .byte), (cy 1, .int), (cy 2, .long), (cy 3, .boolean)]
theorem ax_cat (b base : Nat) (v : Value) : (ax_tr b base v).category = v.category := by cases v <;> rfl
theorem ax_cats (b base : Nat) (st : List Value) : ((st.map (ax_tr b base)).map fun v => v.category) = st.map fun v => v.category := by
  rw [List.map_map]
  exact List.map_congr_left fun v _ => ax_cat b base v
theorem ax_L_get {b base : Nat} {cy : Nat → ClassId} {M : ax_M} {j : Nat} (h : j < M.1) : (ax_L b base cy M)[j]? = some (base + j, ax_E b base cy (M.2.1 (j + 1))) := by
  unfold ax_L
  rw [List.getElem?_map, List.getElem?_range h]
  rfl
theorem ax_L_set {b base : Nat} {cy : Nat → ClassId} {n : Nat} {h : ax_H} {x : Bool} {j : Nat} (y : ax_C) : (ax_L b base cy (n, h, x)).set j (base + j, ax_E b base cy y) = ax_L b base cy (n, ax_up h (j + 1) y, x) := by
  unfold ax_L
  apply List.ext_getElem?
  intro i
  rw [List.getElem?_set]
  simp only [List.length_map, List.length_range, List.getElem?_map]
  by_cases hij : j = i
  · subst hij
    by_cases hj : j < n
    · rw [if_pos rfl, if_pos hj, List.getElem?_range hj]
      simp [ax_up]
    · rw [if_pos rfl, if_neg hj, List.getElem?_eq_none (by simpa using hj)]
      rfl
  · rw [if_neg hij]
    by_cases hi : i < n
    · rw [List.getElem?_range hi]
      have : ¬ i = j := fun h => hij h.symm
      simp [ax_up, this]
    · rw [List.getElem?_eq_none (by simpa using hi)]
      rfl
theorem ax_L_push {b base : Nat} {cy : Nat → ClassId} {n : Nat} {h : ax_H} {x : Bool} (y : ax_C) : ax_L b base cy (n, h, x) ++ [(base + n, ax_E b base cy y)] = ax_L b base cy (n + 1, ax_up h (n + 1) y, x) := by
  unfold ax_L
  show _ = (List.range (n + 1)).map _
  rw [List.range_succ, List.map_append]
  congr 1
  · apply List.map_congr_left
    intro j hj
    have hj : j < n := List.mem_range.mp hj
    have : ¬ j = n := by omega
    simp [ax_up, this]
  · simp [ax_up]
theorem ax_L_D {b base : Nat} {cy : Nat → ClassId} {M : ax_M} : va_D (ax_A base) (ax_L b base cy M) := by
  have key : ∀ (k : Nat) (q : Nat × va_E), (ax_L b base cy M)[k]? = some q → q.1 = base + k := by
    intro k q hq
    unfold ax_L at hq
    rw [List.getElem?_map] at hq
    by_cases hk : k < M.1
    · rw [List.getElem?_range hk] at hq
      cases hq
      rfl
    · rw [List.getElem?_eq_none (by simpa using hk)] at hq
      cases hq
  refine ⟨fun i j p q hp hq h => ?_, fun k q hq => ?_⟩
  · rw [key i p hp, key j q hq] at h
    omega
  · rw [key k q hq]
    exact Nat.le_add_right _ _
theorem ax_look {b base nL : Nat} {ls : Array Slot} {lv : List (Nat × Value)} (h : lv_has ls nL (ax_lv b base lv)) {i : Nat} {v : Value} (hl : lv.lookup i = some v) : ls[i]? = some (.val (ax_tr b base v)) := by
  have hm : (i, v) ∈ lv := by
    clear h
    induction lv with
    | nil => cases hl
    | cons q t ih =>
      obtain ⟨a, w⟩ := q
      simp only [List.lookup] at hl
      by_cases e : i = a
      · subst e
        simp at hl
        subst hl
        exact List.mem_cons_self
      · have : (i == a) = false := by simpa using e
        rw [this] at hl
        exact List.mem_cons_of_mem _ (ih hl)
  exact h.2.2 (i, ax_tr b base v) (List.mem_map.mpr ⟨(i, v), hm, rfl⟩)
def ax_st1 (lv : List (Nat × Value)) (i : Nat) (v : Value) : List (Nat × Value) := (i, v) :: lv.filter (fun q => !(q.1 == i) && !(q.1 + 1 == i && q.2.category == 2))
def ax_st2 (lv : List (Nat × Value)) (i : Nat) (v : Value) : List (Nat × Value) := (i, v) :: lv.filter (fun q => !(q.1 == i) && (!(q.1 == i + 1) && !(q.1 + 1 == i && q.2.category == 2)))
theorem ax_st1_tr (b base : Nat) (lv : List (Nat × Value)) (i : Nat) (v : Value) : (i, ax_tr b base v) :: (ax_lv b base lv).filter (fun q => !(q.1 == i) && !(q.1 + 1 == i && q.2.category == 2)) = ax_lv b base (ax_st1 lv i v) := by
  unfold ax_lv ax_st1
  rw [List.map_cons, List.filter_map]
  congr 2
  apply List.filter_congr
  intro q _
  simp [ax_cat]
theorem ax_st2_tr (b base : Nat) (lv : List (Nat × Value)) (i : Nat) (v : Value) : (i, ax_tr b base v) :: (ax_lv b base lv).filter (fun q => !(q.1 == i) && (!(q.1 == i + 1) && !(q.1 + 1 == i && q.2.category == 2))) = ax_lv b base (ax_st2 lv i v) := by
  unfold ax_lv ax_st2
  rw [List.map_cons, List.filter_map]
  congr 2
  apply List.filter_congr
  intro q _
  simp [ax_cat]
theorem ax_args_tr (b base : Nat) : ∀ (vs : List Value) (i : Nat), lv_args i (vs.map (ax_tr b base)) = ax_lv b base (lv_args i vs)
  | [], _ => rfl
  | v :: vs, i => by
    simp only [List.map_cons, lv_args, ax_lv, ax_cat]
    rw [ax_args_tr b base vs]
    rfl
end AXS
