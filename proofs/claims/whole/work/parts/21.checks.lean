section AXV
def ax_needc (T : Nat → ax_D) (a9 : String) (i9 : Nat) (x9 : MethodName) (own : String) (x : ax_I) : List Cond := match x.1 with
  | .invokevirtual i => if x.2.2.1 < 900 then [.methodLink own i (ax_dy (T x.2.2.1)), .instanceMethod (ax_dy (T x.2.2.1)), .selects (ax_dy (T x.2.2.1)).cls (ax_dy (T x.2.2.1)) (ax_dy (T x.2.2.1)), .initialized (ax_dy (T x.2.2.1)).cls] else []
  | .invokespecial i => if x.2.2.1 < 900 then [.methodLink own i (ax_dy (T x.2.2.1)), .instanceMethod (ax_dy (T x.2.2.1)), .initialized (ax_dy (T x.2.2.1)).cls] else []
  | .invokestatic i => if x.2.2.1 < 900 then [.static (ax_dy (T x.2.2.1)), .initialized (ax_dy (T x.2.2.1)).cls] ++ (if own = a9 ∧ i = i9 ∧ ax_dy (T x.2.2.1) = x9 ∧ ax_dh (T x.2.2.1) = [] then [] else [.methodLink own i (ax_dy (T x.2.2.1))]) else []
  | _ => []
def ax_chkc (T : Nat → ax_D) (x : ax_I) : Bool := match x.1 with
  | .invokevirtual _ | .invokestatic _ => if x.2.2.1 < 900 then decide ((parseMethodDescriptor (ax_dy (T x.2.2.1)).desc).map (fun d => d.parameters.length) = some x.2.2.2.1) else true
  | .invokespecial _ => if x.2.2.1 < 900 then decide ((parseMethodDescriptor (ax_dy (T x.2.2.1)).desc).map (fun d => d.parameters.length) = some x.2.2.2.1) && (decide ((ax_dy (T x.2.2.1)).name = "<init>") && (decide (ax_dh (T x.2.2.1) = []) && decide (ax_dr (T x.2.2.1) = none))) else true
  | _ => true
theorem ax_okc_of {T : Nat → ax_D} {a9 : String} {i9 : Nat} {x9 : MethodName} {own : String} {x : ax_I} (h1 : ∀ w ∈ ax_needc T a9 i9 x9 own x, w ∈ ax_W) (h2 : ax_chkc T x = true) : ax_okc T a9 i9 x9 own x := by
  obtain ⟨ins, len, r1, r2, kc⟩ := x
  cases ins <;> try exact trivial
  case invokevirtual i =>
    intro hlt
    simp only at hlt
    simp only [ax_needc, hlt, if_true] at h1
    simp only [ax_chkc, hlt, if_true, decide_eq_true_eq] at h2
    exact ⟨h1, h2⟩
  case invokespecial i =>
    intro hlt
    simp only at hlt
    simp only [ax_needc, hlt, if_true] at h1
    simp only [ax_chkc, hlt, if_true, Bool.and_eq_true, decide_eq_true_eq] at h2
    exact ⟨h1, h2.1, h2.2.1, h2.2.2.1, h2.2.2.2⟩
  case invokestatic i =>
    intro hlt
    simp only at hlt
    simp only [ax_needc, hlt, if_true] at h1
    simp only [ax_chkc, hlt, if_true, decide_eq_true_eq] at h2
    refine ⟨fun w h => h1 w (List.mem_append_left _ h), h2, ?_⟩
    by_cases hc : own = a9 ∧ i = i9 ∧ ax_dy (T r1) = x9 ∧ ax_dh (T r1) = []
    · exact Or.inr hc
    · rw [if_neg hc] at h1
      exact Or.inl (h1 _ (List.mem_append_right _ List.mem_cons_self))
def ax_needs (T : Nat → ax_D) (a9 : String) (i9 : Nat) (x9 : MethodName) (D : ax_D) : List Cond :=
  (ax_dt D).flatMap (fun q => ax_need (ax_dy D).cls q.2 ++ ax_needc T a9 i9 x9 (ax_dy D).cls q.2) ++ ((ax_dh D).zip (ax_dn D)).map (fun q => Cond.classLink (ax_dy D).cls q.1.2.2.2 q.2) ++ [ax_cw D]
def ax_chks (T : Nat → ax_D) (D : ax_D) : Bool := (ax_dt D).all (fun q => ax_chk (ax_dy D).cls (decide ((ax_dy D).name = "<init>")) q.2 && ax_chkc T q.2)
def ax_chkm (D : ax_D) : Bool := plainName (ax_dy D).cls && (decide ((ax_dy D).cls ≠ "java/lang/invoke/MethodHandle") && (decide ((ax_dy D).cls ≠ "java/lang/invoke/VarHandle") && (decide (ax_dl D ≤ 20) && (decide ((ax_dh D).length = (ax_dn D).length) && ((ax_dn D).all (fun n => decide (n ∈ ax_Ex)) && (ax_dh D).all (fun q => decide (q.2.2.2 ≠ 0)))))))
theorem ax_lookup_mem {α : Type} {l : List (Nat × α)} {k : Nat} {v : α} (h : l.lookup k = some v) : (k, v) ∈ l := by
  induction l with
  | nil => cases h
  | cons q t ih =>
    obtain ⟨a, w⟩ := q
    simp only [List.lookup] at h
    by_cases e : k = a
    · subst e
      simp at h
      subst h
      exact List.mem_cons_self
    · have : (k == a) = false := by simpa using e
      rw [this] at h
      exact List.mem_cons_of_mem _ (ih h)
theorem ax_W_of {N : List Cond} (ix : List Nat) (hp : N = ix.filterMap (fun i => ax_big[i]?)) (hg : N.all goodWord = true) : ∀ w ∈ N, w ∈ ax_W := by
  intro w hw
  refine List.mem_filter.mpr ⟨?_, List.all_eq_true.mp hg w hw⟩
  rw [hp] at hw
  obtain ⟨i, -, hi⟩ := List.mem_filterMap.mp hw
  exact List.mem_of_getElem? hi
theorem ax_okM_of {Ss : List (String × Nat × String)} {T : Nat → ax_D} {a9 : String} {i9 : Nat} {x9 : MethodName} {D : ax_D} (h1 : ∀ q ∈ ax_dt D, decode (ax_db D) q.1 = .ok (q.2.1, q.2.2.1)) (h2 : ax_chks T D = true) (h3 : ∀ w ∈ ax_needs T a9 i9 x9 D, w ∈ ax_W) (h4 : ax_chkm D = true) (h5 : ∀ pc q, (ax_dx D).lookup pc = some q → ax_okx Ss D pc q) : ax_okM Ss T a9 i9 x9 D := by
  simp only [ax_chkm, Bool.and_eq_true, decide_eq_true_eq] at h4
  obtain ⟨m1, m2, m3, m4, m5, m6, m7⟩ := h4
  have w1 : ∀ (pc : Nat) (x : ax_I), (pc, x) ∈ ax_dt D → ∀ w ∈ ax_need (ax_dy D).cls x, w ∈ ax_W := by
    intro pc x hm w hw
    refine h3 w ?_
    unfold ax_needs
    exact List.mem_append_left _ (List.mem_append_left _ (List.mem_flatMap.mpr ⟨(pc, x), hm, List.mem_append_left _ hw⟩))
  have w2 : ∀ (pc : Nat) (x : ax_I), (pc, x) ∈ ax_dt D → ∀ w ∈ ax_needc T a9 i9 x9 (ax_dy D).cls x, w ∈ ax_W := by
    intro pc x hm w hw
    refine h3 w ?_
    unfold ax_needs
    exact List.mem_append_left _ (List.mem_append_left _ (List.mem_flatMap.mpr ⟨(pc, x), hm, List.mem_append_right _ hw⟩))
  have w3 : ax_cw D ∈ ax_W := by
    refine h3 _ ?_
    unfold ax_needs
    exact List.mem_append_right _ List.mem_cons_self
  have w4 : ∀ q ∈ (ax_dh D).zip (ax_dn D), Cond.classLink (ax_dy D).cls q.1.2.2.2 q.2 ∈ ax_W := by
    intro q hq
    refine h3 _ ?_
    unfold ax_needs
    exact List.mem_append_left _ (List.mem_append_right _ (List.mem_map.mpr ⟨q, hq, rfl⟩))
  have e1 : ∀ pc x, (ax_dt D).lookup pc = some x → ax_ok (ax_dy D).cls (ax_db D) (decide ((ax_dy D).name = "<init>")) pc x ∧ ax_okc T a9 i9 x9 (ax_dy D).cls x := by
    intro pc x hx
    have hm := ax_lookup_mem hx
    have hc := List.all_eq_true.mp h2 _ hm
    rw [Bool.and_eq_true] at hc
    have a1 := h1 (pc, x) hm
    dsimp only at a1 hc
    refine ⟨?_, ax_okc_of (w2 pc x hm) hc.2⟩
    unfold ax_ok
    refine ⟨?_, ?_, ?_⟩
    · exact a1
    · exact w1 pc x hm
    · exact hc.1
  have e2 : ∀ (k : Nat) (q : Nat × Nat × Nat × Nat), (ax_dh D)[k]? = some q → ∃ nm, (ax_dn D)[k]? = some nm ∧ nm ∈ ax_Ex ∧ q.2.2.2 ≠ 0 ∧ Cond.classLink (ax_dy D).cls q.2.2.2 nm ∈ ax_W := by
    intro k q hq
    have hk : k < (ax_dh D).length := (List.getElem?_eq_some_iff.mp hq).1
    obtain ⟨nm, hnm⟩ : ∃ nm, (ax_dn D)[k]? = some nm := ⟨_, List.getElem?_eq_getElem (by omega)⟩
    have hz : ((ax_dh D).zip (ax_dn D))[k]? = some (q, nm) := by
      rw [List.getElem?_zip_eq_some]
      exact ⟨hq, hnm⟩
    exact ⟨nm, hnm, of_decide_eq_true (List.all_eq_true.mp m6 nm (List.mem_of_getElem? hnm)), of_decide_eq_true (List.all_eq_true.mp m7 q (List.mem_of_getElem? hq)), w4 (q, nm) (List.mem_of_getElem? hz)⟩
  unfold ax_okM
  exact ⟨m1, ⟨m2, m3⟩, w3, m4, e1, h5, e2⟩
end AXV
