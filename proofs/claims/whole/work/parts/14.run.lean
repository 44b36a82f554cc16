section AXU
/-! THE PURE MACHINE'S RUNS, as the least relation that its rules close -/
abbrev ax_Q : Type := Nat → Nat → Nat → List (Nat × Value) → List Value → ax_M → ax_O → Prop
def ax_Cl (L : Nat) (xs : Nat → Int32) (T : Nat → ax_D) (x9 : MethodName) (P : ax_Q) : Prop :=
  (∀ (d i pc : Nat) (lv : List (Nat × Value)) (st : List Value) (M : ax_M) (o : ax_O) (x : ax_I) (r : ax_N), (ax_dt (T i)).lookup pc = some x → ax_s L xs (ax_dl (T i)) x pc lv st M = some r → P d i r.1 r.2.1 r.2.2.1 r.2.2.2.1 o → P d i pc lv st M (ax_add o r.2.2.2.2.1 r.2.2.2.2.2)) ∧
  (∀ (d i pc : Nat) (lv : List (Nat × Value)) (st : List Value) (M : ax_M) (x : ax_I) (v : Option Value), (ax_dt (T i)).lookup pc = some x → ax_ret (ax_dr (T i)) x st = some v → P d i pc lv st M (.inl v, M, 0, 0)) ∧
  (∀ (d i pc j : Nat) (lv : List (Nat × Value)) (st as rest : List Value) (M : ax_M) (o1 o : ax_O) (x : ax_I) (v : Option Value), (ax_dt (T i)).lookup pc = some x → ax_call x st = some (j, as, rest) → ax_recv T x as M → (rest.map fun v => v.category).sum ≤ 8 → (lg_sl as).length ≤ ax_dl (T j) → P d j 0 (lv_args 0 as) [] M o1 → o1.1 = .inl v →
    (o1.2.1.2.2 = true → M.2.2 = true ∧ o1.2.1.1 = M.1 + o1.2.2.1) → P (d + 1) i (pc + 3) lv (v.toList ++ rest) o1.2.1 o → P (d + 1) i pc lv st M (ax_add o o1.2.2.1 o1.2.2.2)) ∧
  (∀ (d i pc j : Nat) (lv : List (Nat × Value)) (st as rest : List Value) (M : ax_M) (o1 : ax_O) (x : ax_I) (E : String), (ax_dt (T i)).lookup pc = some x → ax_call x st = some (j, as, rest) → ax_recv T x as M → (rest.map fun v => v.category).sum ≤ 8 → (lg_sl as).length ≤ ax_dl (T j) → P d j 0 (lv_args 0 as) [] M o1 → o1.1 = .inr E →
    ((∀ n, x.1 ≠ .invokespecial n) ∧ ax_dy (T j) ≠ x9) → ax_dh (T i) = [] → P (d + 1) i pc lv st M o1) ∧
  (∀ (d i pc j hpc jj : Nat) (lv : List (Nat × Value)) (st as rest : List Value) (M : ax_M) (o1 o : ax_O) (x x2 : ax_I) (E : String), (ax_dt (T i)).lookup pc = some x → ax_call x st = some (j, as, rest) → ax_recv T x as M → (rest.map fun v => v.category).sum ≤ 8 → (lg_sl as).length ≤ ax_dl (T j) → P d j 0 (lv_args 0 as) [] M o1 → o1.1 = .inr E → E ∈ ax_Ex →
    ((∀ n, x.1 ≠ .invokespecial n) ∧ ax_dy (T j) ≠ x9) → ax_hand (ax_dh (T i)) (ax_dn (T i)) pc E = some hpc → (ax_dt (T i)).lookup hpc = some x2 → ax_hst x2 = some jj → jj < ax_dl (T i) → (o1.2.1.2.2 = true → M.2.2 = true ∧ o1.2.1.1 = M.1 + o1.2.2.1) →
    P (d + 1) i (hpc + x2.2.1) (ax_drop lv jj) [] o1.2.1 o → P (d + 1) i pc lv st M (ax_add o o1.2.2.1 o1.2.2.2)) ∧
  ∀ (d i pc : Nat) (lv : List (Nat × Value)) (st : List Value) (M : ax_M) (cls text : String) (ik is ic : Nat) (wide : Bool), (ax_dx (T i)).lookup pc = some (cls, text, ik, is, ic, wide) → (st.map fun v => v.category).sum ≤ 30 → P d i pc lv st M (.inr cls, (M.1, M.2.1, false), 1, 6)
def ax_R (L : Nat) (xs : Nat → Int32) (T : Nat → ax_D) (x9 : MethodName) (d i pc : Nat) (lv : List (Nat × Value)) (st : List Value) (M : ax_M) (o : ax_O) : Prop := ∀ P : ax_Q, ax_Cl L xs T x9 P → P d i pc lv st M o
/-- EVERY PURE RUN IS THE MACHINE'S -/
theorem ax_sound {Ss : List (String × Nat × String)} {dC : Nat → ClassId} {dI : Nat → Nat → Nat} {cy : Nat → ClassId} {b base L : Nat} {xs : Nat → Int32} {T : Nat → ax_D} {a9 h9 : String} {i9 : Nat} {x9 : MethodName} (hT : ∀ j, ax_okM Ss T a9 i9 x9 (T j)) {d i pc : Nat} {lv : List (Nat × Value)} {st : List Value} {M : ax_M} {o : ax_O}
    (h : ax_R L xs T x9 d i pc lv st M o) : ax_P Ss (.methodLinkNest a9 i9 x9 h9) dC dI cy b base L xs T d i pc lv st M o :=
  h (fun d i pc lv st M o => ax_P Ss (.methodLinkNest a9 i9 x9 h9) dC dI cy b base L xs T d i pc lv st M o)
    ⟨fun _ _ _ _ _ _ _ _ _ h1 h2 h3 => ax_P_step hT h1 h2 h3, fun _ _ _ _ _ _ _ _ h1 h2 => ax_P_ret hT h1 h2,
      fun _ _ _ _ _ _ _ _ _ _ _ _ _ h1 h2 h3 h4 h5 h6 h7 h8 h10 => ax_P_call hT h1 h2 h3 h4 h5 h6 h7 h8 h10, fun _ _ _ _ _ _ _ _ _ _ _ _ h1 h2 h3 h4 h5 h6 h7 h8 h10 => ax_P_out hT h1 h2 h3 h4 h5 h6 h7 h8 h10,
      fun _ _ _ _ _ _ _ _ _ _ _ _ _ _ _ _ h1 h2 h3 h4 h5 h6 h7 h8 h10 h11 h12 h13 h14 h15 h16 => ax_P_catch hT h1 h2 h3 h4 h5 h6 h7 h8 h10 h11 h12 h13 h14 h15 h16,
      fun _ _ _ _ _ _ _ _ _ _ _ _ h1 h2 => ax_P_throw hT h1 h2⟩
variable {L : Nat} {xs : Nat → Int32} {T : Nat → ax_D} {x9 : MethodName} {d i pc : Nat} {lv lv' : List (Nat × Value)} {st st' : List Value} {M M' : ax_M} {o : ax_O} {x : ax_I}
theorem ax_R.step {r : ax_N} (h1 : (ax_dt (T i)).lookup pc = some x) (h2 : ax_s L xs (ax_dl (T i)) x pc lv st M = some r) (k : ax_R L xs T x9 d i r.1 r.2.1 r.2.2.1 r.2.2.2.1 o) : ax_R L xs T x9 d i pc lv st M (ax_add o r.2.2.2.2.1 r.2.2.2.2.2) := fun P hP => hP.1 _ _ _ _ _ _ _ _ _ h1 h2 (k P hP)
theorem ax_add0 (o : ax_O) : ax_add o 0 0 = o := by
  unfold ax_add
  rw [Nat.zero_add, Nat.zero_add]
theorem ax_R.s {pc' : Nat} (h1 : (ax_dt (T i)).lookup pc = some x) (h2 : ax_s L xs (ax_dl (T i)) x pc lv st M = some (pc', lv', st', M', 0, 0)) (k : ax_R L xs T x9 d i pc' lv' st' M' o) : ax_R L xs T x9 d i pc lv st M o := by
  have := ax_R.step h1 h2 k
  rw [ax_add0] at this
  exact this
theorem ax_R.ret {v : Option Value} (h1 : (ax_dt (T i)).lookup pc = some x) (h2 : ax_ret (ax_dr (T i)) x st = some v) : ax_R L xs T x9 d i pc lv st M (.inl v, M, 0, 0) := fun _ hP => hP.2.1 _ _ _ _ _ _ _ _ h1 h2
theorem ax_R.call {j c1 s1 : Nat} {as rest : List Value} {v : Option Value} (h1 : (ax_dt (T i)).lookup pc = some x) (h2 : ax_call x st = some (j, as, rest)) (h3 : ax_recv T x as M) (h4 : (rest.map fun v => v.category).sum ≤ 8) (h5 : (lg_sl as).length ≤ ax_dl (T j))
    (k1 : ax_R L xs T x9 d j 0 (lv_args 0 as) [] M (.inl v, M', c1, s1)) (h8 : M'.2.2 = true → M.2.2 = true ∧ M'.1 = M.1 + c1) (k2 : ax_R L xs T x9 (d + 1) i (pc + 3) lv (v.toList ++ rest) M' o) : ax_R L xs T x9 (d + 1) i pc lv st M (ax_add o c1 s1) :=
  fun P hP => hP.2.2.1 _ _ _ _ _ _ _ _ _ _ _ _ _ h1 h2 h3 h4 h5 (k1 P hP) rfl h8 (k2 P hP)
/-- a call that makes nothing -/
theorem ax_R.c {j : Nat} {as rest : List Value} {v : Option Value} (h1 : (ax_dt (T i)).lookup pc = some x) (h2 : ax_call x st = some (j, as, rest)) (h3 : ax_recv T x as M) (h4 : (rest.map fun v => v.category).sum ≤ 8) (h5 : (lg_sl as).length ≤ ax_dl (T j))
    (k1 : ax_R L xs T x9 d j 0 (lv_args 0 as) [] M (.inl v, M', 0, 0)) (h8 : M'.1 = M.1 ∧ M'.2.2 = M.2.2) (k2 : ax_R L xs T x9 (d + 1) i (pc + 3) lv (v.toList ++ rest) M' o) : ax_R L xs T x9 (d + 1) i pc lv st M o := by
  have := ax_R.call h1 h2 h3 h4 h5 k1 (fun h => ⟨by rw [← h8.2]; exact h, h8.1⟩) k2
  rw [ax_add0] at this
  exact this
theorem ax_R.out {j c1 s1 : Nat} {as rest : List Value} {E : String} (h1 : (ax_dt (T i)).lookup pc = some x) (h2 : ax_call x st = some (j, as, rest)) (h3 : ax_recv T x as M) (h4 : (rest.map fun v => v.category).sum ≤ 8) (h5 : (lg_sl as).length ≤ ax_dl (T j))
    (k1 : ax_R L xs T x9 d j 0 (lv_args 0 as) [] M (.inr E, M', c1, s1)) (h8 : (∀ n, x.1 ≠ .invokespecial n) ∧ ax_dy (T j) ≠ x9) (h10 : ax_dh (T i) = []) : ax_R L xs T x9 (d + 1) i pc lv st M (.inr E, M', c1, s1) :=
  fun P hP => hP.2.2.2.1 _ _ _ _ _ _ _ _ _ _ _ _ h1 h2 h3 h4 h5 (k1 P hP) rfl h8 h10
theorem ax_R.catch_ {j c1 s1 hpc jj : Nat} {as rest : List Value} {x2 : ax_I} {E : String} (h1 : (ax_dt (T i)).lookup pc = some x) (h2 : ax_call x st = some (j, as, rest)) (h3 : ax_recv T x as M) (h4 : (rest.map fun v => v.category).sum ≤ 8) (h5 : (lg_sl as).length ≤ ax_dl (T j))
    (k1 : ax_R L xs T x9 d j 0 (lv_args 0 as) [] M (.inr E, M', c1, s1)) (h7 : E ∈ ax_Ex) (h8 : (∀ n, x.1 ≠ .invokespecial n) ∧ ax_dy (T j) ≠ x9) (h9 : ax_hand (ax_dh (T i)) (ax_dn (T i)) pc E = some hpc) (h10 : (ax_dt (T i)).lookup hpc = some x2) (h11 : ax_hst x2 = some jj) (h12 : jj < ax_dl (T i))
    (h13 : M'.2.2 = true → M.2.2 = true ∧ M'.1 = M.1 + c1) (k2 : ax_R L xs T x9 (d + 1) i (hpc + x2.2.1) (ax_drop lv jj) [] M' o) : ax_R L xs T x9 (d + 1) i pc lv st M (ax_add o c1 s1) :=
  fun P hP => hP.2.2.2.2.1 _ _ _ _ _ _ _ _ _ _ _ _ _ _ _ _ h1 h2 h3 h4 h5 (k1 P hP) rfl h7 h8 h9 h10 h11 h12 h13 (k2 P hP)
theorem ax_R.throw_ {cls text : String} {ik is ic : Nat} {wide : Bool} (h1 : (ax_dx (T i)).lookup pc = some (cls, text, ik, is, ic, wide)) (h2 : (st.map fun v => v.category).sum ≤ 30) : ax_R L xs T x9 d i pc lv st M (.inr cls, (M.1, M.2.1, false), 1, 6) :=
  fun P hP => hP.2.2.2.2.2 _ _ _ _ _ _ _ _ _ _ _ _ h1 h2
end AXU
