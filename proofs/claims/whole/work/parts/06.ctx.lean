section AXC
/-- the tables' words that every state of the walk keeps -/
def ax_big : List Cond := Cond.code x code maxLocals ret :: lw_tbl
def ax_W : List Cond := ax_big.filter goodWord
theorem ax_W_good : ∀ w ∈ ax_W, w ∈ ax_big ∧ goodWord w = true := fun w h => List.mem_filter.mp h
abbrev ax_ISE : String := "java/lang/IllegalStateException"
abbrev ax_IAE : String := "java/lang/IllegalArgumentException"
abbrev ax_IOE : String := "java/lang/IndexOutOfBoundsException"
abbrev ax_UOE : String := "java/lang/UnsupportedOperationException"
abbrev ax_Ex : List String := [ax_ISE, ax_IAE, ax_IOE, ax_UOE]
abbrev ax_De : List MethodName := [Bundle.initS "java/lang/RuntimeException", Bundle.initS "java/lang/Exception", Bundle.initS Bundle.tN]
/-- what holds of a state's tables and of its old cells, whatever the walk has done: the classes, the throwables' statics, the Strings of the throws (Ss), the casts, the one call across the nest (Nw), the script -/
def ax_F (Ss : List (String × Nat × String)) (Nw : Cond) (dC : Nat → ClassId) (dI : Nat → Nat → Nat) (cy : Nat → ClassId) (b base L : Nat) (xs : Nat → Int32) (U : State) : Prop :=
  va_K (dC, dI) vwCl (ax_tys cy) U ∧ vx_Zq Bundle.tN "UNASSIGNED_STACK" Bundle.steD (ax_A base) U U.heap ∧ vx_Zq Bundle.tN "SUPPRESSED_SENTINEL" Bundle.listD (ax_A base) U U.heap ∧
  (∀ k ∈ Ss, ∃ sa, vk_R k.1 k.2.1 k.2.2 sa U) ∧ ((∀ E ∈ ax_Ex, va_Nw (.castable E E) U) ∧ ∀ y ∈ ax_De, va_Nw (.declares y) U) ∧ (∀ E ∈ ax_Ex, ∀ E2 ∈ ax_Ex, E ≠ E2 → va_Nc E E2 U) ∧ va_Nw Nw U ∧ va_X b L xs U U.heap ∧ base ≤ U.heap.size ∧ b < base
theorem ax_F.kept {Ss : List (String × Nat × String)} {a9 h9 : String} {i9 : Nat} {x9 : MethodName} {dC : Nat → ClassId} {dI : Nat → Nat → Nat} {cy : Nat → ClassId} {b base L : Nat} {xs : Nat → Int32} {s U : State} {H : Heap} {locs : List Loc}
    (h : ax_F Ss (.methodLinkNest a9 i9 x9 h9) dC dI cy b base L xs s) (hS : va_S (ax_A base) s.heap H locs) (hU : U.heap = H) (hW : s.WarmedH U.vm) : ax_F Ss (.methodLinkNest a9 i9 x9 h9) dC dI cy b base L xs U := by
  obtain ⟨h1, h2, h3, h4, h5, h6, h7, h8, h9, h10⟩ := h
  refine ⟨va_K.moved hW.alike h1, ?_, ?_, fun k hk => ?_, ⟨fun E hE => va_Nw.warmC hW (h5.1 E hE), fun y hy => va_Nw.warmD hW (h5.2 y hy)⟩, fun E hE E2 hE2 hne => va_Nc.moved hW.alike (h6 E hE E2 hE2 hne), va_Nw.warmM hW h7, ?_, ?_, h10⟩
  · rw [hU]; exact vx_Zq.moved hW.alike (h2.kept hS.2.1)
  · rw [hU]; exact vx_Zq.moved hW.alike (h3.kept hS.2.1)
  · obtain ⟨sa, hsa⟩ := h4 k hk
    exact ⟨sa, vk_R.warm hW hsa⟩
  · rw [hU]; exact va_X.moved hW.alike (h8.kept (hS.2.1 b (by omega) (by show ¬ base ≤ b; omega)))
  · rw [hU]; exact Nat.le_trans h9 hS.1
theorem ax_F.calling {Ss : List (String × Nat × String)} {a9 h9 : String} {i9 : Nat} {x9 : MethodName} {dC : Nat → ClassId} {dI : Nat → Nat → Nat} {cy : Nat → ClassId} {b base L : Nat} {xs : Nat → Int32} {U : State} {g : JFrame} {mk : MethodId} {a : Array Value}
    (h : ax_F Ss (.methodLinkNest a9 i9 x9 h9) dC dI cy b base L xs U) : ax_F Ss (.methodLinkNest a9 i9 x9 h9) dC dI cy b base L xs (U.calling g mk a) :=
  ax_F.kept (U := U.calling g mk a) h (va_S.rf (H0 := U.heap)) rfl (State.WarmedH.refl U)
/-- the machine, the code and the words at a point of a method's walk -/
def ax_X (Ss : List (String × Nat × String)) (Nw : Cond) (dC : Nat → ClassId) (dI : Nat → Nat → Nat) (cy : Nat → ClassId) (b base L : Nat) (xs : Nat → Int32) (p : Program) (s : State) (m : MethodId) (args : Array Value) (c : Code) (own : String) (cc : ByteArray) (nL : Nat) : Prop :=
  p.tables.exec = Jvm.exec ∧ c.code = cc ∧ c.maxLocals = nL ∧ s.vm.findClass own = some m.cls ∧ (∀ w ∈ ax_W, w.before args s = true) ∧ ax_F Ss Nw dC dI cy b base L xs s
/-- the pure state (pc, lv, st, M), wherever the machine holds it, leads to Q -/
def ax_V (dC : Nat → ClassId) (dI : Nat → Nat → Nat) (cy : Nat → ClassId) (b base : Nat) (p : Program) (l : Launch) (e : Env) (R : Room) (s : State) (m : MethodId) (args : Array Value) (below : List Frame) (meth : Method) (c : Code) (nL cells slots : Nat) (Q : State → Prop) (pc : Nat) (lv : List (Nat × Value)) (st : List Value) (M : ax_M) : Prop :=
  ∀ (H : Heap) (locs : List Loc) (ls : Array Slot), va_P (dC, dI) vwCl (ax_L b base cy M) H → va_S (ax_A base) s.heap H locs → (M.2.2 = true → s.heap.size + cells ≤ base + M.1) → lv_has ls nL (ax_lv b base lv) →
    W p l e R s m args below meth c H locs cells slots Q (F0 m pc ls (st.map (ax_tr b base)))
/-- the words that an instruction leans on (calls apart) -/
def ax_need (own : String) (x : ax_I) : List Cond := match x.1 with
  | .ldc i => [.constant own i (Int32.ofInt x.2.2.2.2)]
  | .ldc2_w i => [.constantLong own i (Int64.ofInt x.2.2.2.2)]
  | .getfield i => match vwCl[x.2.2.1]? with
    | some q => [.fieldLink own i (q.2.1 x.2.2.2.1).1 (q.2.1 x.2.2.2.1).2.1 (q.2.1 x.2.2.2.1).2.2.1]
    | none => []
  | .putfield i => match vwCl[x.2.2.1]? with
    | some q => [.fieldLink own i (q.2.1 x.2.2.2.1).1 (q.2.1 x.2.2.2.1).2.1 (q.2.1 x.2.2.2.1).2.2.1]
    | none => []
  | .new i => match vwCl[x.2.2.1]? with
    | some q => [.classLink own i q.1, .instantiable q.1 q.2.2, .initialized q.1]
    | none => []
  | .newarray t => [.arrayClass (newarray.typeOf t)]
  | .invokespecial i => if x.2.2.1 = 901 then [.methodLink own i objectInit, .instanceMethod objectInit, .code objectInit ⟨#[0xb1]⟩ 1 none] else []
  | .invokestatic i => if x.2.2.1 = 900 then [.methodLink own i Lib.Math.max.name, .static Lib.Math.max.name, .initialized "java/lang/Math", .code Lib.Math.max.name Lib.Math.max.code 2 (some .int)] else []
  | _ => []
/-- what a row of a table says beside its words: fields are there; a final one is written in its class's constructor; lengths are right -/
def ax_chk (own : String) (isInit : Bool) (x : ax_I) : Bool := match x.1 with
  | .getfield _ => match vwCl[x.2.2.1]? with
    | some q => decide (x.2.2.2.1 < q.2.2) && decide (x.2.1 = 3)
    | none => false
  | .putfield _ => match vwCl[x.2.2.1]? with
    | some q => decide (x.2.2.2.1 < q.2.2) && (decide (x.2.1 = 3) && (!(q.2.1 x.2.2.2.1).2.2.2 || (isInit && decide ((q.2.1 x.2.2.2.1).1 = own))))
    | none => false
  | .tableswitch .. | .lookupswitch .. => true
  | .iload _ | .lload _ | .aload _ | .istore _ | .lstore _ | .astore _ | .bipush _ | .ldc _ | .newarray _ => decide (x.2.1 = 2)
  | .sipush _ | .ldc2_w _ | .iinc .. | .goto _ | .ifCond .. | .if_icmp .. | .new _ | .invokevirtual _ | .invokestatic _ | .invokespecial _ | .ldc_w _ => decide (x.2.1 = 3)
  | _ => decide (x.2.1 = 1)
def ax_ok (own : String) (cc : ByteArray) (isInit : Bool) (pc : Nat) (x : ax_I) : Prop := decode cc pc = .ok (x.1, x.2.1) ∧ (∀ w ∈ ax_need own x, w ∈ ax_W) ∧ ax_chk own isInit x = true
/-- a class's fields: types, names, words -/
theorem ax_cls : ∀ (ci : Nat) (C : String) (T : u_T) (N : Nat), vwCl[ci]? = some (C, T, N) → N = ax_cn ci ∧ (∀ k, k < N → parseFieldDescriptor (T k).2.2.1 = some (ax_ty ci k)) ∧ (∀ a, a < N → ∀ b, b < N → a ≠ b → (T a).2.1 ≠ (T b).2.1) ∧ ∀ w ∈ u_ws C T N, w ∈ ax_W := by
  intro ci C T N h
  match ci, h with
  | 0, h => cases h; exact ⟨rfl, tyX0_ok, nmX0, by decide +kernel⟩
  | 1, h => cases h; exact ⟨rfl, tyX1_ok, nmX1, by decide +kernel⟩
  | 2, h => cases h; exact ⟨rfl, tyX3_ok, nmX3, by decide +kernel⟩
  | 3, h => cases h; exact ⟨rfl, tyX4_ok, nmX4, by decide +kernel⟩
  | 4, h => cases h; exact ⟨rfl, tyX5_ok, nmX5, by decide +kernel⟩
  | 5, h => cases h; exact ⟨rfl, tyX6_ok, nmX6, by decide +kernel⟩
  | 6, h => cases h; exact ⟨rfl, tyX7_ok, nmX7, by decide +kernel⟩
  | 7, h => cases h; exact ⟨rfl, tyX8_ok, nmX8, by decide +kernel⟩
  | 8, h => cases h; exact ⟨rfl, tyX10_ok, nmX10, by decide +kernel⟩
  | 9, h => cases h; exact ⟨rfl, tyX11_ok, nmX11, by decide +kernel⟩
  | k + 10, h => simp [vwCl] at h
end AXC
