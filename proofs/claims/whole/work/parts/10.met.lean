section AXM
/-- how a method ends: what it returns, or the class that it throws; the cells then; how many cells and slots it has made -/
abbrev ax_O : Type := (Option Value ⊕ String) × ax_M × Nat × Nat
/-- a method: name, code, locals, answer; its handlers and the names of what they catch; its rows; its throws (pc, class, text, three numbers of the pool, a wide index) -/
abbrev ax_D : Type := MethodName × ByteArray × Nat × Option FieldType × List (Nat × Nat × Nat × Nat) × List String × List (Nat × ax_I) × List (Nat × String × String × Nat × Nat × Nat × Bool)
def ax_dy (D : ax_D) : MethodName := D.1
def ax_db (D : ax_D) : ByteArray := D.2.1
def ax_dl (D : ax_D) : Nat := D.2.2.1
def ax_dr (D : ax_D) : Option FieldType := D.2.2.2.1
def ax_dh (D : ax_D) : List (Nat × Nat × Nat × Nat) := D.2.2.2.2.1
def ax_dn (D : ax_D) : List String := D.2.2.2.2.2.1
def ax_dt (D : ax_D) : List (Nat × ax_I) := D.2.2.2.2.2.2.1
def ax_dx (D : ax_D) : List (Nat × String × String × Nat × Nat × Nat × Bool) := D.2.2.2.2.2.2.2
def ax_cw (D : ax_D) : Cond := match ax_dh D with
  | [] => .code (ax_dy D) (ax_db D) (ax_dl D) (ax_dr D)
  | h :: t => .codeWith (ax_dy D) (ax_db D) (ax_dl D) (ax_dr D) (h :: t)
def ax_ari (y : MethodName) (n : Nat) : Prop := (parseMethodDescriptor y.desc).map (fun d => d.parameters.length) = some n
def ax_notMH (y : MethodName) : Prop := y.cls ≠ "java/lang/invoke/MethodHandle" ∧ y.cls ≠ "java/lang/invoke/VarHandle"
abbrev ax_Up : List String := ["java/lang/RuntimeException", "java/lang/Exception"]
/-- a call's row: its words -/
def ax_okc (T : Nat → ax_D) (a9 : String) (i9 : Nat) (x9 : MethodName) (own : String) (x : ax_I) : Prop := match x.1 with
  | .invokevirtual i => x.2.2.1 < 900 → (∀ w ∈ ([.methodLink own i (ax_dy (T x.2.2.1)), .instanceMethod (ax_dy (T x.2.2.1)), .selects (ax_dy (T x.2.2.1)).cls (ax_dy (T x.2.2.1)) (ax_dy (T x.2.2.1)), .initialized (ax_dy (T x.2.2.1)).cls] : List Cond), w ∈ ax_W) ∧ ax_ari (ax_dy (T x.2.2.1)) x.2.2.2.1
  | .invokespecial i => x.2.2.1 < 900 → (∀ w ∈ ([.methodLink own i (ax_dy (T x.2.2.1)), .instanceMethod (ax_dy (T x.2.2.1)), .initialized (ax_dy (T x.2.2.1)).cls] : List Cond), w ∈ ax_W) ∧ ax_ari (ax_dy (T x.2.2.1)) x.2.2.2.1 ∧ (ax_dy (T x.2.2.1)).name = "<init>" ∧ ax_dh (T x.2.2.1) = [] ∧ ax_dr (T x.2.2.1) = none
  | .invokestatic i => x.2.2.1 < 900 → (∀ w ∈ ([.static (ax_dy (T x.2.2.1)), .initialized (ax_dy (T x.2.2.1)).cls] : List Cond), w ∈ ax_W) ∧ ax_ari (ax_dy (T x.2.2.1)) x.2.2.2.1 ∧ (Cond.methodLink own i (ax_dy (T x.2.2.1)) ∈ ax_W ∨ (own = a9 ∧ i = i9 ∧ ax_dy (T x.2.2.1) = x9 ∧ ax_dh (T x.2.2.1) = []))
  | _ => True
/-- a throw's row -/
def ax_okx (Ss : List (String × Nat × String)) (D : ax_D) (pc : Nat) (q : String × String × Nat × Nat × Nat × Bool) : Prop := match q with
  | (cls, text, ik, is, ic, wide) => cls ∈ ax_Ex ∧ ((ax_dy D).cls, is, text) ∈ Ss ∧ ax_dh D = [] ∧ decode (ax_db D) pc = .ok (.new ik, 3) ∧ decode (ax_db D) (pc + 3) = .ok (.dup, 1) ∧
    (match wide with
      | false => decode (ax_db D) (pc + 4) = .ok (.ldc is, 2) ∧ decode (ax_db D) (pc + 6) = .ok (.invokespecial ic, 3) ∧ decode (ax_db D) (pc + 9) = .ok (.athrow, 1)
      | true => decode (ax_db D) (pc + 4) = .ok (.ldc_w is, 3) ∧ decode (ax_db D) (pc + 7) = .ok (.invokespecial ic, 3) ∧ decode (ax_db D) (pc + 10) = .ok (.athrow, 1)) ∧
    (∀ w ∈ Cond.classLink (ax_dy D).cls ik cls :: Cond.initialized cls :: (vx_atS (ax_dy D).cls ic cls ax_Up).filter goodWord, w ∈ ax_W) ∧
    (vx_atS (ax_dy D).cls ic cls ax_Up).filter (fun w => !goodWord w) = ax_De.map Cond.declares ++ [.castable cls cls]
/-- a method's tables are right -/
def ax_okM (Ss : List (String × Nat × String)) (T : Nat → ax_D) (a9 : String) (i9 : Nat) (x9 : MethodName) (D : ax_D) : Prop :=
  plainName (ax_dy D).cls = true ∧ ax_notMH (ax_dy D) ∧ ax_cw D ∈ ax_W ∧ ax_dl D ≤ 20 ∧
  (∀ pc x, (ax_dt D).lookup pc = some x → ax_ok (ax_dy D).cls (ax_db D) (decide ((ax_dy D).name = "<init>")) pc x ∧ ax_okc T a9 i9 x9 (ax_dy D).cls x) ∧
  (∀ pc q, (ax_dx D).lookup pc = some q → ax_okx Ss D pc q) ∧
  ∀ (k : Nat) (q : Nat × Nat × Nat × Nat), (ax_dh D)[k]? = some q → ∃ nm, (ax_dn D)[k]? = some nm ∧ nm ∈ ax_Ex ∧ q.2.2.2 ≠ 0 ∧ Cond.classLink (ax_dy D).cls q.2.2.2 nm ∈ ax_W
def ax_ret (rt : Option FieldType) (x : ax_I) (st : List Value) : Option (Option Value) := match x.1, st, rt with
  | .ireturn, [.int v], some .int => some (some (.int v))
  | .ireturn, [.int v], some .boolean => if v = 0 ∨ v = 1 then some (some (.int v)) else none
  | .lreturn, [.long v], some .long => some (some (.long v))
  | .return_, [], none => some none
  | .areturn, [.ref v], some (.object _) => some (some (.ref v))
  | _, _, _ => none
/-- what the end of a run asks of the promises of a walk -/
def ax_End (dC : Nat → ClassId) (dI : Nat → Nat → Nat) (cy : Nat → ClassId) (b base : Nat) (Qc : Array Value → State → Outcome → State → Prop) (XC : String → State → State → Prop) (args : Array Value) (s : State) (o : ax_O) : Prop := match o.1 with
  | .inl v => ∀ t : State, s.vm.Alike t.vm → va_F (ax_A base) s t → va_P (dC, dI) vwCl (ax_L b base cy o.2.1) t.heap → Qc args s (.returned (v.map (ax_tr b base))) t
  | .inr E => ∀ t : State, s.vm.Alike t.vm → va_F (ax_A base) s t → va_P (dC, dI) vwCl (ax_L b base cy o.2.1) t.heap → XC E s t
/-- THE TIE: wherever the machine stands in method D at the pure state, with so much room, it comes to the pure machine's end -/
def ax_P (Ss : List (String × Nat × String)) (Nw : Cond) (dC : Nat → ClassId) (dI : Nat → Nat → Nat) (cy : Nat → ClassId) (b base L : Nat) (xs : Nat → Int32) (T : Nat → ax_D) (d i pc : Nat) (lv : List (Nat × Value)) (st : List Value) (M : ax_M) (o : ax_O) : Prop :=
  ∀ (p : Program) (l : Launch) (e : Env) (R : Room) (s : State) (m : MethodId) (args : Array Value) (below : List Frame) (meth : Method) (c : Code) (Qc : Array Value → State → Outcome → State → Prop) (XC : String → State → State → Prop) (MC MS cells slots : Nat),
    l.stackTraces = false → ax_X Ss Nw dC dI cy b base L xs p s m args c (ax_dy (T i)).cls (ax_db (T i)) (ax_dl (T i)) → c.exceptionTable.toList = tableOf (ax_dh (T i)) → meth.locks = false → meth.sig.returnType = ax_dr (T i) → ((ax_dy (T i)).name = "<init>" → meth.name = "<init>") →
    d + 7 ≤ R.frames → 40 * d + 120 ≤ R.locals → cells + o.2.2.1 ≤ R.cells → slots + o.2.2.2 ≤ R.slots → cells + o.2.2.1 ≤ MC → slots + o.2.2.2 ≤ MS →
    ax_End dC dI cy b base Qc XC args s o →
    ax_V dC dI cy b base p l e R s m args below meth c (ax_dl (T i)) cells slots (vx_MQ below Qc XC args s MC MS (ax_A base)) pc lv st M
/-- a run's end, with what was made before it -/
def ax_add (o : ax_O) (c s : Nat) : ax_O := (o.1, o.2.1, c + o.2.2.1, s + o.2.2.2)
variable {Ss : List (String × Nat × String)} {Nw : Cond} {dC : Nat → ClassId} {dI : Nat → Nat → Nat} {cy : Nat → ClassId} {b base L : Nat} {xs : Nat → Int32} {T : Nat → ax_D} {a9 : String} {i9 : Nat} {x9 : MethodName}
theorem ax_or {α : Type} {a b : Option α} {r : α} (h : (a <|> b) = some r) : a = some r ∨ b = some r := by
  cases a with
  | none => exact Or.inr h
  | some v => exact Or.inl h
theorem ax_P_step {d i pc : Nat} {lv : List (Nat × Value)} {st : List Value} {M : ax_M} {o : ax_O} {x : ax_I} {r : ax_N} (hT : ∀ j, ax_okM Ss T a9 i9 x9 (T j)) (hx : (ax_dt (T i)).lookup pc = some x) (h : ax_s L xs (ax_dl (T i)) x pc lv st M = some r)
    (k : ax_P Ss Nw dC dI cy b base L xs T d i r.1 r.2.1 r.2.2.1 r.2.2.2.1 o) : ax_P Ss Nw dC dI cy b base L xs T d i pc lv st M (ax_add o r.2.2.2.2.1 r.2.2.2.2.2) := by
  intro p l e R s m args below meth c Qc XC MC MS cells slots hl X ht hlk hrt hin hRf hRl hRc hRs hMc hMs hE
  have hok := ((hT i).2.2.2.2.1 pc x hx).1
  have kk : ax_V dC dI cy b base p l e R s m args below meth c (ax_dl (T i)) (cells + r.2.2.2.2.1) (slots + r.2.2.2.2.2) (vx_MQ below Qc XC args s MC MS (ax_A base)) r.1 r.2.1 r.2.2.1 r.2.2.2.1 :=
    k p l e R s m args below meth c Qc XC MC MS (cells + r.2.2.2.2.1) (slots + r.2.2.2.2.2) hl X ht hlk hrt hin hRf hRl (by simp only [ax_add] at hRc; omega) (by simp only [ax_add] at hRs; omega) (by simp only [ax_add] at hMc; omega) (by simp only [ax_add] at hMs; omega) hE
  have hc1 : cells + r.2.2.2.2.1 ≤ R.cells := by simp only [ax_add] at hRc; omega
  have hs1 : slots + r.2.2.2.2.2 ≤ R.slots := by simp only [ax_add] at hRs; omega
  unfold ax_s at h
  rcases ax_or h with h | h
  · exact ax_const_ok X hok h kk
  rcases ax_or h with h | h
  · exact ax_load_ok X hok h kk
  rcases ax_or h with h | h
  · exact ax_store_ok X hok h kk
  rcases ax_or h with h | h
  · exact ax_inc_ok X hok h kk
  rcases ax_or h with h | h
  · exact ax_ints_ok X hok h kk
  rcases ax_or h with h | h
  · exact ax_longs_ok X hok h kk
  rcases ax_or h with h | h
  · exact ax_conv_ok X hok h kk
  rcases ax_or h with h | h
  · exact ax_jump_ok X hok h kk
  rcases ax_or h with h | h
  · exact ax_jump2_ok X hok h kk
  rcases ax_or h with h | h
  · exact ax_switch_ok X hok h kk
  rcases ax_or h with h | h
  · exact ax_getf_ok X hok h kk
  rcases ax_or h with h | h
  · exact ax_putf_ok X hok (fun h9 => hin (of_decide_eq_true h9)) h kk
  rcases ax_or h with h | h
  · exact ax_aload_ok X hok h kk
  rcases ax_or h with h | h
  · exact ax_astore_ok X hok h kk
  rcases ax_or h with h | h
  · exact ax_make_ok X hok hc1 hs1 h kk
  · exact ax_lib_ok X hok hc1 hs1 (by omega) (by omega) h kk
theorem ax_P_ret {d i pc : Nat} {lv : List (Nat × Value)} {st : List Value} {M : ax_M} {x : ax_I} {v : Option Value} (hT : ∀ j, ax_okM Ss T a9 i9 x9 (T j)) (hx : (ax_dt (T i)).lookup pc = some x) (h : ax_ret (ax_dr (T i)) x st = some v) :
    ax_P Ss Nw dC dI cy b base L xs T d i pc lv st M (.inl v, M, 0, 0) := by
  intro p l e R s m args below meth c Qc XC MC MS cells slots hl X ht hlk hrt hin hRf hRl hRc hRs hMc hMs hE
  have hok := ((hT i).2.2.2.2.1 pc x hx).1
  obtain ⟨hx2, hb, hml, hown, hts, hF⟩ := X
  obtain ⟨hd, -, hc⟩ := hok
  obtain ⟨ins, len, r1, r2, kc⟩ := x
  intro H locs ls hP hS hE2 hl2
  refine W.widen (k := MC) (n := MS) hMc hMs ?_
  refine vx_ret ?_
  have hq : ∀ t : State, t.heap = H → s.WarmedH t.vm → Qc args s (.returned (v.map (ax_tr b base))) t := fun t h1 h2 => hE t h2.alike (hS.F h1) (by rw [h1]; exact hP)
  simp only [ax_ret] at h
  split at h
  · rename_i hr
    have hlen : len = 1 := by simpa [ax_chk] using hc
    subst hlen; cases h
    exact W.iret hx2 hb (by rw [hrt, hr]) hq hS.2.2 hd hlk
  · rename_i hr
    have hlen : len = 1 := by simpa [ax_chk] using hc
    subst hlen
    split at h
    · rename_i v9 h01
      cases h
      exact W.zret hx2 hb (ty := .boolean) (by rw [hrt, hr]) (by rcases h01 with rfl | rfl <;> decide) hq hS.2.2 hd hlk
    · cases h
  · rename_i hr
    have hlen : len = 1 := by simpa [ax_chk] using hc
    subst hlen; cases h
    exact W.lret hx2 hb (by rw [hrt, hr]) hq hS.2.2 hd hlk
  · rename_i hr
    have hlen : len = 1 := by simpa [ax_chk] using hc
    subst hlen; cases h
    exact W.vret hx2 hb (by rw [hrt, hr]) hq hS.2.2 hd hlk
  · rename_i hr
    have hlen : len = 1 := by simpa [ax_chk] using hc
    subst hlen; cases h
    exact W.aret hx2 hb (by rw [hrt, hr]) (Or.inl ⟨_, rfl⟩) (Or.inr ⟨_, rfl⟩) hq hS.2.2 hd hlk
  · cases h
end AXM
