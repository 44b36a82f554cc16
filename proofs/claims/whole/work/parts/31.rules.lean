/-! THE PURE MACHINE'S RULES OVER THE HEAP AS NUMBERS -/
section BB
def bWk (P : ax_Q) : Prop := ∀ (d i pc : Nat) (lv lv' : List (Nat × Value)) (st : List Value) (M : ax_M) (o : ax_O), (∀ q ∈ lv', q ∈ lv) → P d i pc lv' st M o → P d i pc lv st M o
/-- runs, with locals forgotten where that is wanted -/
def bRn (L : Nat) (xs : Nat → Int32) (d i pc : Nat) (lv : List (Nat × Value)) (st : List Value) (M : ax_M) (o : ax_O) : Prop := ∀ P : ax_Q, ax_Cl L xs ax_T ax_m9 P → bWk P → P d i pc lv st M o
theorem bRn_sound {dC : Nat → ClassId} {dI : Nat → Nat → Nat} {cy : Nat → ClassId} {b base L : Nat} {xs : Nat → Int32} {h9 : String} {d i pc : Nat} {lv : List (Nat × Value)} {st : List Value} {M : ax_M} {o : ax_O}
    (h : bRn L xs d i pc lv st M o) : ax_P ax_Ss (.methodLinkNest ax_n9 ax_j9 ax_m9 h9) dC dI cy b base L xs ax_T d i pc lv st M o := by
  refine h (fun d i pc lv st M o => ax_P ax_Ss (.methodLinkNest ax_n9 ax_j9 ax_m9 h9) dC dI cy b base L xs ax_T d i pc lv st M o) ?_ ?_
  · exact ⟨fun _ _ _ _ _ _ _ _ _ h1 h2 h3 => ax_P_step ax_Tok h1 h2 h3, fun _ _ _ _ _ _ _ _ h1 h2 => ax_P_ret ax_Tok h1 h2,
      fun _ _ _ _ _ _ _ _ _ _ _ _ _ h1 h2 h3 h4 h5 h6 h7 h8 h10 => ax_P_call ax_Tok h1 h2 h3 h4 h5 h6 h7 h8 h10, fun _ _ _ _ _ _ _ _ _ _ _ _ h1 h2 h3 h4 h5 h6 h7 h8 h10 => ax_P_out ax_Tok h1 h2 h3 h4 h5 h6 h7 h8 h10,
      fun _ _ _ _ _ _ _ _ _ _ _ _ _ _ _ _ h1 h2 h3 h4 h5 h6 h7 h8 h10 h11 h12 h13 h14 h15 h16 => ax_P_catch ax_Tok h1 h2 h3 h4 h5 h6 h7 h8 h10 h11 h12 h13 h14 h15 h16,
      fun _ _ _ _ _ _ _ _ _ _ _ _ h1 h2 => ax_P_throw ax_Tok h1 h2⟩
  · intro d i pc lv lv' st M o hs hP p l e R s m args below meth c Qc XC MC MS cells slots hl X ht hlk hrt hin hRf hRl hRc hRs hMc hMs hE H locs ls h1 h2 h3 h4
    refine hP p l e R s m args below meth c Qc XC MC MS cells slots hl X ht hlk hrt hin hRf hRl hRc hRs hMc hMs hE H locs ls h1 h2 h3 ⟨h4.1, h4.2.1, fun q hq => h4.2.2 q ?_⟩
    obtain ⟨q0, h0, rfl⟩ := List.mem_map.mp hq
    exact List.mem_map.mpr ⟨q0, hs q0 h0, rfl⟩
section
variable {L : Nat} {xs : Nat → Int32} {d i pc : Nat} {lv lv' : List (Nat × Value)} {st st' : List Value} {M M' : ax_M} {o : ax_O} {x : ax_I}
theorem bRn.wk (hs : ∀ q ∈ lv', q ∈ lv) (k : bRn L xs d i pc lv' st M o) : bRn L xs d i pc lv st M o := fun P h1 h2 => h2 _ _ _ _ _ _ _ _ hs (k P h1 h2)
theorem bRn.s {pc' : Nat} (h1 : (ax_dt (ax_T i)).lookup pc = some x) (h2 : ax_s L xs (ax_dl (ax_T i)) x pc lv st M = some (pc', lv', st', M', 0, 0)) (k : bRn L xs d i pc' lv' st' M' o) : bRn L xs d i pc lv st M o := by
  have : bRn L xs d i pc lv st M (ax_add o 0 0) := fun P hP hW => hP.1 _ _ _ _ _ _ _ _ _ h1 h2 (k P hP hW)
  rw [ax_add0] at this
  exact this
theorem bRn.ret {v : Option Value} (h1 : (ax_dt (ax_T i)).lookup pc = some x) (h2 : ax_ret (ax_dr (ax_T i)) x st = some v) : bRn L xs d i pc lv st M (.inl v, M, 0, 0) := fun _ hP _ => hP.2.1 _ _ _ _ _ _ _ _ h1 h2
theorem bRn.call {j c1 s1 : Nat} {as rest : List Value} {v : Option Value} (h1 : (ax_dt (ax_T i)).lookup pc = some x) (h2 : ax_call x st = some (j, as, rest)) (h3 : ax_recv ax_T x as M) (h4 : (rest.map fun v => v.category).sum ≤ 8) (h5 : (lg_sl as).length ≤ ax_dl (ax_T j))
    (k1 : bRn L xs d j 0 (lv_args 0 as) [] M (.inl v, M', c1, s1)) (h8 : M'.2.2 = true → M.2.2 = true ∧ M'.1 = M.1 + c1) (k2 : bRn L xs (d + 1) i (pc + 3) lv (v.toList ++ rest) M' o) : bRn L xs (d + 1) i pc lv st M (ax_add o c1 s1) :=
  fun P hP hW => hP.2.2.1 _ _ _ _ _ _ _ _ _ _ _ _ _ h1 h2 h3 h4 h5 (k1 P hP hW) rfl h8 (k2 P hP hW)
theorem bRn.out {j c1 s1 : Nat} {as rest : List Value} {E : String} (h1 : (ax_dt (ax_T i)).lookup pc = some x) (h2 : ax_call x st = some (j, as, rest)) (h3 : ax_recv ax_T x as M) (h4 : (rest.map fun v => v.category).sum ≤ 8) (h5 : (lg_sl as).length ≤ ax_dl (ax_T j))
    (k1 : bRn L xs d j 0 (lv_args 0 as) [] M (.inr E, M', c1, s1)) (h8 : (∀ n, x.1 ≠ .invokespecial n) ∧ ax_dy (ax_T j) ≠ ax_m9) (h10 : ax_dh (ax_T i) = []) : bRn L xs (d + 1) i pc lv st M (.inr E, M', c1, s1) :=
  fun P hP hW => hP.2.2.2.1 _ _ _ _ _ _ _ _ _ _ _ _ h1 h2 h3 h4 h5 (k1 P hP hW) rfl h8 h10
theorem bRn.catch_ {j c1 s1 hpc jj : Nat} {as rest : List Value} {x2 : ax_I} {E : String} (h1 : (ax_dt (ax_T i)).lookup pc = some x) (h2 : ax_call x st = some (j, as, rest)) (h3 : ax_recv ax_T x as M) (h4 : (rest.map fun v => v.category).sum ≤ 8) (h5 : (lg_sl as).length ≤ ax_dl (ax_T j))
    (k1 : bRn L xs d j 0 (lv_args 0 as) [] M (.inr E, M', c1, s1)) (h7 : E ∈ ax_Ex) (h8 : (∀ n, x.1 ≠ .invokespecial n) ∧ ax_dy (ax_T j) ≠ ax_m9) (h9 : ax_hand (ax_dh (ax_T i)) (ax_dn (ax_T i)) pc E = some hpc) (h10 : (ax_dt (ax_T i)).lookup hpc = some x2) (h11 : ax_hst x2 = some jj) (h12 : jj < ax_dl (ax_T i))
    (h13 : M'.2.2 = true → M.2.2 = true ∧ M'.1 = M.1 + c1) (k2 : bRn L xs (d + 1) i (hpc + x2.2.1) (ax_drop lv jj) [] M' o) : bRn L xs (d + 1) i pc lv st M (ax_add o c1 s1) :=
  fun P hP hW => hP.2.2.2.2.1 _ _ _ _ _ _ _ _ _ _ _ _ _ _ _ _ h1 h2 h3 h4 h5 (k1 P hP hW) rfl h7 h8 h9 h10 h11 h12 h13 (k2 P hP hW)
theorem bRn.throw_ {cls text : String} {ik is ic : Nat} {wide : Bool} (h1 : (ax_dx (ax_T i)).lookup pc = some (cls, text, ik, is, ic, wide)) (h2 : (st.map fun v => v.category).sum ≤ 30) : bRn L xs d i pc lv st M (.inr cls, (M.1, M.2.1, false), 1, 6) :=
  fun P hP _ => hP.2.2.2.2.2 _ _ _ _ _ _ _ _ _ _ _ _ h1 h2
end
/-- an answer, or the name of what is thrown; the memory behind; how many exceptions were made -/
abbrev bX : Type := (Int ⊕ String) × bM × Nat
def bRv (rt : Option FieldType) (v : Int) : Option Value := match rt with
  | none => none
  | some .long => some (bLg v)
  | some (.object _) => some (.ref v.toNat)
  | some _ => some (bI v)
def bRt (rt : Option FieldType) (v : Int) : Prop := match rt with
  | none => True
  | some .long => bRL v
  | some .boolean => 0 ≤ v ∧ v ≤ 1
  | some (.object _) => bStore v.toNat
  | some _ => bR v
def bRr (rt : Option FieldType) (r : Int ⊕ String) : Prop := match r with
  | .inl v => bRt rt v
  | .inr E => E ∈ ax_Ex
def bRo (rt : Option FieldType) (r : Int ⊕ String) : Option Value ⊕ String := match r with
  | .inl v => .inl (bRv rt v)
  | .inr E => .inr E
def bOut (rt : Option FieldType) (r : bX) (f : Bool) : ax_O := (bRo rt r.1, (112, bH r.2.1, if r.2.2 = 0 then f else false), r.2.2, 6 * r.2.2)
/-- wherever the machine stands so, it comes to the answer that o tells, if it tells one -/
def bD (L : Nat) (xs : Nat → Int32) (d i pc : Nat) (lv : List (Nat × Value)) (st : List Value) (μ : bM) (o : Option bX) : Prop :=
  bOk μ → ∀ r, o = some r → bOk r.2.1 ∧ bRr (ax_dr (ax_T i)) r.1 ∧ ∀ f, bRn L xs d i pc lv st (112, bH μ, f) (bOut (ax_dr (ax_T i)) r f)
def bSub : List (Nat × Value) → List (Nat × Value) → Prop
  | [], _ => True
  | q :: t, lv => lv.lookup q.1 = some q.2 ∧ bSub t lv
theorem bSub_mem {lv : List (Nat × Value)} : ∀ {lv' : List (Nat × Value)}, bSub lv' lv → ∀ q ∈ lv', q ∈ lv
  | [], _, _, h => by cases h
  | q :: t, hs, q', h => by
    rcases List.mem_cons.mp h with rfl | h
    · exact ax_lookup_mem hs.1
    · exact bSub_mem hs.2 q' h
def bG {α : Type} (p : Prop) [Decidable p] (o : Option α) : Option α := if p then o else none
def bUp {σ ρ : Type} (o : Option ρ) : Option (σ ⊕ ρ) := o.map Sum.inr
section
variable {L : Nat} {xs : Nat → Int32} {d i pc : Nat} {lv lv' lv1 : List (Nat × Value)} {st st' : List Value} {μ : bM} {o : Option bX} {x : ax_I} {ρ : Type} {κ : ρ → Option bX}
theorem bD.ok (k : bOk μ → bD L xs d i pc lv st μ o) : bD L xs d i pc lv st μ o := fun h => k h h
theorem bD.wk (hw : bSub lv' lv) (k : bD L xs d i pc lv' st μ o) : bD L xs d i pc lv st μ o := fun h r hr => ⟨(k h r hr).1, (k h r hr).2.1, fun f => bRn.wk (bSub_mem hw) ((k h r hr).2.2 f)⟩
/-- an instruction that leaves the memory alone -/
theorem b_s {pc' : Nat} (h : (ax_dt (ax_T i)).lookup pc = some x) (hs : ∀ M, ax_s L xs (ax_dl (ax_T i)) x pc lv st M = some (pc', lv1, st', M, 0, 0)) (k : bD L xs d i pc' lv1 st' μ o) : bD L xs d i pc lv st μ o :=
  fun hk r hr => ⟨(k hk r hr).1, (k hk r hr).2.1, fun f => bRn.s h (hs _) ((k hk r hr).2.2 f)⟩
theorem b_w {pc' : Nat} (h : (ax_dt (ax_T i)).lookup pc = some x) (hs : ∀ M, ax_s L xs (ax_dl (ax_T i)) x pc lv st M = some (pc', lv1, st', M, 0, 0)) (hw : bSub lv' lv1) (k : bD L xs d i pc' lv' st' μ o) : bD L xs d i pc lv st μ o := b_s h hs (k.wk hw)
theorem b_v {pc' : Nat} {v w : Value} (h : (ax_dt (ax_T i)).lookup pc = some x) (hs : ∀ M, ax_s L xs (ax_dl (ax_T i)) x pc lv st M = some (pc', lv, v :: st', M, 0, 0)) (hv : v = w) (k : bD L xs d i pc' lv (w :: st') μ o) : bD L xs d i pc lv st μ o := by
  subst hv
  exact b_s h hs k
theorem b_g {α : Type} {p : Prop} [Decidable p] {E : Option α} {κ : α → Option bX} (k : p → bD L xs d i pc lv st μ (E.bind κ)) : bD L xs d i pc lv st μ ((bG p E).bind κ) := by
  unfold bG
  by_cases c : p
  · rw [if_pos c]; exact k c
  · rw [if_neg c]; intro _ r h; cases h
theorem b_n {α : Type} {κ : α → Option bX} : bD L xs d i pc lv st μ ((none : Option α).bind κ) := by intro _ r h; cases h
theorem b_up {σ ρ : Type} {E : Option ρ} {κ : ρ → Option bX} {κ' : σ ⊕ ρ → Option bX} (hκ : ∀ r, κ' (.inr r) = κ r) (k : bD L xs d i pc lv st μ (E.bind κ)) : bD L xs d i pc lv st μ ((bUp E).bind κ') := by
  have : (bUp E).bind κ' = E.bind κ := by
    cases E with
    | none => rfl
    | some r => exact hκ r
  rw [this]
  exact k
theorem b_eq {o' : Option bX} (h : o = o') (k : bD L xs d i pc lv st μ o') : bD L xs d i pc lv st μ o := by rw [h]; exact k
/-- a branch, whatever it hangs on -/
theorem b_br {c : Prop} [Decidable c] {off : Int} {t : Bool} {pt : Nat} {E1 E2 : Option ρ} (h : (ax_dt (ax_T i)).lookup pc = some x)
    (hs : ∀ M r, ax_br pc off lv st' M t = some r → ax_s L xs (ax_dl (ax_T i)) x pc lv st M = some r) (ht : t = decide c) (h0 : 0 ≤ (pc : Int) + off) (h1 : ((pc : Int) + off).toNat = pt)
    (k1 : c → bD L xs d i pt lv st' μ (E1.bind κ)) (k2 : ¬ c → bD L xs d i (pc + 3) lv st' μ (E2.bind κ)) : bD L xs d i pc lv st μ ((if c then E1 else E2).bind κ) := by
  by_cases hc : c
  · rw [if_pos hc]
    refine b_s h (fun M => hs M _ ?_) (k1 hc)
    rw [ht, decide_eq_true hc]
    unfold ax_br ax_to
    rw [if_pos rfl, if_pos h0, h1]
  · rw [if_neg hc]
    refine b_s h (fun M => hs M _ ?_) (k2 hc)
    rw [ht, decide_eq_false hc]
    unfold ax_br
    rw [if_neg (by decide), if_pos h0]
end
/-! ints and longs by their values -/
theorem bi_t {a : Int} (h : bR a) : (Int32.ofInt a).toInt = a := Int32.toInt_ofInt_of_le (by have := h.1; omega) (by have := h.2; omega)
theorem bl_t {a : Int} (h : bRL a) : (Int64.ofInt a).toInt = a := Int64.toInt_ofInt_of_le (by have := h.1; omega) (by have := h.2; omega)
theorem bi_rg (x : Int32) : bR x.toInt := by have h1 := Int32.toInt_lt x; have h2 := Int32.le_toInt x; constructor <;> omega
theorem bl_rg (x : Int64) : bRL x.toInt := by have h1 := Int64.toInt_lt x; have h2 := Int64.le_toInt x; constructor <;> omega
theorem bi_eq {a b : Int} (ha : bR a) (hb : bR b) : (Int32.ofInt a = Int32.ofInt b) ↔ a = b := by rw [← Int32.toInt_inj, bi_t ha, bi_t hb]
theorem bi_lt {a b : Int} (ha : bR a) (hb : bR b) : (Int32.ofInt a < Int32.ofInt b) ↔ a < b := by rw [Int32.lt_iff_toInt_lt, bi_t ha, bi_t hb]
theorem bi_le {a b : Int} (ha : bR a) (hb : bR b) : (Int32.ofInt a ≤ Int32.ofInt b) ↔ a ≤ b := by rw [Int32.le_iff_toInt_le, bi_t ha, bi_t hb]
theorem bl_eq {a b : Int} (ha : bRL a) (hb : bRL b) : (Int64.ofInt a = Int64.ofInt b) ↔ a = b := by rw [← Int64.toInt_inj, bl_t ha, bl_t hb]
theorem bl_lt {a b : Int} (ha : bRL a) (hb : bRL b) : (Int64.ofInt a < Int64.ofInt b) ↔ a < b := by rw [Int64.lt_iff_toInt_lt, bl_t ha, bl_t hb]
theorem bi_0 : (0 : Int32) = Int32.ofInt 0 := by decide
theorem bR_0 : bR 0 := by decide
section
variable {pc len r1 r2 : Nat} {kc : Int} {lv : List (Nat × Value)} {st : List Value} {M : ax_M}
theorem bz_ints_if {c : ClassFile.Cond} {off : Int} : ax_ints (.ifCond c off, len, r1, r2, kc) pc lv st M = none := by
  unfold ax_ints
  split <;> rfl
theorem bz_longs_if {c : ClassFile.Cond} {off : Int} : ax_longs (.ifCond c off, len, r1, r2, kc) pc lv st M = none := by
  unfold ax_longs
  split <;> rfl
theorem bz_ints_i2l  : ax_ints (.i2l, len, r1, r2, kc) pc lv st M = none := by
  unfold ax_ints
  split <;> rfl
theorem bz_longs_i2l  : ax_longs (.i2l, len, r1, r2, kc) pc lv st M = none := by
  unfold ax_longs
  split <;> rfl
theorem bz_ints_l2i  : ax_ints (.l2i, len, r1, r2, kc) pc lv st M = none := by
  unfold ax_ints
  split <;> rfl
theorem bz_longs_l2i  : ax_longs (.l2i, len, r1, r2, kc) pc lv st M = none := by
  unfold ax_longs
  split <;> rfl
theorem bz_ints_i2b  : ax_ints (.i2b, len, r1, r2, kc) pc lv st M = none := by
  unfold ax_ints
  split <;> rfl
theorem bz_longs_i2b  : ax_longs (.i2b, len, r1, r2, kc) pc lv st M = none := by
  unfold ax_longs
  split <;> rfl
theorem bz_ints_ts {dflt lo hi : Int} {offs : Array Int} : ax_ints (.tableswitch dflt lo hi offs, len, r1, r2, kc) pc lv st M = none := by
  unfold ax_ints
  split <;> rfl
theorem bz_longs_ts {dflt lo hi : Int} {offs : Array Int} : ax_longs (.tableswitch dflt lo hi offs, len, r1, r2, kc) pc lv st M = none := by
  unfold ax_longs
  split <;> rfl
theorem bz_ints_pf {m : Nat} : ax_ints (.putfield m, len, r1, r2, kc) pc lv st M = none := by
  unfold ax_ints
  split <;> rfl
theorem bz_longs_pf {m : Nat} : ax_longs (.putfield m, len, r1, r2, kc) pc lv st M = none := by
  unfold ax_longs
  split <;> rfl
theorem bz_ints_ls {dflt : Int} {ps : Array (Int × Int)} : ax_ints (.lookupswitch dflt ps, len, r1, r2, kc) pc lv st M = none := by
  unfold ax_ints
  split <;> rfl
theorem bz_longs_ls {dflt : Int} {ps : Array (Int × Int)} : ax_longs (.lookupswitch dflt ps, len, r1, r2, kc) pc lv st M = none := by
  unfold ax_longs
  split <;> rfl
end
section
variable {L : Nat} {xs : Nat → Int32} {d i pc len r1 r2 pt : Nat} {kc off a b : Int} {lv : List (Nat × Value)} {st : List Value} {μ : bM} {ρ : Type} {κ : ρ → Option bX} {E1 E2 : Option ρ}
theorem b_ieq (h : (ax_dt (ax_T i)).lookup pc = some (.if_icmp .eq off, len, r1, r2, kc)) (ha : bR a) (hb : bR b) (h0 : 0 ≤ (pc : Int) + off) (h1 : ((pc : Int) + off).toNat = pt) (k1 : a = b → bD L xs d i pt lv st μ (E1.bind κ)) (k2 : ¬ a = b → bD L xs d i (pc + 3) lv st μ (E2.bind κ)) : bD L xs d i pc lv (bI b :: bI a :: st) μ ((if a = b then E1 else E2).bind κ) :=
  b_br h (fun M r hr => by show (ax_br pc off lv st M (decide (Int32.ofInt a = Int32.ofInt b)) <|> _) = _; rw [hr]; rfl) (decide_eq_decide.mpr (bi_eq ha hb)) h0 h1 k1 k2
theorem b_ine (h : (ax_dt (ax_T i)).lookup pc = some (.if_icmp .ne off, len, r1, r2, kc)) (ha : bR a) (hb : bR b) (h0 : 0 ≤ (pc : Int) + off) (h1 : ((pc : Int) + off).toNat = pt) (k1 : ¬ a = b → bD L xs d i pt lv st μ (E1.bind κ)) (k2 : ¬ ¬ a = b → bD L xs d i (pc + 3) lv st μ (E2.bind κ)) : bD L xs d i pc lv (bI b :: bI a :: st) μ ((if ¬ a = b then E1 else E2).bind κ) :=
  b_br h (fun M r hr => by show (ax_br pc off lv st M (decide (¬ Int32.ofInt a = Int32.ofInt b)) <|> _) = _; rw [hr]; rfl) (decide_eq_decide.mpr (not_congr (bi_eq ha hb))) h0 h1 k1 k2
theorem b_ilt (h : (ax_dt (ax_T i)).lookup pc = some (.if_icmp .lt off, len, r1, r2, kc)) (ha : bR a) (hb : bR b) (h0 : 0 ≤ (pc : Int) + off) (h1 : ((pc : Int) + off).toNat = pt) (k1 : a < b → bD L xs d i pt lv st μ (E1.bind κ)) (k2 : ¬ a < b → bD L xs d i (pc + 3) lv st μ (E2.bind κ)) : bD L xs d i pc lv (bI b :: bI a :: st) μ ((if a < b then E1 else E2).bind κ) :=
  b_br h (fun M r hr => by show (ax_br pc off lv st M (decide (Int32.ofInt a < Int32.ofInt b)) <|> _) = _; rw [hr]; rfl) (decide_eq_decide.mpr (bi_lt ha hb)) h0 h1 k1 k2
theorem b_ige (h : (ax_dt (ax_T i)).lookup pc = some (.if_icmp .ge off, len, r1, r2, kc)) (ha : bR a) (hb : bR b) (h0 : 0 ≤ (pc : Int) + off) (h1 : ((pc : Int) + off).toNat = pt) (k1 : b ≤ a → bD L xs d i pt lv st μ (E1.bind κ)) (k2 : ¬ b ≤ a → bD L xs d i (pc + 3) lv st μ (E2.bind κ)) : bD L xs d i pc lv (bI b :: bI a :: st) μ ((if b ≤ a then E1 else E2).bind κ) :=
  b_br h (fun M r hr => by show (ax_br pc off lv st M (decide (Int32.ofInt b ≤ Int32.ofInt a)) <|> _) = _; rw [hr]; rfl) (decide_eq_decide.mpr (bi_le hb ha)) h0 h1 k1 k2
theorem b_igt (h : (ax_dt (ax_T i)).lookup pc = some (.if_icmp .gt off, len, r1, r2, kc)) (ha : bR a) (hb : bR b) (h0 : 0 ≤ (pc : Int) + off) (h1 : ((pc : Int) + off).toNat = pt) (k1 : b < a → bD L xs d i pt lv st μ (E1.bind κ)) (k2 : ¬ b < a → bD L xs d i (pc + 3) lv st μ (E2.bind κ)) : bD L xs d i pc lv (bI b :: bI a :: st) μ ((if b < a then E1 else E2).bind κ) :=
  b_br h (fun M r hr => by show (ax_br pc off lv st M (decide (Int32.ofInt b < Int32.ofInt a)) <|> _) = _; rw [hr]; rfl) (decide_eq_decide.mpr (bi_lt hb ha)) h0 h1 k1 k2
theorem b_ile (h : (ax_dt (ax_T i)).lookup pc = some (.if_icmp .le off, len, r1, r2, kc)) (ha : bR a) (hb : bR b) (h0 : 0 ≤ (pc : Int) + off) (h1 : ((pc : Int) + off).toNat = pt) (k1 : a ≤ b → bD L xs d i pt lv st μ (E1.bind κ)) (k2 : ¬ a ≤ b → bD L xs d i (pc + 3) lv st μ (E2.bind κ)) : bD L xs d i pc lv (bI b :: bI a :: st) μ ((if a ≤ b then E1 else E2).bind κ) :=
  b_br h (fun M r hr => by show (ax_br pc off lv st M (decide (Int32.ofInt a ≤ Int32.ofInt b)) <|> _) = _; rw [hr]; rfl) (decide_eq_decide.mpr (bi_le ha hb)) h0 h1 k1 k2
theorem b_zeq (h : (ax_dt (ax_T i)).lookup pc = some (.ifCond .eq off, len, r1, r2, kc)) (ha : bR a) (h0 : 0 ≤ (pc : Int) + off) (h1 : ((pc : Int) + off).toNat = pt) (k1 : a = 0 → bD L xs d i pt lv st μ (E1.bind κ)) (k2 : ¬ a = 0 → bD L xs d i (pc + 3) lv st μ (E2.bind κ)) : bD L xs d i pc lv (bI a :: st) μ ((if a = 0 then E1 else E2).bind κ) :=
  b_br h (fun M r hr => by show (ax_ints _ pc lv (bI a :: st) M <|> (ax_longs _ pc lv (bI a :: st) M <|> (none <|> (ax_jump _ pc lv (bI a :: st) M <|> _)))) = _; rw [bz_ints_if, bz_longs_if]; show (ax_br pc off lv st M (decide (Int32.ofInt a = 0)) <|> _) = _; rw [hr]; rfl) (t := decide (Int32.ofInt a = 0)) (decide_eq_decide.mpr (by rw [bi_0]; exact bi_eq ha bR_0)) h0 h1 k1 k2
theorem b_zne (h : (ax_dt (ax_T i)).lookup pc = some (.ifCond .ne off, len, r1, r2, kc)) (ha : bR a) (h0 : 0 ≤ (pc : Int) + off) (h1 : ((pc : Int) + off).toNat = pt) (k1 : ¬ a = 0 → bD L xs d i pt lv st μ (E1.bind κ)) (k2 : ¬ ¬ a = 0 → bD L xs d i (pc + 3) lv st μ (E2.bind κ)) : bD L xs d i pc lv (bI a :: st) μ ((if ¬ a = 0 then E1 else E2).bind κ) :=
  b_br h (fun M r hr => by show (ax_ints _ pc lv (bI a :: st) M <|> (ax_longs _ pc lv (bI a :: st) M <|> (none <|> (ax_jump _ pc lv (bI a :: st) M <|> _)))) = _; rw [bz_ints_if, bz_longs_if]; show (ax_br pc off lv st M (decide (¬ Int32.ofInt a = 0)) <|> _) = _; rw [hr]; rfl) (t := decide (¬ Int32.ofInt a = 0)) (decide_eq_decide.mpr (not_congr (by rw [bi_0]; exact bi_eq ha bR_0))) h0 h1 k1 k2
theorem b_zlt (h : (ax_dt (ax_T i)).lookup pc = some (.ifCond .lt off, len, r1, r2, kc)) (ha : bR a) (h0 : 0 ≤ (pc : Int) + off) (h1 : ((pc : Int) + off).toNat = pt) (k1 : a < 0 → bD L xs d i pt lv st μ (E1.bind κ)) (k2 : ¬ a < 0 → bD L xs d i (pc + 3) lv st μ (E2.bind κ)) : bD L xs d i pc lv (bI a :: st) μ ((if a < 0 then E1 else E2).bind κ) :=
  b_br h (fun M r hr => by show (ax_ints _ pc lv (bI a :: st) M <|> (ax_longs _ pc lv (bI a :: st) M <|> (none <|> (ax_jump _ pc lv (bI a :: st) M <|> _)))) = _; rw [bz_ints_if, bz_longs_if]; show (ax_br pc off lv st M (decide (Int32.ofInt a < 0)) <|> _) = _; rw [hr]; rfl) (t := decide (Int32.ofInt a < 0)) (decide_eq_decide.mpr (by rw [bi_0]; exact bi_lt ha bR_0)) h0 h1 k1 k2
theorem b_zge (h : (ax_dt (ax_T i)).lookup pc = some (.ifCond .ge off, len, r1, r2, kc)) (ha : bR a) (h0 : 0 ≤ (pc : Int) + off) (h1 : ((pc : Int) + off).toNat = pt) (k1 : 0 ≤ a → bD L xs d i pt lv st μ (E1.bind κ)) (k2 : ¬ 0 ≤ a → bD L xs d i (pc + 3) lv st μ (E2.bind κ)) : bD L xs d i pc lv (bI a :: st) μ ((if 0 ≤ a then E1 else E2).bind κ) :=
  b_br h (fun M r hr => by show (ax_ints _ pc lv (bI a :: st) M <|> (ax_longs _ pc lv (bI a :: st) M <|> (none <|> (ax_jump _ pc lv (bI a :: st) M <|> _)))) = _; rw [bz_ints_if, bz_longs_if]; show (ax_br pc off lv st M (decide (0 ≤ Int32.ofInt a)) <|> _) = _; rw [hr]; rfl) (t := decide (0 ≤ Int32.ofInt a)) (decide_eq_decide.mpr (by rw [bi_0]; exact bi_le bR_0 ha)) h0 h1 k1 k2
theorem b_zgt (h : (ax_dt (ax_T i)).lookup pc = some (.ifCond .gt off, len, r1, r2, kc)) (ha : bR a) (h0 : 0 ≤ (pc : Int) + off) (h1 : ((pc : Int) + off).toNat = pt) (k1 : 0 < a → bD L xs d i pt lv st μ (E1.bind κ)) (k2 : ¬ 0 < a → bD L xs d i (pc + 3) lv st μ (E2.bind κ)) : bD L xs d i pc lv (bI a :: st) μ ((if 0 < a then E1 else E2).bind κ) :=
  b_br h (fun M r hr => by show (ax_ints _ pc lv (bI a :: st) M <|> (ax_longs _ pc lv (bI a :: st) M <|> (none <|> (ax_jump _ pc lv (bI a :: st) M <|> _)))) = _; rw [bz_ints_if, bz_longs_if]; show (ax_br pc off lv st M (decide (0 < Int32.ofInt a)) <|> _) = _; rw [hr]; rfl) (t := decide (0 < Int32.ofInt a)) (decide_eq_decide.mpr (by rw [bi_0]; exact bi_lt bR_0 ha)) h0 h1 k1 k2
theorem b_zle (h : (ax_dt (ax_T i)).lookup pc = some (.ifCond .le off, len, r1, r2, kc)) (ha : bR a) (h0 : 0 ≤ (pc : Int) + off) (h1 : ((pc : Int) + off).toNat = pt) (k1 : a ≤ 0 → bD L xs d i pt lv st μ (E1.bind κ)) (k2 : ¬ a ≤ 0 → bD L xs d i (pc + 3) lv st μ (E2.bind κ)) : bD L xs d i pc lv (bI a :: st) μ ((if a ≤ 0 then E1 else E2).bind κ) :=
  b_br h (fun M r hr => by show (ax_ints _ pc lv (bI a :: st) M <|> (ax_longs _ pc lv (bI a :: st) M <|> (none <|> (ax_jump _ pc lv (bI a :: st) M <|> _)))) = _; rw [bz_ints_if, bz_longs_if]; show (ax_br pc off lv st M (decide (Int32.ofInt a ≤ 0)) <|> _) = _; rw [hr]; rfl) (t := decide (Int32.ofInt a ≤ 0)) (decide_eq_decide.mpr (by rw [bi_0]; exact bi_le ha bR_0)) h0 h1 k1 k2
/-- a comparison of longs: less -1, the same 0, more 1 -/
def bCmp (a b : Int) : Int := if b < a then 1 else if a = b then 0 else -1
theorem bCmp_R (a b : Int) : bR (bCmp a b) := by
  unfold bCmp
  split
  · decide
  · split <;> decide
theorem b_lcmp {o : Option bX} (h : (ax_dt (ax_T i)).lookup pc = some (.lcmp, len, r1, r2, kc)) (ha : bRL a) (hb : bRL b) (k : bD L xs d i (pc + len) lv (bI (bCmp a b) :: st) μ o) : bD L xs d i pc lv (bLg b :: bLg a :: st) μ o := by
  refine b_v h (fun M => rfl) ?_ k
  unfold lg_cmp bCmp
  by_cases c1 : b < a
  · rw [if_pos c1, if_pos ((bl_lt hb ha).mpr c1)]; rfl
  · rw [if_neg c1, if_neg (fun h => c1 ((bl_lt hb ha).mp h))]
    by_cases c2 : a = b
    · rw [if_pos c2, if_pos ((bl_eq ha hb).mpr c2)]; rfl
    · rw [if_neg c2, if_neg (fun h => c2 ((bl_eq ha hb).mp h))]; rfl
end
end BB
