section AXK
variable {Ss : List (String × Nat × String)} {dC : Nat → ClassId} {dI : Nat → Nat → Nat} {cy : Nat → ClassId} {b base L : Nat} {xs : Nat → Int32} {T : Nat → ax_D} {a9 h9 : String} {i9 : Nat} {x9 : MethodName}
def ax_Pc (Ss : List (String × Nat × String)) (Nw : Cond) (dC : Nat → ClassId) (dI : Nat → Nat → Nat) (cy : Nat → ClassId) (b base L : Nat) (xs : Nat → Int32) (as : List Value) (M : ax_M) : Array Value → State → Prop := fun v U =>
  v = (as.map (ax_tr b base)).toArray ∧ ax_F Ss Nw dC dI cy b base L xs U ∧ va_P (dC, dI) vwCl (ax_L b base cy M) U.heap ∧ (M.2.2 = true → U.heap.size ≤ base + M.1)
def ax_Qc (dC : Nat → ClassId) (dI : Nat → Nat → Nat) (cy : Nat → ClassId) (b base : Nat) (o : ax_O) : Array Value → State → Outcome → State → Prop := fun _ st oc t =>
  (∃ v, o.1 = .inl v ∧ oc = .returned (v.map (ax_tr b base))) ∧ va_F (ax_A base) st t ∧ va_P (dC, dI) vwCl (ax_L b base cy o.2.1) t.heap
def ax_XC (dC : Nat → ClassId) (dI : Nat → Nat → Nat) (cy : Nat → ClassId) (b base : Nat) (o : ax_O) : String → State → State → Prop := fun E st t =>
  o.1 = .inr E ∧ va_F (ax_A base) st t ∧ va_P (dC, dI) vwCl (ax_L b base cy o.2.1) t.heap
def ax_rm (d : Nat) (o : ax_O) : Room := { frames := d + 7, cells := o.2.2.1, slots := o.2.2.2, locals := 40 * d + 120 }
theorem ax_sl_tr (b base : Nat) (vs : List Value) : (lg_sl (vs.map (ax_tr b base))).length = (lg_sl vs).length := by
  induction vs with
  | nil => rfl
  | cons v t ih =>
    unfold lg_sl at ih ⊢
    rw [List.map_cons, List.flatMap_cons, List.flatMap_cons, List.length_append, List.length_append, ih, ax_cat]
    by_cases h : v.category = 2
    · rw [if_pos h, if_pos h]; rfl
    · rw [if_neg h, if_neg h]; rfl
theorem ax_met {l : Launch} {d j : Nat} {as : List Value} {M : ax_M} {o : ax_O} (hT : ∀ j, ax_okM Ss T a9 i9 x9 (T j)) (hl : l.stackTraces = false) (hsl : (lg_sl as).length ≤ ax_dl (T j))
    (k : ax_P Ss (.methodLinkNest a9 i9 x9 h9) dC dI cy b base L xs T d j 0 (lv_args 0 as) [] M o) :
    vx_Met l (ax_dy (T j)) (ax_cw (T j) :: ax_W) (ax_rm d o) (ax_Pc Ss (.methodLinkNest a9 i9 x9 h9) dC dI cy b base L xs as M) (ax_Qc dC dI cy b base o) (ax_XC dC dI cy b base o) o.2.2.1 o.2.2.2 (ax_A base) := by
  have hE : ∀ (args : Array Value) (s : State), ax_End dC dI cy b base (ax_Qc dC dI cy b base o) (ax_XC dC dI cy b base o) args s o := by
    intro args s
    unfold ax_End
    split
    · rename_i v hv
      exact fun t h1 h2 h3 => ⟨⟨v, hv, rfl⟩, h2, h3⟩
    · rename_i E hv
      exact fun t h1 h2 h3 => ⟨hv, h2, h3⟩
  have body : ∀ (p : Program) (e : Env) (s : State) (m : MethodId) (args : Array Value) (below : List Frame) (meth : Method) (c : Code) (s₁ : State), BodyLoose p l (ax_dy (T j)) (headSpec (ax_cw (T j) :: ax_W) (ax_rm d o)) (ax_db (T j)) (ax_dl (T j)) (ax_dr (T j)) e s m args below meth c s₁ → c.maxLocals = ax_dl (T j) → c.exceptionTable.toList = tableOf (ax_dh (T j)) → ax_Pc Ss (.methodLinkNest a9 i9 x9 h9) dC dI cy b base L xs as M args s →
      W p l e (headSpec (ax_cw (T j) :: ax_W) (ax_rm d o)).room s m args below meth c s.heap [] 0 0 (vx_MQ below (ax_Qc dC dI cy b base o) (ax_XC dC dI cy b base o) args s o.2.2.1 o.2.2.2 (ax_A base)) (entryFrame m args (ax_dl (T j))) := by
    intro p e s m args below meth c s₁ B hml ht hv
    obtain ⟨rfl, hF, hP, hsz⟩ := hv
    have hts := atoms_spec (ws := ax_cw (T j) :: ax_W) B.pre
    have hn := name_of_methodNamed B.named B.method
    rw [lg_entry_eq]
    have hlv := lv_entry (as.map (ax_tr b base)) (n := ax_dl (T j)) (by rw [ax_sl_tr]; exact hsl)
    rw [ax_args_tr] at hlv
    exact k p l e (ax_rm d o) s m _ below meth c _ _ _ _ 0 0 hl ⟨B.exec, B.bytes, hml, findClass_of_methodNamed B.named, fun w h => hts w (List.mem_cons_of_mem _ h), hF⟩ ht B.notSynchronized B.returns (fun h => hn.1.trans h)
      (Nat.le_refl _) (Nat.le_refl _) (by show 0 + o.2.2.1 ≤ o.2.2.1; omega) (by show 0 + o.2.2.2 ≤ o.2.2.2; omega) (by omega) (by omega) (hE _ _) s.heap [] _ hP va_S.rf (fun h => by have := hsz h; omega) hlv
  cases hh : ax_dh (T j) with
  | nil =>
    have hcw : ax_cw (T j) = .code (ax_dy (T j)) (ax_db (T j)) (ax_dl (T j)) (ax_dr (T j)) := by unfold ax_cw; rw [hh]
    refine vx_ofW (cc := ax_db (T j)) (maxL := ax_dl (T j)) (ret := ax_dr (T j)) (hT j).1 (by rw [hcw]) ?_
    intro p e s m args below meth c s₁ B hml ht hv
    refine body p e s m args below meth c s₁ B hml ?_ hv
    rw [hh]
    exact List.eq_nil_iff_forall_not_mem.mpr (fun x hx => ht x hx)
  | cons h0 t0 =>
    have hcw : ax_cw (T j) = .codeWith (ax_dy (T j)) (ax_db (T j)) (ax_dl (T j)) (ax_dr (T j)) (h0 :: t0) := by unfold ax_cw; rw [hh]
    refine vx_ofWH (cc := ax_db (T j)) (maxL := ax_dl (T j)) (ret := ax_dr (T j)) (hh := h0 :: t0) (hT j).1 (by rw [hcw]) ?_
    intro p e s m args below meth c s₁ B hml hv
    refine body p e s m args below meth c s₁ B hml ?_ hv
    rw [hh]
    exact vx_table (x := ax_dy (T j)) B (atoms_spec (ws := ax_cw (T j) :: ax_W) B.pre _ (by rw [hcw]; exact List.mem_cons_self))
/-- a contract that never throws -/
theorem ax_toMet {l : Launch} {y : MethodName} {ws : List Cond} {rm : Room} {Pc : Array Value → State → Prop} {Qc : Array Value → State → Outcome → State → Prop} {XC : String → State → State → Prop} {mc ms : Nat} {free : Addr → Prop}
    (h : vx_Met l y ws rm Pc Qc XC mc ms free) (hx : ∀ E st t, ¬ XC E st t) : Met l y ws rm Pc Qc mc ms free := by
  intro p e ha hc hk s m args below hf happ hP hK
  obtain ⟨n, o, h1, h2, h3, h4⟩ := h p e ha hc hk s m args below hf happ hP hK
  refine ⟨n, o, h1, h2, h3, ?_⟩
  rcases h4 with h4 | ⟨q, -, E, ce, L, hxc, -⟩
  · exact h4
  · exact absurd hxc (hx _ _ _)
/-- which method a row calls, with what, what stays on the stack -/
def ax_call (x : ax_I) (st : List Value) : Option (Nat × List Value × List Value) := match x.1 with
  | .invokevirtual _ => if x.2.2.1 < 900 ∧ x.2.2.2.1 ≤ st.length then match st.drop x.2.2.2.1 with
    | .ref q :: rest => some (x.2.2.1, .ref q :: (st.take x.2.2.2.1).reverse, rest)
    | _ => none
    else none
  | .invokespecial _ => if x.2.2.1 < 900 ∧ x.2.2.2.1 ≤ st.length then match st.drop x.2.2.2.1 with
    | .ref q :: rest => some (x.2.2.1, .ref q :: (st.take x.2.2.2.1).reverse, rest)
    | _ => none
    else none
  | .invokestatic _ => if x.2.2.1 < 900 ∧ x.2.2.2.1 ≤ st.length then some (x.2.2.1, (st.take x.2.2.2.1).reverse, st.drop x.2.2.2.1) else none
  | _ => none
/-- the receiver of a virtual call is an object of the method's class -/
def ax_recv (T : Nat → ax_D) (x : ax_I) (as : List Value) (M : ax_M) : Prop := match x.1, as with
  | .invokevirtual _, .ref (i + 1) :: _ => match M.2.1 (i + 1) with
    | .inr o => i < M.1 ∧ (vwCl[o.1]?).map (fun q => q.1) = some (ax_dy (T x.2.2.1)).cls
    | .inl _ => False
  | .invokevirtual _, _ => False
  | _, _ => True
theorem ax_blind {as : List Value} {M : ax_M} : FrameBlind (ax_Pc Ss (.methodLinkNest a9 i9 x9 h9) dC dI cy b base L xs as M) := fun a U g mk q => ⟨q.1, ax_F.calling q.2.1, q.2.2.1, q.2.2.2⟩
theorem ax_goodW {l1 : List Cond} {w0 : Cond} (h : ∀ w ∈ l1, w ∈ ax_W) (h0 : w0 ∈ ax_W) : GoodIn ax_W (l1 ++ w0 :: ax_W) := by
  intro w hw
  have hm : w ∈ ax_W := by
    rcases List.mem_append.mp hw with h1 | h1
    · exact h w h1
    · rcases List.mem_cons.mp h1 with rfl | h2
      · exact h0
      · exact h2
  exact ⟨hm, good_of_word (ax_W_good w hm).2⟩
section
variable {p : Program} {l : Launch} {e : Env} {R : Room} {s : State} {m : MethodId} {args : Array Value} {below : List Frame} {meth : Method} {c : Code} {H : Heap} {locs : List Loc} {cells slots : Nat}
theorem ax_run {d i pc j : Nat} {ls : Array Slot} {st as rest : List Value} {M : ax_M} {o : ax_O} {x : ax_I} (hT : ∀ j, ax_okM Ss T a9 i9 x9 (T j)) (hl : l.stackTraces = false)
    (X : ax_X Ss (.methodLinkNest a9 i9 x9 h9) dC dI cy b base L xs p s m args c (ax_dy (T i)).cls (ax_db (T i)) (ax_dl (T i))) (hx : (ax_dt (T i)).lookup pc = some x) (hca : ax_call x st = some (j, as, rest)) (hre : ax_recv T x as M)
    (hws : (rest.map fun v => v.category).sum ≤ 8) (hsl : (lg_sl as).length ≤ ax_dl (T j)) (hno : (∃ n, x.1 = .invokespecial n) ∨ ax_dy (T j) = x9 → ∃ v, o.1 = .inl v)
    (k : ax_P Ss (.methodLinkNest a9 i9 x9 h9) dC dI cy b base L xs T d j 0 (lv_args 0 as) [] M o)
    (hP : va_P (dC, dI) vwCl (ax_L b base cy M) H) (hS : va_S (ax_A base) s.heap H locs) (hsz : M.2.2 = true → H.size ≤ base + M.1) (hls : ls.size = ax_dl (T i))
    (hRf : d + 1 + 7 ≤ R.frames) (hRl : 40 * (d + 1) + 120 ≤ R.locals) (hRc : cells + o.2.2.1 ≤ R.cells) (hRs : slots + o.2.2.2 ≤ R.slots) :
    vx_Run p l e R s m args below meth c H locs cells slots o.2.2.1 o.2.2.2 (F0 m pc ls (st.map (ax_tr b base))) (rest.map (ax_tr b base)) (ax_Qc dC dI cy b base o (as.map (ax_tr b base)).toArray) (ax_XC dC dI cy b base o) (ax_A base) := by
  have hM := ax_met (h9 := h9) hT hl hsl k
  obtain ⟨hok, hokc⟩ := (hT i).2.2.2.2.1 pc x hx
  obtain ⟨hxx, hb, hml, hown, hts, hF⟩ := X
  obtain ⟨hd, -, hch⟩ := hok
  obtain ⟨ins, len, r1, r2, kc⟩ := x
  obtain ⟨-, hmh, hcwW, hml20, -⟩ := hT j
  have hU : ∀ U : State, U.heap = H → s.WarmedH U.vm → ax_Pc Ss (.methodLinkNest a9 i9 x9 h9) dC dI cy b base L xs as M (as.map (ax_tr b base)).toArray U := fun U h1 h2 => ⟨rfl, hF.kept hS h1 h2, by rw [h1]; exact hP, fun h => by rw [h1]; exact hsz h⟩
  have hR : (ax_rm d o).frames + 1 ≤ R.frames ∧ 8 + (ax_dl (T j) + 11) + (ax_rm d o).locals ≤ R.locals := ⟨by show d + 7 + 1 ≤ _; omega, by show _ + _ + (40 * d + 120) ≤ _; omega⟩
  have hws2 : 2 * (F0 m pc ls (st.map (ax_tr b base))).monitorRoom + ((rest.map (ax_tr b base)).map fun v => v.category).sum ≤ 8 := by
    rw [ax_cats]
    show 2 * 0 + _ ≤ 8
    omega
  simp only [ax_call] at hca
  split at hca
  · rename_i idx
    split at hca
    · rename_i hlt
      have hlen : len = 3 := by simpa [ax_chk] using hch
      subst hlen
      split at hca
      · rename_i q rr hdr
        simp only [Option.some.injEq, Prod.mk.injEq] at hca
        obtain ⟨e1, e2, e3⟩ := hca
        subst e1; subst e2; subst e3
        obtain ⟨hw4, hari⟩ := hokc hlt.1
        simp only at hw4 hari
        match q, hre with
        | q + 1, hre =>
          simp only [ax_recv] at hre
          split at hre
          · rename_i oo hoo
            obtain ⟨hq, hcl⟩ := hre
            cases hcq : vwCl[oo.1]? with
            | none => rw [hcq] at hcl; cases hcl
            | some qq =>
              rw [hcq] at hcl
              have hcl : qq.1 = (ax_dy (T r1)).cls := Option.some.inj hcl
              have hrec := va_recv (D := (dC, dI)) (q0 := q) (a := base + q) (ci := oo.1) (fs := oo.2.map (ax_tr b base)) hF.1 hP hcq (by rw [ax_L_get hq, hoo]; rfl)
              rw [hcl] at hrec
              have hstk : (F0 m pc ls (st.map (ax_tr b base))).stack = (((st.take r2).reverse).map (ax_tr b base)).reverse ++ .ref (base + q) :: rr.map (ax_tr b base) := by
                show st.map (ax_tr b base) = _
                rw [← List.map_reverse, List.reverse_reverse]
                conv => lhs; rw [← List.take_append_drop r2 st, hdr]
                rw [List.map_append]
                rfl
              have hpv : PreV s H (ax_dy (T r1)).cls (base + q) (ax_Pc Ss (.methodLinkNest a9 i9 x9 h9) dC dI cy b base L xs (.ref (q + 1) :: (st.take r2).reverse) M) (((st.take r2).reverse).map (ax_tr b base)) := ⟨ax_blind, hrec, hU⟩
              have hnn : (((st.take r2).reverse).map (ax_tr b base)).length = r2 := by rw [List.length_map, List.length_reverse, List.length_take]; omega
              cases hh : ax_dh (T r1) with
              | nil =>
                have hcw : ax_cw (T r1) = .code (ax_dy (T r1)) (ax_db (T r1)) (ax_dl (T r1)) (ax_dr (T r1)) := by unfold ax_cw; rw [hh]
                exact vx_runV (rest := rr.map (ax_tr b base)) ⟨hxx, hb, hml, hown, hts⟩ hM (cwV r2 hts (ax_goodW hw4 hcwW) (by rw [hcw]) rfl rfl ⟨rfl, hmh.1, hmh.2, hari⟩ hR) hpv rfl hnn hls hstk hws2 hd ⟨hRc, hRs⟩
              | cons h0 t0 =>
                have hcw : ax_cw (T r1) = .codeWith (ax_dy (T r1)) (ax_db (T r1)) (ax_dl (T r1)) (ax_dr (T r1)) (h0 :: t0) := by unfold ax_cw; rw [hh]
                exact vx_runVX (hh := h0 :: t0) (rest := rr.map (ax_tr b base)) ⟨hxx, hb, hml, hown, hts⟩ hM (vx_cwVW r2 hts (ax_goodW hw4 hcwW) (by rw [hcw]) rfl rfl ⟨rfl, hmh.1, hmh.2, hari⟩ hR) hpv rfl hnn hls hstk hws2 hd ⟨hRc, hRs⟩
          · exact hre.elim
      · cases hca
    · cases hca
  · rename_i idx
    split at hca
    · rename_i hlt
      have hlen : len = 3 := by simpa [ax_chk] using hch
      subst hlen
      split at hca
      · rename_i q rr hdr
        simp only [Option.some.injEq, Prod.mk.injEq] at hca
        obtain ⟨e1, e2, e3⟩ := hca
        subst e1; subst e2; subst e3
        obtain ⟨hw3, hari, hname, hh, hret⟩ := hokc hlt.1
        simp only at hw3 hari hname hh hret
        obtain ⟨v, hv⟩ := hno (Or.inl ⟨_, rfl⟩)
        have hcw : ax_cw (T r1) = .code (ax_dy (T r1)) (ax_db (T r1)) (ax_dl (T r1)) none := by unfold ax_cw; rw [hh, hret]
        have hstk : (F0 m pc ls (st.map (ax_tr b base))).stack = (((st.take r2).reverse).map (ax_tr b base)).reverse ++ .ref (ax_ad b base q) :: rr.map (ax_tr b base) := by
          show st.map (ax_tr b base) = _
          rw [← List.map_reverse, List.reverse_reverse]
          conv => lhs; rw [← List.take_append_drop r2 st, hdr]
          rw [List.map_append]
          rfl
        have hnn : (((st.take r2).reverse).map (ax_tr b base)).length = r2 := by rw [List.length_map, List.length_reverse, List.length_take]; omega
        have hMm := ax_toMet hM (fun E st9 t h => by have := h.1.symm.trans hv; cases this)
        have hg0 : GoodIn ax_W ([] ++ ax_cw (T r1) :: ax_W) := ax_goodW (fun w h => by cases h) hcwW
        have hrun := va_runI (rest := rr.map (ax_tr b base)) (b := ax_ad b base q) (As := ((st.take r2).reverse).map (ax_tr b base)) (p := p) (l := l) (e := e) (R := R) (s := s) (m := m) (args := args) (below := below) (meth := meth) (c := c) (H := H) (locs := locs) (cells := cells) (slots := slots) (g := F0 m pc ls (st.map (ax_tr b base))) ⟨hxx, hb, hml, hown, hts⟩ hMm
          (cwI r2 hts hg0 (by rw [hcw]) rfl rfl (hts _ (hw3 _ (by simp))) (hts _ (hw3 _ (by simp))) (hts _ (hw3 _ (by simp))) hname ⟨hmh.1, hmh.2, hari⟩ hR) ⟨ax_blind, hU⟩ rfl hnn hls hstk hws2 hd ⟨hRc, hRs⟩
        exact fun T9 hT9 X9 => Or.inl (hrun T9 hT9 X9)
      · cases hca
    · cases hca
  · rename_i idx
    split at hca
    · rename_i hlt
      have hlen : len = 3 := by simpa [ax_chk] using hch
      subst hlen
      simp only [Option.some.injEq, Prod.mk.injEq] at hca
      obtain ⟨e1, e2, e3⟩ := hca
      subst e1; subst e2; subst e3
      obtain ⟨hw2, hari, hlink⟩ := hokc hlt.1
      simp only at hw2 hari hlink
      have hstk : (F0 m pc ls (st.map (ax_tr b base))).stack = (((st.take r2).reverse).map (ax_tr b base)).reverse ++ (st.drop r2).map (ax_tr b base) := by
        show st.map (ax_tr b base) = _
        rw [← List.map_reverse, List.reverse_reverse, ← List.map_append, List.take_append_drop]
      have hnn : (((st.take r2).reverse).map (ax_tr b base)).length = r2 := by rw [List.length_map, List.length_reverse, List.length_take]; omega
      have hps : PreS s H (ax_Pc Ss (.methodLinkNest a9 i9 x9 h9) dC dI cy b base L xs (st.take r2).reverse M) (((st.take r2).reverse).map (ax_tr b base)) := ⟨ax_blind, hU⟩
      rcases hlink with hlink | ⟨n1, n2, n3, hh⟩
      · have hw3 : ∀ w ∈ ([.methodLink (ax_dy (T i)).cls idx (ax_dy (T r1)), .static (ax_dy (T r1)), .initialized (ax_dy (T r1)).cls] : List Cond), w ∈ ax_W := fun w h => by
          rcases List.mem_cons.mp h with rfl | h
          · exact hlink
          · exact hw2 w h
        cases hh : ax_dh (T r1) with
        | nil =>
          have hcw : ax_cw (T r1) = .code (ax_dy (T r1)) (ax_db (T r1)) (ax_dl (T r1)) (ax_dr (T r1)) := by unfold ax_cw; rw [hh]
          exact vx_runS (rest := (st.drop r2).map (ax_tr b base)) ⟨hxx, hb, hml, hown, hts⟩ hM (va_cwS r2 hts (ax_goodW hw3 hcwW) (by rw [hcw]) rfl rfl ⟨hmh.1, hmh.2, hari⟩ hR) hps rfl hnn hls hstk hws2 hd ⟨hRc, hRs⟩
        | cons h0 t0 =>
          have hcw : ax_cw (T r1) = .codeWith (ax_dy (T r1)) (ax_db (T r1)) (ax_dl (T r1)) (ax_dr (T r1)) (h0 :: t0) := by unfold ax_cw; rw [hh]
          exact vx_runSX (hh := h0 :: t0) (rest := (st.drop r2).map (ax_tr b base)) ⟨hxx, hb, hml, hown, hts⟩ hM (vx_cwSW r2 hts (ax_goodW hw3 hcwW) (by rw [hcw]) rfl rfl ⟨hmh.1, hmh.2, hari⟩ hR) hps rfl hnn hls hstk hws2 hd ⟨hRc, hRs⟩
      · obtain ⟨v, hv⟩ := hno (Or.inr n3)
        have hcw : ax_cw (T r1) = .code (ax_dy (T r1)) (ax_db (T r1)) (ax_dl (T r1)) (ax_dr (T r1)) := by unfold ax_cw; rw [hh]
        have hMm := ax_toMet hM (fun E st9 t h => by have := h.1.symm.trans hv; cases this)
        have hg0 : GoodIn ax_W ([] ++ ax_cw (T r1) :: ax_W) := ax_goodW (fun w h => by cases h) hcwW
        have hnl : va_Nw (.methodLinkNest (ax_dy (T i)).cls idx (ax_dy (T r1)) h9) s := by rw [n1, n2, n3]; exact hF.2.2.2.2.2.2.1
        have hrun := va_runSN (rest := (st.drop r2).map (ax_tr b base)) (As := ((st.take r2).reverse).map (ax_tr b base)) (p := p) (l := l) (e := e) (R := R) (s := s) (m := m) (args := args) (below := below) (meth := meth) (c := c) (H := H) (locs := locs) (cells := cells) (slots := slots) (g := F0 m pc ls (st.map (ax_tr b base))) ⟨hxx, hb, hml, hown, hts⟩ hMm
          ⟨va_cnB (host := h9) r2 hts hg0 (by rw [hcw]) rfl rfl hnl (hts _ (hw2 _ (by simp))) ⟨hmh.1, hmh.2, hari⟩ hR, hts _ (hw2 _ (by simp)), trivial⟩ hps rfl hnn hls hstk hws2 hd ⟨hRc, hRs⟩
        exact fun T9 hT9 X9 => Or.inl (hrun T9 hT9 X9)
    · cases hca
  · cases hca
end
end AXK
