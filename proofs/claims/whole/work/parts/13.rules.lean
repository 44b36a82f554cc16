section AXR
variable {Ss : List (String × Nat × String)} {dC : Nat → ClassId} {dI : Nat → Nat → Nat} {cy : Nat → ClassId} {b base L : Nat} {xs : Nat → Int32} {T : Nat → ax_D} {a9 h9 : String} {i9 : Nat} {x9 : MethodName}
theorem ax_S_after {base : Nat} {s st0 t : State} {H : Heap} {locs L9 : List Loc} (hS : va_S (ax_A base) s.heap H locs) (h0 : st0.heap = H) (hF : va_F (ax_A base) st0 t) (hL : ∀ q ∈ L9, ax_A base q.base) : va_S (ax_A base) s.heap t.heap (locs ++ L9) := by
  obtain ⟨f1, f2⟩ := hF
  rw [h0] at f1 f2
  refine ⟨Nat.le_trans hS.1 f1, fun q h1 h2 => (f2 q (Nat.lt_of_lt_of_le h1 hS.1) h2).trans (hS.2.1 q h1 h2), fun q hq => ?_⟩
  rcases List.mem_append.mp hq with h | h
  · exact hS.2.2 q h
  · exact hL q h
theorem ax_P_call {d i pc j : Nat} {lv : List (Nat × Value)} {st as rest : List Value} {M : ax_M} {o1 o : ax_O} {x : ax_I} {v : Option Value} (hT : ∀ j, ax_okM Ss T a9 i9 x9 (T j)) (hx : (ax_dt (T i)).lookup pc = some x) (hca : ax_call x st = some (j, as, rest)) (hre : ax_recv T x as M)
    (hws : (rest.map fun v => v.category).sum ≤ 8) (hsl : (lg_sl as).length ≤ ax_dl (T j)) (k1 : ax_P Ss (.methodLinkNest a9 i9 x9 h9) dC dI cy b base L xs T d j 0 (lv_args 0 as) [] M o1) (hv : o1.1 = .inl v)
    (hsz : o1.2.1.2.2 = true → M.2.2 = true ∧ o1.2.1.1 = M.1 + o1.2.2.1) (k2 : ax_P Ss (.methodLinkNest a9 i9 x9 h9) dC dI cy b base L xs T (d + 1) i (pc + 3) lv (v.toList ++ rest) o1.2.1 o) :
    ax_P Ss (.methodLinkNest a9 i9 x9 h9) dC dI cy b base L xs T (d + 1) i pc lv st M (ax_add o o1.2.2.1 o1.2.2.2) := by
  intro p l e R s m args below meth c Qc XC MC MS cells slots hl X ht hlk hrt hin hRf hRl hRc hRs hMc hMs hE
  intro H locs ls hP hS hE2 hl2 T9 hT9 X9
  simp only [ax_add] at hRc hRs hMc hMs
  have hszH : M.2.2 = true → H.size ≤ base + M.1 := fun h => by
    have h1 := X9.heapSize
    have h2 := hE2 h
    rw [hT9] at h1
    omega
  rcases ax_run (h9 := h9) (p := p) (l := l) (e := e) (R := R) (s := s) (m := m) (args := args) (below := below) (meth := meth) (c := c) (H := H) (locs := locs) (cells := cells) (slots := slots) (ls := ls) hT hl X hx hca hre hws hsl (fun _ => ⟨v, hv⟩) k1 hP hS hszH hl2.1 (by omega) (by omega) (by omega) (by omega) T9 hT9 X9 with ⟨v', st0, t, T', L9, h0, X', hL, e1, e2, ⟨⟨v2, hv2, hret⟩, hF9, hP9⟩, go⟩ | ⟨q, st0, t, T', L9, E, ce, h0, X', hL, e1, e2, hxc, hce, hcv, hcl, stp⟩
  · have hvv : v2 = v := Sum.inl.inj (hv2.symm.trans hv)
    subst hvv
    cases hret
    obtain ⟨t2, a1, b1⟩ := k2 p l e R s m args below meth c Qc XC MC MS (cells + o1.2.2.1) (slots + o1.2.2.2) hl X ht hlk hrt hin hRf hRl (by omega) (by omega) (by omega) (by omega) hE T'.heap (locs ++ L9) ls (by rw [e1]; exact hP9) (by rw [e1]; exact ax_S_after hS h0 hF9 hL) (fun h => by have h1 := hsz h; have h2 := hE2 h1.1; omega) hl2 T' rfl X'
    refine ⟨t2, go t2 ?_, b1⟩
    have hst : ((v2.toList ++ rest).map (ax_tr b base)) = (v2.map (ax_tr b base)).toList ++ rest.map (ax_tr b base) := by cases v2 <;> rfl
    rw [hst] at a1
    exact a1
  · have := hxc.1.symm.trans hv
    cases this
theorem ax_P_out {d i pc j : Nat} {lv : List (Nat × Value)} {st as rest : List Value} {M : ax_M} {o1 : ax_O} {x : ax_I} {E : String} (hT : ∀ j, ax_okM Ss T a9 i9 x9 (T j)) (hx : (ax_dt (T i)).lookup pc = some x) (hca : ax_call x st = some (j, as, rest)) (hre : ax_recv T x as M)
    (hws : (rest.map fun v => v.category).sum ≤ 8) (hsl : (lg_sl as).length ≤ ax_dl (T j)) (k1 : ax_P Ss (.methodLinkNest a9 i9 x9 h9) dC dI cy b base L xs T d j 0 (lv_args 0 as) [] M o1) (hv : o1.1 = .inr E)
    (hni : (∀ n, x.1 ≠ .invokespecial n) ∧ ax_dy (T j) ≠ x9) (hdh : ax_dh (T i) = []) :
    ax_P Ss (.methodLinkNest a9 i9 x9 h9) dC dI cy b base L xs T (d + 1) i pc lv st M o1 := by
  intro p l e R s m args below meth c Qc XC MC MS cells slots hl X ht hlk hrt hin hRf hRl hRc hRs hMc hMs hE
  intro H locs ls hP hS hE2 hl2 T9 hT9 X9
  have hszH : M.2.2 = true → H.size ≤ base + M.1 := fun h => by
    have h1 := X9.heapSize
    have h2 := hE2 h
    rw [hT9] at h1
    omega
  rcases ax_run (h9 := h9) (p := p) (l := l) (e := e) (R := R) (s := s) (m := m) (args := args) (below := below) (meth := meth) (c := c) (H := H) (locs := locs) (cells := cells) (slots := slots) (ls := ls) hT hl X hx hca hre hws hsl (fun h => by rcases h with ⟨n, h⟩ | h; exact absurd h (hni.1 n); exact absurd h hni.2) k1 hP hS hszH hl2.1 (by omega) (by omega) (by omega) (by omega) T9 hT9 X9 with ⟨v', st0, t, T', L9, h0, X', hL, e1, e2, ⟨⟨v2, hv2, hret⟩, hF9, hP9⟩, go⟩ | ⟨q, st0, t, T', L9, E2, ce, h0, X', hL, e1, e2, ⟨hxc, hF9, hP9⟩, hce, hcv, hcl, stp⟩
  · have := hv2.symm.trans hv
    cases this
  · have hEE : E2 = E := Sum.inr.inj (hxc.symm.trans hv)
    subst hEE
    have hS9 : va_S (ax_A base) s.heap T'.heap (locs ++ L9) := by rw [e1]; exact ax_S_after hS h0 hF9 hL
    have hEnd : ∀ t' : State, s.vm.Alike t'.vm → va_F (ax_A base) s t' → va_P (dC, dI) vwCl (ax_L b base cy o1.2.1) t'.heap → XC E2 s t' := by
      unfold ax_End at hE
      rw [hv] at hE
      exact hE
    have hvx := vx_out (p := p) (l := l) (e := e) (R := R) (s := s) (m := m) (args := args) (below := below) (meth := meth) (c := c) (H := T'.heap) (locs := locs ++ L9) (cells := cells + o1.2.2.1) (slots := slots + o1.2.2.2) (Qc := Qc) (XC := XC) (mc := MC) (ms := MS) (free := ax_A base) (ls := ls) (rest := rest.map (ax_tr b base)) (pc := pc) (E := E2) (ce := ce) (q := q)
      (fun x h => by rw [ht, hdh] at h; cases h) hlk (by rw [e1]; exact hce) hcv hcl (fun t' h1 h2 => hEnd t' h2 (hS9.F h1) (by rw [h1, e1]; exact hP9)) hS9.2.2 (by omega) (by omega)
    obtain ⟨t2, a1, b1⟩ := hvx T' rfl X'
    exact ⟨t2, stp.trans a1, b1⟩
/-- the row of a table that takes an exception of class E at pc -/
def ax_hand : List (Nat × Nat × Nat × Nat) → List String → Nat → String → Option Nat
  | q :: t, nm :: ns, pc, E => if q.1 ≤ pc ∧ pc < q.2.1 ∧ nm = E then some q.2.2.1 else ax_hand t ns pc E
  | _, _, _, _ => none
theorem ax_hand_spec {ok : String → Nat × Nat × Nat × Nat → Prop} {pc hpc : Nat} {E : String} : ∀ (hh : List (Nat × Nat × Nat × Nat)) (ns : List String), (∀ (k : Nat) (q : Nat × Nat × Nat × Nat), hh[k]? = some q → ∃ nm, ns[k]? = some nm ∧ ok nm q) → ax_hand hh ns pc E = some hpc →
    ∃ pre q suf, hh = pre ++ q :: suf ∧ q.2.2.1 = hpc ∧ q.1 ≤ pc ∧ pc < q.2.1 ∧ ok E q ∧ ∀ z ∈ pre, ¬ (z.1 ≤ pc ∧ pc < z.2.1) ∨ ∃ nm, nm ≠ E ∧ ok nm z
  | [], ns, _, h => by simp [ax_hand] at h
  | q :: t, [], _, h => by simp [ax_hand] at h
  | q :: t, nm :: ns, hok, h => by
    obtain ⟨nm', hn1, hn2⟩ := hok 0 q rfl
    cases hn1
    unfold ax_hand at h
    split at h
    · rename_i hc
      cases h
      exact ⟨[], q, t, rfl, rfl, hc.1, hc.2.1, hc.2.2 ▸ hn2, fun z hz => by cases hz⟩
    · rename_i hc
      obtain ⟨pre, q2, suf, h1, h2, h3, h4, h5, h6⟩ := ax_hand_spec t ns (fun k q hq => hok (k + 1) q hq) h
      refine ⟨q :: pre, q2, suf, by rw [h1]; rfl, h2, h3, h4, h5, fun z hz => ?_⟩
      rcases List.mem_cons.mp hz with rfl | hz
      · by_cases hcov : z.1 ≤ pc ∧ pc < z.2.1
        · exact Or.inr ⟨nm, fun e => hc ⟨hcov.1, hcov.2, e⟩, hn2⟩
        · exact Or.inl hcov
      · exact h6 z hz
/-- a handler begins by putting the thrown object away -/
def ax_hst (x : ax_I) : Option Nat := match x.1 with
  | .astore_n i => some (i : Nat)
  | .astore i => some i
  | _ => none
def ax_drop (lv : List (Nat × Value)) (i : Nat) : List (Nat × Value) := lv.filter (fun q => !(q.1 == i) && !(q.1 + 1 == i && q.2.category == 2))
theorem ax_P_catch {d i pc j hpc jj : Nat} {lv : List (Nat × Value)} {st as rest : List Value} {M : ax_M} {o1 o : ax_O} {x x2 : ax_I} {E : String} (hT : ∀ j, ax_okM Ss T a9 i9 x9 (T j)) (hx : (ax_dt (T i)).lookup pc = some x) (hca : ax_call x st = some (j, as, rest)) (hre : ax_recv T x as M)
    (hws : (rest.map fun v => v.category).sum ≤ 8) (hsl : (lg_sl as).length ≤ ax_dl (T j)) (k1 : ax_P Ss (.methodLinkNest a9 i9 x9 h9) dC dI cy b base L xs T d j 0 (lv_args 0 as) [] M o1) (hv : o1.1 = .inr E) (hEx : E ∈ ax_Ex)
    (hni : (∀ n, x.1 ≠ .invokespecial n) ∧ ax_dy (T j) ≠ x9) (hhd : ax_hand (ax_dh (T i)) (ax_dn (T i)) pc E = some hpc) (hx2 : (ax_dt (T i)).lookup hpc = some x2) (hj : ax_hst x2 = some jj) (hjl : jj < ax_dl (T i))
    (hsz : o1.2.1.2.2 = true → M.2.2 = true ∧ o1.2.1.1 = M.1 + o1.2.2.1) (k2 : ax_P Ss (.methodLinkNest a9 i9 x9 h9) dC dI cy b base L xs T (d + 1) i (hpc + x2.2.1) (ax_drop lv jj) [] o1.2.1 o) :
    ax_P Ss (.methodLinkNest a9 i9 x9 h9) dC dI cy b base L xs T (d + 1) i pc lv st M (ax_add o o1.2.2.1 o1.2.2.2) := by
  intro p l e R s m args below meth c Qc XC MC MS cells slots hl X ht hlk hrt hin hRf hRl hRc hRs hMc hMs hE
  intro H locs ls hP hS hE2 hl2 T9 hT9 X9
  simp only [ax_add] at hRc hRs hMc hMs
  have hszH : M.2.2 = true → H.size ≤ base + M.1 := fun h => by
    have h1 := X9.heapSize
    have h2 := hE2 h
    rw [hT9] at h1
    omega
  rcases ax_run (h9 := h9) (p := p) (l := l) (e := e) (R := R) (s := s) (m := m) (args := args) (below := below) (meth := meth) (c := c) (H := H) (locs := locs) (cells := cells) (slots := slots) (ls := ls) hT hl X hx hca hre hws hsl (fun h => by rcases h with ⟨n, h⟩ | h; exact absurd h (hni.1 n); exact absurd h hni.2) k1 hP hS hszH hl2.1 (by omega) (by omega) (by omega) (by omega) T9 hT9 X9 with ⟨v', st0, t, T', L9, h0, X', hL, e1, e2, ⟨⟨v2, hv2, hret⟩, hF9, hP9⟩, go⟩ | ⟨q, st0, t, T', L9, E2, ce, h0, X', hL, e1, e2, ⟨hxc, hF9, hP9⟩, hce, hcv, hcl, stp⟩
  · have := hv2.symm.trans hv
    cases this
  · have hEE : E2 = E := Sum.inr.inj (hxc.symm.trans hv)
    subst hEE
    have hS9 : va_S (ax_A base) s.heap T'.heap (locs ++ L9) := by rw [e1]; exact ax_S_after hS h0 hF9 hL
    have X0 := X
    obtain ⟨hxx, hb, hml, hown, hts, hF⟩ := X
    obtain ⟨pre, q2, suf, h1, h2, h3, h4, ⟨h5a, h5b, h5c⟩, h6⟩ := ax_hand_spec (ok := fun nm q => nm ∈ ax_Ex ∧ q.2.2.2 ≠ 0 ∧ Cond.classLink (ax_dy (T i)).cls q.2.2.2 nm ∈ ax_W) (ax_dh (T i)) (ax_dn (T i)) (hT i).2.2.2.2.2.2 hhd
    have hsplit : c.exceptionTable.toList = tableOf pre ++ (⟨q2.1, q2.2.1, q2.2.2.1, q2.2.2.2⟩ : ExceptionTableEntry) :: tableOf suf := by
      rw [ht, h1]
      unfold tableOf
      rw [List.map_append, List.map_cons]
    have kk : W p l e R s m args below meth c T'.heap (locs ++ L9) (cells + o1.2.2.1) (slots + o1.2.2.2) (vx_MQ below Qc XC args s MC MS (ax_A base)) (F0 m hpc ls [.ref q]) := by
      have kv := k2 p l e R s m args below meth c Qc XC MC MS (cells + o1.2.2.1) (slots + o1.2.2.2) hl X0 ht hlk hrt hin hRf hRl (by omega) (by omega) (by omega) (by omega) hE
      have hsub : ∀ ls' : Array Slot, lv_has ls' (ax_dl (T i)) ((jj, Value.ref q) :: (ax_lv b base lv).filter (fun q => !(q.1 == jj) && !(q.1 + 1 == jj && q.2.category == 2))) → lv_has ls' (ax_dl (T i)) (ax_lv b base (ax_drop lv jj)) := by
        intro ls' h
        refine ⟨h.1, h.2.1, fun z hz => h.2.2 z (List.mem_cons_of_mem _ ?_)⟩
        have := ax_st1_tr b base lv jj (.int 0)
        have e9 : (ax_lv b base lv).filter (fun q => !(q.1 == jj) && !(q.1 + 1 == jj && q.2.category == 2)) = ax_lv b base (ax_drop lv jj) := (List.cons.inj this).2
        rw [e9]
        exact hz
      have fin : ∀ ls' : Array Slot, lv_has ls' (ax_dl (T i)) ((jj, Value.ref q) :: (ax_lv b base lv).filter (fun q => !(q.1 == jj) && !(q.1 + 1 == jj && q.2.category == 2))) → W p l e R s m args below meth c T'.heap (locs ++ L9) (cells + o1.2.2.1) (slots + o1.2.2.2) (vx_MQ below Qc XC args s MC MS (ax_A base)) (F0 m (hpc + x2.2.1) ls' []) :=
        fun ls' h => kv T'.heap (locs ++ L9) ls' (by rw [e1]; exact hP9) hS9 (fun h => by have h1 := hsz h; have h2 := hE2 h1.1; omega) (hsub ls' h)
      obtain ⟨hd2, -, hc2⟩ := ((hT i).2.2.2.2.1 hpc x2 hx2).1
      obtain ⟨ins, len, r1, r2, kc⟩ := x2
      simp only [ax_hst] at hj
      split at hj
      · have hlen : len = 1 := by simpa [ax_chk] using hc2
        subst hlen; cases hj
        exact lv_astore_n hxx hb hd2 rfl hl2 hjl rfl fin
      · have hlen : len = 2 := by simpa [ax_chk] using hc2
        subst hlen; cases hj
        exact lv_astore hxx hb hd2 hl2 hjl rfl fin
      · cases hj
    have hcov : covers (⟨q2.1, q2.2.1, q2.2.2.1, q2.2.2.2⟩ : ExceptionTableEntry) pc = true := by simp [covers, h3, h4]
    have hvx := ax_catch (p := p) (l := l) (e := e) (R := R) (s := s) (m := m) (args := args) (below := below) (meth := meth) (c := c) (H := T'.heap) (locs := locs ++ L9) (cells := cells + o1.2.2.1) (slots := slots + o1.2.2.2) (Q := vx_MQ below Qc XC args s MC MS (ax_A base)) (ls := ls) (rest := rest.map (ax_tr b base)) (pc := pc) (E := E2) (ce := ce) (q := q) (name := E2) hown (tableOf pre) ⟨q2.1, q2.2.1, q2.2.2.1, q2.2.2.2⟩ (tableOf suf) hsplit
      (fun z hz => by
        obtain ⟨w, hw1, rfl⟩ := List.mem_map.mp hz
        rcases h6 w hw1 with h | ⟨nm, hne, hn1, hn2, hn3⟩
        · exact Or.inl (by simpa [covers] using h)
        · exact Or.inr ⟨hn2, nm, hts _ hn3, hF.2.2.2.2.2.1 E2 hEx nm hn1 (fun e => hne e.symm)⟩)
      hcov h5b (hts _ h5c) (va_Nw.use rfl (hF.2.2.2.2.1.1 E2 hEx)) (by rw [e1]; exact hce) hcv hcl (by show W _ _ _ _ _ _ _ _ _ _ _ _ _ _ _ (F0 m q2.2.2.1 ls [.ref q]); rw [h2]; exact kk)
    obtain ⟨t2, a1, b1⟩ := hvx T' rfl X'
    exact ⟨t2, stp.trans a1, b1⟩
end AXR
