section EW
def R_law : String := "EntryTreeLaw"
def lw_P (b : Addr) (xs : List Int32) (args : Array Value) (s : State) : Prop := args = #[.ref b] ∧ s.IntsAt b xs ∧ xs.length ≤ 3072 ∧ (Jvm.Cond.and given_1 narrow_1).before args s = true
def lw_Q (_ : Array Value) (s : State) (o : Outcome) (t : State) : Prop := o = .returned (some (.int 1)) ∧ Framed s o t [] 601024 7293034
/-- the tables' facts at the law's entry -/
theorem en_F {s : State} {b L : Nat} {xs : Nat → Int32} (hts : ∀ w ∈ lw_tbl, w.before #[Value.ref b] s = true) (hW : ∀ w ∈ ax_W, w.before #[Value.ref b] s = true) (hgv : (Jvm.Cond.and given_1 narrow_1).before #[Value.ref b] s = true) (hX : va_X b L xs s s.heap) (hbl : b < s.heap.size) :
    ∃ (dC : Nat → ClassId) (dI : Nat → Nat → Nat) (cy : Nat → ClassId), ax_F ax_Ss (.methodLinkNest ax_n9 ax_j9 ax_m9 ax_o9) dC dI cy b s.heap.size L xs s := by
  have hs := flat_of_before _ hgv
  have H : ∀ k : Nat, ∃ p : ClassId × (Nat → Nat), ∀ q : vw_C, vwCl[k]? = some q → u_Kn s q.1 q.2.1 q.2.2 p.1 p.2 := by
    intro k
    cases hk : vwCl[k]? with
    | none => exact ⟨(0, fun _ => 0), fun q h => by cases h⟩
    | some q0 =>
      obtain ⟨C, T, N⟩ := q0
      obtain ⟨e1, -, -, e4⟩ := ax_cls k C T N hk
      obtain ⟨cC, iS, hK⟩ := u_known (C := C) (T := T) (N := N) (n := N) hW e4 (hts _ (en_inst _ (List.mem_of_getElem? hk)))
      exact ⟨(cC, iS), fun q h => by cases h; exact hK⟩
  obtain ⟨c0, a0, b0⟩ := en_arrT (hts _ en_arr.1)
  obtain ⟨c1, a1, b1⟩ := en_arrT (hts _ en_arr.2.1)
  obtain ⟨c2, a2, b2⟩ := en_arrT (hts _ en_arr.2.2.1)
  obtain ⟨c3, a3, b3⟩ := en_arrT (hts _ en_arr.2.2.2)
  have hA : ∀ a : Nat, a < s.heap.size → ¬ ax_A s.heap.size a := fun a h h2 => by have : s.heap.size ≤ a := h2; omega
  refine ⟨fun k => (Classical.choose (H k)).1, fun k => (Classical.choose (H k)).2, fun k => match k with | 0 => c0 | 1 => c1 | 2 => c2 | _ => c3, ⟨fun k q hq => Classical.choose_spec (H k) q hq, ?_⟩, ?_, ?_, ?_, ⟨?_, ?_⟩, ?_, ?_, hX, Nat.le_refl _, hbl⟩
  · intro k q hq
    match k, hq with
    | 0, hq => cases hq; exact ⟨a0, b0⟩
    | 1, hq => cases hq; exact ⟨a1, b1⟩
    | 2, hq => cases hq; exact ⟨a2, b2⟩
    | 3, hq => cases hq; exact ⟨a3, b3⟩
    | k + 4, hq => cases hq
  · exact vx_Zqof (hts _ en_z1.1) (hts _ en_z1.2.2) (hs _ en_z2.1) hA
  · exact vx_Zqof (hts _ en_z1.2.1) (hts _ en_z1.2.2) (hs _ en_z2.2) hA
  · intro k hk
    obtain ⟨h1, h2⟩ := en_str k hk
    obtain ⟨a, -, -, -, ha, -⟩ := Cond.exactly_spec (show (Cond.exactly (.string k.1 k.2.1) "java/lang/String").holds #[Value.ref b] s none s [] = true from hs _ h2)
    exact ⟨a, vk_R.of (hts _ h1) ha⟩
  · exact fun E hE => va_Nw.of rfl (hts _ (en_cast E hE))
  · exact fun y hy => va_Nw.of rfl (hts _ (en_decl y hy))
  · exact fun E hE E2 hE2 hne => va_Nc.of (hs _ (en_nc E hE E2 hE2 hne))
  · exact va_Nw.of rfl (hts _ en_nest)
theorem en_same {s s' : State} {L : List Loc} {k n : Nat} (h : s.sameButNew s' L k n) (hL : ∀ q ∈ L, s.heap.size ≤ q.base) : s.sameButNew s' [] k n := by
  obtain ⟨h1, h2, h3, h4, h5, h6⟩ := h
  refine ⟨h1, h2, h3, h4, h5, fun a c hc => ?_⟩
  obtain ⟨c', g1, g2, g3, g4⟩ := h6 a c hc
  have ha : a < s.heap.size := (Array.getElem?_eq_some_iff.mp hc).1
  exact ⟨c', g1, g2, g3, fun i _ => g4 i (fun hm => absurd (hL _ hm) (Nat.not_le.mpr ha))⟩
/-- the law's run of the pure machine: true, in the claim's room -/
def en_Run (L : Nat) (xs : Nat → Int32) : Prop := ∃ (h0 : ax_H) (M : ax_M) (c9 s9 : Nat), bRn L xs 9 240 0 [(0, .ref 0)] [] (0, h0, true) (.inl (some (.int 1)), M, c9, s9) ∧ c9 ≤ 601024 ∧ s9 ≤ 7293034
set_option maxHeartbeats 4000000 in
theorem lw_walk (l : Launch) (hl : l.stackTraces = false) (b : Addr) (xs : List Int32) (hrun : en_Run xs.length (fun j => xs.getD j 0)) : MetFree l x (headSpec (Jvm.Cond.code x code maxLocals ret :: tables_1) room_1) (lw_P b xs) (fun _ _ _ _ _ => True) lw_Q := by
  refine MetFree.of_bodyS (code := code) (maxLocals := maxLocals) (ret := ret) (by decide) ?_ ?_
  · intro args s m h hn
    obtain ⟨meth, c, h1, h2, h3, h4, h5, h6, -, -⟩ := Cond.code_spec hn (atoms_spec (ws := Jvm.Cond.code x code maxLocals ret :: tables_1) h _ List.mem_cons_self)
    exact ⟨meth, c, h1, h2, h3, h4, h5, h6⟩
  · intro p e s m args below meth c s₁ B hml0 hP _
    obtain ⟨rfl, hx, hbd, hgv⟩ := hP
    obtain ⟨scr, harrAt, hlist, hof, hsmall⟩ := hx
    obtain ⟨hcb, hkn, -, -⟩ := State.arrayAt?_spec harrAt
    have hown : s.vm.findClass R_law = some m.cls := findClass_of_methodNamed B.named
    have hts0 : ∀ c ∈ (Jvm.Cond.code x code maxLocals ret :: tables_1), c.before #[Value.ref b] s = true := atoms_spec (ws := Jvm.Cond.code x code maxLocals ret :: tables_1) B.pre
    have hts : ∀ w ∈ lw_tbl, w.before #[Value.ref b] s = true := k2_hts_sels lw_privs (fun w hw => hts0 w (List.mem_cons_of_mem _ hw)) lw_privs_ok
    have hW : ∀ w ∈ ax_W, w.before #[Value.ref b] s = true := fun w hw => by
      rcases List.mem_cons.mp (ax_W_good w hw).1 with rfl | h
      · exact hts0 _ List.mem_cons_self
      · exact hts w h
    have hml : c.maxLocals = 8 := B.maxLocals_eq (hts0 _ List.mem_cons_self)
    have X₀ : Stand p l e room_1 s m #[Value.ref b] below meth c s₁ [] 0 0 := Stand.of_body B
    have hh0 : s₁.heap = s.heap := by rw [B.state]; rfl
    have hsz : scr.slots.size = xs.length := by rw [← Array.length_toList, hlist, List.length_map]
    have hval : ∀ j : Nat, j < xs.length → scr.slots[j]? = some (.int (xs.getD j 0)) := fun j hj => by
      rw [← Array.getElem?_toList, hlist]
      simp [hj]
    have hbl : b < s.heap.size := (Array.getElem?_eq_some_iff.mp hcb).1
    have hX : va_X b xs.length (fun j => xs.getD j 0) s s.heap := ⟨scr, hcb, hof, hkn, hsz, hval⟩
    have htab : c.exceptionTable.toList = [] := by
      obtain ⟨meth9, c9, h1, h2, -, -, -, -, h7, -⟩ := Cond.code_spec B.named (hts0 _ List.mem_cons_self)
      cases Option.some.inj (h1.symm.trans B.method)
      cases Option.some.inj (h2.symm.trans (Stand.of_body B).code)
      rw [Array.isEmpty_iff.mp h7]
    obtain ⟨dC, dI, cy, hF⟩ := en_F hts hW hgv hX hbl
    obtain ⟨h0, M, c9, s9, hr, hc9, hs9⟩ := hrun
    have hP := bRn_sound (dC := dC) (dI := dI) (cy := cy) (b := b) (base := s.heap.size) (h9 := ax_o9) hr
    have hlv := lv_entry ([.ref b]) (n := 8) (Nat.le_of_ble_eq_true rfl)
    have K := hP p l e room_1 s m #[Value.ref b] below meth c (fun _ _ o _ => o = .returned (some (.int 1))) (fun _ _ _ => False) 601024 7293034 0 0 hl
      ⟨B.exec, B.bytes, hml, hown, hW, hF⟩ htab B.notSynchronized B.returns (fun h => absurd h (by decide +kernel)) (by decide) (by decide) (by show 0 + c9 ≤ 601024; omega) (by show 0 + s9 ≤ 7293034; omega) (by show 0 + c9 ≤ 601024; omega) (by show 0 + s9 ≤ 7293034; omega) (fun t _ _ _ => rfl)
      s.heap [] _ (fun k q h => by cases h) va_S.rf (fun _ => Nat.le_refl _) hlv
    obtain ⟨t, a1, o, b1, b2, b3⟩ := K s₁ hh0 X₀
    rcases b3 with ⟨hq, L, hfe, hfr⟩ | ⟨q, -, E, ce, L, hxc, -⟩
    · exact ⟨t, o, a1, b1, b2, hq, hfe.1, hfe.2.1, en_same hfe.2.2 hfr⟩
    · exact hxc.elim
end EW
