section AXQ3
variable {Ss : List (String × Nat × String)} {Nw : Cond} {dC : Nat → ClassId} {dI : Nat → Nat → Nat} {cy : Nat → ClassId} {b base L : Nat} {xs : Nat → Int32}
variable {p : Program} {l : Launch} {e : Env} {R : Room} {s : State} {m : MethodId} {args : Array Value} {below : List Frame} {meth : Method} {c : Code} {own : String} {cc : ByteArray} {nL cells slots : Nat} {Q : State → Prop} {isInit : Bool}
variable {x : ax_I} {pc : Nat} {lv : List (Nat × Value)} {st : List Value} {M : ax_M} {r : ax_N}
theorem ax_getf_ok (X : ax_X Ss Nw dC dI cy b base L xs p s m args c own cc nL) (hok : ax_ok own cc isInit pc x) (h : ax_getf x pc lv st M = some r)
    (k : ax_V dC dI cy b base p l e R s m args below meth c nL (cells + r.2.2.2.2.1) (slots + r.2.2.2.2.2) Q r.1 r.2.1 r.2.2.1 r.2.2.2.1) : ax_V dC dI cy b base p l e R s m args below meth c nL cells slots Q pc lv st M := by
  obtain ⟨hx, hb, hml, hown, hts, hF⟩ := X
  obtain ⟨hd, hw, hc⟩ := hok
  obtain ⟨i, len, r1, r2, kc⟩ := x
  intro H locs ls hP hS hE hl
  simp only [ax_getf, ax_k] at h
  split at h
  · rename_i idx j rr
    split at h
    · rename_i o ho
      split at h
      · rename_i hj
        split at h
        · rename_i v hv
          cases h
          cases hcl : vwCl[r1]? with
          | none => simp [ax_chk, hcl] at hc
          | some q =>
            obtain ⟨C, T, N⟩ := q
            simp only [ax_chk, hcl, Bool.and_eq_true, decide_eq_true_eq] at hc
            obtain ⟨hk, hlen⟩ := hc
            obtain ⟨-, -, -, hu⟩ := ax_cls r1 C T N hcl
            subst hlen
            refine va_get (D := (dC, dI)) (ci := r1) (v := ax_tr b base v) (C := C) (T := T) (N := N) hx hb hts hu hown hF.1 hP j (fs := o.2.map (ax_tr b base)) ?_ hcl r2 hk (hts _ (hw _ (by simp [ax_need, hcl]))) (fun _ h9 => h9) ?_ hd (k H locs ls hP hS hE hl)
            · rw [ax_L_get hj.1, ho]
              show some (base + j, (Sum.inr (o.1, o.2.map (ax_tr b base)) : va_E)) = _
              rw [hj.2]
              rfl
            · rw [List.getElem?_map, hv]; rfl
        · cases h
      · cases h
    · cases h
  · cases h
theorem ax_fit_ok {b base : Nat} {ty : FieldType} {v : Value} (h : ax_fit ty v = true) : narrow ty (ax_tr b base v) = ax_tr b base v ∧ fits ty (ax_tr b base v) = true := by
  unfold ax_fit at h
  split at h
  · exact ⟨rfl, rfl⟩
  · exact ⟨rfl, rfl⟩
  · rcases of_decide_eq_true h with rfl | rfl
    · exact ⟨by show narrow FieldType.boolean (.int 0) = .int 0; decide, by show fits FieldType.boolean (.int 0) = true; decide⟩
    · exact ⟨by show narrow FieldType.boolean (.int 1) = .int 1; decide, by show fits FieldType.boolean (.int 1) = true; decide⟩
  · exact ⟨rfl, rfl⟩
  · exact ⟨rfl, rfl⟩
  · cases h
theorem ax_putf_ok (X : ax_X Ss Nw dC dI cy b base L xs p s m args c own cc nL) (hok : ax_ok own cc isInit pc x) (hI : isInit = true → meth.name = "<init>") (h : ax_putf x pc lv st M = some r)
    (k : ax_V dC dI cy b base p l e R s m args below meth c nL (cells + r.2.2.2.2.1) (slots + r.2.2.2.2.2) Q r.1 r.2.1 r.2.2.1 r.2.2.2.1) : ax_V dC dI cy b base p l e R s m args below meth c nL cells slots Q pc lv st M := by
  obtain ⟨hx, hb, hml, hown, hts, hF⟩ := X
  obtain ⟨hd, hw, hc⟩ := hok
  obtain ⟨i, len, r1, r2, kc⟩ := x
  intro H locs ls hP hS hE hl
  simp only [ax_putf] at h
  split at h
  · rename_i idx v j rr
    split at h
    · rename_i o ho
      split at h
      · rename_i hj
        obtain ⟨hj1, hj2, hj3, hj4⟩ := hj
        cases h
        cases hcl : vwCl[r1]? with
        | none => simp [ax_chk, hcl] at hc
        | some q =>
          obtain ⟨C, T, N⟩ := q
          simp only [ax_chk, hcl, Bool.and_eq_true, decide_eq_true_eq] at hc
          obtain ⟨hk, hlen, hfin⟩ := hc
          obtain ⟨-, hty, hnm, hu⟩ := ax_cls r1 C T N hcl
          subst hlen
          rw [hj2] at hj4
          obtain ⟨f1, f2⟩ := ax_fit_ok (b := b) (base := base) hj4
          have he : (ax_L b base cy M)[j]? = some (base + j, .inr (r1, o.2.map (ax_tr b base))) := by
            rw [ax_L_get hj1, ho]
            show some (base + j, (Sum.inr (o.1, o.2.map (ax_tr b base)) : va_E)) = _
            rw [hj2]
          have hset : (ax_L b base cy M).set j (base + j, .inr (r1, (o.2.map (ax_tr b base)).set r2 (ax_tr b base v))) = ax_L b base cy (M.1, ax_up M.2.1 (j + 1) (.inr (o.1, o.2.set r2 v)), M.2.2) := by
            rw [← List.map_set, ← ax_L_set (n := M.1) (h := M.2.1) (x := M.2.2) (Sum.inr (o.1, o.2.set r2 v))]
            show _ = (ax_L b base cy M).set j (base + j, .inr (o.1, (o.2.set r2 v).map (ax_tr b base)))
            rw [hj2]
          have kk : ∀ (H1 : Heap) (locs1 : List Loc), va_P (dC, dI) vwCl ((ax_L b base cy M).set j (base + j, .inr (r1, (o.2.map (ax_tr b base)).set r2 (ax_tr b base v)))) H1 → va_D (ax_A base) ((ax_L b base cy M).set j (base + j, .inr (r1, (o.2.map (ax_tr b base)).set r2 (ax_tr b base v)))) → va_S (ax_A base) s.heap H1 locs1 →
              W p l e R s m args below meth c H1 locs1 cells slots Q (F0 m (pc + 3) ls (rr.map (ax_tr b base))) := fun H1 locs1 hP1 _ hS1 => k H1 locs1 ls (by rw [← hset]; exact hP1) hS1 hE hl
          cases hff : (T r2).2.2.2 with
          | false =>
            exact va_put (D := (dC, dI)) hx hb hts hu (ax_ty r1) hty hnm hown hF.1 hP ax_L_D hS j he hcl r2 hk (hts _ (hw _ (by simp [ax_need, hcl]))) (fun _ h9 => h9) hff (hty r2 hk) f1 f2 (by rw [List.length_map]; exact hj3) hd kk
          | true =>
            rw [hff] at hfin
            simp only [Bool.not_true, Bool.false_or, Bool.and_eq_true, decide_eq_true_eq] at hfin
            exact va_putF (D := (dC, dI)) hx hb hts hu (ax_ty r1) hty hnm hown hF.1 hP ax_L_D hS j he hcl r2 hk (hts _ (hw _ (by simp [ax_need, hcl]))) (fun _ h9 => h9) hff (hI hfin.1) hfin.2 (hty r2 hk) f1 f2 (by rw [List.length_map]; exact hj3) hd kk
      · cases h
    · cases h
  · cases h
theorem ax_aload_ok (X : ax_X Ss Nw dC dI cy b base L xs p s m args c own cc nL) (hok : ax_ok own cc isInit pc x) (h : ax_aload L xs x pc lv st M = some r)
    (k : ax_V dC dI cy b base p l e R s m args below meth c nL (cells + r.2.2.2.2.1) (slots + r.2.2.2.2.2) Q r.1 r.2.1 r.2.2.1 r.2.2.2.1) : ax_V dC dI cy b base p l e R s m args below meth c nL cells slots Q pc lv st M := by
  obtain ⟨hx, hb, hml, hown, hts, hF⟩ := X
  obtain ⟨hd, hw, hc⟩ := hok
  obtain ⟨i, len, r1, r2, kc⟩ := x
  intro H locs ls hP hS hE hl
  have hbase := hF.2.2.2.2.2.2.2.2
  simp only [ax_aload, ax_k] at h
  split at h
  · have hlen : len = 1 := by simpa [ax_chk] using hc
    subst hlen
    split at h
    · cases h
    · rename_i hin
      cases h
      exact va_sld hx hb hF.2.2.2.2.2.2.2.1 (by omega) (by show ¬ base ≤ b; omega) hS hin hd (k H locs ls hP hS hE hl)
  · have hlen : len = 1 := by simpa [ax_chk] using hc
    subst hlen
    split at h
    · rename_i ho
      split at h
      · rename_i hj
        split at h
        · cases h
        · rename_i hin
          cases h
          exact va_iald (D := (dC, dI)) hx hb hF.1 hP _ 1 (by rw [ax_L_get hj, ho]; rfl) rfl hin hd (k H locs ls hP hS hE hl)
      · cases h
    · cases h
  · have hlen : len = 1 := by simpa [ax_chk] using hc
    subst hlen
    split at h
    · rename_i ho
      split at h
      · rename_i hj
        split at h
        · cases h
        · rename_i hin
          cases h
          exact va_bald (D := (dC, dI)) hx hb hF.1 hP _ 0 (by rw [ax_L_get hj, ho]; rfl) rfl hin hd (k H locs ls hP hS hE hl)
      · cases h
    · rename_i ho
      split at h
      · rename_i hj
        split at h
        · cases h
        · rename_i hin
          cases h
          exact va_zald (D := (dC, dI)) hx hb hF.1 hP _ 3 (by rw [ax_L_get hj, ho]; rfl) rfl hin hd (k H locs ls hP hS hE hl)
      · cases h
    · cases h
  · have hlen : len = 1 := by simpa [ax_chk] using hc
    subst hlen
    split at h
    · rename_i ho
      split at h
      · rename_i hj
        split at h
        · cases h
        · rename_i hin
          cases h
          exact va_lald (D := (dC, dI)) hx hb hF.1 hP _ 2 (by rw [ax_L_get hj, ho]; rfl) rfl hin hd (k H locs ls hP hS hE hl)
      · cases h
    · cases h
  · have hlen : len = 1 := by simpa [ax_chk] using hc
    subst hlen
    cases h
    exact va_slen (b := b) hx hb hF.2.2.2.2.2.2.2.1 (by omega) (by show ¬ base ≤ b; omega) hS hd (k H locs ls hP hS hE hl)
  · have hlen : len = 1 := by simpa [ax_chk] using hc
    subst hlen
    split at h
    · rename_i a ho
      split at h
      · rename_i hj
        cases h
        obtain ⟨tn, av⟩ := a
        have h4 : ∃ ty, (ax_tys cy)[tn]? = some (cy tn, ty) := by
          have h9 : tn < 4 := hj.2
          match tn, h9 with
          | 0, _ => exact ⟨_, rfl⟩
          | 1, _ => exact ⟨_, rfl⟩
          | 2, _ => exact ⟨_, rfl⟩
          | 3, _ => exact ⟨_, rfl⟩
        obtain ⟨ty, hty⟩ := h4
        exact va_alen (D := (dC, dI)) hx hb hF.1 hP _ tn (cA := cy tn) (x := av) (by rw [ax_L_get hj.1, ho]; rfl) hty rfl hd (k H locs ls hP hS hE hl)
      · cases h
    · cases h
  · cases h
theorem ax_astore_ok (X : ax_X Ss Nw dC dI cy b base L xs p s m args c own cc nL) (hok : ax_ok own cc isInit pc x) (h : ax_astore x pc lv st M = some r)
    (k : ax_V dC dI cy b base p l e R s m args below meth c nL (cells + r.2.2.2.2.1) (slots + r.2.2.2.2.2) Q r.1 r.2.1 r.2.2.1 r.2.2.2.1) : ax_V dC dI cy b base p l e R s m args below meth c nL cells slots Q pc lv st M := by
  obtain ⟨hx, hb, hml, hown, hts, hF⟩ := X
  obtain ⟨hd, hw, hc⟩ := hok
  obtain ⟨i, len, r1, r2, kc⟩ := x
  intro H locs ls hP hS hE hl
  simp only [ax_astore] at h
  split at h
  · have hlen : len = 1 := by simpa [ax_chk] using hc
    subst hlen
    split at h
    · rename_i n f ho
      split at h
      · rename_i hj
        split at h
        · cases h
        · rename_i hin
          cases h
          refine va_iast (D := (dC, dI)) hx hb hF.1 hP ax_L_D hS _ 1 (by rw [ax_L_get hj, ho]; rfl) rfl hin hd (fun H1 locs1 hP1 _ hS1 => k H1 locs1 ls ?_ hS1 hE hl)
          rw [← ax_L_set (n := M.1) (h := M.2.1) (x := M.2.2)]
          exact hP1
      · cases h
    · cases h
  · have hlen : len = 1 := by simpa [ax_chk] using hc
    subst hlen
    split at h
    · rename_i n f ho
      split at h
      · rename_i hj
        split at h
        · cases h
        · rename_i hin
          cases h
          refine va_bast (D := (dC, dI)) hx hb hF.1 hP ax_L_D hS _ 0 (by rw [ax_L_get hj, ho]; rfl) rfl hin hd (fun H1 locs1 hP1 _ hS1 => k H1 locs1 ls ?_ hS1 hE hl)
          rw [← ax_L_set (n := M.1) (h := M.2.1) (x := M.2.2)]
          exact hP1
      · cases h
    · rename_i n f ho
      split at h
      · rename_i hj
        split at h
        · cases h
        · rename_i hin
          cases h
          refine va_zast (D := (dC, dI)) hx hb hF.1 hP ax_L_D hS _ 3 (by rw [ax_L_get hj, ho]; rfl) rfl hin hd (fun H1 locs1 hP1 _ hS1 => k H1 locs1 ls ?_ hS1 hE hl)
          rw [← ax_L_set (n := M.1) (h := M.2.1) (x := M.2.2)]
          exact hP1
      · cases h
    · cases h
  · have hlen : len = 1 := by simpa [ax_chk] using hc
    subst hlen
    split at h
    · rename_i n f ho
      split at h
      · rename_i hj
        split at h
        · cases h
        · rename_i hin
          cases h
          refine va_last (D := (dC, dI)) hx hb hF.1 hP ax_L_D hS _ 2 (by rw [ax_L_get hj, ho]; rfl) rfl hin hd (fun H1 locs1 hP1 _ hS1 => k H1 locs1 ls ?_ hS1 hE hl)
          rw [← ax_L_set (n := M.1) (h := M.2.1) (x := M.2.2)]
          exact hP1
      · cases h
    · cases h
  · cases h
theorem ax_new_V (ci j : Nat) (h : j < ax_cn ci) : defaultValue (ax_ty ci j) = vp_V (ax_new ci) j := by
  unfold vp_V ax_new
  rw [List.getD_eq_getElem?_getD, List.getElem?_map, List.getElem?_range h]
  rfl
theorem ax_new_tr (b base ci : Nat) : (ax_new ci).map (ax_tr b base) = ax_new ci := by
  unfold ax_new
  rw [List.map_map]
  apply List.map_congr_left
  intro k _
  show ax_tr b base (defaultValue (ax_ty ci k)) = _
  cases ax_ty ci k <;> rfl
theorem ax_H_le {dC : Nat → ClassId} {dI : Nat → Nat → Nat} {cy : Nat → ClassId} {b base : Nat} {M : ax_M} {H : Heap} (hb : base ≤ H.size) (hP : va_P (dC, dI) vwCl (ax_L b base cy M) H) : base + M.1 ≤ H.size := by
  by_cases h : M.1 = 0
  · omega
  · have := (hP (M.1 - 1) _ (ax_L_get (by omega))).lt
    simp only at this
    omega
theorem ax_make_ok (X : ax_X Ss Nw dC dI cy b base L xs p s m args c own cc nL) (hok : ax_ok own cc isInit pc x) (hRc : cells + r.2.2.2.2.1 ≤ R.cells) (hRs : slots + r.2.2.2.2.2 ≤ R.slots) (h : ax_make x pc lv st M = some r)
    (k : ax_V dC dI cy b base p l e R s m args below meth c nL (cells + r.2.2.2.2.1) (slots + r.2.2.2.2.2) Q r.1 r.2.1 r.2.2.1 r.2.2.2.1) : ax_V dC dI cy b base p l e R s m args below meth c nL cells slots Q pc lv st M := by
  obtain ⟨hx, hb, hml, hown, hts, hF⟩ := X
  obtain ⟨hd, hw, hc⟩ := hok
  obtain ⟨i, len, r1, r2, kc⟩ := x
  intro H locs ls hP hS hE hl
  have hbs : base ≤ s.heap.size := hF.2.2.2.2.2.2.2.2.1
  have hA : ∀ q : Nat, s.heap.size ≤ q → ax_A base q := fun q h9 => Nat.le_trans hbs h9
  obtain ⟨n, hh, fl⟩ := M
  simp only [ax_make] at h
  intro T hT X9
  have hsz : fl = true → H.size = base + n := fun h9 => by
    have h1 := ax_H_le (M := (n, hh, fl)) (Nat.le_trans hbs hS.1) hP
    have h2 := X9.heapSize
    have h3 := hE h9
    rw [hT] at h2
    simp only at h1 h3
    omega
  split at h
  · have hlen : len = 3 := by simpa [ax_chk] using hc
    subst hlen
    split at h
    · rename_i hj
      obtain ⟨hfl, hci⟩ := hj
      subst hfl
      have hsz := hsz rfl
      cases h
      cases hcl : vwCl[r1]? with
      | none => exact absurd hcl (by simp [vwCl]; omega)
      | some q =>
        obtain ⟨C, TT, N⟩ := q
        obtain ⟨hN, hty, hnm, hu⟩ := ax_cls r1 C TT N hcl
        subst hN
        have hKn := hF.1.1 r1 _ hcl
        refine (W.newcK (l := l) (e := e) (below := below) (meth := meth) (locs := locs) (cells := cells) (slots := slots) (Q := Q) (h := base + n) hx hb hown (hts _ (hw _ (by simp [ax_need, hcl]))) (hts _ (hw _ (by simp [ax_need, hcl]))) (hts _ (hw _ (by simp [ax_need, hcl]))) (g := F0 m pc ls (st.map (ax_tr b base))) rfl hd hRc hRs hKn.2.1 hsz fun H1 kC hkC e1 z1 o1 => ?_) T hT X9
        have o2 : ∀ q : Nat, q < H.size → H1[q]? = H[q]? := fun q hq => o1 q (by omega)
        refine k H1 locs ls ?_ ⟨Nat.le_trans hS.1 (by omega), fun q h1 h2 => (o2 q (Nat.lt_of_lt_of_le h1 hS.1)).trans (hS.2.1 q h1 h2), hS.2.2⟩ (fun _ => by have := hE rfl; show s.heap.size + (cells + 1) ≤ base + (n + 1); simp only at this; omega) hl
        rw [← ax_L_push]
        refine (hP.kept (fun k9 q9 hq9 => o2 q9.1 ((hP k9 q9 hq9).lt))).app (fun k9 q9 hq9 => ?_)
        have hz : k9 < 1 := (List.getElem?_eq_some_iff.mp hq9).1
        rw [show k9 = 0 by omega] at hq9
        cases hq9
        refine ⟨_, hcl, ?_⟩
        show t_OB _ _ _ _ _ (vp_V ((ax_new r1).map (ax_tr b base)))
        rw [ax_new_tr]
        exact (u_born (ax_ty r1) hts hu hKn hkC e1 hty).to (ax_new_V r1)
    · cases h
  · have hlen : len = 2 := by simpa [ax_chk] using hc
    subst hlen
    split at h
    · rename_i at9 k9 rr hj
      obtain ⟨hfl, hneg, hby⟩ := hj
      subst hfl
      have hsz := hsz rfl
      split at h
      · rename_i a ha
        cases h
        have key : ∃ ty, newarray.typeOf at9 = ty ∧ (ax_tys cy)[a.1]? = some (cy a.1, ty) ∧ va_RA s (cy a.1) ty = (s.vm.findClass ("[" ++ ty.toString) = some (cy a.1)) ∧ componentBytes ty ≤ 8 ∧ ∀ cA : ClassId, vp_cell cA a.2 = arrV cA k9.toNatClampNeg (fun _ => defaultValue ty) := by
          unfold ax_arr at ha
          split at ha
          · cases ha; exact ⟨_, rfl, rfl, rfl, by decide, fun _ => rfl⟩
          · cases ha; exact ⟨_, rfl, rfl, rfl, by decide, fun _ => rfl⟩
          · cases ha; exact ⟨_, rfl, rfl, rfl, by decide, fun _ => rfl⟩
          · cases ha; exact ⟨_, rfl, rfl, rfl, by decide, fun _ => rfl⟩
          · cases ha
        obtain ⟨ty, hty, htys, hra, hcb, hcell⟩ := key
        have hname : s.vm.findClass ("[" ++ ty.toString) = some (cy a.1) := by rw [← hra]; exact (hF.1.2 a.1 _ htys).2
        refine (va_newaK (l := l) (e := e) (below := below) (meth := meth) (locs := locs) (cells := cells) (slots := slots) (Q := Q) (N := k9.toNatClampNeg) (h := base + n) hx hb (hts _ (hw _ (by simp [ax_need]))) (g := F0 m pc ls ((Value.int k9 :: rr).map (ax_tr b base))) rfl hd (n := k9) (rest := rr.map (ax_tr b base)) rfl hneg rfl (by rw [hty]; exact Nat.le_trans (Nat.mul_le_mul_left _ hcb) hby) hRc hRs hsz fun H1 cA e1 z1 o1 hAr hNm => ?_) T hT X9
        rw [hty] at e1 hNm
        have hcA : cA = cy a.1 := Option.some.inj (hNm.symm.trans hname)
        subst hcA
        have o2 : ∀ q : Nat, q < H.size → H1[q]? = H[q]? := fun q hq => o1 q (by omega)
        refine k H1 locs ls ?_ ⟨Nat.le_trans hS.1 (by omega), fun q h1 h2 => (o2 q (Nat.lt_of_lt_of_le h1 hS.1)).trans (hS.2.1 q h1 h2), hS.2.2⟩ (fun _ => by have := hE rfl; show s.heap.size + (cells + 1) ≤ base + (n + 1); simp only at this; omega) hl
        rw [← ax_L_push]
        refine (hP.kept (fun k9 q9 hq9 => o2 q9.1 ((hP k9 q9 hq9).lt))).app (fun k9 q9 hq9 => ?_)
        have hz : k9 < 1 := (List.getElem?_eq_some_iff.mp hq9).1
        rw [show k9 = 0 by omega] at hq9
        cases hq9
        show H1[base + n]? = some (vp_cell (cy a.1) a.2)
        rw [hcell]
        exact e1
      · cases h
    · cases h
  · cases h
theorem ax_lib_ok (X : ax_X Ss Nw dC dI cy b base L xs p s m args c own cc nL) (hok : ax_ok own cc isInit pc x) (hRc : cells + r.2.2.2.2.1 ≤ R.cells) (hRs : slots + r.2.2.2.2.2 ≤ R.slots) (hRf : 7 ≤ R.frames) (hRl : 120 ≤ R.locals) (h : ax_lib x pc lv st M = some r)
    (k : ax_V dC dI cy b base p l e R s m args below meth c nL (cells + r.2.2.2.2.1) (slots + r.2.2.2.2.2) Q r.1 r.2.1 r.2.2.1 r.2.2.2.1) : ax_V dC dI cy b base p l e R s m args below meth c nL cells slots Q pc lv st M := by
  obtain ⟨hx, hb, hml, hown, hts, hF⟩ := X
  obtain ⟨hd, hw, hc⟩ := hok
  obtain ⟨i, len, r1, r2, kc⟩ := x
  intro H locs ls hP hS hE hl
  simp only [ax_lib] at h
  split at h
  · have hlen : len = 3 := by simpa [ax_chk] using hc
    subst hlen
    split at h
    · rename_i hj
      cases h
      obtain ⟨h9, h8⟩ := hj
      subst h9
      refine W.objInit hx hb hown (hts _ (hw _ (by simp [ax_need]))) (hts _ (hw _ (by simp [ax_need]))) (hts _ (hw _ (by simp [ax_need]))) rfl (by rw [hml]; exact hl.1) rfl hd (by omega) ?_ (k H locs ls hP hS hE hl)
      show 2 * 0 + ((List.map (ax_tr b base) _).map fun v => v.category).sum + 12 ≤ R.locals
      rw [ax_cats]
      omega
    · cases h
  · have hlen : len = 3 := by simpa [ax_chk] using hc
    subst hlen
    split at h
    · rename_i hj
      cases h
      obtain ⟨h9, h8⟩ := hj
      subst h9
      refine va_mmax hx hb (by rw [hml]; exact hl.1.symm) hown (hts _ (hw _ (by simp [ax_need]))) (hts _ (hw _ (by simp [ax_need]))) (hts _ (hw _ (by simp [ax_need]))) (hts _ (hw _ (by simp [ax_need]))) (by omega) ?_ hRc hRs hd (k H locs ls hP hS hE hl)
      show ((List.map (ax_tr b base) _).map fun v => v.category).sum + 13 ≤ R.locals
      rw [ax_cats]
      omega
    · cases h
  · cases h
end AXQ3
