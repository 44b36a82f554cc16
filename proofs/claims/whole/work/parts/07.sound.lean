section AXQ
variable {Ss : List (String × Nat × String)} {Nw : Cond} {dC : Nat → ClassId} {dI : Nat → Nat → Nat} {cy : Nat → ClassId} {b base L : Nat} {xs : Nat → Int32}
variable {p : Program} {l : Launch} {e : Env} {R : Room} {s : State} {m : MethodId} {args : Array Value} {below : List Frame} {meth : Method} {c : Code} {own : String} {cc : ByteArray} {nL cells slots : Nat} {Q : State → Prop} {isInit : Bool}
variable {x : ax_I} {pc : Nat} {lv : List (Nat × Value)} {st : List Value} {M : ax_M} {r : ax_N}
theorem ax_const_ok (X : ax_X Ss Nw dC dI cy b base L xs p s m args c own cc nL) (hok : ax_ok own cc isInit pc x) (h : ax_const x pc lv st M = some r)
    (k : ax_V dC dI cy b base p l e R s m args below meth c nL (cells + r.2.2.2.2.1) (slots + r.2.2.2.2.2) Q r.1 r.2.1 r.2.2.1 r.2.2.2.1) : ax_V dC dI cy b base p l e R s m args below meth c nL cells slots Q pc lv st M := by
  obtain ⟨hx, hb, hml, hown, hts, hF⟩ := X
  obtain ⟨hd, hw, hc⟩ := hok
  obtain ⟨i, len, r1, r2, kc⟩ := x
  intro H locs ls hP hS hE hl
  simp only [ax_const, ax_k] at h
  split at h
  · have hlen : len = 1 := by simpa [ax_chk] using hc
    subst hlen; cases h
    exact lv_iconst hx hb hd rfl (k H locs ls hP hS hE hl)
  · have hlen : len = 2 := by simpa [ax_chk] using hc
    subst hlen; cases h
    exact lv_bipush hx hb hd rfl (k H locs ls hP hS hE hl)
  · have hlen : len = 3 := by simpa [ax_chk] using hc
    subst hlen; cases h
    exact lv_sipush hx hb hd rfl (k H locs ls hP hS hE hl)
  · have hlen : len = 1 := by simpa [ax_chk] using hc
    subst hlen; cases h
    exact lv_lconst hx hb hd rfl (k H locs ls hP hS hE hl)
  · have hlen : len = 2 := by simpa [ax_chk] using hc
    subst hlen; cases h
    exact lv_ldc hx hb hown (hts _ (hw _ (by simp [ax_need]))) hd (k H locs ls hP hS hE hl)
  · have hlen : len = 3 := by simpa [ax_chk] using hc
    subst hlen; cases h
    exact lv_ldc2 hx hb hown (hts _ (hw _ (by simp [ax_need]))) hd (k H locs ls hP hS hE hl)
  · cases h
theorem ax_load_ok (X : ax_X Ss Nw dC dI cy b base L xs p s m args c own cc nL) (hok : ax_ok own cc isInit pc x) (h : ax_load x pc lv st M = some r)
    (k : ax_V dC dI cy b base p l e R s m args below meth c nL (cells + r.2.2.2.2.1) (slots + r.2.2.2.2.2) Q r.1 r.2.1 r.2.2.1 r.2.2.2.1) : ax_V dC dI cy b base p l e R s m args below meth c nL cells slots Q pc lv st M := by
  obtain ⟨hx, hb, hml, hown, hts, hF⟩ := X
  obtain ⟨hd, hw, hc⟩ := hok
  obtain ⟨i, len, r1, r2, kc⟩ := x
  intro H locs ls hP hS hE hl
  simp only [ax_load, ax_li, ax_ll, ax_la, ax_k] at h
  split at h
  · have hlen : len = 1 := by simpa [ax_chk] using hc
    subst hlen
    split at h
    · rename_i v hv
      cases h
      exact lv_iload_n hx hb hd rfl (ax_look hl hv) (k H locs ls hP hS hE hl)
    · cases h
  · have hlen : len = 2 := by simpa [ax_chk] using hc
    subst hlen
    split at h
    · rename_i v hv
      cases h
      exact lv_iload hx hb hd (ax_look hl hv) (k H locs ls hP hS hE hl)
    · cases h
  · have hlen : len = 1 := by simpa [ax_chk] using hc
    subst hlen
    split at h
    · rename_i v hv
      cases h
      exact lv_lload_n hx hb hd rfl (ax_look hl hv) (k H locs ls hP hS hE hl)
    · cases h
  · have hlen : len = 2 := by simpa [ax_chk] using hc
    subst hlen
    split at h
    · rename_i v hv
      cases h
      exact lv_lload hx hb hd (ax_look hl hv) (k H locs ls hP hS hE hl)
    · cases h
  · have hlen : len = 1 := by simpa [ax_chk] using hc
    subst hlen
    split at h
    · rename_i v hv
      cases h
      exact lv_aload_n hx hb hd rfl (ax_look hl hv) (k H locs ls hP hS hE hl)
    · cases h
  · have hlen : len = 2 := by simpa [ax_chk] using hc
    subst hlen
    split at h
    · rename_i v hv
      cases h
      exact lv_aload hx hb hd (ax_look hl hv) (k H locs ls hP hS hE hl)
    · cases h
  · cases h
theorem ax_store_ok (X : ax_X Ss Nw dC dI cy b base L xs p s m args c own cc nL) (hok : ax_ok own cc isInit pc x) (h : ax_store nL x pc lv st M = some r)
    (k : ax_V dC dI cy b base p l e R s m args below meth c nL (cells + r.2.2.2.2.1) (slots + r.2.2.2.2.2) Q r.1 r.2.1 r.2.2.1 r.2.2.2.1) : ax_V dC dI cy b base p l e R s m args below meth c nL cells slots Q pc lv st M := by
  obtain ⟨hx, hb, hml, hown, hts, hF⟩ := X
  obtain ⟨hd, hw, hc⟩ := hok
  obtain ⟨i, len, r1, r2, kc⟩ := x
  intro H locs ls hP hS hE hl
  unfold ax_store at h
  split at h
  · rename_i n v rr hi
    simp only at hi
    subst hi
    have hlen : len = 1 := by simpa [ax_chk] using hc
    subst hlen
    unfold ax_put1 at h
    split at h
    · rename_i hn
      cases h
      exact lv_istore_n hx hb hd rfl hl hn (ax_st1_tr b base lv _ (.int v)) (fun ls' hl' => k H locs ls' hP hS hE hl')
    · cases h
  · rename_i n v rr hi
    simp only at hi
    subst hi
    have hlen : len = 2 := by simpa [ax_chk] using hc
    subst hlen
    unfold ax_put1 at h
    split at h
    · rename_i hn
      cases h
      exact lv_istore hx hb hd hl hn (ax_st1_tr b base lv _ (.int v)) (fun ls' hl' => k H locs ls' hP hS hE hl')
    · cases h
  · rename_i n v rr hi
    simp only at hi
    subst hi
    have hlen : len = 1 := by simpa [ax_chk] using hc
    subst hlen
    unfold ax_put2 at h
    split at h
    · rename_i hn
      cases h
      exact lv_lstore_n hx hb hd rfl hl hn (ax_st2_tr b base lv _ (.long v)) (fun ls' hl' => k H locs ls' hP hS hE hl')
    · cases h
  · rename_i n v rr hi
    simp only at hi
    subst hi
    have hlen : len = 2 := by simpa [ax_chk] using hc
    subst hlen
    unfold ax_put2 at h
    split at h
    · rename_i hn
      cases h
      exact lv_lstore hx hb hd hl hn (ax_st2_tr b base lv _ (.long v)) (fun ls' hl' => k H locs ls' hP hS hE hl')
    · cases h
  · rename_i n v rr hi
    simp only at hi
    subst hi
    have hlen : len = 1 := by simpa [ax_chk] using hc
    subst hlen
    unfold ax_put1 at h
    split at h
    · rename_i hn
      cases h
      exact lv_astore_n hx hb hd rfl hl hn (ax_st1_tr b base lv _ (.ref v)) (fun ls' hl' => k H locs ls' hP hS hE hl')
    · cases h
  · rename_i n v rr hi
    simp only at hi
    subst hi
    have hlen : len = 2 := by simpa [ax_chk] using hc
    subst hlen
    unfold ax_put1 at h
    split at h
    · rename_i hn
      cases h
      exact lv_astore hx hb hd hl hn (ax_st1_tr b base lv _ (.ref v)) (fun ls' hl' => k H locs ls' hP hS hE hl')
    · cases h
  · cases h
theorem ax_mem_look {lv : List (Nat × Value)} {i : Nat} {v : Value} (h : lv.lookup i = some v) : ∃ k : Nat, lv[k]? = some (i, v) := by
  induction lv with
  | nil => cases h
  | cons q t ih =>
    obtain ⟨a, w⟩ := q
    simp only [List.lookup] at h
    by_cases e : i = a
    · subst e
      simp at h
      subst h
      exact ⟨0, rfl⟩
    · have : (i == a) = false := by simpa using e
      rw [this] at h
      obtain ⟨k, hk⟩ := ih h
      exact ⟨k + 1, hk⟩
theorem ax_inc_ok (X : ax_X Ss Nw dC dI cy b base L xs p s m args c own cc nL) (hok : ax_ok own cc isInit pc x) (h : ax_inc nL x pc lv st M = some r)
    (k : ax_V dC dI cy b base p l e R s m args below meth c nL (cells + r.2.2.2.2.1) (slots + r.2.2.2.2.2) Q r.1 r.2.1 r.2.2.1 r.2.2.2.1) : ax_V dC dI cy b base p l e R s m args below meth c nL cells slots Q pc lv st M := by
  obtain ⟨hx, hb, hml, hown, hts, hF⟩ := X
  obtain ⟨hd, hw, hc⟩ := hok
  obtain ⟨i, len, r1, r2, kc⟩ := x
  intro H locs ls hP hS hE hl
  unfold ax_inc at h
  split at h
  · rename_i j n hi
    simp only at hi
    subst hi
    have hlen : len = 3 := by simpa [ax_chk] using hc
    subst hlen
    split at h
    · rename_i v hv
      unfold ax_put1 at h
      split at h
      · rename_i hn
        cases h
        obtain ⟨k9, hk9⟩ := ax_mem_look hv
        exact lv_iinc (k := k9) (x := v) hx hb hd hl (by unfold ax_lv; rw [List.getElem?_map, hk9]; rfl) rfl hn (ax_st1_tr b base lv _ (.int (v + Int32.ofInt n))) (fun ls' hl' => k H locs ls' hP hS hE hl')
      · cases h
    · cases h
  · cases h
end AXQ
