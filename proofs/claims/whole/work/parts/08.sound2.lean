section AXQ2
variable {Ss : List (String × Nat × String)} {Nw : Cond} {dC : Nat → ClassId} {dI : Nat → Nat → Nat} {cy : Nat → ClassId} {b base L : Nat} {xs : Nat → Int32}
variable {p : Program} {l : Launch} {e : Env} {R : Room} {s : State} {m : MethodId} {args : Array Value} {below : List Frame} {meth : Method} {c : Code} {own : String} {cc : ByteArray} {nL cells slots : Nat} {Q : State → Prop} {isInit : Bool}
variable {x : ax_I} {pc : Nat} {lv : List (Nat × Value)} {st : List Value} {M : ax_M} {r : ax_N}
theorem ax_ints_ok (X : ax_X Ss Nw dC dI cy b base L xs p s m args c own cc nL) (hok : ax_ok own cc isInit pc x) (h : ax_ints x pc lv st M = some r)
    (k : ax_V dC dI cy b base p l e R s m args below meth c nL (cells + r.2.2.2.2.1) (slots + r.2.2.2.2.2) Q r.1 r.2.1 r.2.2.1 r.2.2.2.1) : ax_V dC dI cy b base p l e R s m args below meth c nL cells slots Q pc lv st M := by
  obtain ⟨hx, hb, hml, hown, hts, hF⟩ := X
  obtain ⟨hd, hw, hc⟩ := hok
  obtain ⟨i, len, r1, r2, kc⟩ := x
  intro H locs ls hP hS hE hl
  unfold ax_ints at h
  split at h
  · simp only [ax_k] at h
    split at h
    · have hlen : len = 1 := by simpa [ax_chk] using hc
      subst hlen; cases h
      exact lv_iadd hx hb hd (k H locs ls hP hS hE hl)
    · have hlen : len = 1 := by simpa [ax_chk] using hc
      subst hlen; cases h
      exact lv_isub hx hb hd (k H locs ls hP hS hE hl)
    · have hlen : len = 1 := by simpa [ax_chk] using hc
      subst hlen; cases h
      exact lv_imul hx hb hd (k H locs ls hP hS hE hl)
    · have hlen : len = 1 := by simpa [ax_chk] using hc
      subst hlen; cases h
      exact lv_iand hx hb hd (k H locs ls hP hS hE hl)
    · have hlen : len = 1 := by simpa [ax_chk] using hc
      subst hlen; cases h
      exact lv_ior hx hb hd (k H locs ls hP hS hE hl)
    · have hlen : len = 1 := by simpa [ax_chk] using hc
      subst hlen; cases h
      exact lv_ixor hx hb hd (k H locs ls hP hS hE hl)
    · have hlen : len = 1 := by simpa [ax_chk] using hc
      subst hlen
      split at h
      · cases h
      · rename_i hne
        cases h
        exact lv_idiv hx hb hd hne (k H locs ls hP hS hE hl)
    · have hlen : len = 1 := by simpa [ax_chk] using hc
      subst hlen
      split at h
      · cases h
      · rename_i hne
        cases h
        exact lv_irem hx hb hd hne (k H locs ls hP hS hE hl)
    · have hlen : len = 1 := by simpa [ax_chk] using hc
      subst hlen; cases h
      exact lv_ishr hx hb hd (k H locs ls hP hS hE hl)
    · have hlen : len = 1 := by simpa [ax_chk] using hc
      subst hlen; cases h
      exact lv_iushr hx hb hd rfl (k H locs ls hP hS hE hl)
    · cases h
  · cases h
theorem ax_longs_ok (X : ax_X Ss Nw dC dI cy b base L xs p s m args c own cc nL) (hok : ax_ok own cc isInit pc x) (h : ax_longs x pc lv st M = some r)
    (k : ax_V dC dI cy b base p l e R s m args below meth c nL (cells + r.2.2.2.2.1) (slots + r.2.2.2.2.2) Q r.1 r.2.1 r.2.2.1 r.2.2.2.1) : ax_V dC dI cy b base p l e R s m args below meth c nL cells slots Q pc lv st M := by
  obtain ⟨hx, hb, hml, hown, hts, hF⟩ := X
  obtain ⟨hd, hw, hc⟩ := hok
  obtain ⟨i, len, r1, r2, kc⟩ := x
  intro H locs ls hP hS hE hl
  unfold ax_longs at h
  split at h
  · simp only [ax_k] at h
    split at h
    · have hlen : len = 1 := by simpa [ax_chk] using hc
      subst hlen; cases h
      exact lv_ladd hx hb hd (k H locs ls hP hS hE hl)
    · have hlen : len = 1 := by simpa [ax_chk] using hc
      subst hlen; cases h
      exact lv_lsub hx hb hd (k H locs ls hP hS hE hl)
    · have hlen : len = 1 := by simpa [ax_chk] using hc
      subst hlen; cases h
      exact lv_land hx hb hd (k H locs ls hP hS hE hl)
    · have hlen : len = 1 := by simpa [ax_chk] using hc
      subst hlen; cases h
      exact lv_lor hx hb hd (k H locs ls hP hS hE hl)
    · have hlen : len = 1 := by simpa [ax_chk] using hc
      subst hlen; cases h
      exact lv_lxor hx hb hd (k H locs ls hP hS hE hl)
    · have hlen : len = 1 := by simpa [ax_chk] using hc
      subst hlen
      split at h
      · cases h
      · rename_i hne
        cases h
        exact lv_ldiv hx hb hd hne (k H locs ls hP hS hE hl)
    · have hlen : len = 1 := by simpa [ax_chk] using hc
      subst hlen
      split at h
      · cases h
      · rename_i hne
        cases h
        exact lv_lrem hx hb hd hne (k H locs ls hP hS hE hl)
    · have hlen : len = 1 := by simpa [ax_chk] using hc
      subst hlen; cases h
      exact W.lcmp hx hb hd (k H locs ls hP hS hE hl)
    · cases h
  · simp only [ax_k] at h
    split at h
    · have hlen : len = 1 := by simpa [ax_chk] using hc
      subst hlen; cases h
      exact lv_lshl hx hb hd rfl (k H locs ls hP hS hE hl)
    · have hlen : len = 1 := by simpa [ax_chk] using hc
      subst hlen; cases h
      exact lv_lshr hx hb hd rfl (k H locs ls hP hS hE hl)
    · have hlen : len = 1 := by simpa [ax_chk] using hc
      subst hlen; cases h
      exact lv_lushr hx hb hd rfl (k H locs ls hP hS hE hl)
    · cases h
  · cases h
theorem ax_conv_ok (X : ax_X Ss Nw dC dI cy b base L xs p s m args c own cc nL) (hok : ax_ok own cc isInit pc x) (h : ax_conv x pc lv st M = some r)
    (k : ax_V dC dI cy b base p l e R s m args below meth c nL (cells + r.2.2.2.2.1) (slots + r.2.2.2.2.2) Q r.1 r.2.1 r.2.2.1 r.2.2.2.1) : ax_V dC dI cy b base p l e R s m args below meth c nL cells slots Q pc lv st M := by
  obtain ⟨hx, hb, hml, hown, hts, hF⟩ := X
  obtain ⟨hd, hw, hc⟩ := hok
  obtain ⟨i, len, r1, r2, kc⟩ := x
  intro H locs ls hP hS hE hl
  unfold ax_conv at h
  simp only [ax_k] at h
  split at h
  · have hlen : len = 1 := by simpa [ax_chk] using hc
    subst hlen; cases h
    exact lv_i2l hx hb hd rfl (k H locs ls hP hS hE hl)
  · have hlen : len = 1 := by simpa [ax_chk] using hc
    subst hlen; cases h
    exact lv_l2i hx hb hd rfl (k H locs ls hP hS hE hl)
  · have hlen : len = 1 := by simpa [ax_chk] using hc
    subst hlen; cases h
    exact lv_i2b hx hb hd rfl (k H locs ls hP hS hE hl)
  · have hlen : len = 1 := by simpa [ax_chk] using hc
    subst hlen
    split at h
    · rename_i ha
      cases h
      exact lv_dup hx hb hd ((ax_cat b base _).trans ha) (k H locs ls hP hS hE hl)
    · cases h
  · have hlen : len = 1 := by simpa [ax_chk] using hc
    subst hlen
    split at h
    · rename_i ha
      cases h
      exact lv_pop hx hb hd ((ax_cat b base _).trans ha) (k H locs ls hP hS hE hl)
    · cases h
  · have hlen : len = 1 := by simpa [ax_chk] using hc
    subst hlen
    split at h
    · rename_i ha
      cases h
      exact lv_dup2_11 hx hb hd ((ax_cat b base _).trans ha.1) ((ax_cat b base _).trans ha.2) (k H locs ls hP hS hE hl)
    · cases h
  · cases h
theorem ax_to_some {pc : Nat} {off : Int} {lv : List (Nat × Value)} {st : List Value} {M : ax_M} {r : ax_N} (h : ax_to pc off lv st M = some r) : (pc : Int) + off = (r.1 : Int) ∧ r = (r.1, lv, st, M, 0, 0) := by
  unfold ax_to at h
  split at h
  · rename_i hp
    cases h
    exact ⟨(Int.toNat_of_nonneg hp).symm, rfl⟩
  · cases h
theorem ax_jump_ok (X : ax_X Ss Nw dC dI cy b base L xs p s m args c own cc nL) (hok : ax_ok own cc isInit pc x) (h : ax_jump x pc lv st M = some r)
    (k : ax_V dC dI cy b base p l e R s m args below meth c nL (cells + r.2.2.2.2.1) (slots + r.2.2.2.2.2) Q r.1 r.2.1 r.2.2.1 r.2.2.2.1) : ax_V dC dI cy b base p l e R s m args below meth c nL cells slots Q pc lv st M := by
  obtain ⟨hx, hb, hml, hown, hts, hF⟩ := X
  obtain ⟨hd, hw, hc⟩ := hok
  obtain ⟨i, len, r1, r2, kc⟩ := x
  intro H locs ls hP hS hE hl
  simp only [ax_jump] at h
  split at h
  · have hlen : len = 3 := by simpa [ax_chk] using hc
    subst hlen
    obtain ⟨h1, h2⟩ := ax_to_some h
    rw [h2] at k
    exact lv_goto hx hb hd h1 (k H locs ls hP hS hE hl)
  · have hlen : len = 3 := by simpa [ax_chk] using hc
    subst hlen
    unfold ax_br at h
    split at h
    · rename_i ht
      obtain ⟨h1, h2⟩ := ax_to_some h
      rw [h2] at k
      exact lv_if_eq hx hb hd h1 (fun _ => k H locs ls hP hS hE hl) (fun hn => absurd (of_decide_eq_true ht) hn)
    · rename_i ht
      split at h
      · rename_i hp
        cases h
        exact lv_if_eq hx hb hd (Int.toNat_of_nonneg hp).symm (fun hn => absurd (decide_eq_true hn) ht) (fun _ => k H locs ls hP hS hE hl)
      · cases h
  · have hlen : len = 3 := by simpa [ax_chk] using hc
    subst hlen
    unfold ax_br at h
    split at h
    · rename_i ht
      obtain ⟨h1, h2⟩ := ax_to_some h
      rw [h2] at k
      exact lv_if_ne hx hb hd h1 (fun _ => k H locs ls hP hS hE hl) (fun hn => absurd hn (of_decide_eq_true ht))
    · rename_i ht
      split at h
      · rename_i hp
        cases h
        exact lv_if_ne hx hb hd (Int.toNat_of_nonneg hp).symm (fun hn => absurd (decide_eq_true hn) ht) (fun _ => k H locs ls hP hS hE hl)
      · cases h
  · have hlen : len = 3 := by simpa [ax_chk] using hc
    subst hlen
    unfold ax_br at h
    split at h
    · rename_i ht
      obtain ⟨h1, h2⟩ := ax_to_some h
      rw [h2] at k
      exact lv_if_lt hx hb hd h1 (fun _ => k H locs ls hP hS hE hl) (fun hn => absurd (of_decide_eq_true ht) hn)
    · rename_i ht
      split at h
      · rename_i hp
        cases h
        exact lv_if_lt hx hb hd (Int.toNat_of_nonneg hp).symm (fun hn => absurd (decide_eq_true hn) ht) (fun _ => k H locs ls hP hS hE hl)
      · cases h
  · have hlen : len = 3 := by simpa [ax_chk] using hc
    subst hlen
    unfold ax_br at h
    split at h
    · rename_i ht
      obtain ⟨h1, h2⟩ := ax_to_some h
      rw [h2] at k
      exact lv_if_ge hx hb hd h1 (fun _ => k H locs ls hP hS hE hl) (fun hn => absurd (of_decide_eq_true ht) hn)
    · rename_i ht
      split at h
      · rename_i hp
        cases h
        exact lv_if_ge hx hb hd (Int.toNat_of_nonneg hp).symm (fun hn => absurd (decide_eq_true hn) ht) (fun _ => k H locs ls hP hS hE hl)
      · cases h
  · have hlen : len = 3 := by simpa [ax_chk] using hc
    subst hlen
    unfold ax_br at h
    split at h
    · rename_i ht
      obtain ⟨h1, h2⟩ := ax_to_some h
      rw [h2] at k
      exact lv_if_gt hx hb hd h1 (fun _ => k H locs ls hP hS hE hl) (fun hn => absurd (of_decide_eq_true ht) hn)
    · rename_i ht
      split at h
      · rename_i hp
        cases h
        exact lv_if_gt hx hb hd (Int.toNat_of_nonneg hp).symm (fun hn => absurd (decide_eq_true hn) ht) (fun _ => k H locs ls hP hS hE hl)
      · cases h
  · have hlen : len = 3 := by simpa [ax_chk] using hc
    subst hlen
    unfold ax_br at h
    split at h
    · rename_i ht
      obtain ⟨h1, h2⟩ := ax_to_some h
      rw [h2] at k
      exact lv_if_le hx hb hd h1 (fun _ => k H locs ls hP hS hE hl) (fun hn => absurd (of_decide_eq_true ht) hn)
    · rename_i ht
      split at h
      · rename_i hp
        cases h
        exact lv_if_le hx hb hd (Int.toNat_of_nonneg hp).symm (fun hn => absurd (decide_eq_true hn) ht) (fun _ => k H locs ls hP hS hE hl)
      · cases h
  · cases h
theorem ax_jump2_ok (X : ax_X Ss Nw dC dI cy b base L xs p s m args c own cc nL) (hok : ax_ok own cc isInit pc x) (h : ax_jump2 x pc lv st M = some r)
    (k : ax_V dC dI cy b base p l e R s m args below meth c nL (cells + r.2.2.2.2.1) (slots + r.2.2.2.2.2) Q r.1 r.2.1 r.2.2.1 r.2.2.2.1) : ax_V dC dI cy b base p l e R s m args below meth c nL cells slots Q pc lv st M := by
  obtain ⟨hx, hb, hml, hown, hts, hF⟩ := X
  obtain ⟨hd, hw, hc⟩ := hok
  obtain ⟨i, len, r1, r2, kc⟩ := x
  intro H locs ls hP hS hE hl
  simp only [ax_jump2] at h
  split at h
  · have hlen : len = 3 := by simpa [ax_chk] using hc
    subst hlen
    unfold ax_br at h
    split at h
    · rename_i ht
      obtain ⟨h1, h2⟩ := ax_to_some h
      rw [h2] at k
      exact lv_icmp_eq hx hb hd h1 (fun _ => k H locs ls hP hS hE hl) (fun hn => absurd (of_decide_eq_true ht) hn)
    · rename_i ht
      split at h
      · rename_i hp
        cases h
        exact lv_icmp_eq hx hb hd (Int.toNat_of_nonneg hp).symm (fun hn => absurd (decide_eq_true hn) ht) (fun _ => k H locs ls hP hS hE hl)
      · cases h
  · have hlen : len = 3 := by simpa [ax_chk] using hc
    subst hlen
    unfold ax_br at h
    split at h
    · rename_i ht
      obtain ⟨h1, h2⟩ := ax_to_some h
      rw [h2] at k
      exact lv_icmp_ne hx hb hd h1 (fun _ => k H locs ls hP hS hE hl) (fun hn => absurd hn (of_decide_eq_true ht))
    · rename_i ht
      split at h
      · rename_i hp
        cases h
        exact lv_icmp_ne hx hb hd (Int.toNat_of_nonneg hp).symm (fun hn => absurd (decide_eq_true hn) ht) (fun _ => k H locs ls hP hS hE hl)
      · cases h
  · have hlen : len = 3 := by simpa [ax_chk] using hc
    subst hlen
    unfold ax_br at h
    split at h
    · rename_i ht
      obtain ⟨h1, h2⟩ := ax_to_some h
      rw [h2] at k
      exact lv_icmp_lt hx hb hd h1 (fun _ => k H locs ls hP hS hE hl) (fun hn => absurd (of_decide_eq_true ht) hn)
    · rename_i ht
      split at h
      · rename_i hp
        cases h
        exact lv_icmp_lt hx hb hd (Int.toNat_of_nonneg hp).symm (fun hn => absurd (decide_eq_true hn) ht) (fun _ => k H locs ls hP hS hE hl)
      · cases h
  · have hlen : len = 3 := by simpa [ax_chk] using hc
    subst hlen
    unfold ax_br at h
    split at h
    · rename_i ht
      obtain ⟨h1, h2⟩ := ax_to_some h
      rw [h2] at k
      exact lv_icmp_ge hx hb hd h1 (fun _ => k H locs ls hP hS hE hl) (fun hn => absurd (of_decide_eq_true ht) hn)
    · rename_i ht
      split at h
      · rename_i hp
        cases h
        exact lv_icmp_ge hx hb hd (Int.toNat_of_nonneg hp).symm (fun hn => absurd (decide_eq_true hn) ht) (fun _ => k H locs ls hP hS hE hl)
      · cases h
  · have hlen : len = 3 := by simpa [ax_chk] using hc
    subst hlen
    unfold ax_br at h
    split at h
    · rename_i ht
      obtain ⟨h1, h2⟩ := ax_to_some h
      rw [h2] at k
      exact lv_icmp_gt hx hb hd h1 (fun _ => k H locs ls hP hS hE hl) (fun hn => absurd (of_decide_eq_true ht) hn)
    · rename_i ht
      split at h
      · rename_i hp
        cases h
        exact lv_icmp_gt hx hb hd (Int.toNat_of_nonneg hp).symm (fun hn => absurd (decide_eq_true hn) ht) (fun _ => k H locs ls hP hS hE hl)
      · cases h
  · have hlen : len = 3 := by simpa [ax_chk] using hc
    subst hlen
    unfold ax_br at h
    split at h
    · rename_i ht
      obtain ⟨h1, h2⟩ := ax_to_some h
      rw [h2] at k
      exact lv_icmp_le hx hb hd h1 (fun _ => k H locs ls hP hS hE hl) (fun hn => absurd (of_decide_eq_true ht) hn)
    · rename_i ht
      split at h
      · rename_i hp
        cases h
        exact lv_icmp_le hx hb hd (Int.toNat_of_nonneg hp).symm (fun hn => absurd (decide_eq_true hn) ht) (fun _ => k H locs ls hP hS hE hl)
      · cases h
  · cases h
theorem ax_switch_ok (X : ax_X Ss Nw dC dI cy b base L xs p s m args c own cc nL) (hok : ax_ok own cc isInit pc x) (h : ax_switch x pc lv st M = some r)
    (k : ax_V dC dI cy b base p l e R s m args below meth c nL (cells + r.2.2.2.2.1) (slots + r.2.2.2.2.2) Q r.1 r.2.1 r.2.2.1 r.2.2.2.1) : ax_V dC dI cy b base p l e R s m args below meth c nL cells slots Q pc lv st M := by
  obtain ⟨hx, hb, hml, hown, hts, hF⟩ := X
  obtain ⟨hd, hw, hc⟩ := hok
  obtain ⟨i, len, r1, r2, kc⟩ := x
  intro H locs ls hP hS hE hl
  simp only [ax_switch] at h
  split at h
  · split at h
    · rename_i ho
      obtain ⟨h1, h2⟩ := ax_to_some h
      rw [h2] at k
      exact lv_tableOut hx hb hd ho h1 (k H locs ls hP hS hE hl)
    · rename_i ho
      split at h
      · rename_i off hoff
        obtain ⟨h1, h2⟩ := ax_to_some h
        rw [h2] at k
        exact lv_tableIn hx hb hd (fun q => ho (Or.inl q)) (fun q => ho (Or.inr q)) hoff h1 (k H locs ls hP hS hE hl)
      · cases h
  · split at h
    · rename_i hz
      obtain ⟨h1, h2⟩ := ax_to_some h
      rw [h2] at k
      exact lv_lookup hx hb hd hz rfl h1 (k H locs ls hP hS hE hl)
    · cases h
  · cases h
end AXQ2
