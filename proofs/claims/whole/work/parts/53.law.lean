section CD
abbrev lawTb : List (Int × Nat) := [(0, 152), (1, 256), (2, 292), (3, 348), (4, 416), (5, 540), (6, 620), (7, 712), (8, 725), (9, 738), (10, 794), (11, 862), (12, 918), (13, 998), (14, 1011), (15, 1067), (16, 1123), (17, 1191), (18, 1259), (19, 1315), (20, 1395), (21, 1462), (22, 1542), (23, 1598)]
theorem bTg_none {t : Nat} {a : Int} : ∀ {l : List (Int × Nat)}, (∀ q ∈ l, ¬ a = q.1) → bTg l t a = t
  | [], _ => rfl
  | q :: r, h => by
    unfold bTg
    rw [if_neg (h q List.mem_cons_self)]
    exact bTg_none (fun q hq => h q (List.mem_cons_of_mem _ hq))
theorem b_cn {n1 : Nat} {f : Bool} (hh : (if n1 = 0 then f else false) = true) : f = true ∧ 112 = 112 + n1 := by
  by_cases e : n1 = 0
  · rw [if_pos e] at hh
    exact ⟨hh, by omega⟩
  · rw [if_neg e] at hh
    cases hh
theorem b_in {a : Int} (h1 : -2147483648 ≤ a) (h2 : a ≤ 2147483647) : bR a := ⟨h1, h2⟩
theorem b_LR {L : Nat} (h : L ≤ 3072) : bR (L : Int) := by constructor <;> omega
theorem bCmp_0 {a b : Int} (h : a = b) : bCmp a b = 0 := by unfold bCmp; rw [if_neg (by omega), if_pos h]
section
variable {L : Nat} {xs : Nat → Int32} {d i pc len r1 r2 : Nat} {kc a b : Int} {lv : List (Nat × Value)} {st : List Value} {μ : bM} {o : Option bX}
theorem b_iadd1 (h : (ax_dt (ax_T i)).lookup pc = some (.iadd, len, r1, r2, kc)) (_ : bR (a + b)) (k : bD L xs d i (pc + len) lv (bI (a + b) :: st) μ o) : bD L xs d i pc lv (bI b :: bI a :: st) μ o := b_v h (fun _ => rfl) (congrArg Value.int (Int32.ofInt_add a b).symm) k
theorem b_isub1 (h : (ax_dt (ax_T i)).lookup pc = some (.isub, len, r1, r2, kc)) (_ : bR (a - b)) (k : bD L xs d i (pc + len) lv (bI (a - b) :: st) μ o) : bD L xs d i pc lv (bI b :: bI a :: st) μ o := b_v h (fun _ => rfl) (congrArg Value.int (Int32.ofInt_sub a b).symm) k
theorem b_inc1 {lv' : List (Nat × Value)} {n : Nat} {c : Int} (h : (ax_dt (ax_T i)).lookup pc = some (.iinc n c, len, r1, r2, kc)) (hl : lv.lookup n = some (bI a)) (hn : n < ax_dl (ax_T i)) (hw : bSub lv' (ax_st1 lv n (bI (a + c)))) (g : bR (a + c)) (k : bD L xs d i (pc + len) lv' st μ o) : bD L xs d i pc lv st μ o := by
  cases o with
  | none => intro _ r hr; cases hr
  | some r =>
    have := b_inc (E := some r) (κ := some) h hl hn hw (fun _ => k)
    unfold bG at this
    rw [if_pos g] at this
    exact this
end
section
variable {L : Nat} {xs : Nat → Int32} {d i pc j : Nat} {lv : List (Nat × Value)} {st as rest : List Value} {μ : bM} {x : ax_I} {o : Option bX}
theorem b_cPki {F : Option Int} {v : Int} (h : (ax_dt (ax_T i)).lookup pc = some x) (hc : ax_call x st = some (j, as, rest)) (hre : ∀ f, ax_recv ax_T x as (112, bH μ, f)) (h4 : (rest.map fun v => v.category).sum ≤ 8) (h5 : (lg_sl as).length ≤ ax_dl (ax_T j)) (hrt : ax_dr (ax_T j) = some .int) (kj : bD L xs d j 0 (lv_args 0 as) [] μ (F.bind (bPc μ))) (hF : F = some v) (k : (bR v) → bD L xs (d + 1) i (pc + 3) lv (bI v :: rest) μ o) : bD L xs (d + 1) i pc lv st μ o := by
  subst hF
  intro hok r hr
  obtain ⟨a1, a2, a3⟩ := kj hok (.inl v, μ, 0) rfl
  rw [hrt] at a2 a3
  obtain ⟨b1, b2, b3⟩ := k a2 a1 r hr
  refine ⟨b1, b2, fun f => ?_⟩
  rw [← ax_add0 (bOut (ax_dr (ax_T i)) r f)]
  exact bRn.call h hc (hre f) h4 h5 (a3 f) (fun hh => ⟨hh, rfl⟩) (b3 f)
theorem b_cMki {F : Option (Int × bM)} {v : Int} {μ1 : bM} (h : (ax_dt (ax_T i)).lookup pc = some x) (hc : ax_call x st = some (j, as, rest)) (hre : ∀ f, ax_recv ax_T x as (112, bH μ, f)) (h4 : (rest.map fun v => v.category).sum ≤ 8) (h5 : (lg_sl as).length ≤ ax_dl (ax_T j)) (hrt : ax_dr (ax_T j) = some .int) (kj : bD L xs d j 0 (lv_args 0 as) [] μ (F.bind bMc)) (hF : F = some (v, μ1)) (k : (bR v) → bD L xs (d + 1) i (pc + 3) lv (bI v :: rest) μ1 o) : bD L xs (d + 1) i pc lv st μ o := by
  subst hF
  intro hok r hr
  obtain ⟨a1, a2, a3⟩ := kj hok (.inl v, μ1, 0) rfl
  rw [hrt] at a2 a3
  obtain ⟨b1, b2, b3⟩ := k a2 a1 r hr
  refine ⟨b1, b2, fun f => ?_⟩
  rw [← ax_add0 (bOut (ax_dr (ax_T i)) r f)]
  exact bRn.call h hc (hre f) h4 h5 (a3 f) (fun hh => ⟨hh, rfl⟩) (b3 f)
theorem b_cKki {F : Option (Int × bM × Nat)} {v : Int} {μ1 : bM} {n1 : Nat} {w : Int ⊕ String} {μf : bM} {c : Nat} (h : (ax_dt (ax_T i)).lookup pc = some x) (hc : ax_call x st = some (j, as, rest)) (hre : ∀ f, ax_recv ax_T x as (112, bH μ, f)) (h4 : (rest.map fun v => v.category).sum ≤ 8) (h5 : (lg_sl as).length ≤ ax_dl (ax_T j)) (hrt : ax_dr (ax_T j) = some .int) (kj : bD L xs d j 0 (lv_args 0 as) [] μ (F.bind bCc)) (hF : F = some (v, μ1, n1)) (k : (bR v) → bD L xs (d + 1) i (pc + 3) lv (bI v :: rest) μ1 (some (w, μf, c))) : bD L xs (d + 1) i pc lv st μ (some (w, μf, c + n1)) := by
  subst hF
  intro hok r hr
  cases hr
  obtain ⟨a1, a2, a3⟩ := kj hok (.inl v, μ1, n1) rfl
  rw [hrt] at a2 a3
  obtain ⟨b1, b2, b3⟩ := k a2 a1 _ rfl
  refine ⟨b1, b2, fun f => ?_⟩
  have := bRn.call h hc (hre f) h4 h5 (a3 f) (fun hh => b_cn hh) (b3 _)
  refine c_eq rfl ?_ this
  unfold bOut ax_add
  simp only
  refine Prod.ext rfl (Prod.ext (Prod.ext rfl (Prod.ext rfl ?_)) (Prod.ext ?_ ?_))
  · show (if c = 0 then (if n1 = 0 then f else false) else false) = (if c + n1 = 0 then f else false)
    by_cases e1 : c = 0 <;> by_cases e2 : n1 = 0 <;> simp [e1, e2]
  · show n1 + c = c + n1; omega
  · show 6 * n1 + 6 * c = 6 * (c + n1); omega
theorem b_cPkz {F : Option Int} {v : Int} (h : (ax_dt (ax_T i)).lookup pc = some x) (hc : ax_call x st = some (j, as, rest)) (hre : ∀ f, ax_recv ax_T x as (112, bH μ, f)) (h4 : (rest.map fun v => v.category).sum ≤ 8) (h5 : (lg_sl as).length ≤ ax_dl (ax_T j)) (hrt : ax_dr (ax_T j) = some .boolean) (kj : bD L xs d j 0 (lv_args 0 as) [] μ (F.bind (bPc μ))) (hF : F = some v) (k : (0 ≤ v ∧ v ≤ 1) → bD L xs (d + 1) i (pc + 3) lv (bI v :: rest) μ o) : bD L xs (d + 1) i pc lv st μ o := by
  subst hF
  intro hok r hr
  obtain ⟨a1, a2, a3⟩ := kj hok (.inl v, μ, 0) rfl
  rw [hrt] at a2 a3
  obtain ⟨b1, b2, b3⟩ := k a2 a1 r hr
  refine ⟨b1, b2, fun f => ?_⟩
  rw [← ax_add0 (bOut (ax_dr (ax_T i)) r f)]
  exact bRn.call h hc (hre f) h4 h5 (a3 f) (fun hh => ⟨hh, rfl⟩) (b3 f)
theorem b_cMkz {F : Option (Int × bM)} {v : Int} {μ1 : bM} (h : (ax_dt (ax_T i)).lookup pc = some x) (hc : ax_call x st = some (j, as, rest)) (hre : ∀ f, ax_recv ax_T x as (112, bH μ, f)) (h4 : (rest.map fun v => v.category).sum ≤ 8) (h5 : (lg_sl as).length ≤ ax_dl (ax_T j)) (hrt : ax_dr (ax_T j) = some .boolean) (kj : bD L xs d j 0 (lv_args 0 as) [] μ (F.bind bMc)) (hF : F = some (v, μ1)) (k : (0 ≤ v ∧ v ≤ 1) → bD L xs (d + 1) i (pc + 3) lv (bI v :: rest) μ1 o) : bD L xs (d + 1) i pc lv st μ o := by
  subst hF
  intro hok r hr
  obtain ⟨a1, a2, a3⟩ := kj hok (.inl v, μ1, 0) rfl
  rw [hrt] at a2 a3
  obtain ⟨b1, b2, b3⟩ := k a2 a1 r hr
  refine ⟨b1, b2, fun f => ?_⟩
  rw [← ax_add0 (bOut (ax_dr (ax_T i)) r f)]
  exact bRn.call h hc (hre f) h4 h5 (a3 f) (fun hh => ⟨hh, rfl⟩) (b3 f)
theorem b_cKkz {F : Option (Int × bM × Nat)} {v : Int} {μ1 : bM} {n1 : Nat} {w : Int ⊕ String} {μf : bM} {c : Nat} (h : (ax_dt (ax_T i)).lookup pc = some x) (hc : ax_call x st = some (j, as, rest)) (hre : ∀ f, ax_recv ax_T x as (112, bH μ, f)) (h4 : (rest.map fun v => v.category).sum ≤ 8) (h5 : (lg_sl as).length ≤ ax_dl (ax_T j)) (hrt : ax_dr (ax_T j) = some .boolean) (kj : bD L xs d j 0 (lv_args 0 as) [] μ (F.bind bCc)) (hF : F = some (v, μ1, n1)) (k : (0 ≤ v ∧ v ≤ 1) → bD L xs (d + 1) i (pc + 3) lv (bI v :: rest) μ1 (some (w, μf, c))) : bD L xs (d + 1) i pc lv st μ (some (w, μf, c + n1)) := by
  subst hF
  intro hok r hr
  cases hr
  obtain ⟨a1, a2, a3⟩ := kj hok (.inl v, μ1, n1) rfl
  rw [hrt] at a2 a3
  obtain ⟨b1, b2, b3⟩ := k a2 a1 _ rfl
  refine ⟨b1, b2, fun f => ?_⟩
  have := bRn.call h hc (hre f) h4 h5 (a3 f) (fun hh => b_cn hh) (b3 _)
  refine c_eq rfl ?_ this
  unfold bOut ax_add
  simp only
  refine Prod.ext rfl (Prod.ext (Prod.ext rfl (Prod.ext rfl ?_)) (Prod.ext ?_ ?_))
  · show (if c = 0 then (if n1 = 0 then f else false) else false) = (if c + n1 = 0 then f else false)
    by_cases e1 : c = 0 <;> by_cases e2 : n1 = 0 <;> simp [e1, e2]
  · show n1 + c = c + n1; omega
  · show 6 * n1 + 6 * c = 6 * (c + n1); omega
theorem b_cPkl {F : Option Int} {v : Int} (h : (ax_dt (ax_T i)).lookup pc = some x) (hc : ax_call x st = some (j, as, rest)) (hre : ∀ f, ax_recv ax_T x as (112, bH μ, f)) (h4 : (rest.map fun v => v.category).sum ≤ 8) (h5 : (lg_sl as).length ≤ ax_dl (ax_T j)) (hrt : ax_dr (ax_T j) = some .long) (kj : bD L xs d j 0 (lv_args 0 as) [] μ (F.bind (bPc μ))) (hF : F = some v) (k : (bRL v) → bD L xs (d + 1) i (pc + 3) lv (bLg v :: rest) μ o) : bD L xs (d + 1) i pc lv st μ o := by
  subst hF
  intro hok r hr
  obtain ⟨a1, a2, a3⟩ := kj hok (.inl v, μ, 0) rfl
  rw [hrt] at a2 a3
  obtain ⟨b1, b2, b3⟩ := k a2 a1 r hr
  refine ⟨b1, b2, fun f => ?_⟩
  rw [← ax_add0 (bOut (ax_dr (ax_T i)) r f)]
  exact bRn.call h hc (hre f) h4 h5 (a3 f) (fun hh => ⟨hh, rfl⟩) (b3 f)
theorem b_cMkl {F : Option (Int × bM)} {v : Int} {μ1 : bM} (h : (ax_dt (ax_T i)).lookup pc = some x) (hc : ax_call x st = some (j, as, rest)) (hre : ∀ f, ax_recv ax_T x as (112, bH μ, f)) (h4 : (rest.map fun v => v.category).sum ≤ 8) (h5 : (lg_sl as).length ≤ ax_dl (ax_T j)) (hrt : ax_dr (ax_T j) = some .long) (kj : bD L xs d j 0 (lv_args 0 as) [] μ (F.bind bMc)) (hF : F = some (v, μ1)) (k : (bRL v) → bD L xs (d + 1) i (pc + 3) lv (bLg v :: rest) μ1 o) : bD L xs (d + 1) i pc lv st μ o := by
  subst hF
  intro hok r hr
  obtain ⟨a1, a2, a3⟩ := kj hok (.inl v, μ1, 0) rfl
  rw [hrt] at a2 a3
  obtain ⟨b1, b2, b3⟩ := k a2 a1 r hr
  refine ⟨b1, b2, fun f => ?_⟩
  rw [← ax_add0 (bOut (ax_dr (ax_T i)) r f)]
  exact bRn.call h hc (hre f) h4 h5 (a3 f) (fun hh => ⟨hh, rfl⟩) (b3 f)
theorem b_cKkl {F : Option (Int × bM × Nat)} {v : Int} {μ1 : bM} {n1 : Nat} {w : Int ⊕ String} {μf : bM} {c : Nat} (h : (ax_dt (ax_T i)).lookup pc = some x) (hc : ax_call x st = some (j, as, rest)) (hre : ∀ f, ax_recv ax_T x as (112, bH μ, f)) (h4 : (rest.map fun v => v.category).sum ≤ 8) (h5 : (lg_sl as).length ≤ ax_dl (ax_T j)) (hrt : ax_dr (ax_T j) = some .long) (kj : bD L xs d j 0 (lv_args 0 as) [] μ (F.bind bCc)) (hF : F = some (v, μ1, n1)) (k : (bRL v) → bD L xs (d + 1) i (pc + 3) lv (bLg v :: rest) μ1 (some (w, μf, c))) : bD L xs (d + 1) i pc lv st μ (some (w, μf, c + n1)) := by
  subst hF
  intro hok r hr
  cases hr
  obtain ⟨a1, a2, a3⟩ := kj hok (.inl v, μ1, n1) rfl
  rw [hrt] at a2 a3
  obtain ⟨b1, b2, b3⟩ := k a2 a1 _ rfl
  refine ⟨b1, b2, fun f => ?_⟩
  have := bRn.call h hc (hre f) h4 h5 (a3 f) (fun hh => b_cn hh) (b3 _)
  refine c_eq rfl ?_ this
  unfold bOut ax_add
  simp only
  refine Prod.ext rfl (Prod.ext (Prod.ext rfl (Prod.ext rfl ?_)) (Prod.ext ?_ ?_))
  · show (if c = 0 then (if n1 = 0 then f else false) else false) = (if c + n1 = 0 then f else false)
    by_cases e1 : c = 0 <;> by_cases e2 : n1 = 0 <;> simp [e1, e2]
  · show n1 + c = c + n1; omega
  · show 6 * n1 + 6 * c = 6 * (c + n1); omega
theorem b_cPkv {F : Option Int} {v : Int} (h : (ax_dt (ax_T i)).lookup pc = some x) (hc : ax_call x st = some (j, as, rest)) (hre : ∀ f, ax_recv ax_T x as (112, bH μ, f)) (h4 : (rest.map fun v => v.category).sum ≤ 8) (h5 : (lg_sl as).length ≤ ax_dl (ax_T j)) (hrt : ax_dr (ax_T j) = none) (kj : bD L xs d j 0 (lv_args 0 as) [] μ (F.bind (bPc μ))) (hF : F = some v) (k : (True) → bD L xs (d + 1) i (pc + 3) lv (rest) μ o) : bD L xs (d + 1) i pc lv st μ o := by
  subst hF
  intro hok r hr
  obtain ⟨a1, a2, a3⟩ := kj hok (.inl v, μ, 0) rfl
  rw [hrt] at a2 a3
  obtain ⟨b1, b2, b3⟩ := k a2 a1 r hr
  refine ⟨b1, b2, fun f => ?_⟩
  rw [← ax_add0 (bOut (ax_dr (ax_T i)) r f)]
  exact bRn.call h hc (hre f) h4 h5 (a3 f) (fun hh => ⟨hh, rfl⟩) (b3 f)
theorem b_cMkv {F : Option (Int × bM)} {v : Int} {μ1 : bM} (h : (ax_dt (ax_T i)).lookup pc = some x) (hc : ax_call x st = some (j, as, rest)) (hre : ∀ f, ax_recv ax_T x as (112, bH μ, f)) (h4 : (rest.map fun v => v.category).sum ≤ 8) (h5 : (lg_sl as).length ≤ ax_dl (ax_T j)) (hrt : ax_dr (ax_T j) = none) (kj : bD L xs d j 0 (lv_args 0 as) [] μ (F.bind bMc)) (hF : F = some (v, μ1)) (k : (True) → bD L xs (d + 1) i (pc + 3) lv (rest) μ1 o) : bD L xs (d + 1) i pc lv st μ o := by
  subst hF
  intro hok r hr
  obtain ⟨a1, a2, a3⟩ := kj hok (.inl v, μ1, 0) rfl
  rw [hrt] at a2 a3
  obtain ⟨b1, b2, b3⟩ := k a2 a1 r hr
  refine ⟨b1, b2, fun f => ?_⟩
  rw [← ax_add0 (bOut (ax_dr (ax_T i)) r f)]
  exact bRn.call h hc (hre f) h4 h5 (a3 f) (fun hh => ⟨hh, rfl⟩) (b3 f)
theorem b_cKkv {F : Option (Int × bM × Nat)} {v : Int} {μ1 : bM} {n1 : Nat} {w : Int ⊕ String} {μf : bM} {c : Nat} (h : (ax_dt (ax_T i)).lookup pc = some x) (hc : ax_call x st = some (j, as, rest)) (hre : ∀ f, ax_recv ax_T x as (112, bH μ, f)) (h4 : (rest.map fun v => v.category).sum ≤ 8) (h5 : (lg_sl as).length ≤ ax_dl (ax_T j)) (hrt : ax_dr (ax_T j) = none) (kj : bD L xs d j 0 (lv_args 0 as) [] μ (F.bind bCc)) (hF : F = some (v, μ1, n1)) (k : (True) → bD L xs (d + 1) i (pc + 3) lv (rest) μ1 (some (w, μf, c))) : bD L xs (d + 1) i pc lv st μ (some (w, μf, c + n1)) := by
  subst hF
  intro hok r hr
  cases hr
  obtain ⟨a1, a2, a3⟩ := kj hok (.inl v, μ1, n1) rfl
  rw [hrt] at a2 a3
  obtain ⟨b1, b2, b3⟩ := k a2 a1 _ rfl
  refine ⟨b1, b2, fun f => ?_⟩
  have := bRn.call h hc (hre f) h4 h5 (a3 f) (fun hh => b_cn hh) (b3 _)
  refine c_eq rfl ?_ this
  unfold bOut ax_add
  simp only
  refine Prod.ext rfl (Prod.ext (Prod.ext rfl (Prod.ext rfl ?_)) (Prod.ext ?_ ?_))
  · show (if c = 0 then (if n1 = 0 then f else false) else false) = (if c + n1 = 0 then f else false)
    by_cases e1 : c = 0 <;> by_cases e2 : n1 = 0 <;> simp [e1, e2]
  · show n1 + c = c + n1; omega
  · show 6 * n1 + 6 * c = 6 * (c + n1); omega
end
theorem g_0 {L : Nat} {xs : Nat → Int32} {i k b : Int} {c n1 : Nat} {μ μ1 μ2 μf : bM} (hL : L ≤ 3072) (hi : 0 ≤ i ∧ i + 6 ≤ (L : Int)) (hop : bAnd (xs i.toNat).toInt 31 = 0) (hF1 : F_L_feed (xs (i + 1).toNat).toInt (xs (i + 2).toNat).toInt (xs (i + 3).toNat).toInt (xs (i + 4).toNat).toInt (xs (i + 5).toNat).toInt μ = some (k, μ1, n1)) (hF2 : F_X11_feed (xs (i + 1).toNat).toInt (xs (i + 2).toNat).toInt (xs (i + 3).toNat).toInt (xs (i + 4).toNat).toInt (xs (i + 5).toNat).toInt μ1 = some (b, μ2)) (hEQ : μ2 76 0 = k) (ho : k = 0 → μ2 112 0 = b) (kont : bD L xs 9 240 23 [(0, .ref 0), (1, .ref 1), (2, .ref 76), (3, .ref 112), (4, bI (i + 6))] [] μ2 (some (.inl 1, μf, c))) : bD L xs 9 240 23 [(0, .ref 0), (1, .ref 1), (2, .ref 76), (3, .ref 112), (4, bI i)] [] μ (some (.inl 1, μf, (c + n1))) := by
  have hiR : bR i := b_in (by omega) (by omega)
  refine bD.ok fun hk => ?_
  refine b_s (pc' := 25) (lv1 := [(0, .ref 0), (1, .ref 1), (2, .ref 76), (3, .ref 112), (4, bI i)]) (st' := [bI i]) l240_23 (fun _ => rfl) ?_
  refine b_s (pc' := 26) (lv1 := [(0, .ref 0), (1, .ref 1), (2, .ref 76), (3, .ref 112), (4, bI i)]) (st' := [.ref 0, bI i]) l240_25 (fun _ => rfl) ?_
  refine b_scl l240_26 (b_pc (pc' := 27) rfl ?_)
  refine b_bipush l240_27 (by decide) (b_pc (pc' := 29) rfl ?_)
  refine b_isub1 l240_29 (b_in (by omega) (by omega)) (b_pc (pc' := 30) rfl ?_)
  refine b_neg (c := ((L : Int) - 6) < i) (E1 := none) (E2 := some (.inl 1, μf, (c + n1))) (κ := some) (by omega) ?_
  refine b_igt (pt := 1661) l240_30 hiR (b_in (by omega) (by omega)) (by decide) rfl (fun z => absurd z (by omega)) (fun _ => b_pc (pc' := 33) rfl ?_)
  refine b_s (pc' := 34) (lv1 := [(0, .ref 0), (1, .ref 1), (2, .ref 76), (3, .ref 112), (4, bI i)]) (st' := [.ref 0]) l240_33 (fun _ => rfl) ?_
  refine b_s (pc' := 36) (lv1 := [(0, .ref 0), (1, .ref 1), (2, .ref 76), (3, .ref 112), (4, bI i)]) (st' := [bI i, .ref 0]) l240_34 (fun _ => rfl) ?_
  refine b_scr l240_36 ⟨by omega, by omega⟩ (by omega) (b_pc (pc' := 37) rfl ?_)
  refine b_bipush l240_37 (by decide) (b_pc (pc' := 39) rfl ?_)
  refine b_iand l240_39 (b_pc (pc' := 40) rfl ?_)
  refine b_tsw l240_40 (bi_rg _) (by decide) (by decide) (by decide) ?_
  refine b_pc (pc' := bTg [(0, 152), (1, 256), (2, 292), (3, 348), (4, 416), (5, 540), (6, 620), (7, 712), (8, 725), (9, 738), (10, 794), (11, 862), (12, 918), (13, 998), (14, 1011), (15, 1067), (16, 1123), (17, 1191), (18, 1259), (19, 1315), (20, 1395), (21, 1462), (22, 1542), (23, 1598)] 1655 (bAnd (xs i.toNat).toInt 31)) rfl ?_
  refine b_pc (pc' := 152) (by rw [hop]; rfl) ?_
  refine b_s (pc' := 153) (lv1 := [(0, .ref 0), (1, .ref 1), (2, .ref 76), (3, .ref 112), (4, bI i)]) (st' := [.ref 1]) l240_152 (fun _ => rfl) ?_
  refine b_s (pc' := 154) (lv1 := [(0, .ref 0), (1, .ref 1), (2, .ref 76), (3, .ref 112), (4, bI i)]) (st' := [.ref 0, .ref 1]) l240_153 (fun _ => rfl) ?_
  refine b_s (pc' := 156) (lv1 := [(0, .ref 0), (1, .ref 1), (2, .ref 76), (3, .ref 112), (4, bI i)]) (st' := [bI i, .ref 0, .ref 1]) l240_154 (fun _ => rfl) ?_
  refine b_s (pc' := 157) (lv1 := [(0, .ref 0), (1, .ref 1), (2, .ref 76), (3, .ref 112), (4, bI i)]) (st' := [bI 1, bI i, .ref 0, .ref 1]) l240_156 (fun _ => rfl) ?_
  refine b_iadd1 l240_157 (b_in (by omega) (by omega)) (b_pc (pc' := 158) rfl ?_)
  refine b_scr l240_158 ⟨by omega, by omega⟩ (by omega) (b_pc (pc' := 159) rfl ?_)
  refine b_s (pc' := 160) (lv1 := [(0, .ref 0), (1, .ref 1), (2, .ref 76), (3, .ref 112), (4, bI i)]) (st' := [.ref 0, bI (xs (i + 1).toNat).toInt, .ref 1]) l240_159 (fun _ => rfl) ?_
  refine b_s (pc' := 162) (lv1 := [(0, .ref 0), (1, .ref 1), (2, .ref 76), (3, .ref 112), (4, bI i)]) (st' := [bI i, .ref 0, bI (xs (i + 1).toNat).toInt, .ref 1]) l240_160 (fun _ => rfl) ?_
  refine b_s (pc' := 163) (lv1 := [(0, .ref 0), (1, .ref 1), (2, .ref 76), (3, .ref 112), (4, bI i)]) (st' := [bI 2, bI i, .ref 0, bI (xs (i + 1).toNat).toInt, .ref 1]) l240_162 (fun _ => rfl) ?_
  refine b_iadd1 l240_163 (b_in (by omega) (by omega)) (b_pc (pc' := 164) rfl ?_)
  refine b_scr l240_164 ⟨by omega, by omega⟩ (by omega) (b_pc (pc' := 165) rfl ?_)
  refine b_s (pc' := 166) (lv1 := [(0, .ref 0), (1, .ref 1), (2, .ref 76), (3, .ref 112), (4, bI i)]) (st' := [.ref 0, bI (xs (i + 2).toNat).toInt, bI (xs (i + 1).toNat).toInt, .ref 1]) l240_165 (fun _ => rfl) ?_
  refine b_s (pc' := 168) (lv1 := [(0, .ref 0), (1, .ref 1), (2, .ref 76), (3, .ref 112), (4, bI i)]) (st' := [bI i, .ref 0, bI (xs (i + 2).toNat).toInt, bI (xs (i + 1).toNat).toInt, .ref 1]) l240_166 (fun _ => rfl) ?_
  refine b_s (pc' := 169) (lv1 := [(0, .ref 0), (1, .ref 1), (2, .ref 76), (3, .ref 112), (4, bI i)]) (st' := [bI 3, bI i, .ref 0, bI (xs (i + 2).toNat).toInt, bI (xs (i + 1).toNat).toInt, .ref 1]) l240_168 (fun _ => rfl) ?_
  refine b_iadd1 l240_169 (b_in (by omega) (by omega)) (b_pc (pc' := 170) rfl ?_)
  refine b_scr l240_170 ⟨by omega, by omega⟩ (by omega) (b_pc (pc' := 171) rfl ?_)
  refine b_s (pc' := 172) (lv1 := [(0, .ref 0), (1, .ref 1), (2, .ref 76), (3, .ref 112), (4, bI i)]) (st' := [.ref 0, bI (xs (i + 3).toNat).toInt, bI (xs (i + 2).toNat).toInt, bI (xs (i + 1).toNat).toInt, .ref 1]) l240_171 (fun _ => rfl) ?_
  refine b_s (pc' := 174) (lv1 := [(0, .ref 0), (1, .ref 1), (2, .ref 76), (3, .ref 112), (4, bI i)]) (st' := [bI i, .ref 0, bI (xs (i + 3).toNat).toInt, bI (xs (i + 2).toNat).toInt, bI (xs (i + 1).toNat).toInt, .ref 1]) l240_172 (fun _ => rfl) ?_
  refine b_s (pc' := 175) (lv1 := [(0, .ref 0), (1, .ref 1), (2, .ref 76), (3, .ref 112), (4, bI i)]) (st' := [bI 4, bI i, .ref 0, bI (xs (i + 3).toNat).toInt, bI (xs (i + 2).toNat).toInt, bI (xs (i + 1).toNat).toInt, .ref 1]) l240_174 (fun _ => rfl) ?_
  refine b_iadd1 l240_175 (b_in (by omega) (by omega)) (b_pc (pc' := 176) rfl ?_)
  refine b_scr l240_176 ⟨by omega, by omega⟩ (by omega) (b_pc (pc' := 177) rfl ?_)
  refine b_s (pc' := 178) (lv1 := [(0, .ref 0), (1, .ref 1), (2, .ref 76), (3, .ref 112), (4, bI i)]) (st' := [.ref 0, bI (xs (i + 4).toNat).toInt, bI (xs (i + 3).toNat).toInt, bI (xs (i + 2).toNat).toInt, bI (xs (i + 1).toNat).toInt, .ref 1]) l240_177 (fun _ => rfl) ?_
  refine b_s (pc' := 180) (lv1 := [(0, .ref 0), (1, .ref 1), (2, .ref 76), (3, .ref 112), (4, bI i)]) (st' := [bI i, .ref 0, bI (xs (i + 4).toNat).toInt, bI (xs (i + 3).toNat).toInt, bI (xs (i + 2).toNat).toInt, bI (xs (i + 1).toNat).toInt, .ref 1]) l240_178 (fun _ => rfl) ?_
  refine b_s (pc' := 181) (lv1 := [(0, .ref 0), (1, .ref 1), (2, .ref 76), (3, .ref 112), (4, bI i)]) (st' := [bI 5, bI i, .ref 0, bI (xs (i + 4).toNat).toInt, bI (xs (i + 3).toNat).toInt, bI (xs (i + 2).toNat).toInt, bI (xs (i + 1).toNat).toInt, .ref 1]) l240_180 (fun _ => rfl) ?_
  refine b_iadd1 l240_181 (b_in (by omega) (by omega)) (b_pc (pc' := 182) rfl ?_)
  refine b_scr l240_182 ⟨by omega, by omega⟩ (by omega) (b_pc (pc' := 183) rfl ?_)
  refine b_s (pc' := 184) (lv1 := [(0, .ref 0), (1, .ref 1), (2, .ref 76), (3, .ref 112), (4, bI i)]) (st' := [.ref 112, bI (xs (i + 5).toNat).toInt, bI (xs (i + 4).toNat).toInt, bI (xs (i + 3).toNat).toInt, bI (xs (i + 2).toNat).toInt, bI (xs (i + 1).toNat).toInt, .ref 1]) l240_183 (fun _ => rfl) ?_
  refine b_cKki l240_184 rfl (fun _ => trivial) (Nat.le_of_ble_eq_true rfl) (Nat.le_of_ble_eq_true rfl) rfl (r_L_feed (xs (i + 1).toNat).toInt (bi_rg _) (xs (i + 2).toNat).toInt (bi_rg _) (xs (i + 3).toNat).toInt (bi_rg _) (xs (i + 4).toNat).toInt (bi_rg _) (xs (i + 5).toNat).toInt (bi_rg _)) hF1 fun hv1 => bD.ok fun hk1 => b_pc (pc' := 187) rfl ?_
  refine b_w (pc' := 189) (lv1 := ax_st1 [(0, .ref 0), (1, .ref 1), (2, .ref 76), (3, .ref 112), (4, bI i)] 5 (bI k)) (lv' := [(0, .ref 0), (1, .ref 1), (2, .ref 76), (3, .ref 112), (4, bI i), (5, bI k)]) (st' := []) l240_187 (fun _ => rfl) (bSb rfl (bSb rfl (bSb rfl (bSb rfl (bSb rfl (bSb rfl bSn)))))) ?_
  refine b_s (pc' := 190) (lv1 := [(0, .ref 0), (1, .ref 1), (2, .ref 76), (3, .ref 112), (4, bI i), (5, bI k)]) (st' := [.ref 76]) l240_189 (fun _ => rfl) ?_
  refine b_s (pc' := 191) (lv1 := [(0, .ref 0), (1, .ref 1), (2, .ref 76), (3, .ref 112), (4, bI i), (5, bI k)]) (st' := [.ref 0, .ref 76]) l240_190 (fun _ => rfl) ?_
  refine b_s (pc' := 193) (lv1 := [(0, .ref 0), (1, .ref 1), (2, .ref 76), (3, .ref 112), (4, bI i), (5, bI k)]) (st' := [bI i, .ref 0, .ref 76]) l240_191 (fun _ => rfl) ?_
  refine b_s (pc' := 194) (lv1 := [(0, .ref 0), (1, .ref 1), (2, .ref 76), (3, .ref 112), (4, bI i), (5, bI k)]) (st' := [bI 1, bI i, .ref 0, .ref 76]) l240_193 (fun _ => rfl) ?_
  refine b_iadd1 l240_194 (b_in (by omega) (by omega)) (b_pc (pc' := 195) rfl ?_)
  refine b_scr l240_195 ⟨by omega, by omega⟩ (by omega) (b_pc (pc' := 196) rfl ?_)
  refine b_s (pc' := 197) (lv1 := [(0, .ref 0), (1, .ref 1), (2, .ref 76), (3, .ref 112), (4, bI i), (5, bI k)]) (st' := [.ref 0, bI (xs (i + 1).toNat).toInt, .ref 76]) l240_196 (fun _ => rfl) ?_
  refine b_s (pc' := 199) (lv1 := [(0, .ref 0), (1, .ref 1), (2, .ref 76), (3, .ref 112), (4, bI i), (5, bI k)]) (st' := [bI i, .ref 0, bI (xs (i + 1).toNat).toInt, .ref 76]) l240_197 (fun _ => rfl) ?_
  refine b_s (pc' := 200) (lv1 := [(0, .ref 0), (1, .ref 1), (2, .ref 76), (3, .ref 112), (4, bI i), (5, bI k)]) (st' := [bI 2, bI i, .ref 0, bI (xs (i + 1).toNat).toInt, .ref 76]) l240_199 (fun _ => rfl) ?_
  refine b_iadd1 l240_200 (b_in (by omega) (by omega)) (b_pc (pc' := 201) rfl ?_)
  refine b_scr l240_201 ⟨by omega, by omega⟩ (by omega) (b_pc (pc' := 202) rfl ?_)
  refine b_s (pc' := 203) (lv1 := [(0, .ref 0), (1, .ref 1), (2, .ref 76), (3, .ref 112), (4, bI i), (5, bI k)]) (st' := [.ref 0, bI (xs (i + 2).toNat).toInt, bI (xs (i + 1).toNat).toInt, .ref 76]) l240_202 (fun _ => rfl) ?_
  refine b_s (pc' := 205) (lv1 := [(0, .ref 0), (1, .ref 1), (2, .ref 76), (3, .ref 112), (4, bI i), (5, bI k)]) (st' := [bI i, .ref 0, bI (xs (i + 2).toNat).toInt, bI (xs (i + 1).toNat).toInt, .ref 76]) l240_203 (fun _ => rfl) ?_
  refine b_s (pc' := 206) (lv1 := [(0, .ref 0), (1, .ref 1), (2, .ref 76), (3, .ref 112), (4, bI i), (5, bI k)]) (st' := [bI 3, bI i, .ref 0, bI (xs (i + 2).toNat).toInt, bI (xs (i + 1).toNat).toInt, .ref 76]) l240_205 (fun _ => rfl) ?_
  refine b_iadd1 l240_206 (b_in (by omega) (by omega)) (b_pc (pc' := 207) rfl ?_)
  refine b_scr l240_207 ⟨by omega, by omega⟩ (by omega) (b_pc (pc' := 208) rfl ?_)
  refine b_s (pc' := 209) (lv1 := [(0, .ref 0), (1, .ref 1), (2, .ref 76), (3, .ref 112), (4, bI i), (5, bI k)]) (st' := [.ref 0, bI (xs (i + 3).toNat).toInt, bI (xs (i + 2).toNat).toInt, bI (xs (i + 1).toNat).toInt, .ref 76]) l240_208 (fun _ => rfl) ?_
  refine b_s (pc' := 211) (lv1 := [(0, .ref 0), (1, .ref 1), (2, .ref 76), (3, .ref 112), (4, bI i), (5, bI k)]) (st' := [bI i, .ref 0, bI (xs (i + 3).toNat).toInt, bI (xs (i + 2).toNat).toInt, bI (xs (i + 1).toNat).toInt, .ref 76]) l240_209 (fun _ => rfl) ?_
  refine b_s (pc' := 212) (lv1 := [(0, .ref 0), (1, .ref 1), (2, .ref 76), (3, .ref 112), (4, bI i), (5, bI k)]) (st' := [bI 4, bI i, .ref 0, bI (xs (i + 3).toNat).toInt, bI (xs (i + 2).toNat).toInt, bI (xs (i + 1).toNat).toInt, .ref 76]) l240_211 (fun _ => rfl) ?_
  refine b_iadd1 l240_212 (b_in (by omega) (by omega)) (b_pc (pc' := 213) rfl ?_)
  refine b_scr l240_213 ⟨by omega, by omega⟩ (by omega) (b_pc (pc' := 214) rfl ?_)
  refine b_s (pc' := 215) (lv1 := [(0, .ref 0), (1, .ref 1), (2, .ref 76), (3, .ref 112), (4, bI i), (5, bI k)]) (st' := [.ref 0, bI (xs (i + 4).toNat).toInt, bI (xs (i + 3).toNat).toInt, bI (xs (i + 2).toNat).toInt, bI (xs (i + 1).toNat).toInt, .ref 76]) l240_214 (fun _ => rfl) ?_
  refine b_s (pc' := 217) (lv1 := [(0, .ref 0), (1, .ref 1), (2, .ref 76), (3, .ref 112), (4, bI i), (5, bI k)]) (st' := [bI i, .ref 0, bI (xs (i + 4).toNat).toInt, bI (xs (i + 3).toNat).toInt, bI (xs (i + 2).toNat).toInt, bI (xs (i + 1).toNat).toInt, .ref 76]) l240_215 (fun _ => rfl) ?_
  refine b_s (pc' := 218) (lv1 := [(0, .ref 0), (1, .ref 1), (2, .ref 76), (3, .ref 112), (4, bI i), (5, bI k)]) (st' := [bI 5, bI i, .ref 0, bI (xs (i + 4).toNat).toInt, bI (xs (i + 3).toNat).toInt, bI (xs (i + 2).toNat).toInt, bI (xs (i + 1).toNat).toInt, .ref 76]) l240_217 (fun _ => rfl) ?_
  refine b_iadd1 l240_218 (b_in (by omega) (by omega)) (b_pc (pc' := 219) rfl ?_)
  refine b_scr l240_219 ⟨by omega, by omega⟩ (by omega) (b_pc (pc' := 220) rfl ?_)
  refine b_cMki l240_220 rfl (b_rc (ci := 9) (by rfl) (by decide) (by decide +kernel)) (Nat.le_of_ble_eq_true rfl) (Nat.le_of_ble_eq_true rfl) rfl (r_X11_feed (xs (i + 1).toNat).toInt (bi_rg _) (xs (i + 2).toNat).toInt (bi_rg _) (xs (i + 3).toNat).toInt (bi_rg _) (xs (i + 4).toNat).toInt (bi_rg _) (xs (i + 5).toNat).toInt (bi_rg _)) hF2 fun hv2 => bD.ok fun hk2 => b_pc (pc' := 223) rfl ?_
  refine b_w (pc' := 225) (lv1 := ax_st1 [(0, .ref 0), (1, .ref 1), (2, .ref 76), (3, .ref 112), (4, bI i), (5, bI k)] 6 (bI b)) (lv' := [(0, .ref 0), (1, .ref 1), (2, .ref 76), (3, .ref 112), (4, bI i), (5, bI k), (6, bI b)]) (st' := []) l240_223 (fun _ => rfl) (bSb rfl (bSb rfl (bSb rfl (bSb rfl (bSb rfl (bSb rfl (bSb rfl bSn))))))) ?_
  refine b_s (pc' := 226) (lv1 := [(0, .ref 0), (1, .ref 1), (2, .ref 76), (3, .ref 112), (4, bI i), (5, bI k), (6, bI b)]) (st' := [.ref 76]) l240_225 (fun _ => rfl) ?_
  refine b_cPki (v := μ2 76 0) l240_226 rfl (b_rc (ci := 9) (by rfl) (by decide) (by decide +kernel)) (Nat.le_of_ble_eq_true rfl) (Nat.le_of_ble_eq_true rfl) rfl (r_X11_thrown ) rfl fun hw1 => b_pc (pc' := 229) rfl ?_
  refine b_s (pc' := 231) (lv1 := [(0, .ref 0), (1, .ref 1), (2, .ref 76), (3, .ref 112), (4, bI i), (5, bI k), (6, bI b)]) (st' := [bI k, bI (μ2 76 0)]) l240_229 (fun _ => rfl) ?_
  refine b_pos (c := (μ2 76 0) = k) (E1 := some (.inl 1, μf, c)) (E2 := none) (κ := some) hEQ ?_
  refine b_ieq (pt := 236) l240_231 hw1 hv1 (by decide) rfl (fun _ => ?_) (fun z => absurd hEQ z)
  refine b_s (pc' := 238) (lv1 := [(0, .ref 0), (1, .ref 1), (2, .ref 76), (3, .ref 112), (4, bI i), (5, bI k), (6, bI b)]) (st' := [bI k]) l240_236 (fun _ => rfl) ?_
  by_cases hk0 : k = 0
  · refine b_neg (c := ¬ k = 0) (E1 := none) (E2 := some (.inl 1, μf, c)) (κ := some) (fun z => z hk0) ?_
    refine b_zne (pt := 253) l240_238 hv1 (by decide) rfl (fun z => absurd hk0 z) (fun _ => b_pc (pc' := 241) rfl ?_)
    refine b_s (pc' := 242) (lv1 := [(0, .ref 0), (1, .ref 1), (2, .ref 76), (3, .ref 112), (4, bI i), (5, bI k), (6, bI b)]) (st' := [.ref 112]) l240_241 (fun _ => rfl) ?_
    refine b_s (pc' := 243) (lv1 := [(0, .ref 0), (1, .ref 1), (2, .ref 76), (3, .ref 112), (4, bI i), (5, bI k), (6, bI b)]) (st' := [bI 0, .ref 112]) l240_242 (fun _ => rfl) ?_
    refine b_lal l240_243 (by rfl) (by decide) (b_pc (pc' := 244) rfl ?_)
    refine b_s (pc' := 246) (lv1 := [(0, .ref 0), (1, .ref 1), (2, .ref 76), (3, .ref 112), (4, bI i), (5, bI k), (6, bI b)]) (st' := [bI b, bLg (μ2 112 0)]) l240_244 (fun _ => rfl) ?_
    refine b_i2l l240_246 hv2 (b_pc (pc' := 247) rfl ?_)
    refine b_lcmp l240_247 (bO_l hk2 (show bSh 112 = (2, 1) from rfl)) (bR_L hv2) (b_pc (pc' := 248) rfl ?_)
    refine b_pos (c := (bCmp (μ2 112 0) b) = 0) (E1 := some (.inl 1, μf, c)) (E2 := none) (κ := some) (bCmp_0 (ho hk0)) ?_
    refine b_zeq (pt := 253) l240_248 (bCmp_R _ _) (by decide) rfl (fun _ => ?_) (fun z => absurd (bCmp_0 (ho hk0)) z)
    refine b_s (pc' := 1655) (lv1 := [(0, .ref 0), (1, .ref 1), (2, .ref 76), (3, .ref 112), (4, bI i), (5, bI k), (6, bI b)]) (st' := []) l240_253 (fun _ => rfl) ?_
    refine b_inc1 (lv' := [(0, .ref 0), (1, .ref 1), (2, .ref 76), (3, .ref 112), (4, bI (i + 6))]) l240_1655 rfl (by decide +kernel) (bSb rfl (bSb rfl (bSb rfl (bSb rfl (bSb rfl bSn))))) (b_in (by omega) (by omega)) (b_pc (pc' := 1658) rfl ?_)
    refine b_s (pc' := 23) (lv1 := [(0, .ref 0), (1, .ref 1), (2, .ref 76), (3, .ref 112), (4, bI (i + 6))]) (st' := []) l240_1658 (fun _ => rfl) ?_
    exact kont
  · refine b_pos (c := ¬ k = 0) (E1 := some (.inl 1, μf, c)) (E2 := none) (κ := some) hk0 ?_
    refine b_zne (pt := 253) l240_238 hv1 (by decide) rfl (fun _ => ?_) (fun z => absurd hk0 z)
    refine b_s (pc' := 1655) (lv1 := [(0, .ref 0), (1, .ref 1), (2, .ref 76), (3, .ref 112), (4, bI i), (5, bI k), (6, bI b)]) (st' := []) l240_253 (fun _ => rfl) ?_
    refine b_inc1 (lv' := [(0, .ref 0), (1, .ref 1), (2, .ref 76), (3, .ref 112), (4, bI (i + 6))]) l240_1655 rfl (by decide +kernel) (bSb rfl (bSb rfl (bSb rfl (bSb rfl (bSb rfl bSn))))) (b_in (by omega) (by omega)) (b_pc (pc' := 1658) rfl ?_)
    refine b_s (pc' := 23) (lv1 := [(0, .ref 0), (1, .ref 1), (2, .ref 76), (3, .ref 112), (4, bI (i + 6))]) (st' := []) l240_1658 (fun _ => rfl) ?_
    exact kont
theorem g_1 {L : Nat} {xs : Nat → Int32} {i k b : Int} {c n1 : Nat} {μ μ1 μ2 μf : bM} (hL : L ≤ 3072) (hi : 0 ≤ i ∧ i + 6 ≤ (L : Int)) (hop : bAnd (xs i.toNat).toInt 31 = 1) (hF1 : F_L_end (xs (i + 1).toNat).toInt μ = some (k, μ1, n1)) (hF2 : F_X11_end (xs (i + 1).toNat).toInt μ1 = some (b, μ2)) (hEQ : μ2 76 0 = k) (kont : bD L xs 9 240 23 [(0, .ref 0), (1, .ref 1), (2, .ref 76), (3, .ref 112), (4, bI (i + 6))] [] μ2 (some (.inl 1, μf, c))) : bD L xs 9 240 23 [(0, .ref 0), (1, .ref 1), (2, .ref 76), (3, .ref 112), (4, bI i)] [] μ (some (.inl 1, μf, (c + n1))) := by
  have hiR : bR i := b_in (by omega) (by omega)
  refine bD.ok fun hk => ?_
  refine b_s (pc' := 25) (lv1 := [(0, .ref 0), (1, .ref 1), (2, .ref 76), (3, .ref 112), (4, bI i)]) (st' := [bI i]) l240_23 (fun _ => rfl) ?_
  refine b_s (pc' := 26) (lv1 := [(0, .ref 0), (1, .ref 1), (2, .ref 76), (3, .ref 112), (4, bI i)]) (st' := [.ref 0, bI i]) l240_25 (fun _ => rfl) ?_
  refine b_scl l240_26 (b_pc (pc' := 27) rfl ?_)
  refine b_bipush l240_27 (by decide) (b_pc (pc' := 29) rfl ?_)
  refine b_isub1 l240_29 (b_in (by omega) (by omega)) (b_pc (pc' := 30) rfl ?_)
  refine b_neg (c := ((L : Int) - 6) < i) (E1 := none) (E2 := some (.inl 1, μf, (c + n1))) (κ := some) (by omega) ?_
  refine b_igt (pt := 1661) l240_30 hiR (b_in (by omega) (by omega)) (by decide) rfl (fun z => absurd z (by omega)) (fun _ => b_pc (pc' := 33) rfl ?_)
  refine b_s (pc' := 34) (lv1 := [(0, .ref 0), (1, .ref 1), (2, .ref 76), (3, .ref 112), (4, bI i)]) (st' := [.ref 0]) l240_33 (fun _ => rfl) ?_
  refine b_s (pc' := 36) (lv1 := [(0, .ref 0), (1, .ref 1), (2, .ref 76), (3, .ref 112), (4, bI i)]) (st' := [bI i, .ref 0]) l240_34 (fun _ => rfl) ?_
  refine b_scr l240_36 ⟨by omega, by omega⟩ (by omega) (b_pc (pc' := 37) rfl ?_)
  refine b_bipush l240_37 (by decide) (b_pc (pc' := 39) rfl ?_)
  refine b_iand l240_39 (b_pc (pc' := 40) rfl ?_)
  refine b_tsw l240_40 (bi_rg _) (by decide) (by decide) (by decide) ?_
  refine b_pc (pc' := bTg [(0, 152), (1, 256), (2, 292), (3, 348), (4, 416), (5, 540), (6, 620), (7, 712), (8, 725), (9, 738), (10, 794), (11, 862), (12, 918), (13, 998), (14, 1011), (15, 1067), (16, 1123), (17, 1191), (18, 1259), (19, 1315), (20, 1395), (21, 1462), (22, 1542), (23, 1598)] 1655 (bAnd (xs i.toNat).toInt 31)) rfl ?_
  refine b_pc (pc' := 256) (by rw [hop]; rfl) ?_
  refine b_s (pc' := 257) (lv1 := [(0, .ref 0), (1, .ref 1), (2, .ref 76), (3, .ref 112), (4, bI i)]) (st' := [.ref 1]) l240_256 (fun _ => rfl) ?_
  refine b_s (pc' := 258) (lv1 := [(0, .ref 0), (1, .ref 1), (2, .ref 76), (3, .ref 112), (4, bI i)]) (st' := [.ref 0, .ref 1]) l240_257 (fun _ => rfl) ?_
  refine b_s (pc' := 260) (lv1 := [(0, .ref 0), (1, .ref 1), (2, .ref 76), (3, .ref 112), (4, bI i)]) (st' := [bI i, .ref 0, .ref 1]) l240_258 (fun _ => rfl) ?_
  refine b_s (pc' := 261) (lv1 := [(0, .ref 0), (1, .ref 1), (2, .ref 76), (3, .ref 112), (4, bI i)]) (st' := [bI 1, bI i, .ref 0, .ref 1]) l240_260 (fun _ => rfl) ?_
  refine b_iadd1 l240_261 (b_in (by omega) (by omega)) (b_pc (pc' := 262) rfl ?_)
  refine b_scr l240_262 ⟨by omega, by omega⟩ (by omega) (b_pc (pc' := 263) rfl ?_)
  refine b_cKki l240_263 rfl (fun _ => trivial) (Nat.le_of_ble_eq_true rfl) (Nat.le_of_ble_eq_true rfl) rfl (r_L_end (xs (i + 1).toNat).toInt (bi_rg _)) hF1 fun hv1 => bD.ok fun hk1 => b_pc (pc' := 266) rfl ?_
  refine b_w (pc' := 268) (lv1 := ax_st1 [(0, .ref 0), (1, .ref 1), (2, .ref 76), (3, .ref 112), (4, bI i)] 5 (bI k)) (lv' := [(0, .ref 0), (1, .ref 1), (2, .ref 76), (3, .ref 112), (4, bI i), (5, bI k)]) (st' := []) l240_266 (fun _ => rfl) (bSb rfl (bSb rfl (bSb rfl (bSb rfl (bSb rfl (bSb rfl bSn)))))) ?_
  refine b_s (pc' := 269) (lv1 := [(0, .ref 0), (1, .ref 1), (2, .ref 76), (3, .ref 112), (4, bI i), (5, bI k)]) (st' := [.ref 76]) l240_268 (fun _ => rfl) ?_
  refine b_s (pc' := 270) (lv1 := [(0, .ref 0), (1, .ref 1), (2, .ref 76), (3, .ref 112), (4, bI i), (5, bI k)]) (st' := [.ref 0, .ref 76]) l240_269 (fun _ => rfl) ?_
  refine b_s (pc' := 272) (lv1 := [(0, .ref 0), (1, .ref 1), (2, .ref 76), (3, .ref 112), (4, bI i), (5, bI k)]) (st' := [bI i, .ref 0, .ref 76]) l240_270 (fun _ => rfl) ?_
  refine b_s (pc' := 273) (lv1 := [(0, .ref 0), (1, .ref 1), (2, .ref 76), (3, .ref 112), (4, bI i), (5, bI k)]) (st' := [bI 1, bI i, .ref 0, .ref 76]) l240_272 (fun _ => rfl) ?_
  refine b_iadd1 l240_273 (b_in (by omega) (by omega)) (b_pc (pc' := 274) rfl ?_)
  refine b_scr l240_274 ⟨by omega, by omega⟩ (by omega) (b_pc (pc' := 275) rfl ?_)
  refine b_cMkv l240_275 rfl (b_rc (ci := 9) (by rfl) (by decide) (by decide +kernel)) (Nat.le_of_ble_eq_true rfl) (Nat.le_of_ble_eq_true rfl) rfl (r_X11_end (xs (i + 1).toNat).toInt (bi_rg _)) hF2 fun hv2 => bD.ok fun hk2 => b_pc (pc' := 278) rfl ?_
  refine b_s (pc' := 279) (lv1 := [(0, .ref 0), (1, .ref 1), (2, .ref 76), (3, .ref 112), (4, bI i), (5, bI k)]) (st' := [.ref 76]) l240_278 (fun _ => rfl) ?_
  refine b_cPki (v := μ2 76 0) l240_279 rfl (b_rc (ci := 9) (by rfl) (by decide) (by decide +kernel)) (Nat.le_of_ble_eq_true rfl) (Nat.le_of_ble_eq_true rfl) rfl (r_X11_thrown ) rfl fun hw1 => b_pc (pc' := 282) rfl ?_
  refine b_s (pc' := 284) (lv1 := [(0, .ref 0), (1, .ref 1), (2, .ref 76), (3, .ref 112), (4, bI i), (5, bI k)]) (st' := [bI k, bI (μ2 76 0)]) l240_282 (fun _ => rfl) ?_
  refine b_pos (c := (μ2 76 0) = k) (E1 := some (.inl 1, μf, c)) (E2 := none) (κ := some) hEQ ?_
  refine b_ieq (pt := 289) l240_284 hw1 hv1 (by decide) rfl (fun _ => ?_) (fun z => absurd hEQ z)
  refine b_s (pc' := 1655) (lv1 := [(0, .ref 0), (1, .ref 1), (2, .ref 76), (3, .ref 112), (4, bI i), (5, bI k)]) (st' := []) l240_289 (fun _ => rfl) ?_
  refine b_inc1 (lv' := [(0, .ref 0), (1, .ref 1), (2, .ref 76), (3, .ref 112), (4, bI (i + 6))]) l240_1655 rfl (by decide +kernel) (bSb rfl (bSb rfl (bSb rfl (bSb rfl (bSb rfl bSn))))) (b_in (by omega) (by omega)) (b_pc (pc' := 1658) rfl ?_)
  refine b_s (pc' := 23) (lv1 := [(0, .ref 0), (1, .ref 1), (2, .ref 76), (3, .ref 112), (4, bI (i + 6))]) (st' := []) l240_1658 (fun _ => rfl) ?_
  exact kont
theorem g_2 {L : Nat} {xs : Nat → Int32} {i k b : Int} {c n1 : Nat} {μ μ1 μ2 μf : bM} (hL : L ≤ 3072) (hi : 0 ≤ i ∧ i + 6 ≤ (L : Int)) (hop : bAnd (xs i.toNat).toInt 31 = 2) (hF1 : F_L_unit (xs (i + 1).toNat).toInt μ = some (k, μ1, n1)) (hF2 : F_X11_unit (xs (i + 1).toNat).toInt μ1 = some (b, μ2)) (hEQ : μ2 76 0 = k) (ho : k = 0 → μ2 112 0 = b) (kont : bD L xs 9 240 23 [(0, .ref 0), (1, .ref 1), (2, .ref 76), (3, .ref 112), (4, bI (i + 6))] [] μ2 (some (.inl 1, μf, c))) : bD L xs 9 240 23 [(0, .ref 0), (1, .ref 1), (2, .ref 76), (3, .ref 112), (4, bI i)] [] μ (some (.inl 1, μf, (c + n1))) := by
  have hiR : bR i := b_in (by omega) (by omega)
  refine bD.ok fun hk => ?_
  refine b_s (pc' := 25) (lv1 := [(0, .ref 0), (1, .ref 1), (2, .ref 76), (3, .ref 112), (4, bI i)]) (st' := [bI i]) l240_23 (fun _ => rfl) ?_
  refine b_s (pc' := 26) (lv1 := [(0, .ref 0), (1, .ref 1), (2, .ref 76), (3, .ref 112), (4, bI i)]) (st' := [.ref 0, bI i]) l240_25 (fun _ => rfl) ?_
  refine b_scl l240_26 (b_pc (pc' := 27) rfl ?_)
  refine b_bipush l240_27 (by decide) (b_pc (pc' := 29) rfl ?_)
  refine b_isub1 l240_29 (b_in (by omega) (by omega)) (b_pc (pc' := 30) rfl ?_)
  refine b_neg (c := ((L : Int) - 6) < i) (E1 := none) (E2 := some (.inl 1, μf, (c + n1))) (κ := some) (by omega) ?_
  refine b_igt (pt := 1661) l240_30 hiR (b_in (by omega) (by omega)) (by decide) rfl (fun z => absurd z (by omega)) (fun _ => b_pc (pc' := 33) rfl ?_)
  refine b_s (pc' := 34) (lv1 := [(0, .ref 0), (1, .ref 1), (2, .ref 76), (3, .ref 112), (4, bI i)]) (st' := [.ref 0]) l240_33 (fun _ => rfl) ?_
  refine b_s (pc' := 36) (lv1 := [(0, .ref 0), (1, .ref 1), (2, .ref 76), (3, .ref 112), (4, bI i)]) (st' := [bI i, .ref 0]) l240_34 (fun _ => rfl) ?_
  refine b_scr l240_36 ⟨by omega, by omega⟩ (by omega) (b_pc (pc' := 37) rfl ?_)
  refine b_bipush l240_37 (by decide) (b_pc (pc' := 39) rfl ?_)
  refine b_iand l240_39 (b_pc (pc' := 40) rfl ?_)
  refine b_tsw l240_40 (bi_rg _) (by decide) (by decide) (by decide) ?_
  refine b_pc (pc' := bTg [(0, 152), (1, 256), (2, 292), (3, 348), (4, 416), (5, 540), (6, 620), (7, 712), (8, 725), (9, 738), (10, 794), (11, 862), (12, 918), (13, 998), (14, 1011), (15, 1067), (16, 1123), (17, 1191), (18, 1259), (19, 1315), (20, 1395), (21, 1462), (22, 1542), (23, 1598)] 1655 (bAnd (xs i.toNat).toInt 31)) rfl ?_
  refine b_pc (pc' := 292) (by rw [hop]; rfl) ?_
  refine b_s (pc' := 293) (lv1 := [(0, .ref 0), (1, .ref 1), (2, .ref 76), (3, .ref 112), (4, bI i)]) (st' := [.ref 1]) l240_292 (fun _ => rfl) ?_
  refine b_s (pc' := 294) (lv1 := [(0, .ref 0), (1, .ref 1), (2, .ref 76), (3, .ref 112), (4, bI i)]) (st' := [.ref 0, .ref 1]) l240_293 (fun _ => rfl) ?_
  refine b_s (pc' := 296) (lv1 := [(0, .ref 0), (1, .ref 1), (2, .ref 76), (3, .ref 112), (4, bI i)]) (st' := [bI i, .ref 0, .ref 1]) l240_294 (fun _ => rfl) ?_
  refine b_s (pc' := 297) (lv1 := [(0, .ref 0), (1, .ref 1), (2, .ref 76), (3, .ref 112), (4, bI i)]) (st' := [bI 1, bI i, .ref 0, .ref 1]) l240_296 (fun _ => rfl) ?_
  refine b_iadd1 l240_297 (b_in (by omega) (by omega)) (b_pc (pc' := 298) rfl ?_)
  refine b_scr l240_298 ⟨by omega, by omega⟩ (by omega) (b_pc (pc' := 299) rfl ?_)
  refine b_s (pc' := 300) (lv1 := [(0, .ref 0), (1, .ref 1), (2, .ref 76), (3, .ref 112), (4, bI i)]) (st' := [.ref 112, bI (xs (i + 1).toNat).toInt, .ref 1]) l240_299 (fun _ => rfl) ?_
  refine b_cKki l240_300 rfl (fun _ => trivial) (Nat.le_of_ble_eq_true rfl) (Nat.le_of_ble_eq_true rfl) rfl (r_L_unit (xs (i + 1).toNat).toInt (bi_rg _)) hF1 fun hv1 => bD.ok fun hk1 => b_pc (pc' := 303) rfl ?_
  refine b_w (pc' := 305) (lv1 := ax_st1 [(0, .ref 0), (1, .ref 1), (2, .ref 76), (3, .ref 112), (4, bI i)] 5 (bI k)) (lv' := [(0, .ref 0), (1, .ref 1), (2, .ref 76), (3, .ref 112), (4, bI i), (5, bI k)]) (st' := []) l240_303 (fun _ => rfl) (bSb rfl (bSb rfl (bSb rfl (bSb rfl (bSb rfl (bSb rfl bSn)))))) ?_
  refine b_s (pc' := 306) (lv1 := [(0, .ref 0), (1, .ref 1), (2, .ref 76), (3, .ref 112), (4, bI i), (5, bI k)]) (st' := [.ref 76]) l240_305 (fun _ => rfl) ?_
  refine b_s (pc' := 307) (lv1 := [(0, .ref 0), (1, .ref 1), (2, .ref 76), (3, .ref 112), (4, bI i), (5, bI k)]) (st' := [.ref 0, .ref 76]) l240_306 (fun _ => rfl) ?_
  refine b_s (pc' := 309) (lv1 := [(0, .ref 0), (1, .ref 1), (2, .ref 76), (3, .ref 112), (4, bI i), (5, bI k)]) (st' := [bI i, .ref 0, .ref 76]) l240_307 (fun _ => rfl) ?_
  refine b_s (pc' := 310) (lv1 := [(0, .ref 0), (1, .ref 1), (2, .ref 76), (3, .ref 112), (4, bI i), (5, bI k)]) (st' := [bI 1, bI i, .ref 0, .ref 76]) l240_309 (fun _ => rfl) ?_
  refine b_iadd1 l240_310 (b_in (by omega) (by omega)) (b_pc (pc' := 311) rfl ?_)
  refine b_scr l240_311 ⟨by omega, by omega⟩ (by omega) (b_pc (pc' := 312) rfl ?_)
  refine b_cMki l240_312 rfl (b_rc (ci := 9) (by rfl) (by decide) (by decide +kernel)) (Nat.le_of_ble_eq_true rfl) (Nat.le_of_ble_eq_true rfl) rfl (r_X11_unit (xs (i + 1).toNat).toInt (bi_rg _)) hF2 fun hv2 => bD.ok fun hk2 => b_pc (pc' := 315) rfl ?_
  refine b_w (pc' := 317) (lv1 := ax_st1 [(0, .ref 0), (1, .ref 1), (2, .ref 76), (3, .ref 112), (4, bI i), (5, bI k)] 6 (bI b)) (lv' := [(0, .ref 0), (1, .ref 1), (2, .ref 76), (3, .ref 112), (4, bI i), (5, bI k), (6, bI b)]) (st' := []) l240_315 (fun _ => rfl) (bSb rfl (bSb rfl (bSb rfl (bSb rfl (bSb rfl (bSb rfl (bSb rfl bSn))))))) ?_
  refine b_s (pc' := 318) (lv1 := [(0, .ref 0), (1, .ref 1), (2, .ref 76), (3, .ref 112), (4, bI i), (5, bI k), (6, bI b)]) (st' := [.ref 76]) l240_317 (fun _ => rfl) ?_
  refine b_cPki (v := μ2 76 0) l240_318 rfl (b_rc (ci := 9) (by rfl) (by decide) (by decide +kernel)) (Nat.le_of_ble_eq_true rfl) (Nat.le_of_ble_eq_true rfl) rfl (r_X11_thrown ) rfl fun hw1 => b_pc (pc' := 321) rfl ?_
  refine b_s (pc' := 323) (lv1 := [(0, .ref 0), (1, .ref 1), (2, .ref 76), (3, .ref 112), (4, bI i), (5, bI k), (6, bI b)]) (st' := [bI k, bI (μ2 76 0)]) l240_321 (fun _ => rfl) ?_
  refine b_pos (c := (μ2 76 0) = k) (E1 := some (.inl 1, μf, c)) (E2 := none) (κ := some) hEQ ?_
  refine b_ieq (pt := 328) l240_323 hw1 hv1 (by decide) rfl (fun _ => ?_) (fun z => absurd hEQ z)
  refine b_s (pc' := 330) (lv1 := [(0, .ref 0), (1, .ref 1), (2, .ref 76), (3, .ref 112), (4, bI i), (5, bI k), (6, bI b)]) (st' := [bI k]) l240_328 (fun _ => rfl) ?_
  by_cases hk0 : k = 0
  · refine b_neg (c := ¬ k = 0) (E1 := none) (E2 := some (.inl 1, μf, c)) (κ := some) (fun z => z hk0) ?_
    refine b_zne (pt := 345) l240_330 hv1 (by decide) rfl (fun z => absurd hk0 z) (fun _ => b_pc (pc' := 333) rfl ?_)
    refine b_s (pc' := 334) (lv1 := [(0, .ref 0), (1, .ref 1), (2, .ref 76), (3, .ref 112), (4, bI i), (5, bI k), (6, bI b)]) (st' := [.ref 112]) l240_333 (fun _ => rfl) ?_
    refine b_s (pc' := 335) (lv1 := [(0, .ref 0), (1, .ref 1), (2, .ref 76), (3, .ref 112), (4, bI i), (5, bI k), (6, bI b)]) (st' := [bI 0, .ref 112]) l240_334 (fun _ => rfl) ?_
    refine b_lal l240_335 (by rfl) (by decide) (b_pc (pc' := 336) rfl ?_)
    refine b_s (pc' := 338) (lv1 := [(0, .ref 0), (1, .ref 1), (2, .ref 76), (3, .ref 112), (4, bI i), (5, bI k), (6, bI b)]) (st' := [bI b, bLg (μ2 112 0)]) l240_336 (fun _ => rfl) ?_
    refine b_i2l l240_338 hv2 (b_pc (pc' := 339) rfl ?_)
    refine b_lcmp l240_339 (bO_l hk2 (show bSh 112 = (2, 1) from rfl)) (bR_L hv2) (b_pc (pc' := 340) rfl ?_)
    refine b_pos (c := (bCmp (μ2 112 0) b) = 0) (E1 := some (.inl 1, μf, c)) (E2 := none) (κ := some) (bCmp_0 (ho hk0)) ?_
    refine b_zeq (pt := 345) l240_340 (bCmp_R _ _) (by decide) rfl (fun _ => ?_) (fun z => absurd (bCmp_0 (ho hk0)) z)
    refine b_s (pc' := 1655) (lv1 := [(0, .ref 0), (1, .ref 1), (2, .ref 76), (3, .ref 112), (4, bI i), (5, bI k), (6, bI b)]) (st' := []) l240_345 (fun _ => rfl) ?_
    refine b_inc1 (lv' := [(0, .ref 0), (1, .ref 1), (2, .ref 76), (3, .ref 112), (4, bI (i + 6))]) l240_1655 rfl (by decide +kernel) (bSb rfl (bSb rfl (bSb rfl (bSb rfl (bSb rfl bSn))))) (b_in (by omega) (by omega)) (b_pc (pc' := 1658) rfl ?_)
    refine b_s (pc' := 23) (lv1 := [(0, .ref 0), (1, .ref 1), (2, .ref 76), (3, .ref 112), (4, bI (i + 6))]) (st' := []) l240_1658 (fun _ => rfl) ?_
    exact kont
  · refine b_pos (c := ¬ k = 0) (E1 := some (.inl 1, μf, c)) (E2 := none) (κ := some) hk0 ?_
    refine b_zne (pt := 345) l240_330 hv1 (by decide) rfl (fun _ => ?_) (fun z => absurd hk0 z)
    refine b_s (pc' := 1655) (lv1 := [(0, .ref 0), (1, .ref 1), (2, .ref 76), (3, .ref 112), (4, bI i), (5, bI k), (6, bI b)]) (st' := []) l240_345 (fun _ => rfl) ?_
    refine b_inc1 (lv' := [(0, .ref 0), (1, .ref 1), (2, .ref 76), (3, .ref 112), (4, bI (i + 6))]) l240_1655 rfl (by decide +kernel) (bSb rfl (bSb rfl (bSb rfl (bSb rfl (bSb rfl bSn))))) (b_in (by omega) (by omega)) (b_pc (pc' := 1658) rfl ?_)
    refine b_s (pc' := 23) (lv1 := [(0, .ref 0), (1, .ref 1), (2, .ref 76), (3, .ref 112), (4, bI (i + 6))]) (st' := []) l240_1658 (fun _ => rfl) ?_
    exact kont
theorem g_3 {L : Nat} {xs : Nat → Int32} {i k b : Int} {c n1 : Nat} {μ μ1 μ2 μf : bM} (hL : L ≤ 3072) (hi : 0 ≤ i ∧ i + 6 ≤ (L : Int)) (hop : bAnd (xs i.toNat).toInt 31 = 3) (hF1 : F_L_entry (xs (i + 1).toNat).toInt (xs (i + 2).toNat).toInt μ = some (k, μ1, n1)) (hF2 : F_X11_entry (xs (i + 1).toNat).toInt (xs (i + 2).toNat).toInt μ1 = some (b, μ2)) (hEQ : μ2 76 0 = k) (ho : k = 0 → μ2 112 0 = b) (kont : bD L xs 9 240 23 [(0, .ref 0), (1, .ref 1), (2, .ref 76), (3, .ref 112), (4, bI (i + 6))] [] μ2 (some (.inl 1, μf, c))) : bD L xs 9 240 23 [(0, .ref 0), (1, .ref 1), (2, .ref 76), (3, .ref 112), (4, bI i)] [] μ (some (.inl 1, μf, (c + n1))) := by
  have hiR : bR i := b_in (by omega) (by omega)
  refine bD.ok fun hk => ?_
  refine b_s (pc' := 25) (lv1 := [(0, .ref 0), (1, .ref 1), (2, .ref 76), (3, .ref 112), (4, bI i)]) (st' := [bI i]) l240_23 (fun _ => rfl) ?_
  refine b_s (pc' := 26) (lv1 := [(0, .ref 0), (1, .ref 1), (2, .ref 76), (3, .ref 112), (4, bI i)]) (st' := [.ref 0, bI i]) l240_25 (fun _ => rfl) ?_
  refine b_scl l240_26 (b_pc (pc' := 27) rfl ?_)
  refine b_bipush l240_27 (by decide) (b_pc (pc' := 29) rfl ?_)
  refine b_isub1 l240_29 (b_in (by omega) (by omega)) (b_pc (pc' := 30) rfl ?_)
  refine b_neg (c := ((L : Int) - 6) < i) (E1 := none) (E2 := some (.inl 1, μf, (c + n1))) (κ := some) (by omega) ?_
  refine b_igt (pt := 1661) l240_30 hiR (b_in (by omega) (by omega)) (by decide) rfl (fun z => absurd z (by omega)) (fun _ => b_pc (pc' := 33) rfl ?_)
  refine b_s (pc' := 34) (lv1 := [(0, .ref 0), (1, .ref 1), (2, .ref 76), (3, .ref 112), (4, bI i)]) (st' := [.ref 0]) l240_33 (fun _ => rfl) ?_
  refine b_s (pc' := 36) (lv1 := [(0, .ref 0), (1, .ref 1), (2, .ref 76), (3, .ref 112), (4, bI i)]) (st' := [bI i, .ref 0]) l240_34 (fun _ => rfl) ?_
  refine b_scr l240_36 ⟨by omega, by omega⟩ (by omega) (b_pc (pc' := 37) rfl ?_)
  refine b_bipush l240_37 (by decide) (b_pc (pc' := 39) rfl ?_)
  refine b_iand l240_39 (b_pc (pc' := 40) rfl ?_)
  refine b_tsw l240_40 (bi_rg _) (by decide) (by decide) (by decide) ?_
  refine b_pc (pc' := bTg [(0, 152), (1, 256), (2, 292), (3, 348), (4, 416), (5, 540), (6, 620), (7, 712), (8, 725), (9, 738), (10, 794), (11, 862), (12, 918), (13, 998), (14, 1011), (15, 1067), (16, 1123), (17, 1191), (18, 1259), (19, 1315), (20, 1395), (21, 1462), (22, 1542), (23, 1598)] 1655 (bAnd (xs i.toNat).toInt 31)) rfl ?_
  refine b_pc (pc' := 348) (by rw [hop]; rfl) ?_
  refine b_s (pc' := 349) (lv1 := [(0, .ref 0), (1, .ref 1), (2, .ref 76), (3, .ref 112), (4, bI i)]) (st' := [.ref 1]) l240_348 (fun _ => rfl) ?_
  refine b_s (pc' := 350) (lv1 := [(0, .ref 0), (1, .ref 1), (2, .ref 76), (3, .ref 112), (4, bI i)]) (st' := [.ref 0, .ref 1]) l240_349 (fun _ => rfl) ?_
  refine b_s (pc' := 352) (lv1 := [(0, .ref 0), (1, .ref 1), (2, .ref 76), (3, .ref 112), (4, bI i)]) (st' := [bI i, .ref 0, .ref 1]) l240_350 (fun _ => rfl) ?_
  refine b_s (pc' := 353) (lv1 := [(0, .ref 0), (1, .ref 1), (2, .ref 76), (3, .ref 112), (4, bI i)]) (st' := [bI 1, bI i, .ref 0, .ref 1]) l240_352 (fun _ => rfl) ?_
  refine b_iadd1 l240_353 (b_in (by omega) (by omega)) (b_pc (pc' := 354) rfl ?_)
  refine b_scr l240_354 ⟨by omega, by omega⟩ (by omega) (b_pc (pc' := 355) rfl ?_)
  refine b_s (pc' := 356) (lv1 := [(0, .ref 0), (1, .ref 1), (2, .ref 76), (3, .ref 112), (4, bI i)]) (st' := [.ref 0, bI (xs (i + 1).toNat).toInt, .ref 1]) l240_355 (fun _ => rfl) ?_
  refine b_s (pc' := 358) (lv1 := [(0, .ref 0), (1, .ref 1), (2, .ref 76), (3, .ref 112), (4, bI i)]) (st' := [bI i, .ref 0, bI (xs (i + 1).toNat).toInt, .ref 1]) l240_356 (fun _ => rfl) ?_
  refine b_s (pc' := 359) (lv1 := [(0, .ref 0), (1, .ref 1), (2, .ref 76), (3, .ref 112), (4, bI i)]) (st' := [bI 2, bI i, .ref 0, bI (xs (i + 1).toNat).toInt, .ref 1]) l240_358 (fun _ => rfl) ?_
  refine b_iadd1 l240_359 (b_in (by omega) (by omega)) (b_pc (pc' := 360) rfl ?_)
  refine b_scr l240_360 ⟨by omega, by omega⟩ (by omega) (b_pc (pc' := 361) rfl ?_)
  refine b_s (pc' := 362) (lv1 := [(0, .ref 0), (1, .ref 1), (2, .ref 76), (3, .ref 112), (4, bI i)]) (st' := [.ref 112, bI (xs (i + 2).toNat).toInt, bI (xs (i + 1).toNat).toInt, .ref 1]) l240_361 (fun _ => rfl) ?_
  refine b_cKki l240_362 rfl (fun _ => trivial) (Nat.le_of_ble_eq_true rfl) (Nat.le_of_ble_eq_true rfl) rfl (r_L_entry (xs (i + 1).toNat).toInt (bi_rg _) (xs (i + 2).toNat).toInt (bi_rg _)) hF1 fun hv1 => bD.ok fun hk1 => b_pc (pc' := 365) rfl ?_
  refine b_w (pc' := 367) (lv1 := ax_st1 [(0, .ref 0), (1, .ref 1), (2, .ref 76), (3, .ref 112), (4, bI i)] 5 (bI k)) (lv' := [(0, .ref 0), (1, .ref 1), (2, .ref 76), (3, .ref 112), (4, bI i), (5, bI k)]) (st' := []) l240_365 (fun _ => rfl) (bSb rfl (bSb rfl (bSb rfl (bSb rfl (bSb rfl (bSb rfl bSn)))))) ?_
  refine b_s (pc' := 368) (lv1 := [(0, .ref 0), (1, .ref 1), (2, .ref 76), (3, .ref 112), (4, bI i), (5, bI k)]) (st' := [.ref 76]) l240_367 (fun _ => rfl) ?_
  refine b_s (pc' := 369) (lv1 := [(0, .ref 0), (1, .ref 1), (2, .ref 76), (3, .ref 112), (4, bI i), (5, bI k)]) (st' := [.ref 0, .ref 76]) l240_368 (fun _ => rfl) ?_
  refine b_s (pc' := 371) (lv1 := [(0, .ref 0), (1, .ref 1), (2, .ref 76), (3, .ref 112), (4, bI i), (5, bI k)]) (st' := [bI i, .ref 0, .ref 76]) l240_369 (fun _ => rfl) ?_
  refine b_s (pc' := 372) (lv1 := [(0, .ref 0), (1, .ref 1), (2, .ref 76), (3, .ref 112), (4, bI i), (5, bI k)]) (st' := [bI 1, bI i, .ref 0, .ref 76]) l240_371 (fun _ => rfl) ?_
  refine b_iadd1 l240_372 (b_in (by omega) (by omega)) (b_pc (pc' := 373) rfl ?_)
  refine b_scr l240_373 ⟨by omega, by omega⟩ (by omega) (b_pc (pc' := 374) rfl ?_)
  refine b_s (pc' := 375) (lv1 := [(0, .ref 0), (1, .ref 1), (2, .ref 76), (3, .ref 112), (4, bI i), (5, bI k)]) (st' := [.ref 0, bI (xs (i + 1).toNat).toInt, .ref 76]) l240_374 (fun _ => rfl) ?_
  refine b_s (pc' := 377) (lv1 := [(0, .ref 0), (1, .ref 1), (2, .ref 76), (3, .ref 112), (4, bI i), (5, bI k)]) (st' := [bI i, .ref 0, bI (xs (i + 1).toNat).toInt, .ref 76]) l240_375 (fun _ => rfl) ?_
  refine b_s (pc' := 378) (lv1 := [(0, .ref 0), (1, .ref 1), (2, .ref 76), (3, .ref 112), (4, bI i), (5, bI k)]) (st' := [bI 2, bI i, .ref 0, bI (xs (i + 1).toNat).toInt, .ref 76]) l240_377 (fun _ => rfl) ?_
  refine b_iadd1 l240_378 (b_in (by omega) (by omega)) (b_pc (pc' := 379) rfl ?_)
  refine b_scr l240_379 ⟨by omega, by omega⟩ (by omega) (b_pc (pc' := 380) rfl ?_)
  refine b_cMki l240_380 rfl (b_rc (ci := 9) (by rfl) (by decide) (by decide +kernel)) (Nat.le_of_ble_eq_true rfl) (Nat.le_of_ble_eq_true rfl) rfl (r_X11_entry (xs (i + 1).toNat).toInt (bi_rg _) (xs (i + 2).toNat).toInt (bi_rg _)) hF2 fun hv2 => bD.ok fun hk2 => b_pc (pc' := 383) rfl ?_
  refine b_w (pc' := 385) (lv1 := ax_st1 [(0, .ref 0), (1, .ref 1), (2, .ref 76), (3, .ref 112), (4, bI i), (5, bI k)] 6 (bI b)) (lv' := [(0, .ref 0), (1, .ref 1), (2, .ref 76), (3, .ref 112), (4, bI i), (5, bI k), (6, bI b)]) (st' := []) l240_383 (fun _ => rfl) (bSb rfl (bSb rfl (bSb rfl (bSb rfl (bSb rfl (bSb rfl (bSb rfl bSn))))))) ?_
  refine b_s (pc' := 386) (lv1 := [(0, .ref 0), (1, .ref 1), (2, .ref 76), (3, .ref 112), (4, bI i), (5, bI k), (6, bI b)]) (st' := [.ref 76]) l240_385 (fun _ => rfl) ?_
  refine b_cPki (v := μ2 76 0) l240_386 rfl (b_rc (ci := 9) (by rfl) (by decide) (by decide +kernel)) (Nat.le_of_ble_eq_true rfl) (Nat.le_of_ble_eq_true rfl) rfl (r_X11_thrown ) rfl fun hw1 => b_pc (pc' := 389) rfl ?_
  refine b_s (pc' := 391) (lv1 := [(0, .ref 0), (1, .ref 1), (2, .ref 76), (3, .ref 112), (4, bI i), (5, bI k), (6, bI b)]) (st' := [bI k, bI (μ2 76 0)]) l240_389 (fun _ => rfl) ?_
  refine b_pos (c := (μ2 76 0) = k) (E1 := some (.inl 1, μf, c)) (E2 := none) (κ := some) hEQ ?_
  refine b_ieq (pt := 396) l240_391 hw1 hv1 (by decide) rfl (fun _ => ?_) (fun z => absurd hEQ z)
  refine b_s (pc' := 398) (lv1 := [(0, .ref 0), (1, .ref 1), (2, .ref 76), (3, .ref 112), (4, bI i), (5, bI k), (6, bI b)]) (st' := [bI k]) l240_396 (fun _ => rfl) ?_
  by_cases hk0 : k = 0
  · refine b_neg (c := ¬ k = 0) (E1 := none) (E2 := some (.inl 1, μf, c)) (κ := some) (fun z => z hk0) ?_
    refine b_zne (pt := 413) l240_398 hv1 (by decide) rfl (fun z => absurd hk0 z) (fun _ => b_pc (pc' := 401) rfl ?_)
    refine b_s (pc' := 402) (lv1 := [(0, .ref 0), (1, .ref 1), (2, .ref 76), (3, .ref 112), (4, bI i), (5, bI k), (6, bI b)]) (st' := [.ref 112]) l240_401 (fun _ => rfl) ?_
    refine b_s (pc' := 403) (lv1 := [(0, .ref 0), (1, .ref 1), (2, .ref 76), (3, .ref 112), (4, bI i), (5, bI k), (6, bI b)]) (st' := [bI 0, .ref 112]) l240_402 (fun _ => rfl) ?_
    refine b_lal l240_403 (by rfl) (by decide) (b_pc (pc' := 404) rfl ?_)
    refine b_s (pc' := 406) (lv1 := [(0, .ref 0), (1, .ref 1), (2, .ref 76), (3, .ref 112), (4, bI i), (5, bI k), (6, bI b)]) (st' := [bI b, bLg (μ2 112 0)]) l240_404 (fun _ => rfl) ?_
    refine b_i2l l240_406 hv2 (b_pc (pc' := 407) rfl ?_)
    refine b_lcmp l240_407 (bO_l hk2 (show bSh 112 = (2, 1) from rfl)) (bR_L hv2) (b_pc (pc' := 408) rfl ?_)
    refine b_pos (c := (bCmp (μ2 112 0) b) = 0) (E1 := some (.inl 1, μf, c)) (E2 := none) (κ := some) (bCmp_0 (ho hk0)) ?_
    refine b_zeq (pt := 413) l240_408 (bCmp_R _ _) (by decide) rfl (fun _ => ?_) (fun z => absurd (bCmp_0 (ho hk0)) z)
    refine b_s (pc' := 1655) (lv1 := [(0, .ref 0), (1, .ref 1), (2, .ref 76), (3, .ref 112), (4, bI i), (5, bI k), (6, bI b)]) (st' := []) l240_413 (fun _ => rfl) ?_
    refine b_inc1 (lv' := [(0, .ref 0), (1, .ref 1), (2, .ref 76), (3, .ref 112), (4, bI (i + 6))]) l240_1655 rfl (by decide +kernel) (bSb rfl (bSb rfl (bSb rfl (bSb rfl (bSb rfl bSn))))) (b_in (by omega) (by omega)) (b_pc (pc' := 1658) rfl ?_)
    refine b_s (pc' := 23) (lv1 := [(0, .ref 0), (1, .ref 1), (2, .ref 76), (3, .ref 112), (4, bI (i + 6))]) (st' := []) l240_1658 (fun _ => rfl) ?_
    exact kont
  · refine b_pos (c := ¬ k = 0) (E1 := some (.inl 1, μf, c)) (E2 := none) (κ := some) hk0 ?_
    refine b_zne (pt := 413) l240_398 hv1 (by decide) rfl (fun _ => ?_) (fun z => absurd hk0 z)
    refine b_s (pc' := 1655) (lv1 := [(0, .ref 0), (1, .ref 1), (2, .ref 76), (3, .ref 112), (4, bI i), (5, bI k), (6, bI b)]) (st' := []) l240_413 (fun _ => rfl) ?_
    refine b_inc1 (lv' := [(0, .ref 0), (1, .ref 1), (2, .ref 76), (3, .ref 112), (4, bI (i + 6))]) l240_1655 rfl (by decide +kernel) (bSb rfl (bSb rfl (bSb rfl (bSb rfl (bSb rfl bSn))))) (b_in (by omega) (by omega)) (b_pc (pc' := 1658) rfl ?_)
    refine b_s (pc' := 23) (lv1 := [(0, .ref 0), (1, .ref 1), (2, .ref 76), (3, .ref 112), (4, bI (i + 6))]) (st' := []) l240_1658 (fun _ => rfl) ?_
    exact kont
theorem g_4 {L : Nat} {xs : Nat → Int32} {i k b : Int} {c n1 : Nat} {μ μ1 μ2 μf : bM} (hL : L ≤ 3072) (hi : 0 ≤ i ∧ i + 6 ≤ (L : Int)) (hop : bAnd (xs i.toNat).toInt 31 = 4) (hF1 : F_L_number (xs (i + 1).toNat).toInt (xs (i + 2).toNat).toInt (xs (i + 3).toNat).toInt (bOrL (bShlL (xs (i + 4).toNat).toInt 32) (bAndL (xs (i + 5).toNat).toInt 4294967295)) μ = some (k, μ1, n1)) (hF2 : F_X11_number (xs (i + 1).toNat).toInt (xs (i + 2).toNat).toInt (xs (i + 3).toNat).toInt (bOrL (bShlL (xs (i + 4).toNat).toInt 32) (bAndL (xs (i + 5).toNat).toInt 4294967295)) μ1 = some (b, μ2)) (hEQ : μ2 76 0 = k) (ho : k = 0 → μ2 112 0 = b) (kont : bD L xs 9 240 23 [(0, .ref 0), (1, .ref 1), (2, .ref 76), (3, .ref 112), (4, bI (i + 6))] [] μ2 (some (.inl 1, μf, c))) : bD L xs 9 240 23 [(0, .ref 0), (1, .ref 1), (2, .ref 76), (3, .ref 112), (4, bI i)] [] μ (some (.inl 1, μf, (c + n1))) := by
  have hiR : bR i := b_in (by omega) (by omega)
  refine bD.ok fun hk => ?_
  refine b_s (pc' := 25) (lv1 := [(0, .ref 0), (1, .ref 1), (2, .ref 76), (3, .ref 112), (4, bI i)]) (st' := [bI i]) l240_23 (fun _ => rfl) ?_
  refine b_s (pc' := 26) (lv1 := [(0, .ref 0), (1, .ref 1), (2, .ref 76), (3, .ref 112), (4, bI i)]) (st' := [.ref 0, bI i]) l240_25 (fun _ => rfl) ?_
  refine b_scl l240_26 (b_pc (pc' := 27) rfl ?_)
  refine b_bipush l240_27 (by decide) (b_pc (pc' := 29) rfl ?_)
  refine b_isub1 l240_29 (b_in (by omega) (by omega)) (b_pc (pc' := 30) rfl ?_)
  refine b_neg (c := ((L : Int) - 6) < i) (E1 := none) (E2 := some (.inl 1, μf, (c + n1))) (κ := some) (by omega) ?_
  refine b_igt (pt := 1661) l240_30 hiR (b_in (by omega) (by omega)) (by decide) rfl (fun z => absurd z (by omega)) (fun _ => b_pc (pc' := 33) rfl ?_)
  refine b_s (pc' := 34) (lv1 := [(0, .ref 0), (1, .ref 1), (2, .ref 76), (3, .ref 112), (4, bI i)]) (st' := [.ref 0]) l240_33 (fun _ => rfl) ?_
  refine b_s (pc' := 36) (lv1 := [(0, .ref 0), (1, .ref 1), (2, .ref 76), (3, .ref 112), (4, bI i)]) (st' := [bI i, .ref 0]) l240_34 (fun _ => rfl) ?_
  refine b_scr l240_36 ⟨by omega, by omega⟩ (by omega) (b_pc (pc' := 37) rfl ?_)
  refine b_bipush l240_37 (by decide) (b_pc (pc' := 39) rfl ?_)
  refine b_iand l240_39 (b_pc (pc' := 40) rfl ?_)
  refine b_tsw l240_40 (bi_rg _) (by decide) (by decide) (by decide) ?_
  refine b_pc (pc' := bTg [(0, 152), (1, 256), (2, 292), (3, 348), (4, 416), (5, 540), (6, 620), (7, 712), (8, 725), (9, 738), (10, 794), (11, 862), (12, 918), (13, 998), (14, 1011), (15, 1067), (16, 1123), (17, 1191), (18, 1259), (19, 1315), (20, 1395), (21, 1462), (22, 1542), (23, 1598)] 1655 (bAnd (xs i.toNat).toInt 31)) rfl ?_
  refine b_pc (pc' := 416) (by rw [hop]; rfl) ?_
  refine b_s (pc' := 417) (lv1 := [(0, .ref 0), (1, .ref 1), (2, .ref 76), (3, .ref 112), (4, bI i)]) (st' := [.ref 1]) l240_416 (fun _ => rfl) ?_
  refine b_s (pc' := 418) (lv1 := [(0, .ref 0), (1, .ref 1), (2, .ref 76), (3, .ref 112), (4, bI i)]) (st' := [.ref 0, .ref 1]) l240_417 (fun _ => rfl) ?_
  refine b_s (pc' := 420) (lv1 := [(0, .ref 0), (1, .ref 1), (2, .ref 76), (3, .ref 112), (4, bI i)]) (st' := [bI i, .ref 0, .ref 1]) l240_418 (fun _ => rfl) ?_
  refine b_s (pc' := 421) (lv1 := [(0, .ref 0), (1, .ref 1), (2, .ref 76), (3, .ref 112), (4, bI i)]) (st' := [bI 1, bI i, .ref 0, .ref 1]) l240_420 (fun _ => rfl) ?_
  refine b_iadd1 l240_421 (b_in (by omega) (by omega)) (b_pc (pc' := 422) rfl ?_)
  refine b_scr l240_422 ⟨by omega, by omega⟩ (by omega) (b_pc (pc' := 423) rfl ?_)
  refine b_s (pc' := 424) (lv1 := [(0, .ref 0), (1, .ref 1), (2, .ref 76), (3, .ref 112), (4, bI i)]) (st' := [.ref 0, bI (xs (i + 1).toNat).toInt, .ref 1]) l240_423 (fun _ => rfl) ?_
  refine b_s (pc' := 426) (lv1 := [(0, .ref 0), (1, .ref 1), (2, .ref 76), (3, .ref 112), (4, bI i)]) (st' := [bI i, .ref 0, bI (xs (i + 1).toNat).toInt, .ref 1]) l240_424 (fun _ => rfl) ?_
  refine b_s (pc' := 427) (lv1 := [(0, .ref 0), (1, .ref 1), (2, .ref 76), (3, .ref 112), (4, bI i)]) (st' := [bI 2, bI i, .ref 0, bI (xs (i + 1).toNat).toInt, .ref 1]) l240_426 (fun _ => rfl) ?_
  refine b_iadd1 l240_427 (b_in (by omega) (by omega)) (b_pc (pc' := 428) rfl ?_)
  refine b_scr l240_428 ⟨by omega, by omega⟩ (by omega) (b_pc (pc' := 429) rfl ?_)
  refine b_s (pc' := 430) (lv1 := [(0, .ref 0), (1, .ref 1), (2, .ref 76), (3, .ref 112), (4, bI i)]) (st' := [.ref 0, bI (xs (i + 2).toNat).toInt, bI (xs (i + 1).toNat).toInt, .ref 1]) l240_429 (fun _ => rfl) ?_
  refine b_s (pc' := 432) (lv1 := [(0, .ref 0), (1, .ref 1), (2, .ref 76), (3, .ref 112), (4, bI i)]) (st' := [bI i, .ref 0, bI (xs (i + 2).toNat).toInt, bI (xs (i + 1).toNat).toInt, .ref 1]) l240_430 (fun _ => rfl) ?_
  refine b_s (pc' := 433) (lv1 := [(0, .ref 0), (1, .ref 1), (2, .ref 76), (3, .ref 112), (4, bI i)]) (st' := [bI 3, bI i, .ref 0, bI (xs (i + 2).toNat).toInt, bI (xs (i + 1).toNat).toInt, .ref 1]) l240_432 (fun _ => rfl) ?_
  refine b_iadd1 l240_433 (b_in (by omega) (by omega)) (b_pc (pc' := 434) rfl ?_)
  refine b_scr l240_434 ⟨by omega, by omega⟩ (by omega) (b_pc (pc' := 435) rfl ?_)
  refine b_s (pc' := 436) (lv1 := [(0, .ref 0), (1, .ref 1), (2, .ref 76), (3, .ref 112), (4, bI i)]) (st' := [.ref 0, bI (xs (i + 3).toNat).toInt, bI (xs (i + 2).toNat).toInt, bI (xs (i + 1).toNat).toInt, .ref 1]) l240_435 (fun _ => rfl) ?_
  refine b_s (pc' := 438) (lv1 := [(0, .ref 0), (1, .ref 1), (2, .ref 76), (3, .ref 112), (4, bI i)]) (st' := [bI i, .ref 0, bI (xs (i + 3).toNat).toInt, bI (xs (i + 2).toNat).toInt, bI (xs (i + 1).toNat).toInt, .ref 1]) l240_436 (fun _ => rfl) ?_
  refine b_s (pc' := 439) (lv1 := [(0, .ref 0), (1, .ref 1), (2, .ref 76), (3, .ref 112), (4, bI i)]) (st' := [bI 4, bI i, .ref 0, bI (xs (i + 3).toNat).toInt, bI (xs (i + 2).toNat).toInt, bI (xs (i + 1).toNat).toInt, .ref 1]) l240_438 (fun _ => rfl) ?_
  refine b_iadd1 l240_439 (b_in (by omega) (by omega)) (b_pc (pc' := 440) rfl ?_)
  refine b_scr l240_440 ⟨by omega, by omega⟩ (by omega) (b_pc (pc' := 441) rfl ?_)
  refine b_i2l l240_441 (bi_rg _) (b_pc (pc' := 442) rfl ?_)
  refine b_bipush l240_442 (by decide) (b_pc (pc' := 444) rfl ?_)
  refine b_lshl l240_444 (b_pc (pc' := 445) rfl ?_)
  refine b_s (pc' := 446) (lv1 := [(0, .ref 0), (1, .ref 1), (2, .ref 76), (3, .ref 112), (4, bI i)]) (st' := [.ref 0, bLg (bShlL (xs (i + 4).toNat).toInt 32), bI (xs (i + 3).toNat).toInt, bI (xs (i + 2).toNat).toInt, bI (xs (i + 1).toNat).toInt, .ref 1]) l240_445 (fun _ => rfl) ?_
  refine b_s (pc' := 448) (lv1 := [(0, .ref 0), (1, .ref 1), (2, .ref 76), (3, .ref 112), (4, bI i)]) (st' := [bI i, .ref 0, bLg (bShlL (xs (i + 4).toNat).toInt 32), bI (xs (i + 3).toNat).toInt, bI (xs (i + 2).toNat).toInt, bI (xs (i + 1).toNat).toInt, .ref 1]) l240_446 (fun _ => rfl) ?_
  refine b_s (pc' := 449) (lv1 := [(0, .ref 0), (1, .ref 1), (2, .ref 76), (3, .ref 112), (4, bI i)]) (st' := [bI 5, bI i, .ref 0, bLg (bShlL (xs (i + 4).toNat).toInt 32), bI (xs (i + 3).toNat).toInt, bI (xs (i + 2).toNat).toInt, bI (xs (i + 1).toNat).toInt, .ref 1]) l240_448 (fun _ => rfl) ?_
  refine b_iadd1 l240_449 (b_in (by omega) (by omega)) (b_pc (pc' := 450) rfl ?_)
  refine b_scr l240_450 ⟨by omega, by omega⟩ (by omega) (b_pc (pc' := 451) rfl ?_)
  refine b_i2l l240_451 (bi_rg _) (b_pc (pc' := 452) rfl ?_)
  refine b_s (pc' := 455) (lv1 := [(0, .ref 0), (1, .ref 1), (2, .ref 76), (3, .ref 112), (4, bI i)]) (st' := [bLg 4294967295, bLg (xs (i + 5).toNat).toInt, bLg (bShlL (xs (i + 4).toNat).toInt 32), bI (xs (i + 3).toNat).toInt, bI (xs (i + 2).toNat).toInt, bI (xs (i + 1).toNat).toInt, .ref 1]) l240_452 (fun _ => rfl) ?_
  refine b_land l240_455 (b_pc (pc' := 456) rfl ?_)
  refine b_lor l240_456 (b_pc (pc' := 457) rfl ?_)
  refine b_s (pc' := 458) (lv1 := [(0, .ref 0), (1, .ref 1), (2, .ref 76), (3, .ref 112), (4, bI i)]) (st' := [.ref 112, bLg (bOrL (bShlL (xs (i + 4).toNat).toInt 32) (bAndL (xs (i + 5).toNat).toInt 4294967295)), bI (xs (i + 3).toNat).toInt, bI (xs (i + 2).toNat).toInt, bI (xs (i + 1).toNat).toInt, .ref 1]) l240_457 (fun _ => rfl) ?_
  refine b_cKki l240_458 rfl (fun _ => trivial) (Nat.le_of_ble_eq_true rfl) (Nat.le_of_ble_eq_true rfl) rfl (r_L_number (xs (i + 1).toNat).toInt (bi_rg _) (xs (i + 2).toNat).toInt (bi_rg _) (xs (i + 3).toNat).toInt (bi_rg _) (bOrL (bShlL (xs (i + 4).toNat).toInt 32) (bAndL (xs (i + 5).toNat).toInt 4294967295)) (bl_rg _)) hF1 fun hv1 => bD.ok fun hk1 => b_pc (pc' := 461) rfl ?_
  refine b_w (pc' := 463) (lv1 := ax_st1 [(0, .ref 0), (1, .ref 1), (2, .ref 76), (3, .ref 112), (4, bI i)] 5 (bI k)) (lv' := [(0, .ref 0), (1, .ref 1), (2, .ref 76), (3, .ref 112), (4, bI i), (5, bI k)]) (st' := []) l240_461 (fun _ => rfl) (bSb rfl (bSb rfl (bSb rfl (bSb rfl (bSb rfl (bSb rfl bSn)))))) ?_
  refine b_s (pc' := 464) (lv1 := [(0, .ref 0), (1, .ref 1), (2, .ref 76), (3, .ref 112), (4, bI i), (5, bI k)]) (st' := [.ref 76]) l240_463 (fun _ => rfl) ?_
  refine b_s (pc' := 465) (lv1 := [(0, .ref 0), (1, .ref 1), (2, .ref 76), (3, .ref 112), (4, bI i), (5, bI k)]) (st' := [.ref 0, .ref 76]) l240_464 (fun _ => rfl) ?_
  refine b_s (pc' := 467) (lv1 := [(0, .ref 0), (1, .ref 1), (2, .ref 76), (3, .ref 112), (4, bI i), (5, bI k)]) (st' := [bI i, .ref 0, .ref 76]) l240_465 (fun _ => rfl) ?_
  refine b_s (pc' := 468) (lv1 := [(0, .ref 0), (1, .ref 1), (2, .ref 76), (3, .ref 112), (4, bI i), (5, bI k)]) (st' := [bI 1, bI i, .ref 0, .ref 76]) l240_467 (fun _ => rfl) ?_
  refine b_iadd1 l240_468 (b_in (by omega) (by omega)) (b_pc (pc' := 469) rfl ?_)
  refine b_scr l240_469 ⟨by omega, by omega⟩ (by omega) (b_pc (pc' := 470) rfl ?_)
  refine b_s (pc' := 471) (lv1 := [(0, .ref 0), (1, .ref 1), (2, .ref 76), (3, .ref 112), (4, bI i), (5, bI k)]) (st' := [.ref 0, bI (xs (i + 1).toNat).toInt, .ref 76]) l240_470 (fun _ => rfl) ?_
  refine b_s (pc' := 473) (lv1 := [(0, .ref 0), (1, .ref 1), (2, .ref 76), (3, .ref 112), (4, bI i), (5, bI k)]) (st' := [bI i, .ref 0, bI (xs (i + 1).toNat).toInt, .ref 76]) l240_471 (fun _ => rfl) ?_
  refine b_s (pc' := 474) (lv1 := [(0, .ref 0), (1, .ref 1), (2, .ref 76), (3, .ref 112), (4, bI i), (5, bI k)]) (st' := [bI 2, bI i, .ref 0, bI (xs (i + 1).toNat).toInt, .ref 76]) l240_473 (fun _ => rfl) ?_
  refine b_iadd1 l240_474 (b_in (by omega) (by omega)) (b_pc (pc' := 475) rfl ?_)
  refine b_scr l240_475 ⟨by omega, by omega⟩ (by omega) (b_pc (pc' := 476) rfl ?_)
  refine b_s (pc' := 477) (lv1 := [(0, .ref 0), (1, .ref 1), (2, .ref 76), (3, .ref 112), (4, bI i), (5, bI k)]) (st' := [.ref 0, bI (xs (i + 2).toNat).toInt, bI (xs (i + 1).toNat).toInt, .ref 76]) l240_476 (fun _ => rfl) ?_
  refine b_s (pc' := 479) (lv1 := [(0, .ref 0), (1, .ref 1), (2, .ref 76), (3, .ref 112), (4, bI i), (5, bI k)]) (st' := [bI i, .ref 0, bI (xs (i + 2).toNat).toInt, bI (xs (i + 1).toNat).toInt, .ref 76]) l240_477 (fun _ => rfl) ?_
  refine b_s (pc' := 480) (lv1 := [(0, .ref 0), (1, .ref 1), (2, .ref 76), (3, .ref 112), (4, bI i), (5, bI k)]) (st' := [bI 3, bI i, .ref 0, bI (xs (i + 2).toNat).toInt, bI (xs (i + 1).toNat).toInt, .ref 76]) l240_479 (fun _ => rfl) ?_
  refine b_iadd1 l240_480 (b_in (by omega) (by omega)) (b_pc (pc' := 481) rfl ?_)
  refine b_scr l240_481 ⟨by omega, by omega⟩ (by omega) (b_pc (pc' := 482) rfl ?_)
  refine b_s (pc' := 483) (lv1 := [(0, .ref 0), (1, .ref 1), (2, .ref 76), (3, .ref 112), (4, bI i), (5, bI k)]) (st' := [.ref 0, bI (xs (i + 3).toNat).toInt, bI (xs (i + 2).toNat).toInt, bI (xs (i + 1).toNat).toInt, .ref 76]) l240_482 (fun _ => rfl) ?_
  refine b_s (pc' := 485) (lv1 := [(0, .ref 0), (1, .ref 1), (2, .ref 76), (3, .ref 112), (4, bI i), (5, bI k)]) (st' := [bI i, .ref 0, bI (xs (i + 3).toNat).toInt, bI (xs (i + 2).toNat).toInt, bI (xs (i + 1).toNat).toInt, .ref 76]) l240_483 (fun _ => rfl) ?_
  refine b_s (pc' := 486) (lv1 := [(0, .ref 0), (1, .ref 1), (2, .ref 76), (3, .ref 112), (4, bI i), (5, bI k)]) (st' := [bI 4, bI i, .ref 0, bI (xs (i + 3).toNat).toInt, bI (xs (i + 2).toNat).toInt, bI (xs (i + 1).toNat).toInt, .ref 76]) l240_485 (fun _ => rfl) ?_
  refine b_iadd1 l240_486 (b_in (by omega) (by omega)) (b_pc (pc' := 487) rfl ?_)
  refine b_scr l240_487 ⟨by omega, by omega⟩ (by omega) (b_pc (pc' := 488) rfl ?_)
  refine b_i2l l240_488 (bi_rg _) (b_pc (pc' := 489) rfl ?_)
  refine b_bipush l240_489 (by decide) (b_pc (pc' := 491) rfl ?_)
  refine b_lshl l240_491 (b_pc (pc' := 492) rfl ?_)
  refine b_s (pc' := 493) (lv1 := [(0, .ref 0), (1, .ref 1), (2, .ref 76), (3, .ref 112), (4, bI i), (5, bI k)]) (st' := [.ref 0, bLg (bShlL (xs (i + 4).toNat).toInt 32), bI (xs (i + 3).toNat).toInt, bI (xs (i + 2).toNat).toInt, bI (xs (i + 1).toNat).toInt, .ref 76]) l240_492 (fun _ => rfl) ?_
  refine b_s (pc' := 495) (lv1 := [(0, .ref 0), (1, .ref 1), (2, .ref 76), (3, .ref 112), (4, bI i), (5, bI k)]) (st' := [bI i, .ref 0, bLg (bShlL (xs (i + 4).toNat).toInt 32), bI (xs (i + 3).toNat).toInt, bI (xs (i + 2).toNat).toInt, bI (xs (i + 1).toNat).toInt, .ref 76]) l240_493 (fun _ => rfl) ?_
  refine b_s (pc' := 496) (lv1 := [(0, .ref 0), (1, .ref 1), (2, .ref 76), (3, .ref 112), (4, bI i), (5, bI k)]) (st' := [bI 5, bI i, .ref 0, bLg (bShlL (xs (i + 4).toNat).toInt 32), bI (xs (i + 3).toNat).toInt, bI (xs (i + 2).toNat).toInt, bI (xs (i + 1).toNat).toInt, .ref 76]) l240_495 (fun _ => rfl) ?_
  refine b_iadd1 l240_496 (b_in (by omega) (by omega)) (b_pc (pc' := 497) rfl ?_)
  refine b_scr l240_497 ⟨by omega, by omega⟩ (by omega) (b_pc (pc' := 498) rfl ?_)
  refine b_i2l l240_498 (bi_rg _) (b_pc (pc' := 499) rfl ?_)
  refine b_s (pc' := 502) (lv1 := [(0, .ref 0), (1, .ref 1), (2, .ref 76), (3, .ref 112), (4, bI i), (5, bI k)]) (st' := [bLg 4294967295, bLg (xs (i + 5).toNat).toInt, bLg (bShlL (xs (i + 4).toNat).toInt 32), bI (xs (i + 3).toNat).toInt, bI (xs (i + 2).toNat).toInt, bI (xs (i + 1).toNat).toInt, .ref 76]) l240_499 (fun _ => rfl) ?_
  refine b_land l240_502 (b_pc (pc' := 503) rfl ?_)
  refine b_lor l240_503 (b_pc (pc' := 504) rfl ?_)
  refine b_cMki l240_504 rfl (b_rc (ci := 9) (by rfl) (by decide) (by decide +kernel)) (Nat.le_of_ble_eq_true rfl) (Nat.le_of_ble_eq_true rfl) rfl (r_X11_number (xs (i + 1).toNat).toInt (bi_rg _) (xs (i + 2).toNat).toInt (bi_rg _) (xs (i + 3).toNat).toInt (bi_rg _) (bOrL (bShlL (xs (i + 4).toNat).toInt 32) (bAndL (xs (i + 5).toNat).toInt 4294967295)) (bl_rg _)) hF2 fun hv2 => bD.ok fun hk2 => b_pc (pc' := 507) rfl ?_
  refine b_w (pc' := 509) (lv1 := ax_st1 [(0, .ref 0), (1, .ref 1), (2, .ref 76), (3, .ref 112), (4, bI i), (5, bI k)] 6 (bI b)) (lv' := [(0, .ref 0), (1, .ref 1), (2, .ref 76), (3, .ref 112), (4, bI i), (5, bI k), (6, bI b)]) (st' := []) l240_507 (fun _ => rfl) (bSb rfl (bSb rfl (bSb rfl (bSb rfl (bSb rfl (bSb rfl (bSb rfl bSn))))))) ?_
  refine b_s (pc' := 510) (lv1 := [(0, .ref 0), (1, .ref 1), (2, .ref 76), (3, .ref 112), (4, bI i), (5, bI k), (6, bI b)]) (st' := [.ref 76]) l240_509 (fun _ => rfl) ?_
  refine b_cPki (v := μ2 76 0) l240_510 rfl (b_rc (ci := 9) (by rfl) (by decide) (by decide +kernel)) (Nat.le_of_ble_eq_true rfl) (Nat.le_of_ble_eq_true rfl) rfl (r_X11_thrown ) rfl fun hw1 => b_pc (pc' := 513) rfl ?_
  refine b_s (pc' := 515) (lv1 := [(0, .ref 0), (1, .ref 1), (2, .ref 76), (3, .ref 112), (4, bI i), (5, bI k), (6, bI b)]) (st' := [bI k, bI (μ2 76 0)]) l240_513 (fun _ => rfl) ?_
  refine b_pos (c := (μ2 76 0) = k) (E1 := some (.inl 1, μf, c)) (E2 := none) (κ := some) hEQ ?_
  refine b_ieq (pt := 520) l240_515 hw1 hv1 (by decide) rfl (fun _ => ?_) (fun z => absurd hEQ z)
  refine b_s (pc' := 522) (lv1 := [(0, .ref 0), (1, .ref 1), (2, .ref 76), (3, .ref 112), (4, bI i), (5, bI k), (6, bI b)]) (st' := [bI k]) l240_520 (fun _ => rfl) ?_
  by_cases hk0 : k = 0
  · refine b_neg (c := ¬ k = 0) (E1 := none) (E2 := some (.inl 1, μf, c)) (κ := some) (fun z => z hk0) ?_
    refine b_zne (pt := 537) l240_522 hv1 (by decide) rfl (fun z => absurd hk0 z) (fun _ => b_pc (pc' := 525) rfl ?_)
    refine b_s (pc' := 526) (lv1 := [(0, .ref 0), (1, .ref 1), (2, .ref 76), (3, .ref 112), (4, bI i), (5, bI k), (6, bI b)]) (st' := [.ref 112]) l240_525 (fun _ => rfl) ?_
    refine b_s (pc' := 527) (lv1 := [(0, .ref 0), (1, .ref 1), (2, .ref 76), (3, .ref 112), (4, bI i), (5, bI k), (6, bI b)]) (st' := [bI 0, .ref 112]) l240_526 (fun _ => rfl) ?_
    refine b_lal l240_527 (by rfl) (by decide) (b_pc (pc' := 528) rfl ?_)
    refine b_s (pc' := 530) (lv1 := [(0, .ref 0), (1, .ref 1), (2, .ref 76), (3, .ref 112), (4, bI i), (5, bI k), (6, bI b)]) (st' := [bI b, bLg (μ2 112 0)]) l240_528 (fun _ => rfl) ?_
    refine b_i2l l240_530 hv2 (b_pc (pc' := 531) rfl ?_)
    refine b_lcmp l240_531 (bO_l hk2 (show bSh 112 = (2, 1) from rfl)) (bR_L hv2) (b_pc (pc' := 532) rfl ?_)
    refine b_pos (c := (bCmp (μ2 112 0) b) = 0) (E1 := some (.inl 1, μf, c)) (E2 := none) (κ := some) (bCmp_0 (ho hk0)) ?_
    refine b_zeq (pt := 537) l240_532 (bCmp_R _ _) (by decide) rfl (fun _ => ?_) (fun z => absurd (bCmp_0 (ho hk0)) z)
    refine b_s (pc' := 1655) (lv1 := [(0, .ref 0), (1, .ref 1), (2, .ref 76), (3, .ref 112), (4, bI i), (5, bI k), (6, bI b)]) (st' := []) l240_537 (fun _ => rfl) ?_
    refine b_inc1 (lv' := [(0, .ref 0), (1, .ref 1), (2, .ref 76), (3, .ref 112), (4, bI (i + 6))]) l240_1655 rfl (by decide +kernel) (bSb rfl (bSb rfl (bSb rfl (bSb rfl (bSb rfl bSn))))) (b_in (by omega) (by omega)) (b_pc (pc' := 1658) rfl ?_)
    refine b_s (pc' := 23) (lv1 := [(0, .ref 0), (1, .ref 1), (2, .ref 76), (3, .ref 112), (4, bI (i + 6))]) (st' := []) l240_1658 (fun _ => rfl) ?_
    exact kont
  · refine b_pos (c := ¬ k = 0) (E1 := some (.inl 1, μf, c)) (E2 := none) (κ := some) hk0 ?_
    refine b_zne (pt := 537) l240_522 hv1 (by decide) rfl (fun _ => ?_) (fun z => absurd hk0 z)
    refine b_s (pc' := 1655) (lv1 := [(0, .ref 0), (1, .ref 1), (2, .ref 76), (3, .ref 112), (4, bI i), (5, bI k), (6, bI b)]) (st' := []) l240_537 (fun _ => rfl) ?_
    refine b_inc1 (lv' := [(0, .ref 0), (1, .ref 1), (2, .ref 76), (3, .ref 112), (4, bI (i + 6))]) l240_1655 rfl (by decide +kernel) (bSb rfl (bSb rfl (bSb rfl (bSb rfl (bSb rfl bSn))))) (b_in (by omega) (by omega)) (b_pc (pc' := 1658) rfl ?_)
    refine b_s (pc' := 23) (lv1 := [(0, .ref 0), (1, .ref 1), (2, .ref 76), (3, .ref 112), (4, bI (i + 6))]) (st' := []) l240_1658 (fun _ => rfl) ?_
    exact kont
theorem g_5 {L : Nat} {xs : Nat → Int32} {i k b : Int} {c n1 : Nat} {μ μ1 μ2 μf : bM} (hL : L ≤ 3072) (hi : 0 ≤ i ∧ i + 6 ≤ (L : Int)) (hop : bAnd (xs i.toNat).toInt 31 = 5) (hF1 : F_L_bytes (xs (i + 1).toNat).toInt (xs (i + 2).toNat).toInt (xs (i + 3).toNat).toInt μ = some (k, μ1, n1)) (hF2 : F_X11_bytes (xs (i + 1).toNat).toInt (xs (i + 2).toNat).toInt (xs (i + 3).toNat).toInt μ1 = some (b, μ2)) (hEQ : μ2 76 0 = k) (ho : k = 0 → μ2 112 0 = b) (kont : bD L xs 9 240 23 [(0, .ref 0), (1, .ref 1), (2, .ref 76), (3, .ref 112), (4, bI (i + 6))] [] μ2 (some (.inl 1, μf, c))) : bD L xs 9 240 23 [(0, .ref 0), (1, .ref 1), (2, .ref 76), (3, .ref 112), (4, bI i)] [] μ (some (.inl 1, μf, (c + n1))) := by
  have hiR : bR i := b_in (by omega) (by omega)
  refine bD.ok fun hk => ?_
  refine b_s (pc' := 25) (lv1 := [(0, .ref 0), (1, .ref 1), (2, .ref 76), (3, .ref 112), (4, bI i)]) (st' := [bI i]) l240_23 (fun _ => rfl) ?_
  refine b_s (pc' := 26) (lv1 := [(0, .ref 0), (1, .ref 1), (2, .ref 76), (3, .ref 112), (4, bI i)]) (st' := [.ref 0, bI i]) l240_25 (fun _ => rfl) ?_
  refine b_scl l240_26 (b_pc (pc' := 27) rfl ?_)
  refine b_bipush l240_27 (by decide) (b_pc (pc' := 29) rfl ?_)
  refine b_isub1 l240_29 (b_in (by omega) (by omega)) (b_pc (pc' := 30) rfl ?_)
  refine b_neg (c := ((L : Int) - 6) < i) (E1 := none) (E2 := some (.inl 1, μf, (c + n1))) (κ := some) (by omega) ?_
  refine b_igt (pt := 1661) l240_30 hiR (b_in (by omega) (by omega)) (by decide) rfl (fun z => absurd z (by omega)) (fun _ => b_pc (pc' := 33) rfl ?_)
  refine b_s (pc' := 34) (lv1 := [(0, .ref 0), (1, .ref 1), (2, .ref 76), (3, .ref 112), (4, bI i)]) (st' := [.ref 0]) l240_33 (fun _ => rfl) ?_
  refine b_s (pc' := 36) (lv1 := [(0, .ref 0), (1, .ref 1), (2, .ref 76), (3, .ref 112), (4, bI i)]) (st' := [bI i, .ref 0]) l240_34 (fun _ => rfl) ?_
  refine b_scr l240_36 ⟨by omega, by omega⟩ (by omega) (b_pc (pc' := 37) rfl ?_)
  refine b_bipush l240_37 (by decide) (b_pc (pc' := 39) rfl ?_)
  refine b_iand l240_39 (b_pc (pc' := 40) rfl ?_)
  refine b_tsw l240_40 (bi_rg _) (by decide) (by decide) (by decide) ?_
  refine b_pc (pc' := bTg [(0, 152), (1, 256), (2, 292), (3, 348), (4, 416), (5, 540), (6, 620), (7, 712), (8, 725), (9, 738), (10, 794), (11, 862), (12, 918), (13, 998), (14, 1011), (15, 1067), (16, 1123), (17, 1191), (18, 1259), (19, 1315), (20, 1395), (21, 1462), (22, 1542), (23, 1598)] 1655 (bAnd (xs i.toNat).toInt 31)) rfl ?_
  refine b_pc (pc' := 540) (by rw [hop]; rfl) ?_
  refine b_s (pc' := 541) (lv1 := [(0, .ref 0), (1, .ref 1), (2, .ref 76), (3, .ref 112), (4, bI i)]) (st' := [.ref 1]) l240_540 (fun _ => rfl) ?_
  refine b_s (pc' := 542) (lv1 := [(0, .ref 0), (1, .ref 1), (2, .ref 76), (3, .ref 112), (4, bI i)]) (st' := [.ref 0, .ref 1]) l240_541 (fun _ => rfl) ?_
  refine b_s (pc' := 544) (lv1 := [(0, .ref 0), (1, .ref 1), (2, .ref 76), (3, .ref 112), (4, bI i)]) (st' := [bI i, .ref 0, .ref 1]) l240_542 (fun _ => rfl) ?_
  refine b_s (pc' := 545) (lv1 := [(0, .ref 0), (1, .ref 1), (2, .ref 76), (3, .ref 112), (4, bI i)]) (st' := [bI 1, bI i, .ref 0, .ref 1]) l240_544 (fun _ => rfl) ?_
  refine b_iadd1 l240_545 (b_in (by omega) (by omega)) (b_pc (pc' := 546) rfl ?_)
  refine b_scr l240_546 ⟨by omega, by omega⟩ (by omega) (b_pc (pc' := 547) rfl ?_)
  refine b_s (pc' := 548) (lv1 := [(0, .ref 0), (1, .ref 1), (2, .ref 76), (3, .ref 112), (4, bI i)]) (st' := [.ref 0, bI (xs (i + 1).toNat).toInt, .ref 1]) l240_547 (fun _ => rfl) ?_
  refine b_s (pc' := 550) (lv1 := [(0, .ref 0), (1, .ref 1), (2, .ref 76), (3, .ref 112), (4, bI i)]) (st' := [bI i, .ref 0, bI (xs (i + 1).toNat).toInt, .ref 1]) l240_548 (fun _ => rfl) ?_
  refine b_s (pc' := 551) (lv1 := [(0, .ref 0), (1, .ref 1), (2, .ref 76), (3, .ref 112), (4, bI i)]) (st' := [bI 2, bI i, .ref 0, bI (xs (i + 1).toNat).toInt, .ref 1]) l240_550 (fun _ => rfl) ?_
  refine b_iadd1 l240_551 (b_in (by omega) (by omega)) (b_pc (pc' := 552) rfl ?_)
  refine b_scr l240_552 ⟨by omega, by omega⟩ (by omega) (b_pc (pc' := 553) rfl ?_)
  refine b_s (pc' := 554) (lv1 := [(0, .ref 0), (1, .ref 1), (2, .ref 76), (3, .ref 112), (4, bI i)]) (st' := [.ref 0, bI (xs (i + 2).toNat).toInt, bI (xs (i + 1).toNat).toInt, .ref 1]) l240_553 (fun _ => rfl) ?_
  refine b_s (pc' := 556) (lv1 := [(0, .ref 0), (1, .ref 1), (2, .ref 76), (3, .ref 112), (4, bI i)]) (st' := [bI i, .ref 0, bI (xs (i + 2).toNat).toInt, bI (xs (i + 1).toNat).toInt, .ref 1]) l240_554 (fun _ => rfl) ?_
  refine b_s (pc' := 557) (lv1 := [(0, .ref 0), (1, .ref 1), (2, .ref 76), (3, .ref 112), (4, bI i)]) (st' := [bI 3, bI i, .ref 0, bI (xs (i + 2).toNat).toInt, bI (xs (i + 1).toNat).toInt, .ref 1]) l240_556 (fun _ => rfl) ?_
  refine b_iadd1 l240_557 (b_in (by omega) (by omega)) (b_pc (pc' := 558) rfl ?_)
  refine b_scr l240_558 ⟨by omega, by omega⟩ (by omega) (b_pc (pc' := 559) rfl ?_)
  refine b_s (pc' := 560) (lv1 := [(0, .ref 0), (1, .ref 1), (2, .ref 76), (3, .ref 112), (4, bI i)]) (st' := [.ref 112, bI (xs (i + 3).toNat).toInt, bI (xs (i + 2).toNat).toInt, bI (xs (i + 1).toNat).toInt, .ref 1]) l240_559 (fun _ => rfl) ?_
  refine b_cKki l240_560 rfl (fun _ => trivial) (Nat.le_of_ble_eq_true rfl) (Nat.le_of_ble_eq_true rfl) rfl (r_L_bytes (xs (i + 1).toNat).toInt (bi_rg _) (xs (i + 2).toNat).toInt (bi_rg _) (xs (i + 3).toNat).toInt (bi_rg _)) hF1 fun hv1 => bD.ok fun hk1 => b_pc (pc' := 563) rfl ?_
  refine b_w (pc' := 565) (lv1 := ax_st1 [(0, .ref 0), (1, .ref 1), (2, .ref 76), (3, .ref 112), (4, bI i)] 5 (bI k)) (lv' := [(0, .ref 0), (1, .ref 1), (2, .ref 76), (3, .ref 112), (4, bI i), (5, bI k)]) (st' := []) l240_563 (fun _ => rfl) (bSb rfl (bSb rfl (bSb rfl (bSb rfl (bSb rfl (bSb rfl bSn)))))) ?_
  refine b_s (pc' := 566) (lv1 := [(0, .ref 0), (1, .ref 1), (2, .ref 76), (3, .ref 112), (4, bI i), (5, bI k)]) (st' := [.ref 76]) l240_565 (fun _ => rfl) ?_
  refine b_s (pc' := 567) (lv1 := [(0, .ref 0), (1, .ref 1), (2, .ref 76), (3, .ref 112), (4, bI i), (5, bI k)]) (st' := [.ref 0, .ref 76]) l240_566 (fun _ => rfl) ?_
  refine b_s (pc' := 569) (lv1 := [(0, .ref 0), (1, .ref 1), (2, .ref 76), (3, .ref 112), (4, bI i), (5, bI k)]) (st' := [bI i, .ref 0, .ref 76]) l240_567 (fun _ => rfl) ?_
  refine b_s (pc' := 570) (lv1 := [(0, .ref 0), (1, .ref 1), (2, .ref 76), (3, .ref 112), (4, bI i), (5, bI k)]) (st' := [bI 1, bI i, .ref 0, .ref 76]) l240_569 (fun _ => rfl) ?_
  refine b_iadd1 l240_570 (b_in (by omega) (by omega)) (b_pc (pc' := 571) rfl ?_)
  refine b_scr l240_571 ⟨by omega, by omega⟩ (by omega) (b_pc (pc' := 572) rfl ?_)
  refine b_s (pc' := 573) (lv1 := [(0, .ref 0), (1, .ref 1), (2, .ref 76), (3, .ref 112), (4, bI i), (5, bI k)]) (st' := [.ref 0, bI (xs (i + 1).toNat).toInt, .ref 76]) l240_572 (fun _ => rfl) ?_
  refine b_s (pc' := 575) (lv1 := [(0, .ref 0), (1, .ref 1), (2, .ref 76), (3, .ref 112), (4, bI i), (5, bI k)]) (st' := [bI i, .ref 0, bI (xs (i + 1).toNat).toInt, .ref 76]) l240_573 (fun _ => rfl) ?_
  refine b_s (pc' := 576) (lv1 := [(0, .ref 0), (1, .ref 1), (2, .ref 76), (3, .ref 112), (4, bI i), (5, bI k)]) (st' := [bI 2, bI i, .ref 0, bI (xs (i + 1).toNat).toInt, .ref 76]) l240_575 (fun _ => rfl) ?_
  refine b_iadd1 l240_576 (b_in (by omega) (by omega)) (b_pc (pc' := 577) rfl ?_)
  refine b_scr l240_577 ⟨by omega, by omega⟩ (by omega) (b_pc (pc' := 578) rfl ?_)
  refine b_s (pc' := 579) (lv1 := [(0, .ref 0), (1, .ref 1), (2, .ref 76), (3, .ref 112), (4, bI i), (5, bI k)]) (st' := [.ref 0, bI (xs (i + 2).toNat).toInt, bI (xs (i + 1).toNat).toInt, .ref 76]) l240_578 (fun _ => rfl) ?_
  refine b_s (pc' := 581) (lv1 := [(0, .ref 0), (1, .ref 1), (2, .ref 76), (3, .ref 112), (4, bI i), (5, bI k)]) (st' := [bI i, .ref 0, bI (xs (i + 2).toNat).toInt, bI (xs (i + 1).toNat).toInt, .ref 76]) l240_579 (fun _ => rfl) ?_
  refine b_s (pc' := 582) (lv1 := [(0, .ref 0), (1, .ref 1), (2, .ref 76), (3, .ref 112), (4, bI i), (5, bI k)]) (st' := [bI 3, bI i, .ref 0, bI (xs (i + 2).toNat).toInt, bI (xs (i + 1).toNat).toInt, .ref 76]) l240_581 (fun _ => rfl) ?_
  refine b_iadd1 l240_582 (b_in (by omega) (by omega)) (b_pc (pc' := 583) rfl ?_)
  refine b_scr l240_583 ⟨by omega, by omega⟩ (by omega) (b_pc (pc' := 584) rfl ?_)
  refine b_cMki l240_584 rfl (b_rc (ci := 9) (by rfl) (by decide) (by decide +kernel)) (Nat.le_of_ble_eq_true rfl) (Nat.le_of_ble_eq_true rfl) rfl (r_X11_bytes (xs (i + 1).toNat).toInt (bi_rg _) (xs (i + 2).toNat).toInt (bi_rg _) (xs (i + 3).toNat).toInt (bi_rg _)) hF2 fun hv2 => bD.ok fun hk2 => b_pc (pc' := 587) rfl ?_
  refine b_w (pc' := 589) (lv1 := ax_st1 [(0, .ref 0), (1, .ref 1), (2, .ref 76), (3, .ref 112), (4, bI i), (5, bI k)] 6 (bI b)) (lv' := [(0, .ref 0), (1, .ref 1), (2, .ref 76), (3, .ref 112), (4, bI i), (5, bI k), (6, bI b)]) (st' := []) l240_587 (fun _ => rfl) (bSb rfl (bSb rfl (bSb rfl (bSb rfl (bSb rfl (bSb rfl (bSb rfl bSn))))))) ?_
  refine b_s (pc' := 590) (lv1 := [(0, .ref 0), (1, .ref 1), (2, .ref 76), (3, .ref 112), (4, bI i), (5, bI k), (6, bI b)]) (st' := [.ref 76]) l240_589 (fun _ => rfl) ?_
  refine b_cPki (v := μ2 76 0) l240_590 rfl (b_rc (ci := 9) (by rfl) (by decide) (by decide +kernel)) (Nat.le_of_ble_eq_true rfl) (Nat.le_of_ble_eq_true rfl) rfl (r_X11_thrown ) rfl fun hw1 => b_pc (pc' := 593) rfl ?_
  refine b_s (pc' := 595) (lv1 := [(0, .ref 0), (1, .ref 1), (2, .ref 76), (3, .ref 112), (4, bI i), (5, bI k), (6, bI b)]) (st' := [bI k, bI (μ2 76 0)]) l240_593 (fun _ => rfl) ?_
  refine b_pos (c := (μ2 76 0) = k) (E1 := some (.inl 1, μf, c)) (E2 := none) (κ := some) hEQ ?_
  refine b_ieq (pt := 600) l240_595 hw1 hv1 (by decide) rfl (fun _ => ?_) (fun z => absurd hEQ z)
  refine b_s (pc' := 602) (lv1 := [(0, .ref 0), (1, .ref 1), (2, .ref 76), (3, .ref 112), (4, bI i), (5, bI k), (6, bI b)]) (st' := [bI k]) l240_600 (fun _ => rfl) ?_
  by_cases hk0 : k = 0
  · refine b_neg (c := ¬ k = 0) (E1 := none) (E2 := some (.inl 1, μf, c)) (κ := some) (fun z => z hk0) ?_
    refine b_zne (pt := 617) l240_602 hv1 (by decide) rfl (fun z => absurd hk0 z) (fun _ => b_pc (pc' := 605) rfl ?_)
    refine b_s (pc' := 606) (lv1 := [(0, .ref 0), (1, .ref 1), (2, .ref 76), (3, .ref 112), (4, bI i), (5, bI k), (6, bI b)]) (st' := [.ref 112]) l240_605 (fun _ => rfl) ?_
    refine b_s (pc' := 607) (lv1 := [(0, .ref 0), (1, .ref 1), (2, .ref 76), (3, .ref 112), (4, bI i), (5, bI k), (6, bI b)]) (st' := [bI 0, .ref 112]) l240_606 (fun _ => rfl) ?_
    refine b_lal l240_607 (by rfl) (by decide) (b_pc (pc' := 608) rfl ?_)
    refine b_s (pc' := 610) (lv1 := [(0, .ref 0), (1, .ref 1), (2, .ref 76), (3, .ref 112), (4, bI i), (5, bI k), (6, bI b)]) (st' := [bI b, bLg (μ2 112 0)]) l240_608 (fun _ => rfl) ?_
    refine b_i2l l240_610 hv2 (b_pc (pc' := 611) rfl ?_)
    refine b_lcmp l240_611 (bO_l hk2 (show bSh 112 = (2, 1) from rfl)) (bR_L hv2) (b_pc (pc' := 612) rfl ?_)
    refine b_pos (c := (bCmp (μ2 112 0) b) = 0) (E1 := some (.inl 1, μf, c)) (E2 := none) (κ := some) (bCmp_0 (ho hk0)) ?_
    refine b_zeq (pt := 617) l240_612 (bCmp_R _ _) (by decide) rfl (fun _ => ?_) (fun z => absurd (bCmp_0 (ho hk0)) z)
    refine b_s (pc' := 1655) (lv1 := [(0, .ref 0), (1, .ref 1), (2, .ref 76), (3, .ref 112), (4, bI i), (5, bI k), (6, bI b)]) (st' := []) l240_617 (fun _ => rfl) ?_
    refine b_inc1 (lv' := [(0, .ref 0), (1, .ref 1), (2, .ref 76), (3, .ref 112), (4, bI (i + 6))]) l240_1655 rfl (by decide +kernel) (bSb rfl (bSb rfl (bSb rfl (bSb rfl (bSb rfl bSn))))) (b_in (by omega) (by omega)) (b_pc (pc' := 1658) rfl ?_)
    refine b_s (pc' := 23) (lv1 := [(0, .ref 0), (1, .ref 1), (2, .ref 76), (3, .ref 112), (4, bI (i + 6))]) (st' := []) l240_1658 (fun _ => rfl) ?_
    exact kont
  · refine b_pos (c := ¬ k = 0) (E1 := some (.inl 1, μf, c)) (E2 := none) (κ := some) hk0 ?_
    refine b_zne (pt := 617) l240_602 hv1 (by decide) rfl (fun _ => ?_) (fun z => absurd hk0 z)
    refine b_s (pc' := 1655) (lv1 := [(0, .ref 0), (1, .ref 1), (2, .ref 76), (3, .ref 112), (4, bI i), (5, bI k), (6, bI b)]) (st' := []) l240_617 (fun _ => rfl) ?_
    refine b_inc1 (lv' := [(0, .ref 0), (1, .ref 1), (2, .ref 76), (3, .ref 112), (4, bI (i + 6))]) l240_1655 rfl (by decide +kernel) (bSb rfl (bSb rfl (bSb rfl (bSb rfl (bSb rfl bSn))))) (b_in (by omega) (by omega)) (b_pc (pc' := 1658) rfl ?_)
    refine b_s (pc' := 23) (lv1 := [(0, .ref 0), (1, .ref 1), (2, .ref 76), (3, .ref 112), (4, bI (i + 6))]) (st' := []) l240_1658 (fun _ => rfl) ?_
    exact kont
theorem g_6 {L : Nat} {xs : Nat → Int32} {i k b : Int} {c n1 : Nat} {μ μ1 μ2 μf : bM} (hL : L ≤ 3072) (hi : 0 ≤ i ∧ i + 6 ≤ (L : Int)) (hop : bAnd (xs i.toNat).toInt 31 = 6) (hF1 : F_L_reference (xs (i + 1).toNat).toInt (xs (i + 2).toNat).toInt (xs (i + 3).toNat).toInt (xs (i + 4).toNat).toInt μ = some (k, μ1, n1)) (hF2 : F_X11_reference (xs (i + 1).toNat).toInt (xs (i + 2).toNat).toInt (xs (i + 3).toNat).toInt (xs (i + 4).toNat).toInt μ1 = some (b, μ2)) (hEQ : μ2 76 0 = k) (ho : k = 0 → μ2 112 0 = b) (kont : bD L xs 9 240 23 [(0, .ref 0), (1, .ref 1), (2, .ref 76), (3, .ref 112), (4, bI (i + 6))] [] μ2 (some (.inl 1, μf, c))) : bD L xs 9 240 23 [(0, .ref 0), (1, .ref 1), (2, .ref 76), (3, .ref 112), (4, bI i)] [] μ (some (.inl 1, μf, (c + n1))) := by
  have hiR : bR i := b_in (by omega) (by omega)
  refine bD.ok fun hk => ?_
  refine b_s (pc' := 25) (lv1 := [(0, .ref 0), (1, .ref 1), (2, .ref 76), (3, .ref 112), (4, bI i)]) (st' := [bI i]) l240_23 (fun _ => rfl) ?_
  refine b_s (pc' := 26) (lv1 := [(0, .ref 0), (1, .ref 1), (2, .ref 76), (3, .ref 112), (4, bI i)]) (st' := [.ref 0, bI i]) l240_25 (fun _ => rfl) ?_
  refine b_scl l240_26 (b_pc (pc' := 27) rfl ?_)
  refine b_bipush l240_27 (by decide) (b_pc (pc' := 29) rfl ?_)
  refine b_isub1 l240_29 (b_in (by omega) (by omega)) (b_pc (pc' := 30) rfl ?_)
  refine b_neg (c := ((L : Int) - 6) < i) (E1 := none) (E2 := some (.inl 1, μf, (c + n1))) (κ := some) (by omega) ?_
  refine b_igt (pt := 1661) l240_30 hiR (b_in (by omega) (by omega)) (by decide) rfl (fun z => absurd z (by omega)) (fun _ => b_pc (pc' := 33) rfl ?_)
  refine b_s (pc' := 34) (lv1 := [(0, .ref 0), (1, .ref 1), (2, .ref 76), (3, .ref 112), (4, bI i)]) (st' := [.ref 0]) l240_33 (fun _ => rfl) ?_
  refine b_s (pc' := 36) (lv1 := [(0, .ref 0), (1, .ref 1), (2, .ref 76), (3, .ref 112), (4, bI i)]) (st' := [bI i, .ref 0]) l240_34 (fun _ => rfl) ?_
  refine b_scr l240_36 ⟨by omega, by omega⟩ (by omega) (b_pc (pc' := 37) rfl ?_)
  refine b_bipush l240_37 (by decide) (b_pc (pc' := 39) rfl ?_)
  refine b_iand l240_39 (b_pc (pc' := 40) rfl ?_)
  refine b_tsw l240_40 (bi_rg _) (by decide) (by decide) (by decide) ?_
  refine b_pc (pc' := bTg [(0, 152), (1, 256), (2, 292), (3, 348), (4, 416), (5, 540), (6, 620), (7, 712), (8, 725), (9, 738), (10, 794), (11, 862), (12, 918), (13, 998), (14, 1011), (15, 1067), (16, 1123), (17, 1191), (18, 1259), (19, 1315), (20, 1395), (21, 1462), (22, 1542), (23, 1598)] 1655 (bAnd (xs i.toNat).toInt 31)) rfl ?_
  refine b_pc (pc' := 620) (by rw [hop]; rfl) ?_
  refine b_s (pc' := 621) (lv1 := [(0, .ref 0), (1, .ref 1), (2, .ref 76), (3, .ref 112), (4, bI i)]) (st' := [.ref 1]) l240_620 (fun _ => rfl) ?_
  refine b_s (pc' := 622) (lv1 := [(0, .ref 0), (1, .ref 1), (2, .ref 76), (3, .ref 112), (4, bI i)]) (st' := [.ref 0, .ref 1]) l240_621 (fun _ => rfl) ?_
  refine b_s (pc' := 624) (lv1 := [(0, .ref 0), (1, .ref 1), (2, .ref 76), (3, .ref 112), (4, bI i)]) (st' := [bI i, .ref 0, .ref 1]) l240_622 (fun _ => rfl) ?_
  refine b_s (pc' := 625) (lv1 := [(0, .ref 0), (1, .ref 1), (2, .ref 76), (3, .ref 112), (4, bI i)]) (st' := [bI 1, bI i, .ref 0, .ref 1]) l240_624 (fun _ => rfl) ?_
  refine b_iadd1 l240_625 (b_in (by omega) (by omega)) (b_pc (pc' := 626) rfl ?_)
  refine b_scr l240_626 ⟨by omega, by omega⟩ (by omega) (b_pc (pc' := 627) rfl ?_)
  refine b_s (pc' := 628) (lv1 := [(0, .ref 0), (1, .ref 1), (2, .ref 76), (3, .ref 112), (4, bI i)]) (st' := [.ref 0, bI (xs (i + 1).toNat).toInt, .ref 1]) l240_627 (fun _ => rfl) ?_
  refine b_s (pc' := 630) (lv1 := [(0, .ref 0), (1, .ref 1), (2, .ref 76), (3, .ref 112), (4, bI i)]) (st' := [bI i, .ref 0, bI (xs (i + 1).toNat).toInt, .ref 1]) l240_628 (fun _ => rfl) ?_
  refine b_s (pc' := 631) (lv1 := [(0, .ref 0), (1, .ref 1), (2, .ref 76), (3, .ref 112), (4, bI i)]) (st' := [bI 2, bI i, .ref 0, bI (xs (i + 1).toNat).toInt, .ref 1]) l240_630 (fun _ => rfl) ?_
  refine b_iadd1 l240_631 (b_in (by omega) (by omega)) (b_pc (pc' := 632) rfl ?_)
  refine b_scr l240_632 ⟨by omega, by omega⟩ (by omega) (b_pc (pc' := 633) rfl ?_)
  refine b_s (pc' := 634) (lv1 := [(0, .ref 0), (1, .ref 1), (2, .ref 76), (3, .ref 112), (4, bI i)]) (st' := [.ref 0, bI (xs (i + 2).toNat).toInt, bI (xs (i + 1).toNat).toInt, .ref 1]) l240_633 (fun _ => rfl) ?_
  refine b_s (pc' := 636) (lv1 := [(0, .ref 0), (1, .ref 1), (2, .ref 76), (3, .ref 112), (4, bI i)]) (st' := [bI i, .ref 0, bI (xs (i + 2).toNat).toInt, bI (xs (i + 1).toNat).toInt, .ref 1]) l240_634 (fun _ => rfl) ?_
  refine b_s (pc' := 637) (lv1 := [(0, .ref 0), (1, .ref 1), (2, .ref 76), (3, .ref 112), (4, bI i)]) (st' := [bI 3, bI i, .ref 0, bI (xs (i + 2).toNat).toInt, bI (xs (i + 1).toNat).toInt, .ref 1]) l240_636 (fun _ => rfl) ?_
  refine b_iadd1 l240_637 (b_in (by omega) (by omega)) (b_pc (pc' := 638) rfl ?_)
  refine b_scr l240_638 ⟨by omega, by omega⟩ (by omega) (b_pc (pc' := 639) rfl ?_)
  refine b_s (pc' := 640) (lv1 := [(0, .ref 0), (1, .ref 1), (2, .ref 76), (3, .ref 112), (4, bI i)]) (st' := [.ref 0, bI (xs (i + 3).toNat).toInt, bI (xs (i + 2).toNat).toInt, bI (xs (i + 1).toNat).toInt, .ref 1]) l240_639 (fun _ => rfl) ?_
  refine b_s (pc' := 642) (lv1 := [(0, .ref 0), (1, .ref 1), (2, .ref 76), (3, .ref 112), (4, bI i)]) (st' := [bI i, .ref 0, bI (xs (i + 3).toNat).toInt, bI (xs (i + 2).toNat).toInt, bI (xs (i + 1).toNat).toInt, .ref 1]) l240_640 (fun _ => rfl) ?_
  refine b_s (pc' := 643) (lv1 := [(0, .ref 0), (1, .ref 1), (2, .ref 76), (3, .ref 112), (4, bI i)]) (st' := [bI 4, bI i, .ref 0, bI (xs (i + 3).toNat).toInt, bI (xs (i + 2).toNat).toInt, bI (xs (i + 1).toNat).toInt, .ref 1]) l240_642 (fun _ => rfl) ?_
  refine b_iadd1 l240_643 (b_in (by omega) (by omega)) (b_pc (pc' := 644) rfl ?_)
  refine b_scr l240_644 ⟨by omega, by omega⟩ (by omega) (b_pc (pc' := 645) rfl ?_)
  refine b_s (pc' := 646) (lv1 := [(0, .ref 0), (1, .ref 1), (2, .ref 76), (3, .ref 112), (4, bI i)]) (st' := [.ref 112, bI (xs (i + 4).toNat).toInt, bI (xs (i + 3).toNat).toInt, bI (xs (i + 2).toNat).toInt, bI (xs (i + 1).toNat).toInt, .ref 1]) l240_645 (fun _ => rfl) ?_
  refine b_cKki l240_646 rfl (fun _ => trivial) (Nat.le_of_ble_eq_true rfl) (Nat.le_of_ble_eq_true rfl) rfl (r_L_reference (xs (i + 1).toNat).toInt (bi_rg _) (xs (i + 2).toNat).toInt (bi_rg _) (xs (i + 3).toNat).toInt (bi_rg _) (xs (i + 4).toNat).toInt (bi_rg _)) hF1 fun hv1 => bD.ok fun hk1 => b_pc (pc' := 649) rfl ?_
  refine b_w (pc' := 651) (lv1 := ax_st1 [(0, .ref 0), (1, .ref 1), (2, .ref 76), (3, .ref 112), (4, bI i)] 5 (bI k)) (lv' := [(0, .ref 0), (1, .ref 1), (2, .ref 76), (3, .ref 112), (4, bI i), (5, bI k)]) (st' := []) l240_649 (fun _ => rfl) (bSb rfl (bSb rfl (bSb rfl (bSb rfl (bSb rfl (bSb rfl bSn)))))) ?_
  refine b_s (pc' := 652) (lv1 := [(0, .ref 0), (1, .ref 1), (2, .ref 76), (3, .ref 112), (4, bI i), (5, bI k)]) (st' := [.ref 76]) l240_651 (fun _ => rfl) ?_
  refine b_s (pc' := 653) (lv1 := [(0, .ref 0), (1, .ref 1), (2, .ref 76), (3, .ref 112), (4, bI i), (5, bI k)]) (st' := [.ref 0, .ref 76]) l240_652 (fun _ => rfl) ?_
  refine b_s (pc' := 655) (lv1 := [(0, .ref 0), (1, .ref 1), (2, .ref 76), (3, .ref 112), (4, bI i), (5, bI k)]) (st' := [bI i, .ref 0, .ref 76]) l240_653 (fun _ => rfl) ?_
  refine b_s (pc' := 656) (lv1 := [(0, .ref 0), (1, .ref 1), (2, .ref 76), (3, .ref 112), (4, bI i), (5, bI k)]) (st' := [bI 1, bI i, .ref 0, .ref 76]) l240_655 (fun _ => rfl) ?_
  refine b_iadd1 l240_656 (b_in (by omega) (by omega)) (b_pc (pc' := 657) rfl ?_)
  refine b_scr l240_657 ⟨by omega, by omega⟩ (by omega) (b_pc (pc' := 658) rfl ?_)
  refine b_s (pc' := 659) (lv1 := [(0, .ref 0), (1, .ref 1), (2, .ref 76), (3, .ref 112), (4, bI i), (5, bI k)]) (st' := [.ref 0, bI (xs (i + 1).toNat).toInt, .ref 76]) l240_658 (fun _ => rfl) ?_
  refine b_s (pc' := 661) (lv1 := [(0, .ref 0), (1, .ref 1), (2, .ref 76), (3, .ref 112), (4, bI i), (5, bI k)]) (st' := [bI i, .ref 0, bI (xs (i + 1).toNat).toInt, .ref 76]) l240_659 (fun _ => rfl) ?_
  refine b_s (pc' := 662) (lv1 := [(0, .ref 0), (1, .ref 1), (2, .ref 76), (3, .ref 112), (4, bI i), (5, bI k)]) (st' := [bI 2, bI i, .ref 0, bI (xs (i + 1).toNat).toInt, .ref 76]) l240_661 (fun _ => rfl) ?_
  refine b_iadd1 l240_662 (b_in (by omega) (by omega)) (b_pc (pc' := 663) rfl ?_)
  refine b_scr l240_663 ⟨by omega, by omega⟩ (by omega) (b_pc (pc' := 664) rfl ?_)
  refine b_s (pc' := 665) (lv1 := [(0, .ref 0), (1, .ref 1), (2, .ref 76), (3, .ref 112), (4, bI i), (5, bI k)]) (st' := [.ref 0, bI (xs (i + 2).toNat).toInt, bI (xs (i + 1).toNat).toInt, .ref 76]) l240_664 (fun _ => rfl) ?_
  refine b_s (pc' := 667) (lv1 := [(0, .ref 0), (1, .ref 1), (2, .ref 76), (3, .ref 112), (4, bI i), (5, bI k)]) (st' := [bI i, .ref 0, bI (xs (i + 2).toNat).toInt, bI (xs (i + 1).toNat).toInt, .ref 76]) l240_665 (fun _ => rfl) ?_
  refine b_s (pc' := 668) (lv1 := [(0, .ref 0), (1, .ref 1), (2, .ref 76), (3, .ref 112), (4, bI i), (5, bI k)]) (st' := [bI 3, bI i, .ref 0, bI (xs (i + 2).toNat).toInt, bI (xs (i + 1).toNat).toInt, .ref 76]) l240_667 (fun _ => rfl) ?_
  refine b_iadd1 l240_668 (b_in (by omega) (by omega)) (b_pc (pc' := 669) rfl ?_)
  refine b_scr l240_669 ⟨by omega, by omega⟩ (by omega) (b_pc (pc' := 670) rfl ?_)
  refine b_s (pc' := 671) (lv1 := [(0, .ref 0), (1, .ref 1), (2, .ref 76), (3, .ref 112), (4, bI i), (5, bI k)]) (st' := [.ref 0, bI (xs (i + 3).toNat).toInt, bI (xs (i + 2).toNat).toInt, bI (xs (i + 1).toNat).toInt, .ref 76]) l240_670 (fun _ => rfl) ?_
  refine b_s (pc' := 673) (lv1 := [(0, .ref 0), (1, .ref 1), (2, .ref 76), (3, .ref 112), (4, bI i), (5, bI k)]) (st' := [bI i, .ref 0, bI (xs (i + 3).toNat).toInt, bI (xs (i + 2).toNat).toInt, bI (xs (i + 1).toNat).toInt, .ref 76]) l240_671 (fun _ => rfl) ?_
  refine b_s (pc' := 674) (lv1 := [(0, .ref 0), (1, .ref 1), (2, .ref 76), (3, .ref 112), (4, bI i), (5, bI k)]) (st' := [bI 4, bI i, .ref 0, bI (xs (i + 3).toNat).toInt, bI (xs (i + 2).toNat).toInt, bI (xs (i + 1).toNat).toInt, .ref 76]) l240_673 (fun _ => rfl) ?_
  refine b_iadd1 l240_674 (b_in (by omega) (by omega)) (b_pc (pc' := 675) rfl ?_)
  refine b_scr l240_675 ⟨by omega, by omega⟩ (by omega) (b_pc (pc' := 676) rfl ?_)
  refine b_cMki l240_676 rfl (b_rc (ci := 9) (by rfl) (by decide) (by decide +kernel)) (Nat.le_of_ble_eq_true rfl) (Nat.le_of_ble_eq_true rfl) rfl (r_X11_reference (xs (i + 1).toNat).toInt (bi_rg _) (xs (i + 2).toNat).toInt (bi_rg _) (xs (i + 3).toNat).toInt (bi_rg _) (xs (i + 4).toNat).toInt (bi_rg _)) hF2 fun hv2 => bD.ok fun hk2 => b_pc (pc' := 679) rfl ?_
  refine b_w (pc' := 681) (lv1 := ax_st1 [(0, .ref 0), (1, .ref 1), (2, .ref 76), (3, .ref 112), (4, bI i), (5, bI k)] 6 (bI b)) (lv' := [(0, .ref 0), (1, .ref 1), (2, .ref 76), (3, .ref 112), (4, bI i), (5, bI k), (6, bI b)]) (st' := []) l240_679 (fun _ => rfl) (bSb rfl (bSb rfl (bSb rfl (bSb rfl (bSb rfl (bSb rfl (bSb rfl bSn))))))) ?_
  refine b_s (pc' := 682) (lv1 := [(0, .ref 0), (1, .ref 1), (2, .ref 76), (3, .ref 112), (4, bI i), (5, bI k), (6, bI b)]) (st' := [.ref 76]) l240_681 (fun _ => rfl) ?_
  refine b_cPki (v := μ2 76 0) l240_682 rfl (b_rc (ci := 9) (by rfl) (by decide) (by decide +kernel)) (Nat.le_of_ble_eq_true rfl) (Nat.le_of_ble_eq_true rfl) rfl (r_X11_thrown ) rfl fun hw1 => b_pc (pc' := 685) rfl ?_
  refine b_s (pc' := 687) (lv1 := [(0, .ref 0), (1, .ref 1), (2, .ref 76), (3, .ref 112), (4, bI i), (5, bI k), (6, bI b)]) (st' := [bI k, bI (μ2 76 0)]) l240_685 (fun _ => rfl) ?_
  refine b_pos (c := (μ2 76 0) = k) (E1 := some (.inl 1, μf, c)) (E2 := none) (κ := some) hEQ ?_
  refine b_ieq (pt := 692) l240_687 hw1 hv1 (by decide) rfl (fun _ => ?_) (fun z => absurd hEQ z)
  refine b_s (pc' := 694) (lv1 := [(0, .ref 0), (1, .ref 1), (2, .ref 76), (3, .ref 112), (4, bI i), (5, bI k), (6, bI b)]) (st' := [bI k]) l240_692 (fun _ => rfl) ?_
  by_cases hk0 : k = 0
  · refine b_neg (c := ¬ k = 0) (E1 := none) (E2 := some (.inl 1, μf, c)) (κ := some) (fun z => z hk0) ?_
    refine b_zne (pt := 709) l240_694 hv1 (by decide) rfl (fun z => absurd hk0 z) (fun _ => b_pc (pc' := 697) rfl ?_)
    refine b_s (pc' := 698) (lv1 := [(0, .ref 0), (1, .ref 1), (2, .ref 76), (3, .ref 112), (4, bI i), (5, bI k), (6, bI b)]) (st' := [.ref 112]) l240_697 (fun _ => rfl) ?_
    refine b_s (pc' := 699) (lv1 := [(0, .ref 0), (1, .ref 1), (2, .ref 76), (3, .ref 112), (4, bI i), (5, bI k), (6, bI b)]) (st' := [bI 0, .ref 112]) l240_698 (fun _ => rfl) ?_
    refine b_lal l240_699 (by rfl) (by decide) (b_pc (pc' := 700) rfl ?_)
    refine b_s (pc' := 702) (lv1 := [(0, .ref 0), (1, .ref 1), (2, .ref 76), (3, .ref 112), (4, bI i), (5, bI k), (6, bI b)]) (st' := [bI b, bLg (μ2 112 0)]) l240_700 (fun _ => rfl) ?_
    refine b_i2l l240_702 hv2 (b_pc (pc' := 703) rfl ?_)
    refine b_lcmp l240_703 (bO_l hk2 (show bSh 112 = (2, 1) from rfl)) (bR_L hv2) (b_pc (pc' := 704) rfl ?_)
    refine b_pos (c := (bCmp (μ2 112 0) b) = 0) (E1 := some (.inl 1, μf, c)) (E2 := none) (κ := some) (bCmp_0 (ho hk0)) ?_
    refine b_zeq (pt := 709) l240_704 (bCmp_R _ _) (by decide) rfl (fun _ => ?_) (fun z => absurd (bCmp_0 (ho hk0)) z)
    refine b_s (pc' := 1655) (lv1 := [(0, .ref 0), (1, .ref 1), (2, .ref 76), (3, .ref 112), (4, bI i), (5, bI k), (6, bI b)]) (st' := []) l240_709 (fun _ => rfl) ?_
    refine b_inc1 (lv' := [(0, .ref 0), (1, .ref 1), (2, .ref 76), (3, .ref 112), (4, bI (i + 6))]) l240_1655 rfl (by decide +kernel) (bSb rfl (bSb rfl (bSb rfl (bSb rfl (bSb rfl bSn))))) (b_in (by omega) (by omega)) (b_pc (pc' := 1658) rfl ?_)
    refine b_s (pc' := 23) (lv1 := [(0, .ref 0), (1, .ref 1), (2, .ref 76), (3, .ref 112), (4, bI (i + 6))]) (st' := []) l240_1658 (fun _ => rfl) ?_
    exact kont
  · refine b_pos (c := ¬ k = 0) (E1 := some (.inl 1, μf, c)) (E2 := none) (κ := some) hk0 ?_
    refine b_zne (pt := 709) l240_694 hv1 (by decide) rfl (fun _ => ?_) (fun z => absurd hk0 z)
    refine b_s (pc' := 1655) (lv1 := [(0, .ref 0), (1, .ref 1), (2, .ref 76), (3, .ref 112), (4, bI i), (5, bI k), (6, bI b)]) (st' := []) l240_709 (fun _ => rfl) ?_
    refine b_inc1 (lv' := [(0, .ref 0), (1, .ref 1), (2, .ref 76), (3, .ref 112), (4, bI (i + 6))]) l240_1655 rfl (by decide +kernel) (bSb rfl (bSb rfl (bSb rfl (bSb rfl (bSb rfl bSn))))) (b_in (by omega) (by omega)) (b_pc (pc' := 1658) rfl ?_)
    refine b_s (pc' := 23) (lv1 := [(0, .ref 0), (1, .ref 1), (2, .ref 76), (3, .ref 112), (4, bI (i + 6))]) (st' := []) l240_1658 (fun _ => rfl) ?_
    exact kont
theorem g_7 {L : Nat} {xs : Nat → Int32} {i k b : Int} {c n1 : Nat} {μ μ1 μ2 μf : bM} (hL : L ≤ 3072) (hi : 0 ≤ i ∧ i + 6 ≤ (L : Int)) (hop : bAnd (xs i.toNat).toInt 31 = 7) (hF1 : F_X10_clear μ = some (k, μ1)) (hF2 : F_X11_clear μ1 = some (b, μ2)) (hEQ : k = b) (kont : bD L xs 9 240 23 [(0, .ref 0), (1, .ref 1), (2, .ref 76), (3, .ref 112), (4, bI (i + 6))] [] μ2 (some (.inl 1, μf, c))) : bD L xs 9 240 23 [(0, .ref 0), (1, .ref 1), (2, .ref 76), (3, .ref 112), (4, bI i)] [] μ (some (.inl 1, μf, c)) := by
  have hiR : bR i := b_in (by omega) (by omega)
  refine bD.ok fun hk => ?_
  refine b_s (pc' := 25) (lv1 := [(0, .ref 0), (1, .ref 1), (2, .ref 76), (3, .ref 112), (4, bI i)]) (st' := [bI i]) l240_23 (fun _ => rfl) ?_
  refine b_s (pc' := 26) (lv1 := [(0, .ref 0), (1, .ref 1), (2, .ref 76), (3, .ref 112), (4, bI i)]) (st' := [.ref 0, bI i]) l240_25 (fun _ => rfl) ?_
  refine b_scl l240_26 (b_pc (pc' := 27) rfl ?_)
  refine b_bipush l240_27 (by decide) (b_pc (pc' := 29) rfl ?_)
  refine b_isub1 l240_29 (b_in (by omega) (by omega)) (b_pc (pc' := 30) rfl ?_)
  refine b_neg (c := ((L : Int) - 6) < i) (E1 := none) (E2 := some (.inl 1, μf, c)) (κ := some) (by omega) ?_
  refine b_igt (pt := 1661) l240_30 hiR (b_in (by omega) (by omega)) (by decide) rfl (fun z => absurd z (by omega)) (fun _ => b_pc (pc' := 33) rfl ?_)
  refine b_s (pc' := 34) (lv1 := [(0, .ref 0), (1, .ref 1), (2, .ref 76), (3, .ref 112), (4, bI i)]) (st' := [.ref 0]) l240_33 (fun _ => rfl) ?_
  refine b_s (pc' := 36) (lv1 := [(0, .ref 0), (1, .ref 1), (2, .ref 76), (3, .ref 112), (4, bI i)]) (st' := [bI i, .ref 0]) l240_34 (fun _ => rfl) ?_
  refine b_scr l240_36 ⟨by omega, by omega⟩ (by omega) (b_pc (pc' := 37) rfl ?_)
  refine b_bipush l240_37 (by decide) (b_pc (pc' := 39) rfl ?_)
  refine b_iand l240_39 (b_pc (pc' := 40) rfl ?_)
  refine b_tsw l240_40 (bi_rg _) (by decide) (by decide) (by decide) ?_
  refine b_pc (pc' := bTg [(0, 152), (1, 256), (2, 292), (3, 348), (4, 416), (5, 540), (6, 620), (7, 712), (8, 725), (9, 738), (10, 794), (11, 862), (12, 918), (13, 998), (14, 1011), (15, 1067), (16, 1123), (17, 1191), (18, 1259), (19, 1315), (20, 1395), (21, 1462), (22, 1542), (23, 1598)] 1655 (bAnd (xs i.toNat).toInt 31)) rfl ?_
  refine b_pc (pc' := 712) (by rw [hop]; rfl) ?_
  refine b_s (pc' := 713) (lv1 := [(0, .ref 0), (1, .ref 1), (2, .ref 76), (3, .ref 112), (4, bI i)]) (st' := [.ref 1]) l240_712 (fun _ => rfl) ?_
  refine b_cMki l240_713 rfl (b_rc (ci := 8) (by rfl) (by decide) (by decide +kernel)) (Nat.le_of_ble_eq_true rfl) (Nat.le_of_ble_eq_true rfl) rfl (r_X10_clear ) hF1 fun hv1 => bD.ok fun hk1 => b_pc (pc' := 716) rfl ?_
  refine b_s (pc' := 717) (lv1 := [(0, .ref 0), (1, .ref 1), (2, .ref 76), (3, .ref 112), (4, bI i)]) (st' := [.ref 76, bI k]) l240_716 (fun _ => rfl) ?_
  refine b_cMki l240_717 rfl (b_rc (ci := 9) (by rfl) (by decide) (by decide +kernel)) (Nat.le_of_ble_eq_true rfl) (Nat.le_of_ble_eq_true rfl) rfl (r_X11_clear ) hF2 fun hv2 => bD.ok fun hk2 => b_pc (pc' := 720) rfl ?_
  refine b_pos (c := k = b) (E1 := some (.inl 1, μf, c)) (E2 := none) (κ := some) hEQ ?_
  refine b_ieq (pt := 1655) l240_720 hv1 hv2 (by decide) rfl (fun _ => ?_) (fun z => absurd hEQ z)
  refine b_inc1 (lv' := [(0, .ref 0), (1, .ref 1), (2, .ref 76), (3, .ref 112), (4, bI (i + 6))]) l240_1655 rfl (by decide +kernel) (bSb rfl (bSb rfl (bSb rfl (bSb rfl (bSb rfl bSn))))) (b_in (by omega) (by omega)) (b_pc (pc' := 1658) rfl ?_)
  refine b_s (pc' := 23) (lv1 := [(0, .ref 0), (1, .ref 1), (2, .ref 76), (3, .ref 112), (4, bI (i + 6))]) (st' := []) l240_1658 (fun _ => rfl) ?_
  exact kont
theorem g_8 {L : Nat} {xs : Nat → Int32} {i k b : Int} {c n1 : Nat} {μ μ1 μ2 μf : bM} (hL : L ≤ 3072) (hi : 0 ≤ i ∧ i + 6 ≤ (L : Int)) (hop : bAnd (xs i.toNat).toInt 31 = 8) (hF1 : F_X10_write μ = some (k, μ1)) (hF2 : F_X11_write μ1 = some (b, μ2)) (hEQ : k = b) (kont : bD L xs 9 240 23 [(0, .ref 0), (1, .ref 1), (2, .ref 76), (3, .ref 112), (4, bI (i + 6))] [] μ2 (some (.inl 1, μf, c))) : bD L xs 9 240 23 [(0, .ref 0), (1, .ref 1), (2, .ref 76), (3, .ref 112), (4, bI i)] [] μ (some (.inl 1, μf, c)) := by
  have hiR : bR i := b_in (by omega) (by omega)
  refine bD.ok fun hk => ?_
  refine b_s (pc' := 25) (lv1 := [(0, .ref 0), (1, .ref 1), (2, .ref 76), (3, .ref 112), (4, bI i)]) (st' := [bI i]) l240_23 (fun _ => rfl) ?_
  refine b_s (pc' := 26) (lv1 := [(0, .ref 0), (1, .ref 1), (2, .ref 76), (3, .ref 112), (4, bI i)]) (st' := [.ref 0, bI i]) l240_25 (fun _ => rfl) ?_
  refine b_scl l240_26 (b_pc (pc' := 27) rfl ?_)
  refine b_bipush l240_27 (by decide) (b_pc (pc' := 29) rfl ?_)
  refine b_isub1 l240_29 (b_in (by omega) (by omega)) (b_pc (pc' := 30) rfl ?_)
  refine b_neg (c := ((L : Int) - 6) < i) (E1 := none) (E2 := some (.inl 1, μf, c)) (κ := some) (by omega) ?_
  refine b_igt (pt := 1661) l240_30 hiR (b_in (by omega) (by omega)) (by decide) rfl (fun z => absurd z (by omega)) (fun _ => b_pc (pc' := 33) rfl ?_)
  refine b_s (pc' := 34) (lv1 := [(0, .ref 0), (1, .ref 1), (2, .ref 76), (3, .ref 112), (4, bI i)]) (st' := [.ref 0]) l240_33 (fun _ => rfl) ?_
  refine b_s (pc' := 36) (lv1 := [(0, .ref 0), (1, .ref 1), (2, .ref 76), (3, .ref 112), (4, bI i)]) (st' := [bI i, .ref 0]) l240_34 (fun _ => rfl) ?_
  refine b_scr l240_36 ⟨by omega, by omega⟩ (by omega) (b_pc (pc' := 37) rfl ?_)
  refine b_bipush l240_37 (by decide) (b_pc (pc' := 39) rfl ?_)
  refine b_iand l240_39 (b_pc (pc' := 40) rfl ?_)
  refine b_tsw l240_40 (bi_rg _) (by decide) (by decide) (by decide) ?_
  refine b_pc (pc' := bTg [(0, 152), (1, 256), (2, 292), (3, 348), (4, 416), (5, 540), (6, 620), (7, 712), (8, 725), (9, 738), (10, 794), (11, 862), (12, 918), (13, 998), (14, 1011), (15, 1067), (16, 1123), (17, 1191), (18, 1259), (19, 1315), (20, 1395), (21, 1462), (22, 1542), (23, 1598)] 1655 (bAnd (xs i.toNat).toInt 31)) rfl ?_
  refine b_pc (pc' := 725) (by rw [hop]; rfl) ?_
  refine b_s (pc' := 726) (lv1 := [(0, .ref 0), (1, .ref 1), (2, .ref 76), (3, .ref 112), (4, bI i)]) (st' := [.ref 1]) l240_725 (fun _ => rfl) ?_
  refine b_cMki l240_726 rfl (b_rc (ci := 8) (by rfl) (by decide) (by decide +kernel)) (Nat.le_of_ble_eq_true rfl) (Nat.le_of_ble_eq_true rfl) rfl (r_X10_write ) hF1 fun hv1 => bD.ok fun hk1 => b_pc (pc' := 729) rfl ?_
  refine b_s (pc' := 730) (lv1 := [(0, .ref 0), (1, .ref 1), (2, .ref 76), (3, .ref 112), (4, bI i)]) (st' := [.ref 76, bI k]) l240_729 (fun _ => rfl) ?_
  refine b_cMki l240_730 rfl (b_rc (ci := 9) (by rfl) (by decide) (by decide +kernel)) (Nat.le_of_ble_eq_true rfl) (Nat.le_of_ble_eq_true rfl) rfl (r_X11_write ) hF2 fun hv2 => bD.ok fun hk2 => b_pc (pc' := 733) rfl ?_
  refine b_pos (c := k = b) (E1 := some (.inl 1, μf, c)) (E2 := none) (κ := some) hEQ ?_
  refine b_ieq (pt := 1655) l240_733 hv1 hv2 (by decide) rfl (fun _ => ?_) (fun z => absurd hEQ z)
  refine b_inc1 (lv' := [(0, .ref 0), (1, .ref 1), (2, .ref 76), (3, .ref 112), (4, bI (i + 6))]) l240_1655 rfl (by decide +kernel) (bSb rfl (bSb rfl (bSb rfl (bSb rfl (bSb rfl bSn))))) (b_in (by omega) (by omega)) (b_pc (pc' := 1658) rfl ?_)
  refine b_s (pc' := 23) (lv1 := [(0, .ref 0), (1, .ref 1), (2, .ref 76), (3, .ref 112), (4, bI (i + 6))]) (st' := []) l240_1658 (fun _ => rfl) ?_
  exact kont
theorem g_9 {L : Nat} {xs : Nat → Int32} {i k b : Int} {c n1 : Nat} {μ μ1 μ2 μf : bM} (hL : L ≤ 3072) (hi : 0 ≤ i ∧ i + 6 ≤ (L : Int)) (hop : bAnd (xs i.toNat).toInt 31 = 9) (hF1 : F_L_size (xs (i + 1).toNat).toInt μ = some (k, μ1, n1)) (hF2 : F_X11_size (xs (i + 1).toNat).toInt μ1 = some (b, μ2)) (hEQ : μ2 76 0 = k) (ho : k = 0 → μ2 112 0 = b) (kont : bD L xs 9 240 23 [(0, .ref 0), (1, .ref 1), (2, .ref 76), (3, .ref 112), (4, bI (i + 6))] [] μ2 (some (.inl 1, μf, c))) : bD L xs 9 240 23 [(0, .ref 0), (1, .ref 1), (2, .ref 76), (3, .ref 112), (4, bI i)] [] μ (some (.inl 1, μf, (c + n1))) := by
  have hiR : bR i := b_in (by omega) (by omega)
  refine bD.ok fun hk => ?_
  refine b_s (pc' := 25) (lv1 := [(0, .ref 0), (1, .ref 1), (2, .ref 76), (3, .ref 112), (4, bI i)]) (st' := [bI i]) l240_23 (fun _ => rfl) ?_
  refine b_s (pc' := 26) (lv1 := [(0, .ref 0), (1, .ref 1), (2, .ref 76), (3, .ref 112), (4, bI i)]) (st' := [.ref 0, bI i]) l240_25 (fun _ => rfl) ?_
  refine b_scl l240_26 (b_pc (pc' := 27) rfl ?_)
  refine b_bipush l240_27 (by decide) (b_pc (pc' := 29) rfl ?_)
  refine b_isub1 l240_29 (b_in (by omega) (by omega)) (b_pc (pc' := 30) rfl ?_)
  refine b_neg (c := ((L : Int) - 6) < i) (E1 := none) (E2 := some (.inl 1, μf, (c + n1))) (κ := some) (by omega) ?_
  refine b_igt (pt := 1661) l240_30 hiR (b_in (by omega) (by omega)) (by decide) rfl (fun z => absurd z (by omega)) (fun _ => b_pc (pc' := 33) rfl ?_)
  refine b_s (pc' := 34) (lv1 := [(0, .ref 0), (1, .ref 1), (2, .ref 76), (3, .ref 112), (4, bI i)]) (st' := [.ref 0]) l240_33 (fun _ => rfl) ?_
  refine b_s (pc' := 36) (lv1 := [(0, .ref 0), (1, .ref 1), (2, .ref 76), (3, .ref 112), (4, bI i)]) (st' := [bI i, .ref 0]) l240_34 (fun _ => rfl) ?_
  refine b_scr l240_36 ⟨by omega, by omega⟩ (by omega) (b_pc (pc' := 37) rfl ?_)
  refine b_bipush l240_37 (by decide) (b_pc (pc' := 39) rfl ?_)
  refine b_iand l240_39 (b_pc (pc' := 40) rfl ?_)
  refine b_tsw l240_40 (bi_rg _) (by decide) (by decide) (by decide) ?_
  refine b_pc (pc' := bTg [(0, 152), (1, 256), (2, 292), (3, 348), (4, 416), (5, 540), (6, 620), (7, 712), (8, 725), (9, 738), (10, 794), (11, 862), (12, 918), (13, 998), (14, 1011), (15, 1067), (16, 1123), (17, 1191), (18, 1259), (19, 1315), (20, 1395), (21, 1462), (22, 1542), (23, 1598)] 1655 (bAnd (xs i.toNat).toInt 31)) rfl ?_
  refine b_pc (pc' := 738) (by rw [hop]; rfl) ?_
  refine b_s (pc' := 739) (lv1 := [(0, .ref 0), (1, .ref 1), (2, .ref 76), (3, .ref 112), (4, bI i)]) (st' := [.ref 1]) l240_738 (fun _ => rfl) ?_
  refine b_s (pc' := 740) (lv1 := [(0, .ref 0), (1, .ref 1), (2, .ref 76), (3, .ref 112), (4, bI i)]) (st' := [.ref 0, .ref 1]) l240_739 (fun _ => rfl) ?_
  refine b_s (pc' := 742) (lv1 := [(0, .ref 0), (1, .ref 1), (2, .ref 76), (3, .ref 112), (4, bI i)]) (st' := [bI i, .ref 0, .ref 1]) l240_740 (fun _ => rfl) ?_
  refine b_s (pc' := 743) (lv1 := [(0, .ref 0), (1, .ref 1), (2, .ref 76), (3, .ref 112), (4, bI i)]) (st' := [bI 1, bI i, .ref 0, .ref 1]) l240_742 (fun _ => rfl) ?_
  refine b_iadd1 l240_743 (b_in (by omega) (by omega)) (b_pc (pc' := 744) rfl ?_)
  refine b_scr l240_744 ⟨by omega, by omega⟩ (by omega) (b_pc (pc' := 745) rfl ?_)
  refine b_s (pc' := 746) (lv1 := [(0, .ref 0), (1, .ref 1), (2, .ref 76), (3, .ref 112), (4, bI i)]) (st' := [.ref 112, bI (xs (i + 1).toNat).toInt, .ref 1]) l240_745 (fun _ => rfl) ?_
  refine b_cKki l240_746 rfl (fun _ => trivial) (Nat.le_of_ble_eq_true rfl) (Nat.le_of_ble_eq_true rfl) rfl (r_L_size (xs (i + 1).toNat).toInt (bi_rg _)) hF1 fun hv1 => bD.ok fun hk1 => b_pc (pc' := 749) rfl ?_
  refine b_w (pc' := 751) (lv1 := ax_st1 [(0, .ref 0), (1, .ref 1), (2, .ref 76), (3, .ref 112), (4, bI i)] 5 (bI k)) (lv' := [(0, .ref 0), (1, .ref 1), (2, .ref 76), (3, .ref 112), (4, bI i), (5, bI k)]) (st' := []) l240_749 (fun _ => rfl) (bSb rfl (bSb rfl (bSb rfl (bSb rfl (bSb rfl (bSb rfl bSn)))))) ?_
  refine b_s (pc' := 752) (lv1 := [(0, .ref 0), (1, .ref 1), (2, .ref 76), (3, .ref 112), (4, bI i), (5, bI k)]) (st' := [.ref 76]) l240_751 (fun _ => rfl) ?_
  refine b_s (pc' := 753) (lv1 := [(0, .ref 0), (1, .ref 1), (2, .ref 76), (3, .ref 112), (4, bI i), (5, bI k)]) (st' := [.ref 0, .ref 76]) l240_752 (fun _ => rfl) ?_
  refine b_s (pc' := 755) (lv1 := [(0, .ref 0), (1, .ref 1), (2, .ref 76), (3, .ref 112), (4, bI i), (5, bI k)]) (st' := [bI i, .ref 0, .ref 76]) l240_753 (fun _ => rfl) ?_
  refine b_s (pc' := 756) (lv1 := [(0, .ref 0), (1, .ref 1), (2, .ref 76), (3, .ref 112), (4, bI i), (5, bI k)]) (st' := [bI 1, bI i, .ref 0, .ref 76]) l240_755 (fun _ => rfl) ?_
  refine b_iadd1 l240_756 (b_in (by omega) (by omega)) (b_pc (pc' := 757) rfl ?_)
  refine b_scr l240_757 ⟨by omega, by omega⟩ (by omega) (b_pc (pc' := 758) rfl ?_)
  refine b_cMki l240_758 rfl (b_rc (ci := 9) (by rfl) (by decide) (by decide +kernel)) (Nat.le_of_ble_eq_true rfl) (Nat.le_of_ble_eq_true rfl) rfl (r_X11_size (xs (i + 1).toNat).toInt (bi_rg _)) hF2 fun hv2 => bD.ok fun hk2 => b_pc (pc' := 761) rfl ?_
  refine b_w (pc' := 763) (lv1 := ax_st1 [(0, .ref 0), (1, .ref 1), (2, .ref 76), (3, .ref 112), (4, bI i), (5, bI k)] 6 (bI b)) (lv' := [(0, .ref 0), (1, .ref 1), (2, .ref 76), (3, .ref 112), (4, bI i), (5, bI k), (6, bI b)]) (st' := []) l240_761 (fun _ => rfl) (bSb rfl (bSb rfl (bSb rfl (bSb rfl (bSb rfl (bSb rfl (bSb rfl bSn))))))) ?_
  refine b_s (pc' := 764) (lv1 := [(0, .ref 0), (1, .ref 1), (2, .ref 76), (3, .ref 112), (4, bI i), (5, bI k), (6, bI b)]) (st' := [.ref 76]) l240_763 (fun _ => rfl) ?_
  refine b_cPki (v := μ2 76 0) l240_764 rfl (b_rc (ci := 9) (by rfl) (by decide) (by decide +kernel)) (Nat.le_of_ble_eq_true rfl) (Nat.le_of_ble_eq_true rfl) rfl (r_X11_thrown ) rfl fun hw1 => b_pc (pc' := 767) rfl ?_
  refine b_s (pc' := 769) (lv1 := [(0, .ref 0), (1, .ref 1), (2, .ref 76), (3, .ref 112), (4, bI i), (5, bI k), (6, bI b)]) (st' := [bI k, bI (μ2 76 0)]) l240_767 (fun _ => rfl) ?_
  refine b_pos (c := (μ2 76 0) = k) (E1 := some (.inl 1, μf, c)) (E2 := none) (κ := some) hEQ ?_
  refine b_ieq (pt := 774) l240_769 hw1 hv1 (by decide) rfl (fun _ => ?_) (fun z => absurd hEQ z)
  refine b_s (pc' := 776) (lv1 := [(0, .ref 0), (1, .ref 1), (2, .ref 76), (3, .ref 112), (4, bI i), (5, bI k), (6, bI b)]) (st' := [bI k]) l240_774 (fun _ => rfl) ?_
  by_cases hk0 : k = 0
  · refine b_neg (c := ¬ k = 0) (E1 := none) (E2 := some (.inl 1, μf, c)) (κ := some) (fun z => z hk0) ?_
    refine b_zne (pt := 791) l240_776 hv1 (by decide) rfl (fun z => absurd hk0 z) (fun _ => b_pc (pc' := 779) rfl ?_)
    refine b_s (pc' := 780) (lv1 := [(0, .ref 0), (1, .ref 1), (2, .ref 76), (3, .ref 112), (4, bI i), (5, bI k), (6, bI b)]) (st' := [.ref 112]) l240_779 (fun _ => rfl) ?_
    refine b_s (pc' := 781) (lv1 := [(0, .ref 0), (1, .ref 1), (2, .ref 76), (3, .ref 112), (4, bI i), (5, bI k), (6, bI b)]) (st' := [bI 0, .ref 112]) l240_780 (fun _ => rfl) ?_
    refine b_lal l240_781 (by rfl) (by decide) (b_pc (pc' := 782) rfl ?_)
    refine b_s (pc' := 784) (lv1 := [(0, .ref 0), (1, .ref 1), (2, .ref 76), (3, .ref 112), (4, bI i), (5, bI k), (6, bI b)]) (st' := [bI b, bLg (μ2 112 0)]) l240_782 (fun _ => rfl) ?_
    refine b_i2l l240_784 hv2 (b_pc (pc' := 785) rfl ?_)
    refine b_lcmp l240_785 (bO_l hk2 (show bSh 112 = (2, 1) from rfl)) (bR_L hv2) (b_pc (pc' := 786) rfl ?_)
    refine b_pos (c := (bCmp (μ2 112 0) b) = 0) (E1 := some (.inl 1, μf, c)) (E2 := none) (κ := some) (bCmp_0 (ho hk0)) ?_
    refine b_zeq (pt := 791) l240_786 (bCmp_R _ _) (by decide) rfl (fun _ => ?_) (fun z => absurd (bCmp_0 (ho hk0)) z)
    refine b_s (pc' := 1655) (lv1 := [(0, .ref 0), (1, .ref 1), (2, .ref 76), (3, .ref 112), (4, bI i), (5, bI k), (6, bI b)]) (st' := []) l240_791 (fun _ => rfl) ?_
    refine b_inc1 (lv' := [(0, .ref 0), (1, .ref 1), (2, .ref 76), (3, .ref 112), (4, bI (i + 6))]) l240_1655 rfl (by decide +kernel) (bSb rfl (bSb rfl (bSb rfl (bSb rfl (bSb rfl bSn))))) (b_in (by omega) (by omega)) (b_pc (pc' := 1658) rfl ?_)
    refine b_s (pc' := 23) (lv1 := [(0, .ref 0), (1, .ref 1), (2, .ref 76), (3, .ref 112), (4, bI (i + 6))]) (st' := []) l240_1658 (fun _ => rfl) ?_
    exact kont
  · refine b_pos (c := ¬ k = 0) (E1 := some (.inl 1, μf, c)) (E2 := none) (κ := some) hk0 ?_
    refine b_zne (pt := 791) l240_776 hv1 (by decide) rfl (fun _ => ?_) (fun z => absurd hk0 z)
    refine b_s (pc' := 1655) (lv1 := [(0, .ref 0), (1, .ref 1), (2, .ref 76), (3, .ref 112), (4, bI i), (5, bI k), (6, bI b)]) (st' := []) l240_791 (fun _ => rfl) ?_
    refine b_inc1 (lv' := [(0, .ref 0), (1, .ref 1), (2, .ref 76), (3, .ref 112), (4, bI (i + 6))]) l240_1655 rfl (by decide +kernel) (bSb rfl (bSb rfl (bSb rfl (bSb rfl (bSb rfl bSn))))) (b_in (by omega) (by omega)) (b_pc (pc' := 1658) rfl ?_)
    refine b_s (pc' := 23) (lv1 := [(0, .ref 0), (1, .ref 1), (2, .ref 76), (3, .ref 112), (4, bI (i + 6))]) (st' := []) l240_1658 (fun _ => rfl) ?_
    exact kont
theorem g_10 {L : Nat} {xs : Nat → Int32} {i k b : Int} {c n1 : Nat} {μ μ1 μ2 μf : bM} (hL : L ≤ 3072) (hi : 0 ≤ i ∧ i + 6 ≤ (L : Int)) (hop : bAnd (xs i.toNat).toInt 31 = 10) (hF1 : F_L_octet (xs (i + 1).toNat).toInt (xs (i + 2).toNat).toInt μ = some (k, μ1, n1)) (hF2 : F_X11_octet (xs (i + 1).toNat).toInt (xs (i + 2).toNat).toInt μ1 = some (b, μ2)) (hEQ : μ2 76 0 = k) (ho : k = 0 → μ2 112 0 = b) (kont : bD L xs 9 240 23 [(0, .ref 0), (1, .ref 1), (2, .ref 76), (3, .ref 112), (4, bI (i + 6))] [] μ2 (some (.inl 1, μf, c))) : bD L xs 9 240 23 [(0, .ref 0), (1, .ref 1), (2, .ref 76), (3, .ref 112), (4, bI i)] [] μ (some (.inl 1, μf, (c + n1))) := by
  have hiR : bR i := b_in (by omega) (by omega)
  refine bD.ok fun hk => ?_
  refine b_s (pc' := 25) (lv1 := [(0, .ref 0), (1, .ref 1), (2, .ref 76), (3, .ref 112), (4, bI i)]) (st' := [bI i]) l240_23 (fun _ => rfl) ?_
  refine b_s (pc' := 26) (lv1 := [(0, .ref 0), (1, .ref 1), (2, .ref 76), (3, .ref 112), (4, bI i)]) (st' := [.ref 0, bI i]) l240_25 (fun _ => rfl) ?_
  refine b_scl l240_26 (b_pc (pc' := 27) rfl ?_)
  refine b_bipush l240_27 (by decide) (b_pc (pc' := 29) rfl ?_)
  refine b_isub1 l240_29 (b_in (by omega) (by omega)) (b_pc (pc' := 30) rfl ?_)
  refine b_neg (c := ((L : Int) - 6) < i) (E1 := none) (E2 := some (.inl 1, μf, (c + n1))) (κ := some) (by omega) ?_
  refine b_igt (pt := 1661) l240_30 hiR (b_in (by omega) (by omega)) (by decide) rfl (fun z => absurd z (by omega)) (fun _ => b_pc (pc' := 33) rfl ?_)
  refine b_s (pc' := 34) (lv1 := [(0, .ref 0), (1, .ref 1), (2, .ref 76), (3, .ref 112), (4, bI i)]) (st' := [.ref 0]) l240_33 (fun _ => rfl) ?_
  refine b_s (pc' := 36) (lv1 := [(0, .ref 0), (1, .ref 1), (2, .ref 76), (3, .ref 112), (4, bI i)]) (st' := [bI i, .ref 0]) l240_34 (fun _ => rfl) ?_
  refine b_scr l240_36 ⟨by omega, by omega⟩ (by omega) (b_pc (pc' := 37) rfl ?_)
  refine b_bipush l240_37 (by decide) (b_pc (pc' := 39) rfl ?_)
  refine b_iand l240_39 (b_pc (pc' := 40) rfl ?_)
  refine b_tsw l240_40 (bi_rg _) (by decide) (by decide) (by decide) ?_
  refine b_pc (pc' := bTg [(0, 152), (1, 256), (2, 292), (3, 348), (4, 416), (5, 540), (6, 620), (7, 712), (8, 725), (9, 738), (10, 794), (11, 862), (12, 918), (13, 998), (14, 1011), (15, 1067), (16, 1123), (17, 1191), (18, 1259), (19, 1315), (20, 1395), (21, 1462), (22, 1542), (23, 1598)] 1655 (bAnd (xs i.toNat).toInt 31)) rfl ?_
  refine b_pc (pc' := 794) (by rw [hop]; rfl) ?_
  refine b_s (pc' := 795) (lv1 := [(0, .ref 0), (1, .ref 1), (2, .ref 76), (3, .ref 112), (4, bI i)]) (st' := [.ref 1]) l240_794 (fun _ => rfl) ?_
  refine b_s (pc' := 796) (lv1 := [(0, .ref 0), (1, .ref 1), (2, .ref 76), (3, .ref 112), (4, bI i)]) (st' := [.ref 0, .ref 1]) l240_795 (fun _ => rfl) ?_
  refine b_s (pc' := 798) (lv1 := [(0, .ref 0), (1, .ref 1), (2, .ref 76), (3, .ref 112), (4, bI i)]) (st' := [bI i, .ref 0, .ref 1]) l240_796 (fun _ => rfl) ?_
  refine b_s (pc' := 799) (lv1 := [(0, .ref 0), (1, .ref 1), (2, .ref 76), (3, .ref 112), (4, bI i)]) (st' := [bI 1, bI i, .ref 0, .ref 1]) l240_798 (fun _ => rfl) ?_
  refine b_iadd1 l240_799 (b_in (by omega) (by omega)) (b_pc (pc' := 800) rfl ?_)
  refine b_scr l240_800 ⟨by omega, by omega⟩ (by omega) (b_pc (pc' := 801) rfl ?_)
  refine b_s (pc' := 802) (lv1 := [(0, .ref 0), (1, .ref 1), (2, .ref 76), (3, .ref 112), (4, bI i)]) (st' := [.ref 0, bI (xs (i + 1).toNat).toInt, .ref 1]) l240_801 (fun _ => rfl) ?_
  refine b_s (pc' := 804) (lv1 := [(0, .ref 0), (1, .ref 1), (2, .ref 76), (3, .ref 112), (4, bI i)]) (st' := [bI i, .ref 0, bI (xs (i + 1).toNat).toInt, .ref 1]) l240_802 (fun _ => rfl) ?_
  refine b_s (pc' := 805) (lv1 := [(0, .ref 0), (1, .ref 1), (2, .ref 76), (3, .ref 112), (4, bI i)]) (st' := [bI 2, bI i, .ref 0, bI (xs (i + 1).toNat).toInt, .ref 1]) l240_804 (fun _ => rfl) ?_
  refine b_iadd1 l240_805 (b_in (by omega) (by omega)) (b_pc (pc' := 806) rfl ?_)
  refine b_scr l240_806 ⟨by omega, by omega⟩ (by omega) (b_pc (pc' := 807) rfl ?_)
  refine b_s (pc' := 808) (lv1 := [(0, .ref 0), (1, .ref 1), (2, .ref 76), (3, .ref 112), (4, bI i)]) (st' := [.ref 112, bI (xs (i + 2).toNat).toInt, bI (xs (i + 1).toNat).toInt, .ref 1]) l240_807 (fun _ => rfl) ?_
  refine b_cKki l240_808 rfl (fun _ => trivial) (Nat.le_of_ble_eq_true rfl) (Nat.le_of_ble_eq_true rfl) rfl (r_L_octet (xs (i + 1).toNat).toInt (bi_rg _) (xs (i + 2).toNat).toInt (bi_rg _)) hF1 fun hv1 => bD.ok fun hk1 => b_pc (pc' := 811) rfl ?_
  refine b_w (pc' := 813) (lv1 := ax_st1 [(0, .ref 0), (1, .ref 1), (2, .ref 76), (3, .ref 112), (4, bI i)] 5 (bI k)) (lv' := [(0, .ref 0), (1, .ref 1), (2, .ref 76), (3, .ref 112), (4, bI i), (5, bI k)]) (st' := []) l240_811 (fun _ => rfl) (bSb rfl (bSb rfl (bSb rfl (bSb rfl (bSb rfl (bSb rfl bSn)))))) ?_
  refine b_s (pc' := 814) (lv1 := [(0, .ref 0), (1, .ref 1), (2, .ref 76), (3, .ref 112), (4, bI i), (5, bI k)]) (st' := [.ref 76]) l240_813 (fun _ => rfl) ?_
  refine b_s (pc' := 815) (lv1 := [(0, .ref 0), (1, .ref 1), (2, .ref 76), (3, .ref 112), (4, bI i), (5, bI k)]) (st' := [.ref 0, .ref 76]) l240_814 (fun _ => rfl) ?_
  refine b_s (pc' := 817) (lv1 := [(0, .ref 0), (1, .ref 1), (2, .ref 76), (3, .ref 112), (4, bI i), (5, bI k)]) (st' := [bI i, .ref 0, .ref 76]) l240_815 (fun _ => rfl) ?_
  refine b_s (pc' := 818) (lv1 := [(0, .ref 0), (1, .ref 1), (2, .ref 76), (3, .ref 112), (4, bI i), (5, bI k)]) (st' := [bI 1, bI i, .ref 0, .ref 76]) l240_817 (fun _ => rfl) ?_
  refine b_iadd1 l240_818 (b_in (by omega) (by omega)) (b_pc (pc' := 819) rfl ?_)
  refine b_scr l240_819 ⟨by omega, by omega⟩ (by omega) (b_pc (pc' := 820) rfl ?_)
  refine b_s (pc' := 821) (lv1 := [(0, .ref 0), (1, .ref 1), (2, .ref 76), (3, .ref 112), (4, bI i), (5, bI k)]) (st' := [.ref 0, bI (xs (i + 1).toNat).toInt, .ref 76]) l240_820 (fun _ => rfl) ?_
  refine b_s (pc' := 823) (lv1 := [(0, .ref 0), (1, .ref 1), (2, .ref 76), (3, .ref 112), (4, bI i), (5, bI k)]) (st' := [bI i, .ref 0, bI (xs (i + 1).toNat).toInt, .ref 76]) l240_821 (fun _ => rfl) ?_
  refine b_s (pc' := 824) (lv1 := [(0, .ref 0), (1, .ref 1), (2, .ref 76), (3, .ref 112), (4, bI i), (5, bI k)]) (st' := [bI 2, bI i, .ref 0, bI (xs (i + 1).toNat).toInt, .ref 76]) l240_823 (fun _ => rfl) ?_
  refine b_iadd1 l240_824 (b_in (by omega) (by omega)) (b_pc (pc' := 825) rfl ?_)
  refine b_scr l240_825 ⟨by omega, by omega⟩ (by omega) (b_pc (pc' := 826) rfl ?_)
  refine b_cMki l240_826 rfl (b_rc (ci := 9) (by rfl) (by decide) (by decide +kernel)) (Nat.le_of_ble_eq_true rfl) (Nat.le_of_ble_eq_true rfl) rfl (r_X11_octet (xs (i + 1).toNat).toInt (bi_rg _) (xs (i + 2).toNat).toInt (bi_rg _)) hF2 fun hv2 => bD.ok fun hk2 => b_pc (pc' := 829) rfl ?_
  refine b_w (pc' := 831) (lv1 := ax_st1 [(0, .ref 0), (1, .ref 1), (2, .ref 76), (3, .ref 112), (4, bI i), (5, bI k)] 6 (bI b)) (lv' := [(0, .ref 0), (1, .ref 1), (2, .ref 76), (3, .ref 112), (4, bI i), (5, bI k), (6, bI b)]) (st' := []) l240_829 (fun _ => rfl) (bSb rfl (bSb rfl (bSb rfl (bSb rfl (bSb rfl (bSb rfl (bSb rfl bSn))))))) ?_
  refine b_s (pc' := 832) (lv1 := [(0, .ref 0), (1, .ref 1), (2, .ref 76), (3, .ref 112), (4, bI i), (5, bI k), (6, bI b)]) (st' := [.ref 76]) l240_831 (fun _ => rfl) ?_
  refine b_cPki (v := μ2 76 0) l240_832 rfl (b_rc (ci := 9) (by rfl) (by decide) (by decide +kernel)) (Nat.le_of_ble_eq_true rfl) (Nat.le_of_ble_eq_true rfl) rfl (r_X11_thrown ) rfl fun hw1 => b_pc (pc' := 835) rfl ?_
  refine b_s (pc' := 837) (lv1 := [(0, .ref 0), (1, .ref 1), (2, .ref 76), (3, .ref 112), (4, bI i), (5, bI k), (6, bI b)]) (st' := [bI k, bI (μ2 76 0)]) l240_835 (fun _ => rfl) ?_
  refine b_pos (c := (μ2 76 0) = k) (E1 := some (.inl 1, μf, c)) (E2 := none) (κ := some) hEQ ?_
  refine b_ieq (pt := 842) l240_837 hw1 hv1 (by decide) rfl (fun _ => ?_) (fun z => absurd hEQ z)
  refine b_s (pc' := 844) (lv1 := [(0, .ref 0), (1, .ref 1), (2, .ref 76), (3, .ref 112), (4, bI i), (5, bI k), (6, bI b)]) (st' := [bI k]) l240_842 (fun _ => rfl) ?_
  by_cases hk0 : k = 0
  · refine b_neg (c := ¬ k = 0) (E1 := none) (E2 := some (.inl 1, μf, c)) (κ := some) (fun z => z hk0) ?_
    refine b_zne (pt := 859) l240_844 hv1 (by decide) rfl (fun z => absurd hk0 z) (fun _ => b_pc (pc' := 847) rfl ?_)
    refine b_s (pc' := 848) (lv1 := [(0, .ref 0), (1, .ref 1), (2, .ref 76), (3, .ref 112), (4, bI i), (5, bI k), (6, bI b)]) (st' := [.ref 112]) l240_847 (fun _ => rfl) ?_
    refine b_s (pc' := 849) (lv1 := [(0, .ref 0), (1, .ref 1), (2, .ref 76), (3, .ref 112), (4, bI i), (5, bI k), (6, bI b)]) (st' := [bI 0, .ref 112]) l240_848 (fun _ => rfl) ?_
    refine b_lal l240_849 (by rfl) (by decide) (b_pc (pc' := 850) rfl ?_)
    refine b_s (pc' := 852) (lv1 := [(0, .ref 0), (1, .ref 1), (2, .ref 76), (3, .ref 112), (4, bI i), (5, bI k), (6, bI b)]) (st' := [bI b, bLg (μ2 112 0)]) l240_850 (fun _ => rfl) ?_
    refine b_i2l l240_852 hv2 (b_pc (pc' := 853) rfl ?_)
    refine b_lcmp l240_853 (bO_l hk2 (show bSh 112 = (2, 1) from rfl)) (bR_L hv2) (b_pc (pc' := 854) rfl ?_)
    refine b_pos (c := (bCmp (μ2 112 0) b) = 0) (E1 := some (.inl 1, μf, c)) (E2 := none) (κ := some) (bCmp_0 (ho hk0)) ?_
    refine b_zeq (pt := 859) l240_854 (bCmp_R _ _) (by decide) rfl (fun _ => ?_) (fun z => absurd (bCmp_0 (ho hk0)) z)
    refine b_s (pc' := 1655) (lv1 := [(0, .ref 0), (1, .ref 1), (2, .ref 76), (3, .ref 112), (4, bI i), (5, bI k), (6, bI b)]) (st' := []) l240_859 (fun _ => rfl) ?_
    refine b_inc1 (lv' := [(0, .ref 0), (1, .ref 1), (2, .ref 76), (3, .ref 112), (4, bI (i + 6))]) l240_1655 rfl (by decide +kernel) (bSb rfl (bSb rfl (bSb rfl (bSb rfl (bSb rfl bSn))))) (b_in (by omega) (by omega)) (b_pc (pc' := 1658) rfl ?_)
    refine b_s (pc' := 23) (lv1 := [(0, .ref 0), (1, .ref 1), (2, .ref 76), (3, .ref 112), (4, bI (i + 6))]) (st' := []) l240_1658 (fun _ => rfl) ?_
    exact kont
  · refine b_pos (c := ¬ k = 0) (E1 := some (.inl 1, μf, c)) (E2 := none) (κ := some) hk0 ?_
    refine b_zne (pt := 859) l240_844 hv1 (by decide) rfl (fun _ => ?_) (fun z => absurd hk0 z)
    refine b_s (pc' := 1655) (lv1 := [(0, .ref 0), (1, .ref 1), (2, .ref 76), (3, .ref 112), (4, bI i), (5, bI k), (6, bI b)]) (st' := []) l240_859 (fun _ => rfl) ?_
    refine b_inc1 (lv' := [(0, .ref 0), (1, .ref 1), (2, .ref 76), (3, .ref 112), (4, bI (i + 6))]) l240_1655 rfl (by decide +kernel) (bSb rfl (bSb rfl (bSb rfl (bSb rfl (bSb rfl bSn))))) (b_in (by omega) (by omega)) (b_pc (pc' := 1658) rfl ?_)
    refine b_s (pc' := 23) (lv1 := [(0, .ref 0), (1, .ref 1), (2, .ref 76), (3, .ref 112), (4, bI (i + 6))]) (st' := []) l240_1658 (fun _ => rfl) ?_
    exact kont
theorem g_11 {L : Nat} {xs : Nat → Int32} {i k b : Int} {c n1 : Nat} {μ μ1 μ2 μf : bM} (hL : L ≤ 3072) (hi : 0 ≤ i ∧ i + 6 ≤ (L : Int)) (hop : bAnd (xs i.toNat).toInt 31 = 11) (hF1 : F_L_load (xs (i + 1).toNat).toInt μ = some (k, μ1, n1)) (hF2 : F_X11_load (xs (i + 1).toNat).toInt μ1 = some (b, μ2)) (hEQ : μ2 76 0 = k) (ho : k = 0 → μ2 112 0 = b) (kont : bD L xs 9 240 23 [(0, .ref 0), (1, .ref 1), (2, .ref 76), (3, .ref 112), (4, bI (i + 6))] [] μ2 (some (.inl 1, μf, c))) : bD L xs 9 240 23 [(0, .ref 0), (1, .ref 1), (2, .ref 76), (3, .ref 112), (4, bI i)] [] μ (some (.inl 1, μf, (c + n1))) := by
  have hiR : bR i := b_in (by omega) (by omega)
  refine bD.ok fun hk => ?_
  refine b_s (pc' := 25) (lv1 := [(0, .ref 0), (1, .ref 1), (2, .ref 76), (3, .ref 112), (4, bI i)]) (st' := [bI i]) l240_23 (fun _ => rfl) ?_
  refine b_s (pc' := 26) (lv1 := [(0, .ref 0), (1, .ref 1), (2, .ref 76), (3, .ref 112), (4, bI i)]) (st' := [.ref 0, bI i]) l240_25 (fun _ => rfl) ?_
  refine b_scl l240_26 (b_pc (pc' := 27) rfl ?_)
  refine b_bipush l240_27 (by decide) (b_pc (pc' := 29) rfl ?_)
  refine b_isub1 l240_29 (b_in (by omega) (by omega)) (b_pc (pc' := 30) rfl ?_)
  refine b_neg (c := ((L : Int) - 6) < i) (E1 := none) (E2 := some (.inl 1, μf, (c + n1))) (κ := some) (by omega) ?_
  refine b_igt (pt := 1661) l240_30 hiR (b_in (by omega) (by omega)) (by decide) rfl (fun z => absurd z (by omega)) (fun _ => b_pc (pc' := 33) rfl ?_)
  refine b_s (pc' := 34) (lv1 := [(0, .ref 0), (1, .ref 1), (2, .ref 76), (3, .ref 112), (4, bI i)]) (st' := [.ref 0]) l240_33 (fun _ => rfl) ?_
  refine b_s (pc' := 36) (lv1 := [(0, .ref 0), (1, .ref 1), (2, .ref 76), (3, .ref 112), (4, bI i)]) (st' := [bI i, .ref 0]) l240_34 (fun _ => rfl) ?_
  refine b_scr l240_36 ⟨by omega, by omega⟩ (by omega) (b_pc (pc' := 37) rfl ?_)
  refine b_bipush l240_37 (by decide) (b_pc (pc' := 39) rfl ?_)
  refine b_iand l240_39 (b_pc (pc' := 40) rfl ?_)
  refine b_tsw l240_40 (bi_rg _) (by decide) (by decide) (by decide) ?_
  refine b_pc (pc' := bTg [(0, 152), (1, 256), (2, 292), (3, 348), (4, 416), (5, 540), (6, 620), (7, 712), (8, 725), (9, 738), (10, 794), (11, 862), (12, 918), (13, 998), (14, 1011), (15, 1067), (16, 1123), (17, 1191), (18, 1259), (19, 1315), (20, 1395), (21, 1462), (22, 1542), (23, 1598)] 1655 (bAnd (xs i.toNat).toInt 31)) rfl ?_
  refine b_pc (pc' := 862) (by rw [hop]; rfl) ?_
  refine b_s (pc' := 863) (lv1 := [(0, .ref 0), (1, .ref 1), (2, .ref 76), (3, .ref 112), (4, bI i)]) (st' := [.ref 1]) l240_862 (fun _ => rfl) ?_
  refine b_s (pc' := 864) (lv1 := [(0, .ref 0), (1, .ref 1), (2, .ref 76), (3, .ref 112), (4, bI i)]) (st' := [.ref 0, .ref 1]) l240_863 (fun _ => rfl) ?_
  refine b_s (pc' := 866) (lv1 := [(0, .ref 0), (1, .ref 1), (2, .ref 76), (3, .ref 112), (4, bI i)]) (st' := [bI i, .ref 0, .ref 1]) l240_864 (fun _ => rfl) ?_
  refine b_s (pc' := 867) (lv1 := [(0, .ref 0), (1, .ref 1), (2, .ref 76), (3, .ref 112), (4, bI i)]) (st' := [bI 1, bI i, .ref 0, .ref 1]) l240_866 (fun _ => rfl) ?_
  refine b_iadd1 l240_867 (b_in (by omega) (by omega)) (b_pc (pc' := 868) rfl ?_)
  refine b_scr l240_868 ⟨by omega, by omega⟩ (by omega) (b_pc (pc' := 869) rfl ?_)
  refine b_s (pc' := 870) (lv1 := [(0, .ref 0), (1, .ref 1), (2, .ref 76), (3, .ref 112), (4, bI i)]) (st' := [.ref 112, bI (xs (i + 1).toNat).toInt, .ref 1]) l240_869 (fun _ => rfl) ?_
  refine b_cKki l240_870 rfl (fun _ => trivial) (Nat.le_of_ble_eq_true rfl) (Nat.le_of_ble_eq_true rfl) rfl (r_L_load (xs (i + 1).toNat).toInt (bi_rg _)) hF1 fun hv1 => bD.ok fun hk1 => b_pc (pc' := 873) rfl ?_
  refine b_w (pc' := 875) (lv1 := ax_st1 [(0, .ref 0), (1, .ref 1), (2, .ref 76), (3, .ref 112), (4, bI i)] 5 (bI k)) (lv' := [(0, .ref 0), (1, .ref 1), (2, .ref 76), (3, .ref 112), (4, bI i), (5, bI k)]) (st' := []) l240_873 (fun _ => rfl) (bSb rfl (bSb rfl (bSb rfl (bSb rfl (bSb rfl (bSb rfl bSn)))))) ?_
  refine b_s (pc' := 876) (lv1 := [(0, .ref 0), (1, .ref 1), (2, .ref 76), (3, .ref 112), (4, bI i), (5, bI k)]) (st' := [.ref 76]) l240_875 (fun _ => rfl) ?_
  refine b_s (pc' := 877) (lv1 := [(0, .ref 0), (1, .ref 1), (2, .ref 76), (3, .ref 112), (4, bI i), (5, bI k)]) (st' := [.ref 0, .ref 76]) l240_876 (fun _ => rfl) ?_
  refine b_s (pc' := 879) (lv1 := [(0, .ref 0), (1, .ref 1), (2, .ref 76), (3, .ref 112), (4, bI i), (5, bI k)]) (st' := [bI i, .ref 0, .ref 76]) l240_877 (fun _ => rfl) ?_
  refine b_s (pc' := 880) (lv1 := [(0, .ref 0), (1, .ref 1), (2, .ref 76), (3, .ref 112), (4, bI i), (5, bI k)]) (st' := [bI 1, bI i, .ref 0, .ref 76]) l240_879 (fun _ => rfl) ?_
  refine b_iadd1 l240_880 (b_in (by omega) (by omega)) (b_pc (pc' := 881) rfl ?_)
  refine b_scr l240_881 ⟨by omega, by omega⟩ (by omega) (b_pc (pc' := 882) rfl ?_)
  refine b_cMki l240_882 rfl (b_rc (ci := 9) (by rfl) (by decide) (by decide +kernel)) (Nat.le_of_ble_eq_true rfl) (Nat.le_of_ble_eq_true rfl) rfl (r_X11_load (xs (i + 1).toNat).toInt (bi_rg _)) hF2 fun hv2 => bD.ok fun hk2 => b_pc (pc' := 885) rfl ?_
  refine b_w (pc' := 887) (lv1 := ax_st1 [(0, .ref 0), (1, .ref 1), (2, .ref 76), (3, .ref 112), (4, bI i), (5, bI k)] 6 (bI b)) (lv' := [(0, .ref 0), (1, .ref 1), (2, .ref 76), (3, .ref 112), (4, bI i), (5, bI k), (6, bI b)]) (st' := []) l240_885 (fun _ => rfl) (bSb rfl (bSb rfl (bSb rfl (bSb rfl (bSb rfl (bSb rfl (bSb rfl bSn))))))) ?_
  refine b_s (pc' := 888) (lv1 := [(0, .ref 0), (1, .ref 1), (2, .ref 76), (3, .ref 112), (4, bI i), (5, bI k), (6, bI b)]) (st' := [.ref 76]) l240_887 (fun _ => rfl) ?_
  refine b_cPki (v := μ2 76 0) l240_888 rfl (b_rc (ci := 9) (by rfl) (by decide) (by decide +kernel)) (Nat.le_of_ble_eq_true rfl) (Nat.le_of_ble_eq_true rfl) rfl (r_X11_thrown ) rfl fun hw1 => b_pc (pc' := 891) rfl ?_
  refine b_s (pc' := 893) (lv1 := [(0, .ref 0), (1, .ref 1), (2, .ref 76), (3, .ref 112), (4, bI i), (5, bI k), (6, bI b)]) (st' := [bI k, bI (μ2 76 0)]) l240_891 (fun _ => rfl) ?_
  refine b_pos (c := (μ2 76 0) = k) (E1 := some (.inl 1, μf, c)) (E2 := none) (κ := some) hEQ ?_
  refine b_ieq (pt := 898) l240_893 hw1 hv1 (by decide) rfl (fun _ => ?_) (fun z => absurd hEQ z)
  refine b_s (pc' := 900) (lv1 := [(0, .ref 0), (1, .ref 1), (2, .ref 76), (3, .ref 112), (4, bI i), (5, bI k), (6, bI b)]) (st' := [bI k]) l240_898 (fun _ => rfl) ?_
  by_cases hk0 : k = 0
  · refine b_neg (c := ¬ k = 0) (E1 := none) (E2 := some (.inl 1, μf, c)) (κ := some) (fun z => z hk0) ?_
    refine b_zne (pt := 915) l240_900 hv1 (by decide) rfl (fun z => absurd hk0 z) (fun _ => b_pc (pc' := 903) rfl ?_)
    refine b_s (pc' := 904) (lv1 := [(0, .ref 0), (1, .ref 1), (2, .ref 76), (3, .ref 112), (4, bI i), (5, bI k), (6, bI b)]) (st' := [.ref 112]) l240_903 (fun _ => rfl) ?_
    refine b_s (pc' := 905) (lv1 := [(0, .ref 0), (1, .ref 1), (2, .ref 76), (3, .ref 112), (4, bI i), (5, bI k), (6, bI b)]) (st' := [bI 0, .ref 112]) l240_904 (fun _ => rfl) ?_
    refine b_lal l240_905 (by rfl) (by decide) (b_pc (pc' := 906) rfl ?_)
    refine b_s (pc' := 908) (lv1 := [(0, .ref 0), (1, .ref 1), (2, .ref 76), (3, .ref 112), (4, bI i), (5, bI k), (6, bI b)]) (st' := [bI b, bLg (μ2 112 0)]) l240_906 (fun _ => rfl) ?_
    refine b_i2l l240_908 hv2 (b_pc (pc' := 909) rfl ?_)
    refine b_lcmp l240_909 (bO_l hk2 (show bSh 112 = (2, 1) from rfl)) (bR_L hv2) (b_pc (pc' := 910) rfl ?_)
    refine b_pos (c := (bCmp (μ2 112 0) b) = 0) (E1 := some (.inl 1, μf, c)) (E2 := none) (κ := some) (bCmp_0 (ho hk0)) ?_
    refine b_zeq (pt := 915) l240_910 (bCmp_R _ _) (by decide) rfl (fun _ => ?_) (fun z => absurd (bCmp_0 (ho hk0)) z)
    refine b_s (pc' := 1655) (lv1 := [(0, .ref 0), (1, .ref 1), (2, .ref 76), (3, .ref 112), (4, bI i), (5, bI k), (6, bI b)]) (st' := []) l240_915 (fun _ => rfl) ?_
    refine b_inc1 (lv' := [(0, .ref 0), (1, .ref 1), (2, .ref 76), (3, .ref 112), (4, bI (i + 6))]) l240_1655 rfl (by decide +kernel) (bSb rfl (bSb rfl (bSb rfl (bSb rfl (bSb rfl bSn))))) (b_in (by omega) (by omega)) (b_pc (pc' := 1658) rfl ?_)
    refine b_s (pc' := 23) (lv1 := [(0, .ref 0), (1, .ref 1), (2, .ref 76), (3, .ref 112), (4, bI (i + 6))]) (st' := []) l240_1658 (fun _ => rfl) ?_
    exact kont
  · refine b_pos (c := ¬ k = 0) (E1 := some (.inl 1, μf, c)) (E2 := none) (κ := some) hk0 ?_
    refine b_zne (pt := 915) l240_900 hv1 (by decide) rfl (fun _ => ?_) (fun z => absurd hk0 z)
    refine b_s (pc' := 1655) (lv1 := [(0, .ref 0), (1, .ref 1), (2, .ref 76), (3, .ref 112), (4, bI i), (5, bI k), (6, bI b)]) (st' := []) l240_915 (fun _ => rfl) ?_
    refine b_inc1 (lv' := [(0, .ref 0), (1, .ref 1), (2, .ref 76), (3, .ref 112), (4, bI (i + 6))]) l240_1655 rfl (by decide +kernel) (bSb rfl (bSb rfl (bSb rfl (bSb rfl (bSb rfl bSn))))) (b_in (by omega) (by omega)) (b_pc (pc' := 1658) rfl ?_)
    refine b_s (pc' := 23) (lv1 := [(0, .ref 0), (1, .ref 1), (2, .ref 76), (3, .ref 112), (4, bI (i + 6))]) (st' := []) l240_1658 (fun _ => rfl) ?_
    exact kont
theorem g_12 {L : Nat} {xs : Nat → Int32} {i k b : Int} {c n1 : Nat} {μ μ1 μ2 μf : bM} (hL : L ≤ 3072) (hi : 0 ≤ i ∧ i + 6 ≤ (L : Int)) (hop : bAnd (xs i.toNat).toInt 31 = 12) (hF1 : F_L_alter (xs (i + 1).toNat).toInt (xs (i + 2).toNat).toInt (xs (i + 3).toNat).toInt μ = some (k, μ1, n1)) (hF2 : F_X11_alter (xs (i + 1).toNat).toInt (xs (i + 2).toNat).toInt (xs (i + 3).toNat).toInt μ1 = some (b, μ2)) (hEQ : μ2 76 0 = k) (ho : k = 0 → μ2 112 0 = b) (kont : bD L xs 9 240 23 [(0, .ref 0), (1, .ref 1), (2, .ref 76), (3, .ref 112), (4, bI (i + 6))] [] μ2 (some (.inl 1, μf, c))) : bD L xs 9 240 23 [(0, .ref 0), (1, .ref 1), (2, .ref 76), (3, .ref 112), (4, bI i)] [] μ (some (.inl 1, μf, (c + n1))) := by
  have hiR : bR i := b_in (by omega) (by omega)
  refine bD.ok fun hk => ?_
  refine b_s (pc' := 25) (lv1 := [(0, .ref 0), (1, .ref 1), (2, .ref 76), (3, .ref 112), (4, bI i)]) (st' := [bI i]) l240_23 (fun _ => rfl) ?_
  refine b_s (pc' := 26) (lv1 := [(0, .ref 0), (1, .ref 1), (2, .ref 76), (3, .ref 112), (4, bI i)]) (st' := [.ref 0, bI i]) l240_25 (fun _ => rfl) ?_
  refine b_scl l240_26 (b_pc (pc' := 27) rfl ?_)
  refine b_bipush l240_27 (by decide) (b_pc (pc' := 29) rfl ?_)
  refine b_isub1 l240_29 (b_in (by omega) (by omega)) (b_pc (pc' := 30) rfl ?_)
  refine b_neg (c := ((L : Int) - 6) < i) (E1 := none) (E2 := some (.inl 1, μf, (c + n1))) (κ := some) (by omega) ?_
  refine b_igt (pt := 1661) l240_30 hiR (b_in (by omega) (by omega)) (by decide) rfl (fun z => absurd z (by omega)) (fun _ => b_pc (pc' := 33) rfl ?_)
  refine b_s (pc' := 34) (lv1 := [(0, .ref 0), (1, .ref 1), (2, .ref 76), (3, .ref 112), (4, bI i)]) (st' := [.ref 0]) l240_33 (fun _ => rfl) ?_
  refine b_s (pc' := 36) (lv1 := [(0, .ref 0), (1, .ref 1), (2, .ref 76), (3, .ref 112), (4, bI i)]) (st' := [bI i, .ref 0]) l240_34 (fun _ => rfl) ?_
  refine b_scr l240_36 ⟨by omega, by omega⟩ (by omega) (b_pc (pc' := 37) rfl ?_)
  refine b_bipush l240_37 (by decide) (b_pc (pc' := 39) rfl ?_)
  refine b_iand l240_39 (b_pc (pc' := 40) rfl ?_)
  refine b_tsw l240_40 (bi_rg _) (by decide) (by decide) (by decide) ?_
  refine b_pc (pc' := bTg [(0, 152), (1, 256), (2, 292), (3, 348), (4, 416), (5, 540), (6, 620), (7, 712), (8, 725), (9, 738), (10, 794), (11, 862), (12, 918), (13, 998), (14, 1011), (15, 1067), (16, 1123), (17, 1191), (18, 1259), (19, 1315), (20, 1395), (21, 1462), (22, 1542), (23, 1598)] 1655 (bAnd (xs i.toNat).toInt 31)) rfl ?_
  refine b_pc (pc' := 918) (by rw [hop]; rfl) ?_
  refine b_s (pc' := 919) (lv1 := [(0, .ref 0), (1, .ref 1), (2, .ref 76), (3, .ref 112), (4, bI i)]) (st' := [.ref 1]) l240_918 (fun _ => rfl) ?_
  refine b_s (pc' := 920) (lv1 := [(0, .ref 0), (1, .ref 1), (2, .ref 76), (3, .ref 112), (4, bI i)]) (st' := [.ref 0, .ref 1]) l240_919 (fun _ => rfl) ?_
  refine b_s (pc' := 922) (lv1 := [(0, .ref 0), (1, .ref 1), (2, .ref 76), (3, .ref 112), (4, bI i)]) (st' := [bI i, .ref 0, .ref 1]) l240_920 (fun _ => rfl) ?_
  refine b_s (pc' := 923) (lv1 := [(0, .ref 0), (1, .ref 1), (2, .ref 76), (3, .ref 112), (4, bI i)]) (st' := [bI 1, bI i, .ref 0, .ref 1]) l240_922 (fun _ => rfl) ?_
  refine b_iadd1 l240_923 (b_in (by omega) (by omega)) (b_pc (pc' := 924) rfl ?_)
  refine b_scr l240_924 ⟨by omega, by omega⟩ (by omega) (b_pc (pc' := 925) rfl ?_)
  refine b_s (pc' := 926) (lv1 := [(0, .ref 0), (1, .ref 1), (2, .ref 76), (3, .ref 112), (4, bI i)]) (st' := [.ref 0, bI (xs (i + 1).toNat).toInt, .ref 1]) l240_925 (fun _ => rfl) ?_
  refine b_s (pc' := 928) (lv1 := [(0, .ref 0), (1, .ref 1), (2, .ref 76), (3, .ref 112), (4, bI i)]) (st' := [bI i, .ref 0, bI (xs (i + 1).toNat).toInt, .ref 1]) l240_926 (fun _ => rfl) ?_
  refine b_s (pc' := 929) (lv1 := [(0, .ref 0), (1, .ref 1), (2, .ref 76), (3, .ref 112), (4, bI i)]) (st' := [bI 2, bI i, .ref 0, bI (xs (i + 1).toNat).toInt, .ref 1]) l240_928 (fun _ => rfl) ?_
  refine b_iadd1 l240_929 (b_in (by omega) (by omega)) (b_pc (pc' := 930) rfl ?_)
  refine b_scr l240_930 ⟨by omega, by omega⟩ (by omega) (b_pc (pc' := 931) rfl ?_)
  refine b_s (pc' := 932) (lv1 := [(0, .ref 0), (1, .ref 1), (2, .ref 76), (3, .ref 112), (4, bI i)]) (st' := [.ref 0, bI (xs (i + 2).toNat).toInt, bI (xs (i + 1).toNat).toInt, .ref 1]) l240_931 (fun _ => rfl) ?_
  refine b_s (pc' := 934) (lv1 := [(0, .ref 0), (1, .ref 1), (2, .ref 76), (3, .ref 112), (4, bI i)]) (st' := [bI i, .ref 0, bI (xs (i + 2).toNat).toInt, bI (xs (i + 1).toNat).toInt, .ref 1]) l240_932 (fun _ => rfl) ?_
  refine b_s (pc' := 935) (lv1 := [(0, .ref 0), (1, .ref 1), (2, .ref 76), (3, .ref 112), (4, bI i)]) (st' := [bI 3, bI i, .ref 0, bI (xs (i + 2).toNat).toInt, bI (xs (i + 1).toNat).toInt, .ref 1]) l240_934 (fun _ => rfl) ?_
  refine b_iadd1 l240_935 (b_in (by omega) (by omega)) (b_pc (pc' := 936) rfl ?_)
  refine b_scr l240_936 ⟨by omega, by omega⟩ (by omega) (b_pc (pc' := 937) rfl ?_)
  refine b_s (pc' := 938) (lv1 := [(0, .ref 0), (1, .ref 1), (2, .ref 76), (3, .ref 112), (4, bI i)]) (st' := [.ref 112, bI (xs (i + 3).toNat).toInt, bI (xs (i + 2).toNat).toInt, bI (xs (i + 1).toNat).toInt, .ref 1]) l240_937 (fun _ => rfl) ?_
  refine b_cKki l240_938 rfl (fun _ => trivial) (Nat.le_of_ble_eq_true rfl) (Nat.le_of_ble_eq_true rfl) rfl (r_L_alter (xs (i + 1).toNat).toInt (bi_rg _) (xs (i + 2).toNat).toInt (bi_rg _) (xs (i + 3).toNat).toInt (bi_rg _)) hF1 fun hv1 => bD.ok fun hk1 => b_pc (pc' := 941) rfl ?_
  refine b_w (pc' := 943) (lv1 := ax_st1 [(0, .ref 0), (1, .ref 1), (2, .ref 76), (3, .ref 112), (4, bI i)] 5 (bI k)) (lv' := [(0, .ref 0), (1, .ref 1), (2, .ref 76), (3, .ref 112), (4, bI i), (5, bI k)]) (st' := []) l240_941 (fun _ => rfl) (bSb rfl (bSb rfl (bSb rfl (bSb rfl (bSb rfl (bSb rfl bSn)))))) ?_
  refine b_s (pc' := 944) (lv1 := [(0, .ref 0), (1, .ref 1), (2, .ref 76), (3, .ref 112), (4, bI i), (5, bI k)]) (st' := [.ref 76]) l240_943 (fun _ => rfl) ?_
  refine b_s (pc' := 945) (lv1 := [(0, .ref 0), (1, .ref 1), (2, .ref 76), (3, .ref 112), (4, bI i), (5, bI k)]) (st' := [.ref 0, .ref 76]) l240_944 (fun _ => rfl) ?_
  refine b_s (pc' := 947) (lv1 := [(0, .ref 0), (1, .ref 1), (2, .ref 76), (3, .ref 112), (4, bI i), (5, bI k)]) (st' := [bI i, .ref 0, .ref 76]) l240_945 (fun _ => rfl) ?_
  refine b_s (pc' := 948) (lv1 := [(0, .ref 0), (1, .ref 1), (2, .ref 76), (3, .ref 112), (4, bI i), (5, bI k)]) (st' := [bI 1, bI i, .ref 0, .ref 76]) l240_947 (fun _ => rfl) ?_
  refine b_iadd1 l240_948 (b_in (by omega) (by omega)) (b_pc (pc' := 949) rfl ?_)
  refine b_scr l240_949 ⟨by omega, by omega⟩ (by omega) (b_pc (pc' := 950) rfl ?_)
  refine b_s (pc' := 951) (lv1 := [(0, .ref 0), (1, .ref 1), (2, .ref 76), (3, .ref 112), (4, bI i), (5, bI k)]) (st' := [.ref 0, bI (xs (i + 1).toNat).toInt, .ref 76]) l240_950 (fun _ => rfl) ?_
  refine b_s (pc' := 953) (lv1 := [(0, .ref 0), (1, .ref 1), (2, .ref 76), (3, .ref 112), (4, bI i), (5, bI k)]) (st' := [bI i, .ref 0, bI (xs (i + 1).toNat).toInt, .ref 76]) l240_951 (fun _ => rfl) ?_
  refine b_s (pc' := 954) (lv1 := [(0, .ref 0), (1, .ref 1), (2, .ref 76), (3, .ref 112), (4, bI i), (5, bI k)]) (st' := [bI 2, bI i, .ref 0, bI (xs (i + 1).toNat).toInt, .ref 76]) l240_953 (fun _ => rfl) ?_
  refine b_iadd1 l240_954 (b_in (by omega) (by omega)) (b_pc (pc' := 955) rfl ?_)
  refine b_scr l240_955 ⟨by omega, by omega⟩ (by omega) (b_pc (pc' := 956) rfl ?_)
  refine b_s (pc' := 957) (lv1 := [(0, .ref 0), (1, .ref 1), (2, .ref 76), (3, .ref 112), (4, bI i), (5, bI k)]) (st' := [.ref 0, bI (xs (i + 2).toNat).toInt, bI (xs (i + 1).toNat).toInt, .ref 76]) l240_956 (fun _ => rfl) ?_
  refine b_s (pc' := 959) (lv1 := [(0, .ref 0), (1, .ref 1), (2, .ref 76), (3, .ref 112), (4, bI i), (5, bI k)]) (st' := [bI i, .ref 0, bI (xs (i + 2).toNat).toInt, bI (xs (i + 1).toNat).toInt, .ref 76]) l240_957 (fun _ => rfl) ?_
  refine b_s (pc' := 960) (lv1 := [(0, .ref 0), (1, .ref 1), (2, .ref 76), (3, .ref 112), (4, bI i), (5, bI k)]) (st' := [bI 3, bI i, .ref 0, bI (xs (i + 2).toNat).toInt, bI (xs (i + 1).toNat).toInt, .ref 76]) l240_959 (fun _ => rfl) ?_
  refine b_iadd1 l240_960 (b_in (by omega) (by omega)) (b_pc (pc' := 961) rfl ?_)
  refine b_scr l240_961 ⟨by omega, by omega⟩ (by omega) (b_pc (pc' := 962) rfl ?_)
  refine b_cMki l240_962 rfl (b_rc (ci := 9) (by rfl) (by decide) (by decide +kernel)) (Nat.le_of_ble_eq_true rfl) (Nat.le_of_ble_eq_true rfl) rfl (r_X11_alter (xs (i + 1).toNat).toInt (bi_rg _) (xs (i + 2).toNat).toInt (bi_rg _) (xs (i + 3).toNat).toInt (bi_rg _)) hF2 fun hv2 => bD.ok fun hk2 => b_pc (pc' := 965) rfl ?_
  refine b_w (pc' := 967) (lv1 := ax_st1 [(0, .ref 0), (1, .ref 1), (2, .ref 76), (3, .ref 112), (4, bI i), (5, bI k)] 6 (bI b)) (lv' := [(0, .ref 0), (1, .ref 1), (2, .ref 76), (3, .ref 112), (4, bI i), (5, bI k), (6, bI b)]) (st' := []) l240_965 (fun _ => rfl) (bSb rfl (bSb rfl (bSb rfl (bSb rfl (bSb rfl (bSb rfl (bSb rfl bSn))))))) ?_
  refine b_s (pc' := 968) (lv1 := [(0, .ref 0), (1, .ref 1), (2, .ref 76), (3, .ref 112), (4, bI i), (5, bI k), (6, bI b)]) (st' := [.ref 76]) l240_967 (fun _ => rfl) ?_
  refine b_cPki (v := μ2 76 0) l240_968 rfl (b_rc (ci := 9) (by rfl) (by decide) (by decide +kernel)) (Nat.le_of_ble_eq_true rfl) (Nat.le_of_ble_eq_true rfl) rfl (r_X11_thrown ) rfl fun hw1 => b_pc (pc' := 971) rfl ?_
  refine b_s (pc' := 973) (lv1 := [(0, .ref 0), (1, .ref 1), (2, .ref 76), (3, .ref 112), (4, bI i), (5, bI k), (6, bI b)]) (st' := [bI k, bI (μ2 76 0)]) l240_971 (fun _ => rfl) ?_
  refine b_pos (c := (μ2 76 0) = k) (E1 := some (.inl 1, μf, c)) (E2 := none) (κ := some) hEQ ?_
  refine b_ieq (pt := 978) l240_973 hw1 hv1 (by decide) rfl (fun _ => ?_) (fun z => absurd hEQ z)
  refine b_s (pc' := 980) (lv1 := [(0, .ref 0), (1, .ref 1), (2, .ref 76), (3, .ref 112), (4, bI i), (5, bI k), (6, bI b)]) (st' := [bI k]) l240_978 (fun _ => rfl) ?_
  by_cases hk0 : k = 0
  · refine b_neg (c := ¬ k = 0) (E1 := none) (E2 := some (.inl 1, μf, c)) (κ := some) (fun z => z hk0) ?_
    refine b_zne (pt := 995) l240_980 hv1 (by decide) rfl (fun z => absurd hk0 z) (fun _ => b_pc (pc' := 983) rfl ?_)
    refine b_s (pc' := 984) (lv1 := [(0, .ref 0), (1, .ref 1), (2, .ref 76), (3, .ref 112), (4, bI i), (5, bI k), (6, bI b)]) (st' := [.ref 112]) l240_983 (fun _ => rfl) ?_
    refine b_s (pc' := 985) (lv1 := [(0, .ref 0), (1, .ref 1), (2, .ref 76), (3, .ref 112), (4, bI i), (5, bI k), (6, bI b)]) (st' := [bI 0, .ref 112]) l240_984 (fun _ => rfl) ?_
    refine b_lal l240_985 (by rfl) (by decide) (b_pc (pc' := 986) rfl ?_)
    refine b_s (pc' := 988) (lv1 := [(0, .ref 0), (1, .ref 1), (2, .ref 76), (3, .ref 112), (4, bI i), (5, bI k), (6, bI b)]) (st' := [bI b, bLg (μ2 112 0)]) l240_986 (fun _ => rfl) ?_
    refine b_i2l l240_988 hv2 (b_pc (pc' := 989) rfl ?_)
    refine b_lcmp l240_989 (bO_l hk2 (show bSh 112 = (2, 1) from rfl)) (bR_L hv2) (b_pc (pc' := 990) rfl ?_)
    refine b_pos (c := (bCmp (μ2 112 0) b) = 0) (E1 := some (.inl 1, μf, c)) (E2 := none) (κ := some) (bCmp_0 (ho hk0)) ?_
    refine b_zeq (pt := 995) l240_990 (bCmp_R _ _) (by decide) rfl (fun _ => ?_) (fun z => absurd (bCmp_0 (ho hk0)) z)
    refine b_s (pc' := 1655) (lv1 := [(0, .ref 0), (1, .ref 1), (2, .ref 76), (3, .ref 112), (4, bI i), (5, bI k), (6, bI b)]) (st' := []) l240_995 (fun _ => rfl) ?_
    refine b_inc1 (lv' := [(0, .ref 0), (1, .ref 1), (2, .ref 76), (3, .ref 112), (4, bI (i + 6))]) l240_1655 rfl (by decide +kernel) (bSb rfl (bSb rfl (bSb rfl (bSb rfl (bSb rfl bSn))))) (b_in (by omega) (by omega)) (b_pc (pc' := 1658) rfl ?_)
    refine b_s (pc' := 23) (lv1 := [(0, .ref 0), (1, .ref 1), (2, .ref 76), (3, .ref 112), (4, bI (i + 6))]) (st' := []) l240_1658 (fun _ => rfl) ?_
    exact kont
  · refine b_pos (c := ¬ k = 0) (E1 := some (.inl 1, μf, c)) (E2 := none) (κ := some) hk0 ?_
    refine b_zne (pt := 995) l240_980 hv1 (by decide) rfl (fun _ => ?_) (fun z => absurd hk0 z)
    refine b_s (pc' := 1655) (lv1 := [(0, .ref 0), (1, .ref 1), (2, .ref 76), (3, .ref 112), (4, bI i), (5, bI k), (6, bI b)]) (st' := []) l240_995 (fun _ => rfl) ?_
    refine b_inc1 (lv' := [(0, .ref 0), (1, .ref 1), (2, .ref 76), (3, .ref 112), (4, bI (i + 6))]) l240_1655 rfl (by decide +kernel) (bSb rfl (bSb rfl (bSb rfl (bSb rfl (bSb rfl bSn))))) (b_in (by omega) (by omega)) (b_pc (pc' := 1658) rfl ?_)
    refine b_s (pc' := 23) (lv1 := [(0, .ref 0), (1, .ref 1), (2, .ref 76), (3, .ref 112), (4, bI (i + 6))]) (st' := []) l240_1658 (fun _ => rfl) ?_
    exact kont
theorem g_13 {L : Nat} {xs : Nat → Int32} {i k b : Int} {c n1 : Nat} {μ μ1 μ2 μf : bM} (hL : L ≤ 3072) (hi : 0 ≤ i ∧ i + 6 ≤ (L : Int)) (hop : bAnd (xs i.toNat).toInt 31 = 13) (hF1 : F_X10_read μ = some (k, μ1, n1)) (hF2 : F_X11_read μ1 = some (b, μ2)) (hEQ : k = b) (kont : bD L xs 9 240 23 [(0, .ref 0), (1, .ref 1), (2, .ref 76), (3, .ref 112), (4, bI (i + 6))] [] μ2 (some (.inl 1, μf, c))) : bD L xs 9 240 23 [(0, .ref 0), (1, .ref 1), (2, .ref 76), (3, .ref 112), (4, bI i)] [] μ (some (.inl 1, μf, (c + n1))) := by
  have hiR : bR i := b_in (by omega) (by omega)
  refine bD.ok fun hk => ?_
  refine b_s (pc' := 25) (lv1 := [(0, .ref 0), (1, .ref 1), (2, .ref 76), (3, .ref 112), (4, bI i)]) (st' := [bI i]) l240_23 (fun _ => rfl) ?_
  refine b_s (pc' := 26) (lv1 := [(0, .ref 0), (1, .ref 1), (2, .ref 76), (3, .ref 112), (4, bI i)]) (st' := [.ref 0, bI i]) l240_25 (fun _ => rfl) ?_
  refine b_scl l240_26 (b_pc (pc' := 27) rfl ?_)
  refine b_bipush l240_27 (by decide) (b_pc (pc' := 29) rfl ?_)
  refine b_isub1 l240_29 (b_in (by omega) (by omega)) (b_pc (pc' := 30) rfl ?_)
  refine b_neg (c := ((L : Int) - 6) < i) (E1 := none) (E2 := some (.inl 1, μf, (c + n1))) (κ := some) (by omega) ?_
  refine b_igt (pt := 1661) l240_30 hiR (b_in (by omega) (by omega)) (by decide) rfl (fun z => absurd z (by omega)) (fun _ => b_pc (pc' := 33) rfl ?_)
  refine b_s (pc' := 34) (lv1 := [(0, .ref 0), (1, .ref 1), (2, .ref 76), (3, .ref 112), (4, bI i)]) (st' := [.ref 0]) l240_33 (fun _ => rfl) ?_
  refine b_s (pc' := 36) (lv1 := [(0, .ref 0), (1, .ref 1), (2, .ref 76), (3, .ref 112), (4, bI i)]) (st' := [bI i, .ref 0]) l240_34 (fun _ => rfl) ?_
  refine b_scr l240_36 ⟨by omega, by omega⟩ (by omega) (b_pc (pc' := 37) rfl ?_)
  refine b_bipush l240_37 (by decide) (b_pc (pc' := 39) rfl ?_)
  refine b_iand l240_39 (b_pc (pc' := 40) rfl ?_)
  refine b_tsw l240_40 (bi_rg _) (by decide) (by decide) (by decide) ?_
  refine b_pc (pc' := bTg [(0, 152), (1, 256), (2, 292), (3, 348), (4, 416), (5, 540), (6, 620), (7, 712), (8, 725), (9, 738), (10, 794), (11, 862), (12, 918), (13, 998), (14, 1011), (15, 1067), (16, 1123), (17, 1191), (18, 1259), (19, 1315), (20, 1395), (21, 1462), (22, 1542), (23, 1598)] 1655 (bAnd (xs i.toNat).toInt 31)) rfl ?_
  refine b_pc (pc' := 998) (by rw [hop]; rfl) ?_
  refine b_s (pc' := 999) (lv1 := [(0, .ref 0), (1, .ref 1), (2, .ref 76), (3, .ref 112), (4, bI i)]) (st' := [.ref 1]) l240_998 (fun _ => rfl) ?_
  refine b_cKki l240_999 rfl (b_rc (ci := 8) (by rfl) (by decide) (by decide +kernel)) (Nat.le_of_ble_eq_true rfl) (Nat.le_of_ble_eq_true rfl) rfl (r_X10_read ) hF1 fun hv1 => bD.ok fun hk1 => b_pc (pc' := 1002) rfl ?_
  refine b_s (pc' := 1003) (lv1 := [(0, .ref 0), (1, .ref 1), (2, .ref 76), (3, .ref 112), (4, bI i)]) (st' := [.ref 76, bI k]) l240_1002 (fun _ => rfl) ?_
  refine b_cMki l240_1003 rfl (b_rc (ci := 9) (by rfl) (by decide) (by decide +kernel)) (Nat.le_of_ble_eq_true rfl) (Nat.le_of_ble_eq_true rfl) rfl (r_X11_read ) hF2 fun hv2 => bD.ok fun hk2 => b_pc (pc' := 1006) rfl ?_
  refine b_pos (c := k = b) (E1 := some (.inl 1, μf, c)) (E2 := none) (κ := some) hEQ ?_
  refine b_ieq (pt := 1655) l240_1006 hv1 hv2 (by decide) rfl (fun _ => ?_) (fun z => absurd hEQ z)
  refine b_inc1 (lv' := [(0, .ref 0), (1, .ref 1), (2, .ref 76), (3, .ref 112), (4, bI (i + 6))]) l240_1655 rfl (by decide +kernel) (bSb rfl (bSb rfl (bSb rfl (bSb rfl (bSb rfl bSn))))) (b_in (by omega) (by omega)) (b_pc (pc' := 1658) rfl ?_)
  refine b_s (pc' := 23) (lv1 := [(0, .ref 0), (1, .ref 1), (2, .ref 76), (3, .ref 112), (4, bI (i + 6))]) (st' := []) l240_1658 (fun _ => rfl) ?_
  exact kont
theorem g_14 {L : Nat} {xs : Nat → Int32} {i k b : Int} {c n1 : Nat} {μ μ1 μ2 μf : bM} (hL : L ≤ 3072) (hi : 0 ≤ i ∧ i + 6 ≤ (L : Int)) (hop : bAnd (xs i.toNat).toInt 31 = 14) (hF1 : F_L_fault (xs (i + 1).toNat).toInt μ = some (k, μ1, n1)) (hF2 : F_X11_fault (xs (i + 1).toNat).toInt μ1 = some (b, μ2)) (hEQ : μ2 76 0 = k) (ho : k = 0 → μ2 112 0 = b) (kont : bD L xs 9 240 23 [(0, .ref 0), (1, .ref 1), (2, .ref 76), (3, .ref 112), (4, bI (i + 6))] [] μ2 (some (.inl 1, μf, c))) : bD L xs 9 240 23 [(0, .ref 0), (1, .ref 1), (2, .ref 76), (3, .ref 112), (4, bI i)] [] μ (some (.inl 1, μf, (c + n1))) := by
  have hiR : bR i := b_in (by omega) (by omega)
  refine bD.ok fun hk => ?_
  refine b_s (pc' := 25) (lv1 := [(0, .ref 0), (1, .ref 1), (2, .ref 76), (3, .ref 112), (4, bI i)]) (st' := [bI i]) l240_23 (fun _ => rfl) ?_
  refine b_s (pc' := 26) (lv1 := [(0, .ref 0), (1, .ref 1), (2, .ref 76), (3, .ref 112), (4, bI i)]) (st' := [.ref 0, bI i]) l240_25 (fun _ => rfl) ?_
  refine b_scl l240_26 (b_pc (pc' := 27) rfl ?_)
  refine b_bipush l240_27 (by decide) (b_pc (pc' := 29) rfl ?_)
  refine b_isub1 l240_29 (b_in (by omega) (by omega)) (b_pc (pc' := 30) rfl ?_)
  refine b_neg (c := ((L : Int) - 6) < i) (E1 := none) (E2 := some (.inl 1, μf, (c + n1))) (κ := some) (by omega) ?_
  refine b_igt (pt := 1661) l240_30 hiR (b_in (by omega) (by omega)) (by decide) rfl (fun z => absurd z (by omega)) (fun _ => b_pc (pc' := 33) rfl ?_)
  refine b_s (pc' := 34) (lv1 := [(0, .ref 0), (1, .ref 1), (2, .ref 76), (3, .ref 112), (4, bI i)]) (st' := [.ref 0]) l240_33 (fun _ => rfl) ?_
  refine b_s (pc' := 36) (lv1 := [(0, .ref 0), (1, .ref 1), (2, .ref 76), (3, .ref 112), (4, bI i)]) (st' := [bI i, .ref 0]) l240_34 (fun _ => rfl) ?_
  refine b_scr l240_36 ⟨by omega, by omega⟩ (by omega) (b_pc (pc' := 37) rfl ?_)
  refine b_bipush l240_37 (by decide) (b_pc (pc' := 39) rfl ?_)
  refine b_iand l240_39 (b_pc (pc' := 40) rfl ?_)
  refine b_tsw l240_40 (bi_rg _) (by decide) (by decide) (by decide) ?_
  refine b_pc (pc' := bTg [(0, 152), (1, 256), (2, 292), (3, 348), (4, 416), (5, 540), (6, 620), (7, 712), (8, 725), (9, 738), (10, 794), (11, 862), (12, 918), (13, 998), (14, 1011), (15, 1067), (16, 1123), (17, 1191), (18, 1259), (19, 1315), (20, 1395), (21, 1462), (22, 1542), (23, 1598)] 1655 (bAnd (xs i.toNat).toInt 31)) rfl ?_
  refine b_pc (pc' := 1011) (by rw [hop]; rfl) ?_
  refine b_s (pc' := 1012) (lv1 := [(0, .ref 0), (1, .ref 1), (2, .ref 76), (3, .ref 112), (4, bI i)]) (st' := [.ref 1]) l240_1011 (fun _ => rfl) ?_
  refine b_s (pc' := 1013) (lv1 := [(0, .ref 0), (1, .ref 1), (2, .ref 76), (3, .ref 112), (4, bI i)]) (st' := [.ref 0, .ref 1]) l240_1012 (fun _ => rfl) ?_
  refine b_s (pc' := 1015) (lv1 := [(0, .ref 0), (1, .ref 1), (2, .ref 76), (3, .ref 112), (4, bI i)]) (st' := [bI i, .ref 0, .ref 1]) l240_1013 (fun _ => rfl) ?_
  refine b_s (pc' := 1016) (lv1 := [(0, .ref 0), (1, .ref 1), (2, .ref 76), (3, .ref 112), (4, bI i)]) (st' := [bI 1, bI i, .ref 0, .ref 1]) l240_1015 (fun _ => rfl) ?_
  refine b_iadd1 l240_1016 (b_in (by omega) (by omega)) (b_pc (pc' := 1017) rfl ?_)
  refine b_scr l240_1017 ⟨by omega, by omega⟩ (by omega) (b_pc (pc' := 1018) rfl ?_)
  refine b_s (pc' := 1019) (lv1 := [(0, .ref 0), (1, .ref 1), (2, .ref 76), (3, .ref 112), (4, bI i)]) (st' := [.ref 112, bI (xs (i + 1).toNat).toInt, .ref 1]) l240_1018 (fun _ => rfl) ?_
  refine b_cKki l240_1019 rfl (fun _ => trivial) (Nat.le_of_ble_eq_true rfl) (Nat.le_of_ble_eq_true rfl) rfl (r_L_fault (xs (i + 1).toNat).toInt (bi_rg _)) hF1 fun hv1 => bD.ok fun hk1 => b_pc (pc' := 1022) rfl ?_
  refine b_w (pc' := 1024) (lv1 := ax_st1 [(0, .ref 0), (1, .ref 1), (2, .ref 76), (3, .ref 112), (4, bI i)] 5 (bI k)) (lv' := [(0, .ref 0), (1, .ref 1), (2, .ref 76), (3, .ref 112), (4, bI i), (5, bI k)]) (st' := []) l240_1022 (fun _ => rfl) (bSb rfl (bSb rfl (bSb rfl (bSb rfl (bSb rfl (bSb rfl bSn)))))) ?_
  refine b_s (pc' := 1025) (lv1 := [(0, .ref 0), (1, .ref 1), (2, .ref 76), (3, .ref 112), (4, bI i), (5, bI k)]) (st' := [.ref 76]) l240_1024 (fun _ => rfl) ?_
  refine b_s (pc' := 1026) (lv1 := [(0, .ref 0), (1, .ref 1), (2, .ref 76), (3, .ref 112), (4, bI i), (5, bI k)]) (st' := [.ref 0, .ref 76]) l240_1025 (fun _ => rfl) ?_
  refine b_s (pc' := 1028) (lv1 := [(0, .ref 0), (1, .ref 1), (2, .ref 76), (3, .ref 112), (4, bI i), (5, bI k)]) (st' := [bI i, .ref 0, .ref 76]) l240_1026 (fun _ => rfl) ?_
  refine b_s (pc' := 1029) (lv1 := [(0, .ref 0), (1, .ref 1), (2, .ref 76), (3, .ref 112), (4, bI i), (5, bI k)]) (st' := [bI 1, bI i, .ref 0, .ref 76]) l240_1028 (fun _ => rfl) ?_
  refine b_iadd1 l240_1029 (b_in (by omega) (by omega)) (b_pc (pc' := 1030) rfl ?_)
  refine b_scr l240_1030 ⟨by omega, by omega⟩ (by omega) (b_pc (pc' := 1031) rfl ?_)
  refine b_cMki l240_1031 rfl (b_rc (ci := 9) (by rfl) (by decide) (by decide +kernel)) (Nat.le_of_ble_eq_true rfl) (Nat.le_of_ble_eq_true rfl) rfl (r_X11_fault (xs (i + 1).toNat).toInt (bi_rg _)) hF2 fun hv2 => bD.ok fun hk2 => b_pc (pc' := 1034) rfl ?_
  refine b_w (pc' := 1036) (lv1 := ax_st1 [(0, .ref 0), (1, .ref 1), (2, .ref 76), (3, .ref 112), (4, bI i), (5, bI k)] 6 (bI b)) (lv' := [(0, .ref 0), (1, .ref 1), (2, .ref 76), (3, .ref 112), (4, bI i), (5, bI k), (6, bI b)]) (st' := []) l240_1034 (fun _ => rfl) (bSb rfl (bSb rfl (bSb rfl (bSb rfl (bSb rfl (bSb rfl (bSb rfl bSn))))))) ?_
  refine b_s (pc' := 1037) (lv1 := [(0, .ref 0), (1, .ref 1), (2, .ref 76), (3, .ref 112), (4, bI i), (5, bI k), (6, bI b)]) (st' := [.ref 76]) l240_1036 (fun _ => rfl) ?_
  refine b_cPki (v := μ2 76 0) l240_1037 rfl (b_rc (ci := 9) (by rfl) (by decide) (by decide +kernel)) (Nat.le_of_ble_eq_true rfl) (Nat.le_of_ble_eq_true rfl) rfl (r_X11_thrown ) rfl fun hw1 => b_pc (pc' := 1040) rfl ?_
  refine b_s (pc' := 1042) (lv1 := [(0, .ref 0), (1, .ref 1), (2, .ref 76), (3, .ref 112), (4, bI i), (5, bI k), (6, bI b)]) (st' := [bI k, bI (μ2 76 0)]) l240_1040 (fun _ => rfl) ?_
  refine b_pos (c := (μ2 76 0) = k) (E1 := some (.inl 1, μf, c)) (E2 := none) (κ := some) hEQ ?_
  refine b_ieq (pt := 1047) l240_1042 hw1 hv1 (by decide) rfl (fun _ => ?_) (fun z => absurd hEQ z)
  refine b_s (pc' := 1049) (lv1 := [(0, .ref 0), (1, .ref 1), (2, .ref 76), (3, .ref 112), (4, bI i), (5, bI k), (6, bI b)]) (st' := [bI k]) l240_1047 (fun _ => rfl) ?_
  by_cases hk0 : k = 0
  · refine b_neg (c := ¬ k = 0) (E1 := none) (E2 := some (.inl 1, μf, c)) (κ := some) (fun z => z hk0) ?_
    refine b_zne (pt := 1064) l240_1049 hv1 (by decide) rfl (fun z => absurd hk0 z) (fun _ => b_pc (pc' := 1052) rfl ?_)
    refine b_s (pc' := 1053) (lv1 := [(0, .ref 0), (1, .ref 1), (2, .ref 76), (3, .ref 112), (4, bI i), (5, bI k), (6, bI b)]) (st' := [.ref 112]) l240_1052 (fun _ => rfl) ?_
    refine b_s (pc' := 1054) (lv1 := [(0, .ref 0), (1, .ref 1), (2, .ref 76), (3, .ref 112), (4, bI i), (5, bI k), (6, bI b)]) (st' := [bI 0, .ref 112]) l240_1053 (fun _ => rfl) ?_
    refine b_lal l240_1054 (by rfl) (by decide) (b_pc (pc' := 1055) rfl ?_)
    refine b_s (pc' := 1057) (lv1 := [(0, .ref 0), (1, .ref 1), (2, .ref 76), (3, .ref 112), (4, bI i), (5, bI k), (6, bI b)]) (st' := [bI b, bLg (μ2 112 0)]) l240_1055 (fun _ => rfl) ?_
    refine b_i2l l240_1057 hv2 (b_pc (pc' := 1058) rfl ?_)
    refine b_lcmp l240_1058 (bO_l hk2 (show bSh 112 = (2, 1) from rfl)) (bR_L hv2) (b_pc (pc' := 1059) rfl ?_)
    refine b_pos (c := (bCmp (μ2 112 0) b) = 0) (E1 := some (.inl 1, μf, c)) (E2 := none) (κ := some) (bCmp_0 (ho hk0)) ?_
    refine b_zeq (pt := 1064) l240_1059 (bCmp_R _ _) (by decide) rfl (fun _ => ?_) (fun z => absurd (bCmp_0 (ho hk0)) z)
    refine b_s (pc' := 1655) (lv1 := [(0, .ref 0), (1, .ref 1), (2, .ref 76), (3, .ref 112), (4, bI i), (5, bI k), (6, bI b)]) (st' := []) l240_1064 (fun _ => rfl) ?_
    refine b_inc1 (lv' := [(0, .ref 0), (1, .ref 1), (2, .ref 76), (3, .ref 112), (4, bI (i + 6))]) l240_1655 rfl (by decide +kernel) (bSb rfl (bSb rfl (bSb rfl (bSb rfl (bSb rfl bSn))))) (b_in (by omega) (by omega)) (b_pc (pc' := 1658) rfl ?_)
    refine b_s (pc' := 23) (lv1 := [(0, .ref 0), (1, .ref 1), (2, .ref 76), (3, .ref 112), (4, bI (i + 6))]) (st' := []) l240_1658 (fun _ => rfl) ?_
    exact kont
  · refine b_pos (c := ¬ k = 0) (E1 := some (.inl 1, μf, c)) (E2 := none) (κ := some) hk0 ?_
    refine b_zne (pt := 1064) l240_1049 hv1 (by decide) rfl (fun _ => ?_) (fun z => absurd hk0 z)
    refine b_s (pc' := 1655) (lv1 := [(0, .ref 0), (1, .ref 1), (2, .ref 76), (3, .ref 112), (4, bI i), (5, bI k), (6, bI b)]) (st' := []) l240_1064 (fun _ => rfl) ?_
    refine b_inc1 (lv' := [(0, .ref 0), (1, .ref 1), (2, .ref 76), (3, .ref 112), (4, bI (i + 6))]) l240_1655 rfl (by decide +kernel) (bSb rfl (bSb rfl (bSb rfl (bSb rfl (bSb rfl bSn))))) (b_in (by omega) (by omega)) (b_pc (pc' := 1658) rfl ?_)
    refine b_s (pc' := 23) (lv1 := [(0, .ref 0), (1, .ref 1), (2, .ref 76), (3, .ref 112), (4, bI (i + 6))]) (st' := []) l240_1658 (fun _ => rfl) ?_
    exact kont
theorem g_15 {L : Nat} {xs : Nat → Int32} {i k b : Int} {c n1 : Nat} {μ μ1 μ2 μf : bM} (hL : L ≤ 3072) (hi : 0 ≤ i ∧ i + 6 ≤ (L : Int)) (hop : bAnd (xs i.toNat).toInt 31 = 15) (hF1 : F_L_count (xs (i + 1).toNat).toInt μ = some (k, μ1, n1)) (hF2 : F_X11_count (xs (i + 1).toNat).toInt μ1 = some (b, μ2)) (hEQ : μ2 76 0 = k) (ho : k = 0 → μ2 112 0 = b) (kont : bD L xs 9 240 23 [(0, .ref 0), (1, .ref 1), (2, .ref 76), (3, .ref 112), (4, bI (i + 6))] [] μ2 (some (.inl 1, μf, c))) : bD L xs 9 240 23 [(0, .ref 0), (1, .ref 1), (2, .ref 76), (3, .ref 112), (4, bI i)] [] μ (some (.inl 1, μf, (c + n1))) := by
  have hiR : bR i := b_in (by omega) (by omega)
  refine bD.ok fun hk => ?_
  refine b_s (pc' := 25) (lv1 := [(0, .ref 0), (1, .ref 1), (2, .ref 76), (3, .ref 112), (4, bI i)]) (st' := [bI i]) l240_23 (fun _ => rfl) ?_
  refine b_s (pc' := 26) (lv1 := [(0, .ref 0), (1, .ref 1), (2, .ref 76), (3, .ref 112), (4, bI i)]) (st' := [.ref 0, bI i]) l240_25 (fun _ => rfl) ?_
  refine b_scl l240_26 (b_pc (pc' := 27) rfl ?_)
  refine b_bipush l240_27 (by decide) (b_pc (pc' := 29) rfl ?_)
  refine b_isub1 l240_29 (b_in (by omega) (by omega)) (b_pc (pc' := 30) rfl ?_)
  refine b_neg (c := ((L : Int) - 6) < i) (E1 := none) (E2 := some (.inl 1, μf, (c + n1))) (κ := some) (by omega) ?_
  refine b_igt (pt := 1661) l240_30 hiR (b_in (by omega) (by omega)) (by decide) rfl (fun z => absurd z (by omega)) (fun _ => b_pc (pc' := 33) rfl ?_)
  refine b_s (pc' := 34) (lv1 := [(0, .ref 0), (1, .ref 1), (2, .ref 76), (3, .ref 112), (4, bI i)]) (st' := [.ref 0]) l240_33 (fun _ => rfl) ?_
  refine b_s (pc' := 36) (lv1 := [(0, .ref 0), (1, .ref 1), (2, .ref 76), (3, .ref 112), (4, bI i)]) (st' := [bI i, .ref 0]) l240_34 (fun _ => rfl) ?_
  refine b_scr l240_36 ⟨by omega, by omega⟩ (by omega) (b_pc (pc' := 37) rfl ?_)
  refine b_bipush l240_37 (by decide) (b_pc (pc' := 39) rfl ?_)
  refine b_iand l240_39 (b_pc (pc' := 40) rfl ?_)
  refine b_tsw l240_40 (bi_rg _) (by decide) (by decide) (by decide) ?_
  refine b_pc (pc' := bTg [(0, 152), (1, 256), (2, 292), (3, 348), (4, 416), (5, 540), (6, 620), (7, 712), (8, 725), (9, 738), (10, 794), (11, 862), (12, 918), (13, 998), (14, 1011), (15, 1067), (16, 1123), (17, 1191), (18, 1259), (19, 1315), (20, 1395), (21, 1462), (22, 1542), (23, 1598)] 1655 (bAnd (xs i.toNat).toInt 31)) rfl ?_
  refine b_pc (pc' := 1067) (by rw [hop]; rfl) ?_
  refine b_s (pc' := 1068) (lv1 := [(0, .ref 0), (1, .ref 1), (2, .ref 76), (3, .ref 112), (4, bI i)]) (st' := [.ref 1]) l240_1067 (fun _ => rfl) ?_
  refine b_s (pc' := 1069) (lv1 := [(0, .ref 0), (1, .ref 1), (2, .ref 76), (3, .ref 112), (4, bI i)]) (st' := [.ref 0, .ref 1]) l240_1068 (fun _ => rfl) ?_
  refine b_s (pc' := 1071) (lv1 := [(0, .ref 0), (1, .ref 1), (2, .ref 76), (3, .ref 112), (4, bI i)]) (st' := [bI i, .ref 0, .ref 1]) l240_1069 (fun _ => rfl) ?_
  refine b_s (pc' := 1072) (lv1 := [(0, .ref 0), (1, .ref 1), (2, .ref 76), (3, .ref 112), (4, bI i)]) (st' := [bI 1, bI i, .ref 0, .ref 1]) l240_1071 (fun _ => rfl) ?_
  refine b_iadd1 l240_1072 (b_in (by omega) (by omega)) (b_pc (pc' := 1073) rfl ?_)
  refine b_scr l240_1073 ⟨by omega, by omega⟩ (by omega) (b_pc (pc' := 1074) rfl ?_)
  refine b_s (pc' := 1075) (lv1 := [(0, .ref 0), (1, .ref 1), (2, .ref 76), (3, .ref 112), (4, bI i)]) (st' := [.ref 112, bI (xs (i + 1).toNat).toInt, .ref 1]) l240_1074 (fun _ => rfl) ?_
  refine b_cKki l240_1075 rfl (fun _ => trivial) (Nat.le_of_ble_eq_true rfl) (Nat.le_of_ble_eq_true rfl) rfl (r_L_count (xs (i + 1).toNat).toInt (bi_rg _)) hF1 fun hv1 => bD.ok fun hk1 => b_pc (pc' := 1078) rfl ?_
  refine b_w (pc' := 1080) (lv1 := ax_st1 [(0, .ref 0), (1, .ref 1), (2, .ref 76), (3, .ref 112), (4, bI i)] 5 (bI k)) (lv' := [(0, .ref 0), (1, .ref 1), (2, .ref 76), (3, .ref 112), (4, bI i), (5, bI k)]) (st' := []) l240_1078 (fun _ => rfl) (bSb rfl (bSb rfl (bSb rfl (bSb rfl (bSb rfl (bSb rfl bSn)))))) ?_
  refine b_s (pc' := 1081) (lv1 := [(0, .ref 0), (1, .ref 1), (2, .ref 76), (3, .ref 112), (4, bI i), (5, bI k)]) (st' := [.ref 76]) l240_1080 (fun _ => rfl) ?_
  refine b_s (pc' := 1082) (lv1 := [(0, .ref 0), (1, .ref 1), (2, .ref 76), (3, .ref 112), (4, bI i), (5, bI k)]) (st' := [.ref 0, .ref 76]) l240_1081 (fun _ => rfl) ?_
  refine b_s (pc' := 1084) (lv1 := [(0, .ref 0), (1, .ref 1), (2, .ref 76), (3, .ref 112), (4, bI i), (5, bI k)]) (st' := [bI i, .ref 0, .ref 76]) l240_1082 (fun _ => rfl) ?_
  refine b_s (pc' := 1085) (lv1 := [(0, .ref 0), (1, .ref 1), (2, .ref 76), (3, .ref 112), (4, bI i), (5, bI k)]) (st' := [bI 1, bI i, .ref 0, .ref 76]) l240_1084 (fun _ => rfl) ?_
  refine b_iadd1 l240_1085 (b_in (by omega) (by omega)) (b_pc (pc' := 1086) rfl ?_)
  refine b_scr l240_1086 ⟨by omega, by omega⟩ (by omega) (b_pc (pc' := 1087) rfl ?_)
  refine b_cMki l240_1087 rfl (b_rc (ci := 9) (by rfl) (by decide) (by decide +kernel)) (Nat.le_of_ble_eq_true rfl) (Nat.le_of_ble_eq_true rfl) rfl (r_X11_count (xs (i + 1).toNat).toInt (bi_rg _)) hF2 fun hv2 => bD.ok fun hk2 => b_pc (pc' := 1090) rfl ?_
  refine b_w (pc' := 1092) (lv1 := ax_st1 [(0, .ref 0), (1, .ref 1), (2, .ref 76), (3, .ref 112), (4, bI i), (5, bI k)] 6 (bI b)) (lv' := [(0, .ref 0), (1, .ref 1), (2, .ref 76), (3, .ref 112), (4, bI i), (5, bI k), (6, bI b)]) (st' := []) l240_1090 (fun _ => rfl) (bSb rfl (bSb rfl (bSb rfl (bSb rfl (bSb rfl (bSb rfl (bSb rfl bSn))))))) ?_
  refine b_s (pc' := 1093) (lv1 := [(0, .ref 0), (1, .ref 1), (2, .ref 76), (3, .ref 112), (4, bI i), (5, bI k), (6, bI b)]) (st' := [.ref 76]) l240_1092 (fun _ => rfl) ?_
  refine b_cPki (v := μ2 76 0) l240_1093 rfl (b_rc (ci := 9) (by rfl) (by decide) (by decide +kernel)) (Nat.le_of_ble_eq_true rfl) (Nat.le_of_ble_eq_true rfl) rfl (r_X11_thrown ) rfl fun hw1 => b_pc (pc' := 1096) rfl ?_
  refine b_s (pc' := 1098) (lv1 := [(0, .ref 0), (1, .ref 1), (2, .ref 76), (3, .ref 112), (4, bI i), (5, bI k), (6, bI b)]) (st' := [bI k, bI (μ2 76 0)]) l240_1096 (fun _ => rfl) ?_
  refine b_pos (c := (μ2 76 0) = k) (E1 := some (.inl 1, μf, c)) (E2 := none) (κ := some) hEQ ?_
  refine b_ieq (pt := 1103) l240_1098 hw1 hv1 (by decide) rfl (fun _ => ?_) (fun z => absurd hEQ z)
  refine b_s (pc' := 1105) (lv1 := [(0, .ref 0), (1, .ref 1), (2, .ref 76), (3, .ref 112), (4, bI i), (5, bI k), (6, bI b)]) (st' := [bI k]) l240_1103 (fun _ => rfl) ?_
  by_cases hk0 : k = 0
  · refine b_neg (c := ¬ k = 0) (E1 := none) (E2 := some (.inl 1, μf, c)) (κ := some) (fun z => z hk0) ?_
    refine b_zne (pt := 1120) l240_1105 hv1 (by decide) rfl (fun z => absurd hk0 z) (fun _ => b_pc (pc' := 1108) rfl ?_)
    refine b_s (pc' := 1109) (lv1 := [(0, .ref 0), (1, .ref 1), (2, .ref 76), (3, .ref 112), (4, bI i), (5, bI k), (6, bI b)]) (st' := [.ref 112]) l240_1108 (fun _ => rfl) ?_
    refine b_s (pc' := 1110) (lv1 := [(0, .ref 0), (1, .ref 1), (2, .ref 76), (3, .ref 112), (4, bI i), (5, bI k), (6, bI b)]) (st' := [bI 0, .ref 112]) l240_1109 (fun _ => rfl) ?_
    refine b_lal l240_1110 (by rfl) (by decide) (b_pc (pc' := 1111) rfl ?_)
    refine b_s (pc' := 1113) (lv1 := [(0, .ref 0), (1, .ref 1), (2, .ref 76), (3, .ref 112), (4, bI i), (5, bI k), (6, bI b)]) (st' := [bI b, bLg (μ2 112 0)]) l240_1111 (fun _ => rfl) ?_
    refine b_i2l l240_1113 hv2 (b_pc (pc' := 1114) rfl ?_)
    refine b_lcmp l240_1114 (bO_l hk2 (show bSh 112 = (2, 1) from rfl)) (bR_L hv2) (b_pc (pc' := 1115) rfl ?_)
    refine b_pos (c := (bCmp (μ2 112 0) b) = 0) (E1 := some (.inl 1, μf, c)) (E2 := none) (κ := some) (bCmp_0 (ho hk0)) ?_
    refine b_zeq (pt := 1120) l240_1115 (bCmp_R _ _) (by decide) rfl (fun _ => ?_) (fun z => absurd (bCmp_0 (ho hk0)) z)
    refine b_s (pc' := 1655) (lv1 := [(0, .ref 0), (1, .ref 1), (2, .ref 76), (3, .ref 112), (4, bI i), (5, bI k), (6, bI b)]) (st' := []) l240_1120 (fun _ => rfl) ?_
    refine b_inc1 (lv' := [(0, .ref 0), (1, .ref 1), (2, .ref 76), (3, .ref 112), (4, bI (i + 6))]) l240_1655 rfl (by decide +kernel) (bSb rfl (bSb rfl (bSb rfl (bSb rfl (bSb rfl bSn))))) (b_in (by omega) (by omega)) (b_pc (pc' := 1658) rfl ?_)
    refine b_s (pc' := 23) (lv1 := [(0, .ref 0), (1, .ref 1), (2, .ref 76), (3, .ref 112), (4, bI (i + 6))]) (st' := []) l240_1658 (fun _ => rfl) ?_
    exact kont
  · refine b_pos (c := ¬ k = 0) (E1 := some (.inl 1, μf, c)) (E2 := none) (κ := some) hk0 ?_
    refine b_zne (pt := 1120) l240_1105 hv1 (by decide) rfl (fun _ => ?_) (fun z => absurd hk0 z)
    refine b_s (pc' := 1655) (lv1 := [(0, .ref 0), (1, .ref 1), (2, .ref 76), (3, .ref 112), (4, bI i), (5, bI k), (6, bI b)]) (st' := []) l240_1120 (fun _ => rfl) ?_
    refine b_inc1 (lv' := [(0, .ref 0), (1, .ref 1), (2, .ref 76), (3, .ref 112), (4, bI (i + 6))]) l240_1655 rfl (by decide +kernel) (bSb rfl (bSb rfl (bSb rfl (bSb rfl (bSb rfl bSn))))) (b_in (by omega) (by omega)) (b_pc (pc' := 1658) rfl ?_)
    refine b_s (pc' := 23) (lv1 := [(0, .ref 0), (1, .ref 1), (2, .ref 76), (3, .ref 112), (4, bI (i + 6))]) (st' := []) l240_1658 (fun _ => rfl) ?_
    exact kont
theorem g_16 {L : Nat} {xs : Nat → Int32} {i k b : Int} {c n1 : Nat} {μ μ1 μ2 μf : bM} (hL : L ≤ 3072) (hi : 0 ≤ i ∧ i + 6 ≤ (L : Int)) (hop : bAnd (xs i.toNat).toInt 31 = 16) (hF1 : F_L_about (xs (i + 1).toNat).toInt (xs (i + 2).toNat).toInt μ = some (k, μ1, n1)) (hF2 : F_X11_about (xs (i + 1).toNat).toInt (xs (i + 2).toNat).toInt μ1 = some (b, μ2)) (hEQ : μ2 76 0 = k) (ho : k = 0 → μ2 112 0 = b) (kont : bD L xs 9 240 23 [(0, .ref 0), (1, .ref 1), (2, .ref 76), (3, .ref 112), (4, bI (i + 6))] [] μ2 (some (.inl 1, μf, c))) : bD L xs 9 240 23 [(0, .ref 0), (1, .ref 1), (2, .ref 76), (3, .ref 112), (4, bI i)] [] μ (some (.inl 1, μf, (c + n1))) := by
  have hiR : bR i := b_in (by omega) (by omega)
  refine bD.ok fun hk => ?_
  refine b_s (pc' := 25) (lv1 := [(0, .ref 0), (1, .ref 1), (2, .ref 76), (3, .ref 112), (4, bI i)]) (st' := [bI i]) l240_23 (fun _ => rfl) ?_
  refine b_s (pc' := 26) (lv1 := [(0, .ref 0), (1, .ref 1), (2, .ref 76), (3, .ref 112), (4, bI i)]) (st' := [.ref 0, bI i]) l240_25 (fun _ => rfl) ?_
  refine b_scl l240_26 (b_pc (pc' := 27) rfl ?_)
  refine b_bipush l240_27 (by decide) (b_pc (pc' := 29) rfl ?_)
  refine b_isub1 l240_29 (b_in (by omega) (by omega)) (b_pc (pc' := 30) rfl ?_)
  refine b_neg (c := ((L : Int) - 6) < i) (E1 := none) (E2 := some (.inl 1, μf, (c + n1))) (κ := some) (by omega) ?_
  refine b_igt (pt := 1661) l240_30 hiR (b_in (by omega) (by omega)) (by decide) rfl (fun z => absurd z (by omega)) (fun _ => b_pc (pc' := 33) rfl ?_)
  refine b_s (pc' := 34) (lv1 := [(0, .ref 0), (1, .ref 1), (2, .ref 76), (3, .ref 112), (4, bI i)]) (st' := [.ref 0]) l240_33 (fun _ => rfl) ?_
  refine b_s (pc' := 36) (lv1 := [(0, .ref 0), (1, .ref 1), (2, .ref 76), (3, .ref 112), (4, bI i)]) (st' := [bI i, .ref 0]) l240_34 (fun _ => rfl) ?_
  refine b_scr l240_36 ⟨by omega, by omega⟩ (by omega) (b_pc (pc' := 37) rfl ?_)
  refine b_bipush l240_37 (by decide) (b_pc (pc' := 39) rfl ?_)
  refine b_iand l240_39 (b_pc (pc' := 40) rfl ?_)
  refine b_tsw l240_40 (bi_rg _) (by decide) (by decide) (by decide) ?_
  refine b_pc (pc' := bTg [(0, 152), (1, 256), (2, 292), (3, 348), (4, 416), (5, 540), (6, 620), (7, 712), (8, 725), (9, 738), (10, 794), (11, 862), (12, 918), (13, 998), (14, 1011), (15, 1067), (16, 1123), (17, 1191), (18, 1259), (19, 1315), (20, 1395), (21, 1462), (22, 1542), (23, 1598)] 1655 (bAnd (xs i.toNat).toInt 31)) rfl ?_
  refine b_pc (pc' := 1123) (by rw [hop]; rfl) ?_
  refine b_s (pc' := 1124) (lv1 := [(0, .ref 0), (1, .ref 1), (2, .ref 76), (3, .ref 112), (4, bI i)]) (st' := [.ref 1]) l240_1123 (fun _ => rfl) ?_
  refine b_s (pc' := 1125) (lv1 := [(0, .ref 0), (1, .ref 1), (2, .ref 76), (3, .ref 112), (4, bI i)]) (st' := [.ref 0, .ref 1]) l240_1124 (fun _ => rfl) ?_
  refine b_s (pc' := 1127) (lv1 := [(0, .ref 0), (1, .ref 1), (2, .ref 76), (3, .ref 112), (4, bI i)]) (st' := [bI i, .ref 0, .ref 1]) l240_1125 (fun _ => rfl) ?_
  refine b_s (pc' := 1128) (lv1 := [(0, .ref 0), (1, .ref 1), (2, .ref 76), (3, .ref 112), (4, bI i)]) (st' := [bI 1, bI i, .ref 0, .ref 1]) l240_1127 (fun _ => rfl) ?_
  refine b_iadd1 l240_1128 (b_in (by omega) (by omega)) (b_pc (pc' := 1129) rfl ?_)
  refine b_scr l240_1129 ⟨by omega, by omega⟩ (by omega) (b_pc (pc' := 1130) rfl ?_)
  refine b_s (pc' := 1131) (lv1 := [(0, .ref 0), (1, .ref 1), (2, .ref 76), (3, .ref 112), (4, bI i)]) (st' := [.ref 0, bI (xs (i + 1).toNat).toInt, .ref 1]) l240_1130 (fun _ => rfl) ?_
  refine b_s (pc' := 1133) (lv1 := [(0, .ref 0), (1, .ref 1), (2, .ref 76), (3, .ref 112), (4, bI i)]) (st' := [bI i, .ref 0, bI (xs (i + 1).toNat).toInt, .ref 1]) l240_1131 (fun _ => rfl) ?_
  refine b_s (pc' := 1134) (lv1 := [(0, .ref 0), (1, .ref 1), (2, .ref 76), (3, .ref 112), (4, bI i)]) (st' := [bI 2, bI i, .ref 0, bI (xs (i + 1).toNat).toInt, .ref 1]) l240_1133 (fun _ => rfl) ?_
  refine b_iadd1 l240_1134 (b_in (by omega) (by omega)) (b_pc (pc' := 1135) rfl ?_)
  refine b_scr l240_1135 ⟨by omega, by omega⟩ (by omega) (b_pc (pc' := 1136) rfl ?_)
  refine b_s (pc' := 1137) (lv1 := [(0, .ref 0), (1, .ref 1), (2, .ref 76), (3, .ref 112), (4, bI i)]) (st' := [.ref 112, bI (xs (i + 2).toNat).toInt, bI (xs (i + 1).toNat).toInt, .ref 1]) l240_1136 (fun _ => rfl) ?_
  refine b_cKki l240_1137 rfl (fun _ => trivial) (Nat.le_of_ble_eq_true rfl) (Nat.le_of_ble_eq_true rfl) rfl (r_L_about (xs (i + 1).toNat).toInt (bi_rg _) (xs (i + 2).toNat).toInt (bi_rg _)) hF1 fun hv1 => bD.ok fun hk1 => b_pc (pc' := 1140) rfl ?_
  refine b_w (pc' := 1142) (lv1 := ax_st1 [(0, .ref 0), (1, .ref 1), (2, .ref 76), (3, .ref 112), (4, bI i)] 5 (bI k)) (lv' := [(0, .ref 0), (1, .ref 1), (2, .ref 76), (3, .ref 112), (4, bI i), (5, bI k)]) (st' := []) l240_1140 (fun _ => rfl) (bSb rfl (bSb rfl (bSb rfl (bSb rfl (bSb rfl (bSb rfl bSn)))))) ?_
  refine b_s (pc' := 1143) (lv1 := [(0, .ref 0), (1, .ref 1), (2, .ref 76), (3, .ref 112), (4, bI i), (5, bI k)]) (st' := [.ref 76]) l240_1142 (fun _ => rfl) ?_
  refine b_s (pc' := 1144) (lv1 := [(0, .ref 0), (1, .ref 1), (2, .ref 76), (3, .ref 112), (4, bI i), (5, bI k)]) (st' := [.ref 0, .ref 76]) l240_1143 (fun _ => rfl) ?_
  refine b_s (pc' := 1146) (lv1 := [(0, .ref 0), (1, .ref 1), (2, .ref 76), (3, .ref 112), (4, bI i), (5, bI k)]) (st' := [bI i, .ref 0, .ref 76]) l240_1144 (fun _ => rfl) ?_
  refine b_s (pc' := 1147) (lv1 := [(0, .ref 0), (1, .ref 1), (2, .ref 76), (3, .ref 112), (4, bI i), (5, bI k)]) (st' := [bI 1, bI i, .ref 0, .ref 76]) l240_1146 (fun _ => rfl) ?_
  refine b_iadd1 l240_1147 (b_in (by omega) (by omega)) (b_pc (pc' := 1148) rfl ?_)
  refine b_scr l240_1148 ⟨by omega, by omega⟩ (by omega) (b_pc (pc' := 1149) rfl ?_)
  refine b_s (pc' := 1150) (lv1 := [(0, .ref 0), (1, .ref 1), (2, .ref 76), (3, .ref 112), (4, bI i), (5, bI k)]) (st' := [.ref 0, bI (xs (i + 1).toNat).toInt, .ref 76]) l240_1149 (fun _ => rfl) ?_
  refine b_s (pc' := 1152) (lv1 := [(0, .ref 0), (1, .ref 1), (2, .ref 76), (3, .ref 112), (4, bI i), (5, bI k)]) (st' := [bI i, .ref 0, bI (xs (i + 1).toNat).toInt, .ref 76]) l240_1150 (fun _ => rfl) ?_
  refine b_s (pc' := 1153) (lv1 := [(0, .ref 0), (1, .ref 1), (2, .ref 76), (3, .ref 112), (4, bI i), (5, bI k)]) (st' := [bI 2, bI i, .ref 0, bI (xs (i + 1).toNat).toInt, .ref 76]) l240_1152 (fun _ => rfl) ?_
  refine b_iadd1 l240_1153 (b_in (by omega) (by omega)) (b_pc (pc' := 1154) rfl ?_)
  refine b_scr l240_1154 ⟨by omega, by omega⟩ (by omega) (b_pc (pc' := 1155) rfl ?_)
  refine b_cMki l240_1155 rfl (b_rc (ci := 9) (by rfl) (by decide) (by decide +kernel)) (Nat.le_of_ble_eq_true rfl) (Nat.le_of_ble_eq_true rfl) rfl (r_X11_about (xs (i + 1).toNat).toInt (bi_rg _) (xs (i + 2).toNat).toInt (bi_rg _)) hF2 fun hv2 => bD.ok fun hk2 => b_pc (pc' := 1158) rfl ?_
  refine b_w (pc' := 1160) (lv1 := ax_st1 [(0, .ref 0), (1, .ref 1), (2, .ref 76), (3, .ref 112), (4, bI i), (5, bI k)] 6 (bI b)) (lv' := [(0, .ref 0), (1, .ref 1), (2, .ref 76), (3, .ref 112), (4, bI i), (5, bI k), (6, bI b)]) (st' := []) l240_1158 (fun _ => rfl) (bSb rfl (bSb rfl (bSb rfl (bSb rfl (bSb rfl (bSb rfl (bSb rfl bSn))))))) ?_
  refine b_s (pc' := 1161) (lv1 := [(0, .ref 0), (1, .ref 1), (2, .ref 76), (3, .ref 112), (4, bI i), (5, bI k), (6, bI b)]) (st' := [.ref 76]) l240_1160 (fun _ => rfl) ?_
  refine b_cPki (v := μ2 76 0) l240_1161 rfl (b_rc (ci := 9) (by rfl) (by decide) (by decide +kernel)) (Nat.le_of_ble_eq_true rfl) (Nat.le_of_ble_eq_true rfl) rfl (r_X11_thrown ) rfl fun hw1 => b_pc (pc' := 1164) rfl ?_
  refine b_s (pc' := 1166) (lv1 := [(0, .ref 0), (1, .ref 1), (2, .ref 76), (3, .ref 112), (4, bI i), (5, bI k), (6, bI b)]) (st' := [bI k, bI (μ2 76 0)]) l240_1164 (fun _ => rfl) ?_
  refine b_pos (c := (μ2 76 0) = k) (E1 := some (.inl 1, μf, c)) (E2 := none) (κ := some) hEQ ?_
  refine b_ieq (pt := 1171) l240_1166 hw1 hv1 (by decide) rfl (fun _ => ?_) (fun z => absurd hEQ z)
  refine b_s (pc' := 1173) (lv1 := [(0, .ref 0), (1, .ref 1), (2, .ref 76), (3, .ref 112), (4, bI i), (5, bI k), (6, bI b)]) (st' := [bI k]) l240_1171 (fun _ => rfl) ?_
  by_cases hk0 : k = 0
  · refine b_neg (c := ¬ k = 0) (E1 := none) (E2 := some (.inl 1, μf, c)) (κ := some) (fun z => z hk0) ?_
    refine b_zne (pt := 1188) l240_1173 hv1 (by decide) rfl (fun z => absurd hk0 z) (fun _ => b_pc (pc' := 1176) rfl ?_)
    refine b_s (pc' := 1177) (lv1 := [(0, .ref 0), (1, .ref 1), (2, .ref 76), (3, .ref 112), (4, bI i), (5, bI k), (6, bI b)]) (st' := [.ref 112]) l240_1176 (fun _ => rfl) ?_
    refine b_s (pc' := 1178) (lv1 := [(0, .ref 0), (1, .ref 1), (2, .ref 76), (3, .ref 112), (4, bI i), (5, bI k), (6, bI b)]) (st' := [bI 0, .ref 112]) l240_1177 (fun _ => rfl) ?_
    refine b_lal l240_1178 (by rfl) (by decide) (b_pc (pc' := 1179) rfl ?_)
    refine b_s (pc' := 1181) (lv1 := [(0, .ref 0), (1, .ref 1), (2, .ref 76), (3, .ref 112), (4, bI i), (5, bI k), (6, bI b)]) (st' := [bI b, bLg (μ2 112 0)]) l240_1179 (fun _ => rfl) ?_
    refine b_i2l l240_1181 hv2 (b_pc (pc' := 1182) rfl ?_)
    refine b_lcmp l240_1182 (bO_l hk2 (show bSh 112 = (2, 1) from rfl)) (bR_L hv2) (b_pc (pc' := 1183) rfl ?_)
    refine b_pos (c := (bCmp (μ2 112 0) b) = 0) (E1 := some (.inl 1, μf, c)) (E2 := none) (κ := some) (bCmp_0 (ho hk0)) ?_
    refine b_zeq (pt := 1188) l240_1183 (bCmp_R _ _) (by decide) rfl (fun _ => ?_) (fun z => absurd (bCmp_0 (ho hk0)) z)
    refine b_s (pc' := 1655) (lv1 := [(0, .ref 0), (1, .ref 1), (2, .ref 76), (3, .ref 112), (4, bI i), (5, bI k), (6, bI b)]) (st' := []) l240_1188 (fun _ => rfl) ?_
    refine b_inc1 (lv' := [(0, .ref 0), (1, .ref 1), (2, .ref 76), (3, .ref 112), (4, bI (i + 6))]) l240_1655 rfl (by decide +kernel) (bSb rfl (bSb rfl (bSb rfl (bSb rfl (bSb rfl bSn))))) (b_in (by omega) (by omega)) (b_pc (pc' := 1658) rfl ?_)
    refine b_s (pc' := 23) (lv1 := [(0, .ref 0), (1, .ref 1), (2, .ref 76), (3, .ref 112), (4, bI (i + 6))]) (st' := []) l240_1658 (fun _ => rfl) ?_
    exact kont
  · refine b_pos (c := ¬ k = 0) (E1 := some (.inl 1, μf, c)) (E2 := none) (κ := some) hk0 ?_
    refine b_zne (pt := 1188) l240_1173 hv1 (by decide) rfl (fun _ => ?_) (fun z => absurd hk0 z)
    refine b_s (pc' := 1655) (lv1 := [(0, .ref 0), (1, .ref 1), (2, .ref 76), (3, .ref 112), (4, bI i), (5, bI k), (6, bI b)]) (st' := []) l240_1188 (fun _ => rfl) ?_
    refine b_inc1 (lv' := [(0, .ref 0), (1, .ref 1), (2, .ref 76), (3, .ref 112), (4, bI (i + 6))]) l240_1655 rfl (by decide +kernel) (bSb rfl (bSb rfl (bSb rfl (bSb rfl (bSb rfl bSn))))) (b_in (by omega) (by omega)) (b_pc (pc' := 1658) rfl ?_)
    refine b_s (pc' := 23) (lv1 := [(0, .ref 0), (1, .ref 1), (2, .ref 76), (3, .ref 112), (4, bI (i + 6))]) (st' := []) l240_1658 (fun _ => rfl) ?_
    exact kont
theorem g_17 {L : Nat} {xs : Nat → Int32} {i k b : Int} {c n1 : Nat} {μ μ1 μ2 μf : bM} (hL : L ≤ 3072) (hi : 0 ≤ i ∧ i + 6 ≤ (L : Int)) (hop : bAnd (xs i.toNat).toInt 31 = 17) (hF1 : F_L_child (xs (i + 1).toNat).toInt (xs (i + 2).toNat).toInt μ = some (k, μ1, n1)) (hF2 : F_X11_child (xs (i + 1).toNat).toInt (xs (i + 2).toNat).toInt μ1 = some (b, μ2)) (hEQ : μ2 76 0 = k) (ho : k = 0 → μ2 112 0 = b) (kont : bD L xs 9 240 23 [(0, .ref 0), (1, .ref 1), (2, .ref 76), (3, .ref 112), (4, bI (i + 6))] [] μ2 (some (.inl 1, μf, c))) : bD L xs 9 240 23 [(0, .ref 0), (1, .ref 1), (2, .ref 76), (3, .ref 112), (4, bI i)] [] μ (some (.inl 1, μf, (c + n1))) := by
  have hiR : bR i := b_in (by omega) (by omega)
  refine bD.ok fun hk => ?_
  refine b_s (pc' := 25) (lv1 := [(0, .ref 0), (1, .ref 1), (2, .ref 76), (3, .ref 112), (4, bI i)]) (st' := [bI i]) l240_23 (fun _ => rfl) ?_
  refine b_s (pc' := 26) (lv1 := [(0, .ref 0), (1, .ref 1), (2, .ref 76), (3, .ref 112), (4, bI i)]) (st' := [.ref 0, bI i]) l240_25 (fun _ => rfl) ?_
  refine b_scl l240_26 (b_pc (pc' := 27) rfl ?_)
  refine b_bipush l240_27 (by decide) (b_pc (pc' := 29) rfl ?_)
  refine b_isub1 l240_29 (b_in (by omega) (by omega)) (b_pc (pc' := 30) rfl ?_)
  refine b_neg (c := ((L : Int) - 6) < i) (E1 := none) (E2 := some (.inl 1, μf, (c + n1))) (κ := some) (by omega) ?_
  refine b_igt (pt := 1661) l240_30 hiR (b_in (by omega) (by omega)) (by decide) rfl (fun z => absurd z (by omega)) (fun _ => b_pc (pc' := 33) rfl ?_)
  refine b_s (pc' := 34) (lv1 := [(0, .ref 0), (1, .ref 1), (2, .ref 76), (3, .ref 112), (4, bI i)]) (st' := [.ref 0]) l240_33 (fun _ => rfl) ?_
  refine b_s (pc' := 36) (lv1 := [(0, .ref 0), (1, .ref 1), (2, .ref 76), (3, .ref 112), (4, bI i)]) (st' := [bI i, .ref 0]) l240_34 (fun _ => rfl) ?_
  refine b_scr l240_36 ⟨by omega, by omega⟩ (by omega) (b_pc (pc' := 37) rfl ?_)
  refine b_bipush l240_37 (by decide) (b_pc (pc' := 39) rfl ?_)
  refine b_iand l240_39 (b_pc (pc' := 40) rfl ?_)
  refine b_tsw l240_40 (bi_rg _) (by decide) (by decide) (by decide) ?_
  refine b_pc (pc' := bTg [(0, 152), (1, 256), (2, 292), (3, 348), (4, 416), (5, 540), (6, 620), (7, 712), (8, 725), (9, 738), (10, 794), (11, 862), (12, 918), (13, 998), (14, 1011), (15, 1067), (16, 1123), (17, 1191), (18, 1259), (19, 1315), (20, 1395), (21, 1462), (22, 1542), (23, 1598)] 1655 (bAnd (xs i.toNat).toInt 31)) rfl ?_
  refine b_pc (pc' := 1191) (by rw [hop]; rfl) ?_
  refine b_s (pc' := 1192) (lv1 := [(0, .ref 0), (1, .ref 1), (2, .ref 76), (3, .ref 112), (4, bI i)]) (st' := [.ref 1]) l240_1191 (fun _ => rfl) ?_
  refine b_s (pc' := 1193) (lv1 := [(0, .ref 0), (1, .ref 1), (2, .ref 76), (3, .ref 112), (4, bI i)]) (st' := [.ref 0, .ref 1]) l240_1192 (fun _ => rfl) ?_
  refine b_s (pc' := 1195) (lv1 := [(0, .ref 0), (1, .ref 1), (2, .ref 76), (3, .ref 112), (4, bI i)]) (st' := [bI i, .ref 0, .ref 1]) l240_1193 (fun _ => rfl) ?_
  refine b_s (pc' := 1196) (lv1 := [(0, .ref 0), (1, .ref 1), (2, .ref 76), (3, .ref 112), (4, bI i)]) (st' := [bI 1, bI i, .ref 0, .ref 1]) l240_1195 (fun _ => rfl) ?_
  refine b_iadd1 l240_1196 (b_in (by omega) (by omega)) (b_pc (pc' := 1197) rfl ?_)
  refine b_scr l240_1197 ⟨by omega, by omega⟩ (by omega) (b_pc (pc' := 1198) rfl ?_)
  refine b_s (pc' := 1199) (lv1 := [(0, .ref 0), (1, .ref 1), (2, .ref 76), (3, .ref 112), (4, bI i)]) (st' := [.ref 0, bI (xs (i + 1).toNat).toInt, .ref 1]) l240_1198 (fun _ => rfl) ?_
  refine b_s (pc' := 1201) (lv1 := [(0, .ref 0), (1, .ref 1), (2, .ref 76), (3, .ref 112), (4, bI i)]) (st' := [bI i, .ref 0, bI (xs (i + 1).toNat).toInt, .ref 1]) l240_1199 (fun _ => rfl) ?_
  refine b_s (pc' := 1202) (lv1 := [(0, .ref 0), (1, .ref 1), (2, .ref 76), (3, .ref 112), (4, bI i)]) (st' := [bI 2, bI i, .ref 0, bI (xs (i + 1).toNat).toInt, .ref 1]) l240_1201 (fun _ => rfl) ?_
  refine b_iadd1 l240_1202 (b_in (by omega) (by omega)) (b_pc (pc' := 1203) rfl ?_)
  refine b_scr l240_1203 ⟨by omega, by omega⟩ (by omega) (b_pc (pc' := 1204) rfl ?_)
  refine b_s (pc' := 1205) (lv1 := [(0, .ref 0), (1, .ref 1), (2, .ref 76), (3, .ref 112), (4, bI i)]) (st' := [.ref 112, bI (xs (i + 2).toNat).toInt, bI (xs (i + 1).toNat).toInt, .ref 1]) l240_1204 (fun _ => rfl) ?_
  refine b_cKki l240_1205 rfl (fun _ => trivial) (Nat.le_of_ble_eq_true rfl) (Nat.le_of_ble_eq_true rfl) rfl (r_L_child (xs (i + 1).toNat).toInt (bi_rg _) (xs (i + 2).toNat).toInt (bi_rg _)) hF1 fun hv1 => bD.ok fun hk1 => b_pc (pc' := 1208) rfl ?_
  refine b_w (pc' := 1210) (lv1 := ax_st1 [(0, .ref 0), (1, .ref 1), (2, .ref 76), (3, .ref 112), (4, bI i)] 5 (bI k)) (lv' := [(0, .ref 0), (1, .ref 1), (2, .ref 76), (3, .ref 112), (4, bI i), (5, bI k)]) (st' := []) l240_1208 (fun _ => rfl) (bSb rfl (bSb rfl (bSb rfl (bSb rfl (bSb rfl (bSb rfl bSn)))))) ?_
  refine b_s (pc' := 1211) (lv1 := [(0, .ref 0), (1, .ref 1), (2, .ref 76), (3, .ref 112), (4, bI i), (5, bI k)]) (st' := [.ref 76]) l240_1210 (fun _ => rfl) ?_
  refine b_s (pc' := 1212) (lv1 := [(0, .ref 0), (1, .ref 1), (2, .ref 76), (3, .ref 112), (4, bI i), (5, bI k)]) (st' := [.ref 0, .ref 76]) l240_1211 (fun _ => rfl) ?_
  refine b_s (pc' := 1214) (lv1 := [(0, .ref 0), (1, .ref 1), (2, .ref 76), (3, .ref 112), (4, bI i), (5, bI k)]) (st' := [bI i, .ref 0, .ref 76]) l240_1212 (fun _ => rfl) ?_
  refine b_s (pc' := 1215) (lv1 := [(0, .ref 0), (1, .ref 1), (2, .ref 76), (3, .ref 112), (4, bI i), (5, bI k)]) (st' := [bI 1, bI i, .ref 0, .ref 76]) l240_1214 (fun _ => rfl) ?_
  refine b_iadd1 l240_1215 (b_in (by omega) (by omega)) (b_pc (pc' := 1216) rfl ?_)
  refine b_scr l240_1216 ⟨by omega, by omega⟩ (by omega) (b_pc (pc' := 1217) rfl ?_)
  refine b_s (pc' := 1218) (lv1 := [(0, .ref 0), (1, .ref 1), (2, .ref 76), (3, .ref 112), (4, bI i), (5, bI k)]) (st' := [.ref 0, bI (xs (i + 1).toNat).toInt, .ref 76]) l240_1217 (fun _ => rfl) ?_
  refine b_s (pc' := 1220) (lv1 := [(0, .ref 0), (1, .ref 1), (2, .ref 76), (3, .ref 112), (4, bI i), (5, bI k)]) (st' := [bI i, .ref 0, bI (xs (i + 1).toNat).toInt, .ref 76]) l240_1218 (fun _ => rfl) ?_
  refine b_s (pc' := 1221) (lv1 := [(0, .ref 0), (1, .ref 1), (2, .ref 76), (3, .ref 112), (4, bI i), (5, bI k)]) (st' := [bI 2, bI i, .ref 0, bI (xs (i + 1).toNat).toInt, .ref 76]) l240_1220 (fun _ => rfl) ?_
  refine b_iadd1 l240_1221 (b_in (by omega) (by omega)) (b_pc (pc' := 1222) rfl ?_)
  refine b_scr l240_1222 ⟨by omega, by omega⟩ (by omega) (b_pc (pc' := 1223) rfl ?_)
  refine b_cMki l240_1223 rfl (b_rc (ci := 9) (by rfl) (by decide) (by decide +kernel)) (Nat.le_of_ble_eq_true rfl) (Nat.le_of_ble_eq_true rfl) rfl (r_X11_child (xs (i + 1).toNat).toInt (bi_rg _) (xs (i + 2).toNat).toInt (bi_rg _)) hF2 fun hv2 => bD.ok fun hk2 => b_pc (pc' := 1226) rfl ?_
  refine b_w (pc' := 1228) (lv1 := ax_st1 [(0, .ref 0), (1, .ref 1), (2, .ref 76), (3, .ref 112), (4, bI i), (5, bI k)] 6 (bI b)) (lv' := [(0, .ref 0), (1, .ref 1), (2, .ref 76), (3, .ref 112), (4, bI i), (5, bI k), (6, bI b)]) (st' := []) l240_1226 (fun _ => rfl) (bSb rfl (bSb rfl (bSb rfl (bSb rfl (bSb rfl (bSb rfl (bSb rfl bSn))))))) ?_
  refine b_s (pc' := 1229) (lv1 := [(0, .ref 0), (1, .ref 1), (2, .ref 76), (3, .ref 112), (4, bI i), (5, bI k), (6, bI b)]) (st' := [.ref 76]) l240_1228 (fun _ => rfl) ?_
  refine b_cPki (v := μ2 76 0) l240_1229 rfl (b_rc (ci := 9) (by rfl) (by decide) (by decide +kernel)) (Nat.le_of_ble_eq_true rfl) (Nat.le_of_ble_eq_true rfl) rfl (r_X11_thrown ) rfl fun hw1 => b_pc (pc' := 1232) rfl ?_
  refine b_s (pc' := 1234) (lv1 := [(0, .ref 0), (1, .ref 1), (2, .ref 76), (3, .ref 112), (4, bI i), (5, bI k), (6, bI b)]) (st' := [bI k, bI (μ2 76 0)]) l240_1232 (fun _ => rfl) ?_
  refine b_pos (c := (μ2 76 0) = k) (E1 := some (.inl 1, μf, c)) (E2 := none) (κ := some) hEQ ?_
  refine b_ieq (pt := 1239) l240_1234 hw1 hv1 (by decide) rfl (fun _ => ?_) (fun z => absurd hEQ z)
  refine b_s (pc' := 1241) (lv1 := [(0, .ref 0), (1, .ref 1), (2, .ref 76), (3, .ref 112), (4, bI i), (5, bI k), (6, bI b)]) (st' := [bI k]) l240_1239 (fun _ => rfl) ?_
  by_cases hk0 : k = 0
  · refine b_neg (c := ¬ k = 0) (E1 := none) (E2 := some (.inl 1, μf, c)) (κ := some) (fun z => z hk0) ?_
    refine b_zne (pt := 1256) l240_1241 hv1 (by decide) rfl (fun z => absurd hk0 z) (fun _ => b_pc (pc' := 1244) rfl ?_)
    refine b_s (pc' := 1245) (lv1 := [(0, .ref 0), (1, .ref 1), (2, .ref 76), (3, .ref 112), (4, bI i), (5, bI k), (6, bI b)]) (st' := [.ref 112]) l240_1244 (fun _ => rfl) ?_
    refine b_s (pc' := 1246) (lv1 := [(0, .ref 0), (1, .ref 1), (2, .ref 76), (3, .ref 112), (4, bI i), (5, bI k), (6, bI b)]) (st' := [bI 0, .ref 112]) l240_1245 (fun _ => rfl) ?_
    refine b_lal l240_1246 (by rfl) (by decide) (b_pc (pc' := 1247) rfl ?_)
    refine b_s (pc' := 1249) (lv1 := [(0, .ref 0), (1, .ref 1), (2, .ref 76), (3, .ref 112), (4, bI i), (5, bI k), (6, bI b)]) (st' := [bI b, bLg (μ2 112 0)]) l240_1247 (fun _ => rfl) ?_
    refine b_i2l l240_1249 hv2 (b_pc (pc' := 1250) rfl ?_)
    refine b_lcmp l240_1250 (bO_l hk2 (show bSh 112 = (2, 1) from rfl)) (bR_L hv2) (b_pc (pc' := 1251) rfl ?_)
    refine b_pos (c := (bCmp (μ2 112 0) b) = 0) (E1 := some (.inl 1, μf, c)) (E2 := none) (κ := some) (bCmp_0 (ho hk0)) ?_
    refine b_zeq (pt := 1256) l240_1251 (bCmp_R _ _) (by decide) rfl (fun _ => ?_) (fun z => absurd (bCmp_0 (ho hk0)) z)
    refine b_s (pc' := 1655) (lv1 := [(0, .ref 0), (1, .ref 1), (2, .ref 76), (3, .ref 112), (4, bI i), (5, bI k), (6, bI b)]) (st' := []) l240_1256 (fun _ => rfl) ?_
    refine b_inc1 (lv' := [(0, .ref 0), (1, .ref 1), (2, .ref 76), (3, .ref 112), (4, bI (i + 6))]) l240_1655 rfl (by decide +kernel) (bSb rfl (bSb rfl (bSb rfl (bSb rfl (bSb rfl bSn))))) (b_in (by omega) (by omega)) (b_pc (pc' := 1658) rfl ?_)
    refine b_s (pc' := 23) (lv1 := [(0, .ref 0), (1, .ref 1), (2, .ref 76), (3, .ref 112), (4, bI (i + 6))]) (st' := []) l240_1658 (fun _ => rfl) ?_
    exact kont
  · refine b_pos (c := ¬ k = 0) (E1 := some (.inl 1, μf, c)) (E2 := none) (κ := some) hk0 ?_
    refine b_zne (pt := 1256) l240_1241 hv1 (by decide) rfl (fun _ => ?_) (fun z => absurd hk0 z)
    refine b_s (pc' := 1655) (lv1 := [(0, .ref 0), (1, .ref 1), (2, .ref 76), (3, .ref 112), (4, bI i), (5, bI k), (6, bI b)]) (st' := []) l240_1256 (fun _ => rfl) ?_
    refine b_inc1 (lv' := [(0, .ref 0), (1, .ref 1), (2, .ref 76), (3, .ref 112), (4, bI (i + 6))]) l240_1655 rfl (by decide +kernel) (bSb rfl (bSb rfl (bSb rfl (bSb rfl (bSb rfl bSn))))) (b_in (by omega) (by omega)) (b_pc (pc' := 1658) rfl ?_)
    refine b_s (pc' := 23) (lv1 := [(0, .ref 0), (1, .ref 1), (2, .ref 76), (3, .ref 112), (4, bI (i + 6))]) (st' := []) l240_1658 (fun _ => rfl) ?_
    exact kont
theorem g_18 {L : Nat} {xs : Nat → Int32} {i k b : Int} {c n1 : Nat} {μ μ1 μ2 μf : bM} (hL : L ≤ 3072) (hi : 0 ≤ i ∧ i + 6 ≤ (L : Int)) (hop : bAnd (xs i.toNat).toInt 31 = 18) (hF1 : F_L_root (xs (i + 1).toNat).toInt μ = some (k, μ1, n1)) (hF2 : F_X11_root (xs (i + 1).toNat).toInt μ1 = some (b, μ2)) (hEQ : μ2 76 0 = k) (ho : k = 0 → μ2 112 0 = b) (kont : bD L xs 9 240 23 [(0, .ref 0), (1, .ref 1), (2, .ref 76), (3, .ref 112), (4, bI (i + 6))] [] μ2 (some (.inl 1, μf, c))) : bD L xs 9 240 23 [(0, .ref 0), (1, .ref 1), (2, .ref 76), (3, .ref 112), (4, bI i)] [] μ (some (.inl 1, μf, (c + n1))) := by
  have hiR : bR i := b_in (by omega) (by omega)
  refine bD.ok fun hk => ?_
  refine b_s (pc' := 25) (lv1 := [(0, .ref 0), (1, .ref 1), (2, .ref 76), (3, .ref 112), (4, bI i)]) (st' := [bI i]) l240_23 (fun _ => rfl) ?_
  refine b_s (pc' := 26) (lv1 := [(0, .ref 0), (1, .ref 1), (2, .ref 76), (3, .ref 112), (4, bI i)]) (st' := [.ref 0, bI i]) l240_25 (fun _ => rfl) ?_
  refine b_scl l240_26 (b_pc (pc' := 27) rfl ?_)
  refine b_bipush l240_27 (by decide) (b_pc (pc' := 29) rfl ?_)
  refine b_isub1 l240_29 (b_in (by omega) (by omega)) (b_pc (pc' := 30) rfl ?_)
  refine b_neg (c := ((L : Int) - 6) < i) (E1 := none) (E2 := some (.inl 1, μf, (c + n1))) (κ := some) (by omega) ?_
  refine b_igt (pt := 1661) l240_30 hiR (b_in (by omega) (by omega)) (by decide) rfl (fun z => absurd z (by omega)) (fun _ => b_pc (pc' := 33) rfl ?_)
  refine b_s (pc' := 34) (lv1 := [(0, .ref 0), (1, .ref 1), (2, .ref 76), (3, .ref 112), (4, bI i)]) (st' := [.ref 0]) l240_33 (fun _ => rfl) ?_
  refine b_s (pc' := 36) (lv1 := [(0, .ref 0), (1, .ref 1), (2, .ref 76), (3, .ref 112), (4, bI i)]) (st' := [bI i, .ref 0]) l240_34 (fun _ => rfl) ?_
  refine b_scr l240_36 ⟨by omega, by omega⟩ (by omega) (b_pc (pc' := 37) rfl ?_)
  refine b_bipush l240_37 (by decide) (b_pc (pc' := 39) rfl ?_)
  refine b_iand l240_39 (b_pc (pc' := 40) rfl ?_)
  refine b_tsw l240_40 (bi_rg _) (by decide) (by decide) (by decide) ?_
  refine b_pc (pc' := bTg [(0, 152), (1, 256), (2, 292), (3, 348), (4, 416), (5, 540), (6, 620), (7, 712), (8, 725), (9, 738), (10, 794), (11, 862), (12, 918), (13, 998), (14, 1011), (15, 1067), (16, 1123), (17, 1191), (18, 1259), (19, 1315), (20, 1395), (21, 1462), (22, 1542), (23, 1598)] 1655 (bAnd (xs i.toNat).toInt 31)) rfl ?_
  refine b_pc (pc' := 1259) (by rw [hop]; rfl) ?_
  refine b_s (pc' := 1260) (lv1 := [(0, .ref 0), (1, .ref 1), (2, .ref 76), (3, .ref 112), (4, bI i)]) (st' := [.ref 1]) l240_1259 (fun _ => rfl) ?_
  refine b_s (pc' := 1261) (lv1 := [(0, .ref 0), (1, .ref 1), (2, .ref 76), (3, .ref 112), (4, bI i)]) (st' := [.ref 0, .ref 1]) l240_1260 (fun _ => rfl) ?_
  refine b_s (pc' := 1263) (lv1 := [(0, .ref 0), (1, .ref 1), (2, .ref 76), (3, .ref 112), (4, bI i)]) (st' := [bI i, .ref 0, .ref 1]) l240_1261 (fun _ => rfl) ?_
  refine b_s (pc' := 1264) (lv1 := [(0, .ref 0), (1, .ref 1), (2, .ref 76), (3, .ref 112), (4, bI i)]) (st' := [bI 1, bI i, .ref 0, .ref 1]) l240_1263 (fun _ => rfl) ?_
  refine b_iadd1 l240_1264 (b_in (by omega) (by omega)) (b_pc (pc' := 1265) rfl ?_)
  refine b_scr l240_1265 ⟨by omega, by omega⟩ (by omega) (b_pc (pc' := 1266) rfl ?_)
  refine b_s (pc' := 1267) (lv1 := [(0, .ref 0), (1, .ref 1), (2, .ref 76), (3, .ref 112), (4, bI i)]) (st' := [.ref 112, bI (xs (i + 1).toNat).toInt, .ref 1]) l240_1266 (fun _ => rfl) ?_
  refine b_cKki l240_1267 rfl (fun _ => trivial) (Nat.le_of_ble_eq_true rfl) (Nat.le_of_ble_eq_true rfl) rfl (r_L_root (xs (i + 1).toNat).toInt (bi_rg _)) hF1 fun hv1 => bD.ok fun hk1 => b_pc (pc' := 1270) rfl ?_
  refine b_w (pc' := 1272) (lv1 := ax_st1 [(0, .ref 0), (1, .ref 1), (2, .ref 76), (3, .ref 112), (4, bI i)] 5 (bI k)) (lv' := [(0, .ref 0), (1, .ref 1), (2, .ref 76), (3, .ref 112), (4, bI i), (5, bI k)]) (st' := []) l240_1270 (fun _ => rfl) (bSb rfl (bSb rfl (bSb rfl (bSb rfl (bSb rfl (bSb rfl bSn)))))) ?_
  refine b_s (pc' := 1273) (lv1 := [(0, .ref 0), (1, .ref 1), (2, .ref 76), (3, .ref 112), (4, bI i), (5, bI k)]) (st' := [.ref 76]) l240_1272 (fun _ => rfl) ?_
  refine b_s (pc' := 1274) (lv1 := [(0, .ref 0), (1, .ref 1), (2, .ref 76), (3, .ref 112), (4, bI i), (5, bI k)]) (st' := [.ref 0, .ref 76]) l240_1273 (fun _ => rfl) ?_
  refine b_s (pc' := 1276) (lv1 := [(0, .ref 0), (1, .ref 1), (2, .ref 76), (3, .ref 112), (4, bI i), (5, bI k)]) (st' := [bI i, .ref 0, .ref 76]) l240_1274 (fun _ => rfl) ?_
  refine b_s (pc' := 1277) (lv1 := [(0, .ref 0), (1, .ref 1), (2, .ref 76), (3, .ref 112), (4, bI i), (5, bI k)]) (st' := [bI 1, bI i, .ref 0, .ref 76]) l240_1276 (fun _ => rfl) ?_
  refine b_iadd1 l240_1277 (b_in (by omega) (by omega)) (b_pc (pc' := 1278) rfl ?_)
  refine b_scr l240_1278 ⟨by omega, by omega⟩ (by omega) (b_pc (pc' := 1279) rfl ?_)
  refine b_cMki l240_1279 rfl (b_rc (ci := 9) (by rfl) (by decide) (by decide +kernel)) (Nat.le_of_ble_eq_true rfl) (Nat.le_of_ble_eq_true rfl) rfl (r_X11_root (xs (i + 1).toNat).toInt (bi_rg _)) hF2 fun hv2 => bD.ok fun hk2 => b_pc (pc' := 1282) rfl ?_
  refine b_w (pc' := 1284) (lv1 := ax_st1 [(0, .ref 0), (1, .ref 1), (2, .ref 76), (3, .ref 112), (4, bI i), (5, bI k)] 6 (bI b)) (lv' := [(0, .ref 0), (1, .ref 1), (2, .ref 76), (3, .ref 112), (4, bI i), (5, bI k), (6, bI b)]) (st' := []) l240_1282 (fun _ => rfl) (bSb rfl (bSb rfl (bSb rfl (bSb rfl (bSb rfl (bSb rfl (bSb rfl bSn))))))) ?_
  refine b_s (pc' := 1285) (lv1 := [(0, .ref 0), (1, .ref 1), (2, .ref 76), (3, .ref 112), (4, bI i), (5, bI k), (6, bI b)]) (st' := [.ref 76]) l240_1284 (fun _ => rfl) ?_
  refine b_cPki (v := μ2 76 0) l240_1285 rfl (b_rc (ci := 9) (by rfl) (by decide) (by decide +kernel)) (Nat.le_of_ble_eq_true rfl) (Nat.le_of_ble_eq_true rfl) rfl (r_X11_thrown ) rfl fun hw1 => b_pc (pc' := 1288) rfl ?_
  refine b_s (pc' := 1290) (lv1 := [(0, .ref 0), (1, .ref 1), (2, .ref 76), (3, .ref 112), (4, bI i), (5, bI k), (6, bI b)]) (st' := [bI k, bI (μ2 76 0)]) l240_1288 (fun _ => rfl) ?_
  refine b_pos (c := (μ2 76 0) = k) (E1 := some (.inl 1, μf, c)) (E2 := none) (κ := some) hEQ ?_
  refine b_ieq (pt := 1295) l240_1290 hw1 hv1 (by decide) rfl (fun _ => ?_) (fun z => absurd hEQ z)
  refine b_s (pc' := 1297) (lv1 := [(0, .ref 0), (1, .ref 1), (2, .ref 76), (3, .ref 112), (4, bI i), (5, bI k), (6, bI b)]) (st' := [bI k]) l240_1295 (fun _ => rfl) ?_
  by_cases hk0 : k = 0
  · refine b_neg (c := ¬ k = 0) (E1 := none) (E2 := some (.inl 1, μf, c)) (κ := some) (fun z => z hk0) ?_
    refine b_zne (pt := 1312) l240_1297 hv1 (by decide) rfl (fun z => absurd hk0 z) (fun _ => b_pc (pc' := 1300) rfl ?_)
    refine b_s (pc' := 1301) (lv1 := [(0, .ref 0), (1, .ref 1), (2, .ref 76), (3, .ref 112), (4, bI i), (5, bI k), (6, bI b)]) (st' := [.ref 112]) l240_1300 (fun _ => rfl) ?_
    refine b_s (pc' := 1302) (lv1 := [(0, .ref 0), (1, .ref 1), (2, .ref 76), (3, .ref 112), (4, bI i), (5, bI k), (6, bI b)]) (st' := [bI 0, .ref 112]) l240_1301 (fun _ => rfl) ?_
    refine b_lal l240_1302 (by rfl) (by decide) (b_pc (pc' := 1303) rfl ?_)
    refine b_s (pc' := 1305) (lv1 := [(0, .ref 0), (1, .ref 1), (2, .ref 76), (3, .ref 112), (4, bI i), (5, bI k), (6, bI b)]) (st' := [bI b, bLg (μ2 112 0)]) l240_1303 (fun _ => rfl) ?_
    refine b_i2l l240_1305 hv2 (b_pc (pc' := 1306) rfl ?_)
    refine b_lcmp l240_1306 (bO_l hk2 (show bSh 112 = (2, 1) from rfl)) (bR_L hv2) (b_pc (pc' := 1307) rfl ?_)
    refine b_pos (c := (bCmp (μ2 112 0) b) = 0) (E1 := some (.inl 1, μf, c)) (E2 := none) (κ := some) (bCmp_0 (ho hk0)) ?_
    refine b_zeq (pt := 1312) l240_1307 (bCmp_R _ _) (by decide) rfl (fun _ => ?_) (fun z => absurd (bCmp_0 (ho hk0)) z)
    refine b_s (pc' := 1655) (lv1 := [(0, .ref 0), (1, .ref 1), (2, .ref 76), (3, .ref 112), (4, bI i), (5, bI k), (6, bI b)]) (st' := []) l240_1312 (fun _ => rfl) ?_
    refine b_inc1 (lv' := [(0, .ref 0), (1, .ref 1), (2, .ref 76), (3, .ref 112), (4, bI (i + 6))]) l240_1655 rfl (by decide +kernel) (bSb rfl (bSb rfl (bSb rfl (bSb rfl (bSb rfl bSn))))) (b_in (by omega) (by omega)) (b_pc (pc' := 1658) rfl ?_)
    refine b_s (pc' := 23) (lv1 := [(0, .ref 0), (1, .ref 1), (2, .ref 76), (3, .ref 112), (4, bI (i + 6))]) (st' := []) l240_1658 (fun _ => rfl) ?_
    exact kont
  · refine b_pos (c := ¬ k = 0) (E1 := some (.inl 1, μf, c)) (E2 := none) (κ := some) hk0 ?_
    refine b_zne (pt := 1312) l240_1297 hv1 (by decide) rfl (fun _ => ?_) (fun z => absurd hk0 z)
    refine b_s (pc' := 1655) (lv1 := [(0, .ref 0), (1, .ref 1), (2, .ref 76), (3, .ref 112), (4, bI i), (5, bI k), (6, bI b)]) (st' := []) l240_1312 (fun _ => rfl) ?_
    refine b_inc1 (lv' := [(0, .ref 0), (1, .ref 1), (2, .ref 76), (3, .ref 112), (4, bI (i + 6))]) l240_1655 rfl (by decide +kernel) (bSb rfl (bSb rfl (bSb rfl (bSb rfl (bSb rfl bSn))))) (b_in (by omega) (by omega)) (b_pc (pc' := 1658) rfl ?_)
    refine b_s (pc' := 23) (lv1 := [(0, .ref 0), (1, .ref 1), (2, .ref 76), (3, .ref 112), (4, bI (i + 6))]) (st' := []) l240_1658 (fun _ => rfl) ?_
    exact kont
theorem g_19 {L : Nat} {xs : Nat → Int32} {i k b : Int} {c n1 : Nat} {μ μ1 μ2 μf : bM} (hL : L ≤ 3072) (hi : 0 ≤ i ∧ i + 6 ≤ (L : Int)) (hop : bAnd (xs i.toNat).toInt 31 = 19) (hF1 : F_L_attribute (xs (i + 1).toNat).toInt (xs (i + 2).toNat).toInt (xs (i + 3).toNat).toInt μ = some (k, μ1, n1)) (hF2 : F_X11_attribute (xs (i + 1).toNat).toInt (xs (i + 2).toNat).toInt (xs (i + 3).toNat).toInt μ1 = some (b, μ2)) (hEQ : μ2 76 0 = k) (ho : k = 0 → μ2 112 0 = b) (kont : bD L xs 9 240 23 [(0, .ref 0), (1, .ref 1), (2, .ref 76), (3, .ref 112), (4, bI (i + 6))] [] μ2 (some (.inl 1, μf, c))) : bD L xs 9 240 23 [(0, .ref 0), (1, .ref 1), (2, .ref 76), (3, .ref 112), (4, bI i)] [] μ (some (.inl 1, μf, (c + n1))) := by
  have hiR : bR i := b_in (by omega) (by omega)
  refine bD.ok fun hk => ?_
  refine b_s (pc' := 25) (lv1 := [(0, .ref 0), (1, .ref 1), (2, .ref 76), (3, .ref 112), (4, bI i)]) (st' := [bI i]) l240_23 (fun _ => rfl) ?_
  refine b_s (pc' := 26) (lv1 := [(0, .ref 0), (1, .ref 1), (2, .ref 76), (3, .ref 112), (4, bI i)]) (st' := [.ref 0, bI i]) l240_25 (fun _ => rfl) ?_
  refine b_scl l240_26 (b_pc (pc' := 27) rfl ?_)
  refine b_bipush l240_27 (by decide) (b_pc (pc' := 29) rfl ?_)
  refine b_isub1 l240_29 (b_in (by omega) (by omega)) (b_pc (pc' := 30) rfl ?_)
  refine b_neg (c := ((L : Int) - 6) < i) (E1 := none) (E2 := some (.inl 1, μf, (c + n1))) (κ := some) (by omega) ?_
  refine b_igt (pt := 1661) l240_30 hiR (b_in (by omega) (by omega)) (by decide) rfl (fun z => absurd z (by omega)) (fun _ => b_pc (pc' := 33) rfl ?_)
  refine b_s (pc' := 34) (lv1 := [(0, .ref 0), (1, .ref 1), (2, .ref 76), (3, .ref 112), (4, bI i)]) (st' := [.ref 0]) l240_33 (fun _ => rfl) ?_
  refine b_s (pc' := 36) (lv1 := [(0, .ref 0), (1, .ref 1), (2, .ref 76), (3, .ref 112), (4, bI i)]) (st' := [bI i, .ref 0]) l240_34 (fun _ => rfl) ?_
  refine b_scr l240_36 ⟨by omega, by omega⟩ (by omega) (b_pc (pc' := 37) rfl ?_)
  refine b_bipush l240_37 (by decide) (b_pc (pc' := 39) rfl ?_)
  refine b_iand l240_39 (b_pc (pc' := 40) rfl ?_)
  refine b_tsw l240_40 (bi_rg _) (by decide) (by decide) (by decide) ?_
  refine b_pc (pc' := bTg [(0, 152), (1, 256), (2, 292), (3, 348), (4, 416), (5, 540), (6, 620), (7, 712), (8, 725), (9, 738), (10, 794), (11, 862), (12, 918), (13, 998), (14, 1011), (15, 1067), (16, 1123), (17, 1191), (18, 1259), (19, 1315), (20, 1395), (21, 1462), (22, 1542), (23, 1598)] 1655 (bAnd (xs i.toNat).toInt 31)) rfl ?_
  refine b_pc (pc' := 1315) (by rw [hop]; rfl) ?_
  refine b_s (pc' := 1316) (lv1 := [(0, .ref 0), (1, .ref 1), (2, .ref 76), (3, .ref 112), (4, bI i)]) (st' := [.ref 1]) l240_1315 (fun _ => rfl) ?_
  refine b_s (pc' := 1317) (lv1 := [(0, .ref 0), (1, .ref 1), (2, .ref 76), (3, .ref 112), (4, bI i)]) (st' := [.ref 0, .ref 1]) l240_1316 (fun _ => rfl) ?_
  refine b_s (pc' := 1319) (lv1 := [(0, .ref 0), (1, .ref 1), (2, .ref 76), (3, .ref 112), (4, bI i)]) (st' := [bI i, .ref 0, .ref 1]) l240_1317 (fun _ => rfl) ?_
  refine b_s (pc' := 1320) (lv1 := [(0, .ref 0), (1, .ref 1), (2, .ref 76), (3, .ref 112), (4, bI i)]) (st' := [bI 1, bI i, .ref 0, .ref 1]) l240_1319 (fun _ => rfl) ?_
  refine b_iadd1 l240_1320 (b_in (by omega) (by omega)) (b_pc (pc' := 1321) rfl ?_)
  refine b_scr l240_1321 ⟨by omega, by omega⟩ (by omega) (b_pc (pc' := 1322) rfl ?_)
  refine b_s (pc' := 1323) (lv1 := [(0, .ref 0), (1, .ref 1), (2, .ref 76), (3, .ref 112), (4, bI i)]) (st' := [.ref 0, bI (xs (i + 1).toNat).toInt, .ref 1]) l240_1322 (fun _ => rfl) ?_
  refine b_s (pc' := 1325) (lv1 := [(0, .ref 0), (1, .ref 1), (2, .ref 76), (3, .ref 112), (4, bI i)]) (st' := [bI i, .ref 0, bI (xs (i + 1).toNat).toInt, .ref 1]) l240_1323 (fun _ => rfl) ?_
  refine b_s (pc' := 1326) (lv1 := [(0, .ref 0), (1, .ref 1), (2, .ref 76), (3, .ref 112), (4, bI i)]) (st' := [bI 2, bI i, .ref 0, bI (xs (i + 1).toNat).toInt, .ref 1]) l240_1325 (fun _ => rfl) ?_
  refine b_iadd1 l240_1326 (b_in (by omega) (by omega)) (b_pc (pc' := 1327) rfl ?_)
  refine b_scr l240_1327 ⟨by omega, by omega⟩ (by omega) (b_pc (pc' := 1328) rfl ?_)
  refine b_s (pc' := 1329) (lv1 := [(0, .ref 0), (1, .ref 1), (2, .ref 76), (3, .ref 112), (4, bI i)]) (st' := [.ref 0, bI (xs (i + 2).toNat).toInt, bI (xs (i + 1).toNat).toInt, .ref 1]) l240_1328 (fun _ => rfl) ?_
  refine b_s (pc' := 1331) (lv1 := [(0, .ref 0), (1, .ref 1), (2, .ref 76), (3, .ref 112), (4, bI i)]) (st' := [bI i, .ref 0, bI (xs (i + 2).toNat).toInt, bI (xs (i + 1).toNat).toInt, .ref 1]) l240_1329 (fun _ => rfl) ?_
  refine b_s (pc' := 1332) (lv1 := [(0, .ref 0), (1, .ref 1), (2, .ref 76), (3, .ref 112), (4, bI i)]) (st' := [bI 3, bI i, .ref 0, bI (xs (i + 2).toNat).toInt, bI (xs (i + 1).toNat).toInt, .ref 1]) l240_1331 (fun _ => rfl) ?_
  refine b_iadd1 l240_1332 (b_in (by omega) (by omega)) (b_pc (pc' := 1333) rfl ?_)
  refine b_scr l240_1333 ⟨by omega, by omega⟩ (by omega) (b_pc (pc' := 1334) rfl ?_)
  refine b_s (pc' := 1335) (lv1 := [(0, .ref 0), (1, .ref 1), (2, .ref 76), (3, .ref 112), (4, bI i)]) (st' := [.ref 112, bI (xs (i + 3).toNat).toInt, bI (xs (i + 2).toNat).toInt, bI (xs (i + 1).toNat).toInt, .ref 1]) l240_1334 (fun _ => rfl) ?_
  refine b_cKki l240_1335 rfl (fun _ => trivial) (Nat.le_of_ble_eq_true rfl) (Nat.le_of_ble_eq_true rfl) rfl (r_L_attribute (xs (i + 1).toNat).toInt (bi_rg _) (xs (i + 2).toNat).toInt (bi_rg _) (xs (i + 3).toNat).toInt (bi_rg _)) hF1 fun hv1 => bD.ok fun hk1 => b_pc (pc' := 1338) rfl ?_
  refine b_w (pc' := 1340) (lv1 := ax_st1 [(0, .ref 0), (1, .ref 1), (2, .ref 76), (3, .ref 112), (4, bI i)] 5 (bI k)) (lv' := [(0, .ref 0), (1, .ref 1), (2, .ref 76), (3, .ref 112), (4, bI i), (5, bI k)]) (st' := []) l240_1338 (fun _ => rfl) (bSb rfl (bSb rfl (bSb rfl (bSb rfl (bSb rfl (bSb rfl bSn)))))) ?_
  refine b_s (pc' := 1341) (lv1 := [(0, .ref 0), (1, .ref 1), (2, .ref 76), (3, .ref 112), (4, bI i), (5, bI k)]) (st' := [.ref 76]) l240_1340 (fun _ => rfl) ?_
  refine b_s (pc' := 1342) (lv1 := [(0, .ref 0), (1, .ref 1), (2, .ref 76), (3, .ref 112), (4, bI i), (5, bI k)]) (st' := [.ref 0, .ref 76]) l240_1341 (fun _ => rfl) ?_
  refine b_s (pc' := 1344) (lv1 := [(0, .ref 0), (1, .ref 1), (2, .ref 76), (3, .ref 112), (4, bI i), (5, bI k)]) (st' := [bI i, .ref 0, .ref 76]) l240_1342 (fun _ => rfl) ?_
  refine b_s (pc' := 1345) (lv1 := [(0, .ref 0), (1, .ref 1), (2, .ref 76), (3, .ref 112), (4, bI i), (5, bI k)]) (st' := [bI 1, bI i, .ref 0, .ref 76]) l240_1344 (fun _ => rfl) ?_
  refine b_iadd1 l240_1345 (b_in (by omega) (by omega)) (b_pc (pc' := 1346) rfl ?_)
  refine b_scr l240_1346 ⟨by omega, by omega⟩ (by omega) (b_pc (pc' := 1347) rfl ?_)
  refine b_s (pc' := 1348) (lv1 := [(0, .ref 0), (1, .ref 1), (2, .ref 76), (3, .ref 112), (4, bI i), (5, bI k)]) (st' := [.ref 0, bI (xs (i + 1).toNat).toInt, .ref 76]) l240_1347 (fun _ => rfl) ?_
  refine b_s (pc' := 1350) (lv1 := [(0, .ref 0), (1, .ref 1), (2, .ref 76), (3, .ref 112), (4, bI i), (5, bI k)]) (st' := [bI i, .ref 0, bI (xs (i + 1).toNat).toInt, .ref 76]) l240_1348 (fun _ => rfl) ?_
  refine b_s (pc' := 1351) (lv1 := [(0, .ref 0), (1, .ref 1), (2, .ref 76), (3, .ref 112), (4, bI i), (5, bI k)]) (st' := [bI 2, bI i, .ref 0, bI (xs (i + 1).toNat).toInt, .ref 76]) l240_1350 (fun _ => rfl) ?_
  refine b_iadd1 l240_1351 (b_in (by omega) (by omega)) (b_pc (pc' := 1352) rfl ?_)
  refine b_scr l240_1352 ⟨by omega, by omega⟩ (by omega) (b_pc (pc' := 1353) rfl ?_)
  refine b_s (pc' := 1354) (lv1 := [(0, .ref 0), (1, .ref 1), (2, .ref 76), (3, .ref 112), (4, bI i), (5, bI k)]) (st' := [.ref 0, bI (xs (i + 2).toNat).toInt, bI (xs (i + 1).toNat).toInt, .ref 76]) l240_1353 (fun _ => rfl) ?_
  refine b_s (pc' := 1356) (lv1 := [(0, .ref 0), (1, .ref 1), (2, .ref 76), (3, .ref 112), (4, bI i), (5, bI k)]) (st' := [bI i, .ref 0, bI (xs (i + 2).toNat).toInt, bI (xs (i + 1).toNat).toInt, .ref 76]) l240_1354 (fun _ => rfl) ?_
  refine b_s (pc' := 1357) (lv1 := [(0, .ref 0), (1, .ref 1), (2, .ref 76), (3, .ref 112), (4, bI i), (5, bI k)]) (st' := [bI 3, bI i, .ref 0, bI (xs (i + 2).toNat).toInt, bI (xs (i + 1).toNat).toInt, .ref 76]) l240_1356 (fun _ => rfl) ?_
  refine b_iadd1 l240_1357 (b_in (by omega) (by omega)) (b_pc (pc' := 1358) rfl ?_)
  refine b_scr l240_1358 ⟨by omega, by omega⟩ (by omega) (b_pc (pc' := 1359) rfl ?_)
  refine b_cMki l240_1359 rfl (b_rc (ci := 9) (by rfl) (by decide) (by decide +kernel)) (Nat.le_of_ble_eq_true rfl) (Nat.le_of_ble_eq_true rfl) rfl (r_X11_attribute (xs (i + 1).toNat).toInt (bi_rg _) (xs (i + 2).toNat).toInt (bi_rg _) (xs (i + 3).toNat).toInt (bi_rg _)) hF2 fun hv2 => bD.ok fun hk2 => b_pc (pc' := 1362) rfl ?_
  refine b_w (pc' := 1364) (lv1 := ax_st1 [(0, .ref 0), (1, .ref 1), (2, .ref 76), (3, .ref 112), (4, bI i), (5, bI k)] 6 (bI b)) (lv' := [(0, .ref 0), (1, .ref 1), (2, .ref 76), (3, .ref 112), (4, bI i), (5, bI k), (6, bI b)]) (st' := []) l240_1362 (fun _ => rfl) (bSb rfl (bSb rfl (bSb rfl (bSb rfl (bSb rfl (bSb rfl (bSb rfl bSn))))))) ?_
  refine b_s (pc' := 1365) (lv1 := [(0, .ref 0), (1, .ref 1), (2, .ref 76), (3, .ref 112), (4, bI i), (5, bI k), (6, bI b)]) (st' := [.ref 76]) l240_1364 (fun _ => rfl) ?_
  refine b_cPki (v := μ2 76 0) l240_1365 rfl (b_rc (ci := 9) (by rfl) (by decide) (by decide +kernel)) (Nat.le_of_ble_eq_true rfl) (Nat.le_of_ble_eq_true rfl) rfl (r_X11_thrown ) rfl fun hw1 => b_pc (pc' := 1368) rfl ?_
  refine b_s (pc' := 1370) (lv1 := [(0, .ref 0), (1, .ref 1), (2, .ref 76), (3, .ref 112), (4, bI i), (5, bI k), (6, bI b)]) (st' := [bI k, bI (μ2 76 0)]) l240_1368 (fun _ => rfl) ?_
  refine b_pos (c := (μ2 76 0) = k) (E1 := some (.inl 1, μf, c)) (E2 := none) (κ := some) hEQ ?_
  refine b_ieq (pt := 1375) l240_1370 hw1 hv1 (by decide) rfl (fun _ => ?_) (fun z => absurd hEQ z)
  refine b_s (pc' := 1377) (lv1 := [(0, .ref 0), (1, .ref 1), (2, .ref 76), (3, .ref 112), (4, bI i), (5, bI k), (6, bI b)]) (st' := [bI k]) l240_1375 (fun _ => rfl) ?_
  by_cases hk0 : k = 0
  · refine b_neg (c := ¬ k = 0) (E1 := none) (E2 := some (.inl 1, μf, c)) (κ := some) (fun z => z hk0) ?_
    refine b_zne (pt := 1392) l240_1377 hv1 (by decide) rfl (fun z => absurd hk0 z) (fun _ => b_pc (pc' := 1380) rfl ?_)
    refine b_s (pc' := 1381) (lv1 := [(0, .ref 0), (1, .ref 1), (2, .ref 76), (3, .ref 112), (4, bI i), (5, bI k), (6, bI b)]) (st' := [.ref 112]) l240_1380 (fun _ => rfl) ?_
    refine b_s (pc' := 1382) (lv1 := [(0, .ref 0), (1, .ref 1), (2, .ref 76), (3, .ref 112), (4, bI i), (5, bI k), (6, bI b)]) (st' := [bI 0, .ref 112]) l240_1381 (fun _ => rfl) ?_
    refine b_lal l240_1382 (by rfl) (by decide) (b_pc (pc' := 1383) rfl ?_)
    refine b_s (pc' := 1385) (lv1 := [(0, .ref 0), (1, .ref 1), (2, .ref 76), (3, .ref 112), (4, bI i), (5, bI k), (6, bI b)]) (st' := [bI b, bLg (μ2 112 0)]) l240_1383 (fun _ => rfl) ?_
    refine b_i2l l240_1385 hv2 (b_pc (pc' := 1386) rfl ?_)
    refine b_lcmp l240_1386 (bO_l hk2 (show bSh 112 = (2, 1) from rfl)) (bR_L hv2) (b_pc (pc' := 1387) rfl ?_)
    refine b_pos (c := (bCmp (μ2 112 0) b) = 0) (E1 := some (.inl 1, μf, c)) (E2 := none) (κ := some) (bCmp_0 (ho hk0)) ?_
    refine b_zeq (pt := 1392) l240_1387 (bCmp_R _ _) (by decide) rfl (fun _ => ?_) (fun z => absurd (bCmp_0 (ho hk0)) z)
    refine b_s (pc' := 1655) (lv1 := [(0, .ref 0), (1, .ref 1), (2, .ref 76), (3, .ref 112), (4, bI i), (5, bI k), (6, bI b)]) (st' := []) l240_1392 (fun _ => rfl) ?_
    refine b_inc1 (lv' := [(0, .ref 0), (1, .ref 1), (2, .ref 76), (3, .ref 112), (4, bI (i + 6))]) l240_1655 rfl (by decide +kernel) (bSb rfl (bSb rfl (bSb rfl (bSb rfl (bSb rfl bSn))))) (b_in (by omega) (by omega)) (b_pc (pc' := 1658) rfl ?_)
    refine b_s (pc' := 23) (lv1 := [(0, .ref 0), (1, .ref 1), (2, .ref 76), (3, .ref 112), (4, bI (i + 6))]) (st' := []) l240_1658 (fun _ => rfl) ?_
    exact kont
  · refine b_pos (c := ¬ k = 0) (E1 := some (.inl 1, μf, c)) (E2 := none) (κ := some) hk0 ?_
    refine b_zne (pt := 1392) l240_1377 hv1 (by decide) rfl (fun _ => ?_) (fun z => absurd hk0 z)
    refine b_s (pc' := 1655) (lv1 := [(0, .ref 0), (1, .ref 1), (2, .ref 76), (3, .ref 112), (4, bI i), (5, bI k), (6, bI b)]) (st' := []) l240_1392 (fun _ => rfl) ?_
    refine b_inc1 (lv' := [(0, .ref 0), (1, .ref 1), (2, .ref 76), (3, .ref 112), (4, bI (i + 6))]) l240_1655 rfl (by decide +kernel) (bSb rfl (bSb rfl (bSb rfl (bSb rfl (bSb rfl bSn))))) (b_in (by omega) (by omega)) (b_pc (pc' := 1658) rfl ?_)
    refine b_s (pc' := 23) (lv1 := [(0, .ref 0), (1, .ref 1), (2, .ref 76), (3, .ref 112), (4, bI (i + 6))]) (st' := []) l240_1658 (fun _ => rfl) ?_
    exact kont
theorem g_20 {L : Nat} {xs : Nat → Int32} {i k b : Int} {c n1 : Nat} {μ μ1 μ2 μf : bM} (hL : L ≤ 3072) (hi : 0 ≤ i ∧ i + 6 ≤ (L : Int)) (hop : bAnd (xs i.toNat).toInt 31 = 20) (hF1 : F_L_value (xs (i + 1).toNat).toInt (xs (i + 2).toNat).toInt μ = some (k, μ1, n1)) (hF2 : F_X11_value (xs (i + 1).toNat).toInt (xs (i + 2).toNat).toInt μ1 = some (b, μ2)) (hEQ : μ2 76 0 = k) (ho : k = 0 → μ2 112 0 = b) (kont : bD L xs 9 240 23 [(0, .ref 0), (1, .ref 1), (2, .ref 76), (3, .ref 112), (4, bI (i + 6))] [] μ2 (some (.inl 1, μf, c))) : bD L xs 9 240 23 [(0, .ref 0), (1, .ref 1), (2, .ref 76), (3, .ref 112), (4, bI i)] [] μ (some (.inl 1, μf, (c + n1))) := by
  have hiR : bR i := b_in (by omega) (by omega)
  refine bD.ok fun hk => ?_
  refine b_s (pc' := 25) (lv1 := [(0, .ref 0), (1, .ref 1), (2, .ref 76), (3, .ref 112), (4, bI i)]) (st' := [bI i]) l240_23 (fun _ => rfl) ?_
  refine b_s (pc' := 26) (lv1 := [(0, .ref 0), (1, .ref 1), (2, .ref 76), (3, .ref 112), (4, bI i)]) (st' := [.ref 0, bI i]) l240_25 (fun _ => rfl) ?_
  refine b_scl l240_26 (b_pc (pc' := 27) rfl ?_)
  refine b_bipush l240_27 (by decide) (b_pc (pc' := 29) rfl ?_)
  refine b_isub1 l240_29 (b_in (by omega) (by omega)) (b_pc (pc' := 30) rfl ?_)
  refine b_neg (c := ((L : Int) - 6) < i) (E1 := none) (E2 := some (.inl 1, μf, (c + n1))) (κ := some) (by omega) ?_
  refine b_igt (pt := 1661) l240_30 hiR (b_in (by omega) (by omega)) (by decide) rfl (fun z => absurd z (by omega)) (fun _ => b_pc (pc' := 33) rfl ?_)
  refine b_s (pc' := 34) (lv1 := [(0, .ref 0), (1, .ref 1), (2, .ref 76), (3, .ref 112), (4, bI i)]) (st' := [.ref 0]) l240_33 (fun _ => rfl) ?_
  refine b_s (pc' := 36) (lv1 := [(0, .ref 0), (1, .ref 1), (2, .ref 76), (3, .ref 112), (4, bI i)]) (st' := [bI i, .ref 0]) l240_34 (fun _ => rfl) ?_
  refine b_scr l240_36 ⟨by omega, by omega⟩ (by omega) (b_pc (pc' := 37) rfl ?_)
  refine b_bipush l240_37 (by decide) (b_pc (pc' := 39) rfl ?_)
  refine b_iand l240_39 (b_pc (pc' := 40) rfl ?_)
  refine b_tsw l240_40 (bi_rg _) (by decide) (by decide) (by decide) ?_
  refine b_pc (pc' := bTg [(0, 152), (1, 256), (2, 292), (3, 348), (4, 416), (5, 540), (6, 620), (7, 712), (8, 725), (9, 738), (10, 794), (11, 862), (12, 918), (13, 998), (14, 1011), (15, 1067), (16, 1123), (17, 1191), (18, 1259), (19, 1315), (20, 1395), (21, 1462), (22, 1542), (23, 1598)] 1655 (bAnd (xs i.toNat).toInt 31)) rfl ?_
  refine b_pc (pc' := 1395) (by rw [hop]; rfl) ?_
  refine b_s (pc' := 1396) (lv1 := [(0, .ref 0), (1, .ref 1), (2, .ref 76), (3, .ref 112), (4, bI i)]) (st' := [.ref 1]) l240_1395 (fun _ => rfl) ?_
  refine b_s (pc' := 1397) (lv1 := [(0, .ref 0), (1, .ref 1), (2, .ref 76), (3, .ref 112), (4, bI i)]) (st' := [.ref 0, .ref 1]) l240_1396 (fun _ => rfl) ?_
  refine b_s (pc' := 1399) (lv1 := [(0, .ref 0), (1, .ref 1), (2, .ref 76), (3, .ref 112), (4, bI i)]) (st' := [bI i, .ref 0, .ref 1]) l240_1397 (fun _ => rfl) ?_
  refine b_s (pc' := 1400) (lv1 := [(0, .ref 0), (1, .ref 1), (2, .ref 76), (3, .ref 112), (4, bI i)]) (st' := [bI 1, bI i, .ref 0, .ref 1]) l240_1399 (fun _ => rfl) ?_
  refine b_iadd1 l240_1400 (b_in (by omega) (by omega)) (b_pc (pc' := 1401) rfl ?_)
  refine b_scr l240_1401 ⟨by omega, by omega⟩ (by omega) (b_pc (pc' := 1402) rfl ?_)
  refine b_s (pc' := 1403) (lv1 := [(0, .ref 0), (1, .ref 1), (2, .ref 76), (3, .ref 112), (4, bI i)]) (st' := [.ref 0, bI (xs (i + 1).toNat).toInt, .ref 1]) l240_1402 (fun _ => rfl) ?_
  refine b_s (pc' := 1405) (lv1 := [(0, .ref 0), (1, .ref 1), (2, .ref 76), (3, .ref 112), (4, bI i)]) (st' := [bI i, .ref 0, bI (xs (i + 1).toNat).toInt, .ref 1]) l240_1403 (fun _ => rfl) ?_
  refine b_s (pc' := 1406) (lv1 := [(0, .ref 0), (1, .ref 1), (2, .ref 76), (3, .ref 112), (4, bI i)]) (st' := [bI 2, bI i, .ref 0, bI (xs (i + 1).toNat).toInt, .ref 1]) l240_1405 (fun _ => rfl) ?_
  refine b_iadd1 l240_1406 (b_in (by omega) (by omega)) (b_pc (pc' := 1407) rfl ?_)
  refine b_scr l240_1407 ⟨by omega, by omega⟩ (by omega) (b_pc (pc' := 1408) rfl ?_)
  refine b_s (pc' := 1409) (lv1 := [(0, .ref 0), (1, .ref 1), (2, .ref 76), (3, .ref 112), (4, bI i)]) (st' := [.ref 112, bI (xs (i + 2).toNat).toInt, bI (xs (i + 1).toNat).toInt, .ref 1]) l240_1408 (fun _ => rfl) ?_
  refine b_cKki l240_1409 rfl (fun _ => trivial) (Nat.le_of_ble_eq_true rfl) (Nat.le_of_ble_eq_true rfl) rfl (r_L_value (xs (i + 1).toNat).toInt (bi_rg _) (xs (i + 2).toNat).toInt (bi_rg _)) hF1 fun hv1 => bD.ok fun hk1 => b_pc (pc' := 1412) rfl ?_
  refine b_w (pc' := 1414) (lv1 := ax_st1 [(0, .ref 0), (1, .ref 1), (2, .ref 76), (3, .ref 112), (4, bI i)] 5 (bI k)) (lv' := [(0, .ref 0), (1, .ref 1), (2, .ref 76), (3, .ref 112), (4, bI i), (5, bI k)]) (st' := []) l240_1412 (fun _ => rfl) (bSb rfl (bSb rfl (bSb rfl (bSb rfl (bSb rfl (bSb rfl bSn)))))) ?_
  refine b_s (pc' := 1415) (lv1 := [(0, .ref 0), (1, .ref 1), (2, .ref 76), (3, .ref 112), (4, bI i), (5, bI k)]) (st' := [.ref 76]) l240_1414 (fun _ => rfl) ?_
  refine b_s (pc' := 1416) (lv1 := [(0, .ref 0), (1, .ref 1), (2, .ref 76), (3, .ref 112), (4, bI i), (5, bI k)]) (st' := [.ref 0, .ref 76]) l240_1415 (fun _ => rfl) ?_
  refine b_s (pc' := 1418) (lv1 := [(0, .ref 0), (1, .ref 1), (2, .ref 76), (3, .ref 112), (4, bI i), (5, bI k)]) (st' := [bI i, .ref 0, .ref 76]) l240_1416 (fun _ => rfl) ?_
  refine b_s (pc' := 1419) (lv1 := [(0, .ref 0), (1, .ref 1), (2, .ref 76), (3, .ref 112), (4, bI i), (5, bI k)]) (st' := [bI 1, bI i, .ref 0, .ref 76]) l240_1418 (fun _ => rfl) ?_
  refine b_iadd1 l240_1419 (b_in (by omega) (by omega)) (b_pc (pc' := 1420) rfl ?_)
  refine b_scr l240_1420 ⟨by omega, by omega⟩ (by omega) (b_pc (pc' := 1421) rfl ?_)
  refine b_s (pc' := 1422) (lv1 := [(0, .ref 0), (1, .ref 1), (2, .ref 76), (3, .ref 112), (4, bI i), (5, bI k)]) (st' := [.ref 0, bI (xs (i + 1).toNat).toInt, .ref 76]) l240_1421 (fun _ => rfl) ?_
  refine b_s (pc' := 1424) (lv1 := [(0, .ref 0), (1, .ref 1), (2, .ref 76), (3, .ref 112), (4, bI i), (5, bI k)]) (st' := [bI i, .ref 0, bI (xs (i + 1).toNat).toInt, .ref 76]) l240_1422 (fun _ => rfl) ?_
  refine b_s (pc' := 1425) (lv1 := [(0, .ref 0), (1, .ref 1), (2, .ref 76), (3, .ref 112), (4, bI i), (5, bI k)]) (st' := [bI 2, bI i, .ref 0, bI (xs (i + 1).toNat).toInt, .ref 76]) l240_1424 (fun _ => rfl) ?_
  refine b_iadd1 l240_1425 (b_in (by omega) (by omega)) (b_pc (pc' := 1426) rfl ?_)
  refine b_scr l240_1426 ⟨by omega, by omega⟩ (by omega) (b_pc (pc' := 1427) rfl ?_)
  refine b_cMkl l240_1427 rfl (b_rc (ci := 9) (by rfl) (by decide) (by decide +kernel)) (Nat.le_of_ble_eq_true rfl) (Nat.le_of_ble_eq_true rfl) rfl (r_X11_value (xs (i + 1).toNat).toInt (bi_rg _) (xs (i + 2).toNat).toInt (bi_rg _)) hF2 fun hv2 => bD.ok fun hk2 => b_pc (pc' := 1430) rfl ?_
  refine b_w (pc' := 1432) (lv1 := ax_st2 [(0, .ref 0), (1, .ref 1), (2, .ref 76), (3, .ref 112), (4, bI i), (5, bI k)] 6 (bLg b)) (lv' := [(0, .ref 0), (1, .ref 1), (2, .ref 76), (3, .ref 112), (4, bI i), (5, bI k), (6, bLg b)]) (st' := []) l240_1430 (fun _ => rfl) (bSb rfl (bSb rfl (bSb rfl (bSb rfl (bSb rfl (bSb rfl (bSb rfl bSn))))))) ?_
  refine b_s (pc' := 1433) (lv1 := [(0, .ref 0), (1, .ref 1), (2, .ref 76), (3, .ref 112), (4, bI i), (5, bI k), (6, bLg b)]) (st' := [.ref 76]) l240_1432 (fun _ => rfl) ?_
  refine b_cPki (v := μ2 76 0) l240_1433 rfl (b_rc (ci := 9) (by rfl) (by decide) (by decide +kernel)) (Nat.le_of_ble_eq_true rfl) (Nat.le_of_ble_eq_true rfl) rfl (r_X11_thrown ) rfl fun hw1 => b_pc (pc' := 1436) rfl ?_
  refine b_s (pc' := 1438) (lv1 := [(0, .ref 0), (1, .ref 1), (2, .ref 76), (3, .ref 112), (4, bI i), (5, bI k), (6, bLg b)]) (st' := [bI k, bI (μ2 76 0)]) l240_1436 (fun _ => rfl) ?_
  refine b_pos (c := (μ2 76 0) = k) (E1 := some (.inl 1, μf, c)) (E2 := none) (κ := some) hEQ ?_
  refine b_ieq (pt := 1443) l240_1438 hw1 hv1 (by decide) rfl (fun _ => ?_) (fun z => absurd hEQ z)
  refine b_s (pc' := 1445) (lv1 := [(0, .ref 0), (1, .ref 1), (2, .ref 76), (3, .ref 112), (4, bI i), (5, bI k), (6, bLg b)]) (st' := [bI k]) l240_1443 (fun _ => rfl) ?_
  by_cases hk0 : k = 0
  · refine b_neg (c := ¬ k = 0) (E1 := none) (E2 := some (.inl 1, μf, c)) (κ := some) (fun z => z hk0) ?_
    refine b_zne (pt := 1459) l240_1445 hv1 (by decide) rfl (fun z => absurd hk0 z) (fun _ => b_pc (pc' := 1448) rfl ?_)
    refine b_s (pc' := 1449) (lv1 := [(0, .ref 0), (1, .ref 1), (2, .ref 76), (3, .ref 112), (4, bI i), (5, bI k), (6, bLg b)]) (st' := [.ref 112]) l240_1448 (fun _ => rfl) ?_
    refine b_s (pc' := 1450) (lv1 := [(0, .ref 0), (1, .ref 1), (2, .ref 76), (3, .ref 112), (4, bI i), (5, bI k), (6, bLg b)]) (st' := [bI 0, .ref 112]) l240_1449 (fun _ => rfl) ?_
    refine b_lal l240_1450 (by rfl) (by decide) (b_pc (pc' := 1451) rfl ?_)
    refine b_s (pc' := 1453) (lv1 := [(0, .ref 0), (1, .ref 1), (2, .ref 76), (3, .ref 112), (4, bI i), (5, bI k), (6, bLg b)]) (st' := [bLg b, bLg (μ2 112 0)]) l240_1451 (fun _ => rfl) ?_
    refine b_lcmp l240_1453 (bO_l hk2 (show bSh 112 = (2, 1) from rfl)) hv2 (b_pc (pc' := 1454) rfl ?_)
    refine b_pos (c := (bCmp (μ2 112 0) b) = 0) (E1 := some (.inl 1, μf, c)) (E2 := none) (κ := some) (bCmp_0 (ho hk0)) ?_
    refine b_zeq (pt := 1459) l240_1454 (bCmp_R _ _) (by decide) rfl (fun _ => ?_) (fun z => absurd (bCmp_0 (ho hk0)) z)
    refine b_s (pc' := 1655) (lv1 := [(0, .ref 0), (1, .ref 1), (2, .ref 76), (3, .ref 112), (4, bI i), (5, bI k), (6, bLg b)]) (st' := []) l240_1459 (fun _ => rfl) ?_
    refine b_inc1 (lv' := [(0, .ref 0), (1, .ref 1), (2, .ref 76), (3, .ref 112), (4, bI (i + 6))]) l240_1655 rfl (by decide +kernel) (bSb rfl (bSb rfl (bSb rfl (bSb rfl (bSb rfl bSn))))) (b_in (by omega) (by omega)) (b_pc (pc' := 1658) rfl ?_)
    refine b_s (pc' := 23) (lv1 := [(0, .ref 0), (1, .ref 1), (2, .ref 76), (3, .ref 112), (4, bI (i + 6))]) (st' := []) l240_1658 (fun _ => rfl) ?_
    exact kont
  · refine b_pos (c := ¬ k = 0) (E1 := some (.inl 1, μf, c)) (E2 := none) (κ := some) hk0 ?_
    refine b_zne (pt := 1459) l240_1445 hv1 (by decide) rfl (fun _ => ?_) (fun z => absurd hk0 z)
    refine b_s (pc' := 1655) (lv1 := [(0, .ref 0), (1, .ref 1), (2, .ref 76), (3, .ref 112), (4, bI i), (5, bI k), (6, bLg b)]) (st' := []) l240_1459 (fun _ => rfl) ?_
    refine b_inc1 (lv' := [(0, .ref 0), (1, .ref 1), (2, .ref 76), (3, .ref 112), (4, bI (i + 6))]) l240_1655 rfl (by decide +kernel) (bSb rfl (bSb rfl (bSb rfl (bSb rfl (bSb rfl bSn))))) (b_in (by omega) (by omega)) (b_pc (pc' := 1658) rfl ?_)
    refine b_s (pc' := 23) (lv1 := [(0, .ref 0), (1, .ref 1), (2, .ref 76), (3, .ref 112), (4, bI (i + 6))]) (st' := []) l240_1658 (fun _ => rfl) ?_
    exact kont
theorem g_21 {L : Nat} {xs : Nat → Int32} {i k b : Int} {c n1 : Nat} {μ μ1 μ2 μf : bM} (hL : L ≤ 3072) (hi : 0 ≤ i ∧ i + 6 ≤ (L : Int)) (hop : bAnd (xs i.toNat).toInt 31 = 21) (hF1 : F_L_letter (xs (i + 1).toNat).toInt (xs (i + 2).toNat).toInt (xs (i + 3).toNat).toInt μ = some (k, μ1, n1)) (hF2 : F_X11_letter (xs (i + 1).toNat).toInt (xs (i + 2).toNat).toInt (xs (i + 3).toNat).toInt μ1 = some (b, μ2)) (hEQ : μ2 76 0 = k) (ho : k = 0 → μ2 112 0 = b) (kont : bD L xs 9 240 23 [(0, .ref 0), (1, .ref 1), (2, .ref 76), (3, .ref 112), (4, bI (i + 6))] [] μ2 (some (.inl 1, μf, c))) : bD L xs 9 240 23 [(0, .ref 0), (1, .ref 1), (2, .ref 76), (3, .ref 112), (4, bI i)] [] μ (some (.inl 1, μf, (c + n1))) := by
  have hiR : bR i := b_in (by omega) (by omega)
  refine bD.ok fun hk => ?_
  refine b_s (pc' := 25) (lv1 := [(0, .ref 0), (1, .ref 1), (2, .ref 76), (3, .ref 112), (4, bI i)]) (st' := [bI i]) l240_23 (fun _ => rfl) ?_
  refine b_s (pc' := 26) (lv1 := [(0, .ref 0), (1, .ref 1), (2, .ref 76), (3, .ref 112), (4, bI i)]) (st' := [.ref 0, bI i]) l240_25 (fun _ => rfl) ?_
  refine b_scl l240_26 (b_pc (pc' := 27) rfl ?_)
  refine b_bipush l240_27 (by decide) (b_pc (pc' := 29) rfl ?_)
  refine b_isub1 l240_29 (b_in (by omega) (by omega)) (b_pc (pc' := 30) rfl ?_)
  refine b_neg (c := ((L : Int) - 6) < i) (E1 := none) (E2 := some (.inl 1, μf, (c + n1))) (κ := some) (by omega) ?_
  refine b_igt (pt := 1661) l240_30 hiR (b_in (by omega) (by omega)) (by decide) rfl (fun z => absurd z (by omega)) (fun _ => b_pc (pc' := 33) rfl ?_)
  refine b_s (pc' := 34) (lv1 := [(0, .ref 0), (1, .ref 1), (2, .ref 76), (3, .ref 112), (4, bI i)]) (st' := [.ref 0]) l240_33 (fun _ => rfl) ?_
  refine b_s (pc' := 36) (lv1 := [(0, .ref 0), (1, .ref 1), (2, .ref 76), (3, .ref 112), (4, bI i)]) (st' := [bI i, .ref 0]) l240_34 (fun _ => rfl) ?_
  refine b_scr l240_36 ⟨by omega, by omega⟩ (by omega) (b_pc (pc' := 37) rfl ?_)
  refine b_bipush l240_37 (by decide) (b_pc (pc' := 39) rfl ?_)
  refine b_iand l240_39 (b_pc (pc' := 40) rfl ?_)
  refine b_tsw l240_40 (bi_rg _) (by decide) (by decide) (by decide) ?_
  refine b_pc (pc' := bTg [(0, 152), (1, 256), (2, 292), (3, 348), (4, 416), (5, 540), (6, 620), (7, 712), (8, 725), (9, 738), (10, 794), (11, 862), (12, 918), (13, 998), (14, 1011), (15, 1067), (16, 1123), (17, 1191), (18, 1259), (19, 1315), (20, 1395), (21, 1462), (22, 1542), (23, 1598)] 1655 (bAnd (xs i.toNat).toInt 31)) rfl ?_
  refine b_pc (pc' := 1462) (by rw [hop]; rfl) ?_
  refine b_s (pc' := 1463) (lv1 := [(0, .ref 0), (1, .ref 1), (2, .ref 76), (3, .ref 112), (4, bI i)]) (st' := [.ref 1]) l240_1462 (fun _ => rfl) ?_
  refine b_s (pc' := 1464) (lv1 := [(0, .ref 0), (1, .ref 1), (2, .ref 76), (3, .ref 112), (4, bI i)]) (st' := [.ref 0, .ref 1]) l240_1463 (fun _ => rfl) ?_
  refine b_s (pc' := 1466) (lv1 := [(0, .ref 0), (1, .ref 1), (2, .ref 76), (3, .ref 112), (4, bI i)]) (st' := [bI i, .ref 0, .ref 1]) l240_1464 (fun _ => rfl) ?_
  refine b_s (pc' := 1467) (lv1 := [(0, .ref 0), (1, .ref 1), (2, .ref 76), (3, .ref 112), (4, bI i)]) (st' := [bI 1, bI i, .ref 0, .ref 1]) l240_1466 (fun _ => rfl) ?_
  refine b_iadd1 l240_1467 (b_in (by omega) (by omega)) (b_pc (pc' := 1468) rfl ?_)
  refine b_scr l240_1468 ⟨by omega, by omega⟩ (by omega) (b_pc (pc' := 1469) rfl ?_)
  refine b_s (pc' := 1470) (lv1 := [(0, .ref 0), (1, .ref 1), (2, .ref 76), (3, .ref 112), (4, bI i)]) (st' := [.ref 0, bI (xs (i + 1).toNat).toInt, .ref 1]) l240_1469 (fun _ => rfl) ?_
  refine b_s (pc' := 1472) (lv1 := [(0, .ref 0), (1, .ref 1), (2, .ref 76), (3, .ref 112), (4, bI i)]) (st' := [bI i, .ref 0, bI (xs (i + 1).toNat).toInt, .ref 1]) l240_1470 (fun _ => rfl) ?_
  refine b_s (pc' := 1473) (lv1 := [(0, .ref 0), (1, .ref 1), (2, .ref 76), (3, .ref 112), (4, bI i)]) (st' := [bI 2, bI i, .ref 0, bI (xs (i + 1).toNat).toInt, .ref 1]) l240_1472 (fun _ => rfl) ?_
  refine b_iadd1 l240_1473 (b_in (by omega) (by omega)) (b_pc (pc' := 1474) rfl ?_)
  refine b_scr l240_1474 ⟨by omega, by omega⟩ (by omega) (b_pc (pc' := 1475) rfl ?_)
  refine b_s (pc' := 1476) (lv1 := [(0, .ref 0), (1, .ref 1), (2, .ref 76), (3, .ref 112), (4, bI i)]) (st' := [.ref 0, bI (xs (i + 2).toNat).toInt, bI (xs (i + 1).toNat).toInt, .ref 1]) l240_1475 (fun _ => rfl) ?_
  refine b_s (pc' := 1478) (lv1 := [(0, .ref 0), (1, .ref 1), (2, .ref 76), (3, .ref 112), (4, bI i)]) (st' := [bI i, .ref 0, bI (xs (i + 2).toNat).toInt, bI (xs (i + 1).toNat).toInt, .ref 1]) l240_1476 (fun _ => rfl) ?_
  refine b_s (pc' := 1479) (lv1 := [(0, .ref 0), (1, .ref 1), (2, .ref 76), (3, .ref 112), (4, bI i)]) (st' := [bI 3, bI i, .ref 0, bI (xs (i + 2).toNat).toInt, bI (xs (i + 1).toNat).toInt, .ref 1]) l240_1478 (fun _ => rfl) ?_
  refine b_iadd1 l240_1479 (b_in (by omega) (by omega)) (b_pc (pc' := 1480) rfl ?_)
  refine b_scr l240_1480 ⟨by omega, by omega⟩ (by omega) (b_pc (pc' := 1481) rfl ?_)
  refine b_s (pc' := 1482) (lv1 := [(0, .ref 0), (1, .ref 1), (2, .ref 76), (3, .ref 112), (4, bI i)]) (st' := [.ref 112, bI (xs (i + 3).toNat).toInt, bI (xs (i + 2).toNat).toInt, bI (xs (i + 1).toNat).toInt, .ref 1]) l240_1481 (fun _ => rfl) ?_
  refine b_cKki l240_1482 rfl (fun _ => trivial) (Nat.le_of_ble_eq_true rfl) (Nat.le_of_ble_eq_true rfl) rfl (r_L_letter (xs (i + 1).toNat).toInt (bi_rg _) (xs (i + 2).toNat).toInt (bi_rg _) (xs (i + 3).toNat).toInt (bi_rg _)) hF1 fun hv1 => bD.ok fun hk1 => b_pc (pc' := 1485) rfl ?_
  refine b_w (pc' := 1487) (lv1 := ax_st1 [(0, .ref 0), (1, .ref 1), (2, .ref 76), (3, .ref 112), (4, bI i)] 5 (bI k)) (lv' := [(0, .ref 0), (1, .ref 1), (2, .ref 76), (3, .ref 112), (4, bI i), (5, bI k)]) (st' := []) l240_1485 (fun _ => rfl) (bSb rfl (bSb rfl (bSb rfl (bSb rfl (bSb rfl (bSb rfl bSn)))))) ?_
  refine b_s (pc' := 1488) (lv1 := [(0, .ref 0), (1, .ref 1), (2, .ref 76), (3, .ref 112), (4, bI i), (5, bI k)]) (st' := [.ref 76]) l240_1487 (fun _ => rfl) ?_
  refine b_s (pc' := 1489) (lv1 := [(0, .ref 0), (1, .ref 1), (2, .ref 76), (3, .ref 112), (4, bI i), (5, bI k)]) (st' := [.ref 0, .ref 76]) l240_1488 (fun _ => rfl) ?_
  refine b_s (pc' := 1491) (lv1 := [(0, .ref 0), (1, .ref 1), (2, .ref 76), (3, .ref 112), (4, bI i), (5, bI k)]) (st' := [bI i, .ref 0, .ref 76]) l240_1489 (fun _ => rfl) ?_
  refine b_s (pc' := 1492) (lv1 := [(0, .ref 0), (1, .ref 1), (2, .ref 76), (3, .ref 112), (4, bI i), (5, bI k)]) (st' := [bI 1, bI i, .ref 0, .ref 76]) l240_1491 (fun _ => rfl) ?_
  refine b_iadd1 l240_1492 (b_in (by omega) (by omega)) (b_pc (pc' := 1493) rfl ?_)
  refine b_scr l240_1493 ⟨by omega, by omega⟩ (by omega) (b_pc (pc' := 1494) rfl ?_)
  refine b_s (pc' := 1495) (lv1 := [(0, .ref 0), (1, .ref 1), (2, .ref 76), (3, .ref 112), (4, bI i), (5, bI k)]) (st' := [.ref 0, bI (xs (i + 1).toNat).toInt, .ref 76]) l240_1494 (fun _ => rfl) ?_
  refine b_s (pc' := 1497) (lv1 := [(0, .ref 0), (1, .ref 1), (2, .ref 76), (3, .ref 112), (4, bI i), (5, bI k)]) (st' := [bI i, .ref 0, bI (xs (i + 1).toNat).toInt, .ref 76]) l240_1495 (fun _ => rfl) ?_
  refine b_s (pc' := 1498) (lv1 := [(0, .ref 0), (1, .ref 1), (2, .ref 76), (3, .ref 112), (4, bI i), (5, bI k)]) (st' := [bI 2, bI i, .ref 0, bI (xs (i + 1).toNat).toInt, .ref 76]) l240_1497 (fun _ => rfl) ?_
  refine b_iadd1 l240_1498 (b_in (by omega) (by omega)) (b_pc (pc' := 1499) rfl ?_)
  refine b_scr l240_1499 ⟨by omega, by omega⟩ (by omega) (b_pc (pc' := 1500) rfl ?_)
  refine b_s (pc' := 1501) (lv1 := [(0, .ref 0), (1, .ref 1), (2, .ref 76), (3, .ref 112), (4, bI i), (5, bI k)]) (st' := [.ref 0, bI (xs (i + 2).toNat).toInt, bI (xs (i + 1).toNat).toInt, .ref 76]) l240_1500 (fun _ => rfl) ?_
  refine b_s (pc' := 1503) (lv1 := [(0, .ref 0), (1, .ref 1), (2, .ref 76), (3, .ref 112), (4, bI i), (5, bI k)]) (st' := [bI i, .ref 0, bI (xs (i + 2).toNat).toInt, bI (xs (i + 1).toNat).toInt, .ref 76]) l240_1501 (fun _ => rfl) ?_
  refine b_s (pc' := 1504) (lv1 := [(0, .ref 0), (1, .ref 1), (2, .ref 76), (3, .ref 112), (4, bI i), (5, bI k)]) (st' := [bI 3, bI i, .ref 0, bI (xs (i + 2).toNat).toInt, bI (xs (i + 1).toNat).toInt, .ref 76]) l240_1503 (fun _ => rfl) ?_
  refine b_iadd1 l240_1504 (b_in (by omega) (by omega)) (b_pc (pc' := 1505) rfl ?_)
  refine b_scr l240_1505 ⟨by omega, by omega⟩ (by omega) (b_pc (pc' := 1506) rfl ?_)
  refine b_cMki l240_1506 rfl (b_rc (ci := 9) (by rfl) (by decide) (by decide +kernel)) (Nat.le_of_ble_eq_true rfl) (Nat.le_of_ble_eq_true rfl) rfl (r_X11_letter (xs (i + 1).toNat).toInt (bi_rg _) (xs (i + 2).toNat).toInt (bi_rg _) (xs (i + 3).toNat).toInt (bi_rg _)) hF2 fun hv2 => bD.ok fun hk2 => b_pc (pc' := 1509) rfl ?_
  refine b_w (pc' := 1511) (lv1 := ax_st1 [(0, .ref 0), (1, .ref 1), (2, .ref 76), (3, .ref 112), (4, bI i), (5, bI k)] 6 (bI b)) (lv' := [(0, .ref 0), (1, .ref 1), (2, .ref 76), (3, .ref 112), (4, bI i), (5, bI k), (6, bI b)]) (st' := []) l240_1509 (fun _ => rfl) (bSb rfl (bSb rfl (bSb rfl (bSb rfl (bSb rfl (bSb rfl (bSb rfl bSn))))))) ?_
  refine b_s (pc' := 1512) (lv1 := [(0, .ref 0), (1, .ref 1), (2, .ref 76), (3, .ref 112), (4, bI i), (5, bI k), (6, bI b)]) (st' := [.ref 76]) l240_1511 (fun _ => rfl) ?_
  refine b_cPki (v := μ2 76 0) l240_1512 rfl (b_rc (ci := 9) (by rfl) (by decide) (by decide +kernel)) (Nat.le_of_ble_eq_true rfl) (Nat.le_of_ble_eq_true rfl) rfl (r_X11_thrown ) rfl fun hw1 => b_pc (pc' := 1515) rfl ?_
  refine b_s (pc' := 1517) (lv1 := [(0, .ref 0), (1, .ref 1), (2, .ref 76), (3, .ref 112), (4, bI i), (5, bI k), (6, bI b)]) (st' := [bI k, bI (μ2 76 0)]) l240_1515 (fun _ => rfl) ?_
  refine b_pos (c := (μ2 76 0) = k) (E1 := some (.inl 1, μf, c)) (E2 := none) (κ := some) hEQ ?_
  refine b_ieq (pt := 1522) l240_1517 hw1 hv1 (by decide) rfl (fun _ => ?_) (fun z => absurd hEQ z)
  refine b_s (pc' := 1524) (lv1 := [(0, .ref 0), (1, .ref 1), (2, .ref 76), (3, .ref 112), (4, bI i), (5, bI k), (6, bI b)]) (st' := [bI k]) l240_1522 (fun _ => rfl) ?_
  by_cases hk0 : k = 0
  · refine b_neg (c := ¬ k = 0) (E1 := none) (E2 := some (.inl 1, μf, c)) (κ := some) (fun z => z hk0) ?_
    refine b_zne (pt := 1539) l240_1524 hv1 (by decide) rfl (fun z => absurd hk0 z) (fun _ => b_pc (pc' := 1527) rfl ?_)
    refine b_s (pc' := 1528) (lv1 := [(0, .ref 0), (1, .ref 1), (2, .ref 76), (3, .ref 112), (4, bI i), (5, bI k), (6, bI b)]) (st' := [.ref 112]) l240_1527 (fun _ => rfl) ?_
    refine b_s (pc' := 1529) (lv1 := [(0, .ref 0), (1, .ref 1), (2, .ref 76), (3, .ref 112), (4, bI i), (5, bI k), (6, bI b)]) (st' := [bI 0, .ref 112]) l240_1528 (fun _ => rfl) ?_
    refine b_lal l240_1529 (by rfl) (by decide) (b_pc (pc' := 1530) rfl ?_)
    refine b_s (pc' := 1532) (lv1 := [(0, .ref 0), (1, .ref 1), (2, .ref 76), (3, .ref 112), (4, bI i), (5, bI k), (6, bI b)]) (st' := [bI b, bLg (μ2 112 0)]) l240_1530 (fun _ => rfl) ?_
    refine b_i2l l240_1532 hv2 (b_pc (pc' := 1533) rfl ?_)
    refine b_lcmp l240_1533 (bO_l hk2 (show bSh 112 = (2, 1) from rfl)) (bR_L hv2) (b_pc (pc' := 1534) rfl ?_)
    refine b_pos (c := (bCmp (μ2 112 0) b) = 0) (E1 := some (.inl 1, μf, c)) (E2 := none) (κ := some) (bCmp_0 (ho hk0)) ?_
    refine b_zeq (pt := 1539) l240_1534 (bCmp_R _ _) (by decide) rfl (fun _ => ?_) (fun z => absurd (bCmp_0 (ho hk0)) z)
    refine b_s (pc' := 1655) (lv1 := [(0, .ref 0), (1, .ref 1), (2, .ref 76), (3, .ref 112), (4, bI i), (5, bI k), (6, bI b)]) (st' := []) l240_1539 (fun _ => rfl) ?_
    refine b_inc1 (lv' := [(0, .ref 0), (1, .ref 1), (2, .ref 76), (3, .ref 112), (4, bI (i + 6))]) l240_1655 rfl (by decide +kernel) (bSb rfl (bSb rfl (bSb rfl (bSb rfl (bSb rfl bSn))))) (b_in (by omega) (by omega)) (b_pc (pc' := 1658) rfl ?_)
    refine b_s (pc' := 23) (lv1 := [(0, .ref 0), (1, .ref 1), (2, .ref 76), (3, .ref 112), (4, bI (i + 6))]) (st' := []) l240_1658 (fun _ => rfl) ?_
    exact kont
  · refine b_pos (c := ¬ k = 0) (E1 := some (.inl 1, μf, c)) (E2 := none) (κ := some) hk0 ?_
    refine b_zne (pt := 1539) l240_1524 hv1 (by decide) rfl (fun _ => ?_) (fun z => absurd hk0 z)
    refine b_s (pc' := 1655) (lv1 := [(0, .ref 0), (1, .ref 1), (2, .ref 76), (3, .ref 112), (4, bI i), (5, bI k), (6, bI b)]) (st' := []) l240_1539 (fun _ => rfl) ?_
    refine b_inc1 (lv' := [(0, .ref 0), (1, .ref 1), (2, .ref 76), (3, .ref 112), (4, bI (i + 6))]) l240_1655 rfl (by decide +kernel) (bSb rfl (bSb rfl (bSb rfl (bSb rfl (bSb rfl bSn))))) (b_in (by omega) (by omega)) (b_pc (pc' := 1658) rfl ?_)
    refine b_s (pc' := 23) (lv1 := [(0, .ref 0), (1, .ref 1), (2, .ref 76), (3, .ref 112), (4, bI (i + 6))]) (st' := []) l240_1658 (fun _ => rfl) ?_
    exact kont
theorem g_22 {L : Nat} {xs : Nat → Int32} {i k b : Int} {c n1 : Nat} {μ μ1 μ2 μf : bM} (hL : L ≤ 3072) (hi : 0 ≤ i ∧ i + 6 ≤ (L : Int)) (hop : bAnd (xs i.toNat).toInt 31 = 22) (hF1 : F_L_find (xs (i + 1).toNat).toInt μ = some (k, μ1, n1)) (hF2 : F_X11_find (xs (i + 1).toNat).toInt μ1 = some (b, μ2)) (hEQ : μ2 76 0 = k) (ho : k = 0 → μ2 112 0 = b) (kont : bD L xs 9 240 23 [(0, .ref 0), (1, .ref 1), (2, .ref 76), (3, .ref 112), (4, bI (i + 6))] [] μ2 (some (.inl 1, μf, c))) : bD L xs 9 240 23 [(0, .ref 0), (1, .ref 1), (2, .ref 76), (3, .ref 112), (4, bI i)] [] μ (some (.inl 1, μf, (c + n1))) := by
  have hiR : bR i := b_in (by omega) (by omega)
  refine bD.ok fun hk => ?_
  refine b_s (pc' := 25) (lv1 := [(0, .ref 0), (1, .ref 1), (2, .ref 76), (3, .ref 112), (4, bI i)]) (st' := [bI i]) l240_23 (fun _ => rfl) ?_
  refine b_s (pc' := 26) (lv1 := [(0, .ref 0), (1, .ref 1), (2, .ref 76), (3, .ref 112), (4, bI i)]) (st' := [.ref 0, bI i]) l240_25 (fun _ => rfl) ?_
  refine b_scl l240_26 (b_pc (pc' := 27) rfl ?_)
  refine b_bipush l240_27 (by decide) (b_pc (pc' := 29) rfl ?_)
  refine b_isub1 l240_29 (b_in (by omega) (by omega)) (b_pc (pc' := 30) rfl ?_)
  refine b_neg (c := ((L : Int) - 6) < i) (E1 := none) (E2 := some (.inl 1, μf, (c + n1))) (κ := some) (by omega) ?_
  refine b_igt (pt := 1661) l240_30 hiR (b_in (by omega) (by omega)) (by decide) rfl (fun z => absurd z (by omega)) (fun _ => b_pc (pc' := 33) rfl ?_)
  refine b_s (pc' := 34) (lv1 := [(0, .ref 0), (1, .ref 1), (2, .ref 76), (3, .ref 112), (4, bI i)]) (st' := [.ref 0]) l240_33 (fun _ => rfl) ?_
  refine b_s (pc' := 36) (lv1 := [(0, .ref 0), (1, .ref 1), (2, .ref 76), (3, .ref 112), (4, bI i)]) (st' := [bI i, .ref 0]) l240_34 (fun _ => rfl) ?_
  refine b_scr l240_36 ⟨by omega, by omega⟩ (by omega) (b_pc (pc' := 37) rfl ?_)
  refine b_bipush l240_37 (by decide) (b_pc (pc' := 39) rfl ?_)
  refine b_iand l240_39 (b_pc (pc' := 40) rfl ?_)
  refine b_tsw l240_40 (bi_rg _) (by decide) (by decide) (by decide) ?_
  refine b_pc (pc' := bTg [(0, 152), (1, 256), (2, 292), (3, 348), (4, 416), (5, 540), (6, 620), (7, 712), (8, 725), (9, 738), (10, 794), (11, 862), (12, 918), (13, 998), (14, 1011), (15, 1067), (16, 1123), (17, 1191), (18, 1259), (19, 1315), (20, 1395), (21, 1462), (22, 1542), (23, 1598)] 1655 (bAnd (xs i.toNat).toInt 31)) rfl ?_
  refine b_pc (pc' := 1542) (by rw [hop]; rfl) ?_
  refine b_s (pc' := 1543) (lv1 := [(0, .ref 0), (1, .ref 1), (2, .ref 76), (3, .ref 112), (4, bI i)]) (st' := [.ref 1]) l240_1542 (fun _ => rfl) ?_
  refine b_s (pc' := 1544) (lv1 := [(0, .ref 0), (1, .ref 1), (2, .ref 76), (3, .ref 112), (4, bI i)]) (st' := [.ref 0, .ref 1]) l240_1543 (fun _ => rfl) ?_
  refine b_s (pc' := 1546) (lv1 := [(0, .ref 0), (1, .ref 1), (2, .ref 76), (3, .ref 112), (4, bI i)]) (st' := [bI i, .ref 0, .ref 1]) l240_1544 (fun _ => rfl) ?_
  refine b_s (pc' := 1547) (lv1 := [(0, .ref 0), (1, .ref 1), (2, .ref 76), (3, .ref 112), (4, bI i)]) (st' := [bI 1, bI i, .ref 0, .ref 1]) l240_1546 (fun _ => rfl) ?_
  refine b_iadd1 l240_1547 (b_in (by omega) (by omega)) (b_pc (pc' := 1548) rfl ?_)
  refine b_scr l240_1548 ⟨by omega, by omega⟩ (by omega) (b_pc (pc' := 1549) rfl ?_)
  refine b_s (pc' := 1550) (lv1 := [(0, .ref 0), (1, .ref 1), (2, .ref 76), (3, .ref 112), (4, bI i)]) (st' := [.ref 112, bI (xs (i + 1).toNat).toInt, .ref 1]) l240_1549 (fun _ => rfl) ?_
  refine b_cKki l240_1550 rfl (fun _ => trivial) (Nat.le_of_ble_eq_true rfl) (Nat.le_of_ble_eq_true rfl) rfl (r_L_find (xs (i + 1).toNat).toInt (bi_rg _)) hF1 fun hv1 => bD.ok fun hk1 => b_pc (pc' := 1553) rfl ?_
  refine b_w (pc' := 1555) (lv1 := ax_st1 [(0, .ref 0), (1, .ref 1), (2, .ref 76), (3, .ref 112), (4, bI i)] 5 (bI k)) (lv' := [(0, .ref 0), (1, .ref 1), (2, .ref 76), (3, .ref 112), (4, bI i), (5, bI k)]) (st' := []) l240_1553 (fun _ => rfl) (bSb rfl (bSb rfl (bSb rfl (bSb rfl (bSb rfl (bSb rfl bSn)))))) ?_
  refine b_s (pc' := 1556) (lv1 := [(0, .ref 0), (1, .ref 1), (2, .ref 76), (3, .ref 112), (4, bI i), (5, bI k)]) (st' := [.ref 76]) l240_1555 (fun _ => rfl) ?_
  refine b_s (pc' := 1557) (lv1 := [(0, .ref 0), (1, .ref 1), (2, .ref 76), (3, .ref 112), (4, bI i), (5, bI k)]) (st' := [.ref 0, .ref 76]) l240_1556 (fun _ => rfl) ?_
  refine b_s (pc' := 1559) (lv1 := [(0, .ref 0), (1, .ref 1), (2, .ref 76), (3, .ref 112), (4, bI i), (5, bI k)]) (st' := [bI i, .ref 0, .ref 76]) l240_1557 (fun _ => rfl) ?_
  refine b_s (pc' := 1560) (lv1 := [(0, .ref 0), (1, .ref 1), (2, .ref 76), (3, .ref 112), (4, bI i), (5, bI k)]) (st' := [bI 1, bI i, .ref 0, .ref 76]) l240_1559 (fun _ => rfl) ?_
  refine b_iadd1 l240_1560 (b_in (by omega) (by omega)) (b_pc (pc' := 1561) rfl ?_)
  refine b_scr l240_1561 ⟨by omega, by omega⟩ (by omega) (b_pc (pc' := 1562) rfl ?_)
  refine b_cMki l240_1562 rfl (b_rc (ci := 9) (by rfl) (by decide) (by decide +kernel)) (Nat.le_of_ble_eq_true rfl) (Nat.le_of_ble_eq_true rfl) rfl (r_X11_find (xs (i + 1).toNat).toInt (bi_rg _)) hF2 fun hv2 => bD.ok fun hk2 => b_pc (pc' := 1565) rfl ?_
  refine b_w (pc' := 1567) (lv1 := ax_st1 [(0, .ref 0), (1, .ref 1), (2, .ref 76), (3, .ref 112), (4, bI i), (5, bI k)] 6 (bI b)) (lv' := [(0, .ref 0), (1, .ref 1), (2, .ref 76), (3, .ref 112), (4, bI i), (5, bI k), (6, bI b)]) (st' := []) l240_1565 (fun _ => rfl) (bSb rfl (bSb rfl (bSb rfl (bSb rfl (bSb rfl (bSb rfl (bSb rfl bSn))))))) ?_
  refine b_s (pc' := 1568) (lv1 := [(0, .ref 0), (1, .ref 1), (2, .ref 76), (3, .ref 112), (4, bI i), (5, bI k), (6, bI b)]) (st' := [.ref 76]) l240_1567 (fun _ => rfl) ?_
  refine b_cPki (v := μ2 76 0) l240_1568 rfl (b_rc (ci := 9) (by rfl) (by decide) (by decide +kernel)) (Nat.le_of_ble_eq_true rfl) (Nat.le_of_ble_eq_true rfl) rfl (r_X11_thrown ) rfl fun hw1 => b_pc (pc' := 1571) rfl ?_
  refine b_s (pc' := 1573) (lv1 := [(0, .ref 0), (1, .ref 1), (2, .ref 76), (3, .ref 112), (4, bI i), (5, bI k), (6, bI b)]) (st' := [bI k, bI (μ2 76 0)]) l240_1571 (fun _ => rfl) ?_
  refine b_pos (c := (μ2 76 0) = k) (E1 := some (.inl 1, μf, c)) (E2 := none) (κ := some) hEQ ?_
  refine b_ieq (pt := 1578) l240_1573 hw1 hv1 (by decide) rfl (fun _ => ?_) (fun z => absurd hEQ z)
  refine b_s (pc' := 1580) (lv1 := [(0, .ref 0), (1, .ref 1), (2, .ref 76), (3, .ref 112), (4, bI i), (5, bI k), (6, bI b)]) (st' := [bI k]) l240_1578 (fun _ => rfl) ?_
  by_cases hk0 : k = 0
  · refine b_neg (c := ¬ k = 0) (E1 := none) (E2 := some (.inl 1, μf, c)) (κ := some) (fun z => z hk0) ?_
    refine b_zne (pt := 1595) l240_1580 hv1 (by decide) rfl (fun z => absurd hk0 z) (fun _ => b_pc (pc' := 1583) rfl ?_)
    refine b_s (pc' := 1584) (lv1 := [(0, .ref 0), (1, .ref 1), (2, .ref 76), (3, .ref 112), (4, bI i), (5, bI k), (6, bI b)]) (st' := [.ref 112]) l240_1583 (fun _ => rfl) ?_
    refine b_s (pc' := 1585) (lv1 := [(0, .ref 0), (1, .ref 1), (2, .ref 76), (3, .ref 112), (4, bI i), (5, bI k), (6, bI b)]) (st' := [bI 0, .ref 112]) l240_1584 (fun _ => rfl) ?_
    refine b_lal l240_1585 (by rfl) (by decide) (b_pc (pc' := 1586) rfl ?_)
    refine b_s (pc' := 1588) (lv1 := [(0, .ref 0), (1, .ref 1), (2, .ref 76), (3, .ref 112), (4, bI i), (5, bI k), (6, bI b)]) (st' := [bI b, bLg (μ2 112 0)]) l240_1586 (fun _ => rfl) ?_
    refine b_i2l l240_1588 hv2 (b_pc (pc' := 1589) rfl ?_)
    refine b_lcmp l240_1589 (bO_l hk2 (show bSh 112 = (2, 1) from rfl)) (bR_L hv2) (b_pc (pc' := 1590) rfl ?_)
    refine b_pos (c := (bCmp (μ2 112 0) b) = 0) (E1 := some (.inl 1, μf, c)) (E2 := none) (κ := some) (bCmp_0 (ho hk0)) ?_
    refine b_zeq (pt := 1595) l240_1590 (bCmp_R _ _) (by decide) rfl (fun _ => ?_) (fun z => absurd (bCmp_0 (ho hk0)) z)
    refine b_s (pc' := 1655) (lv1 := [(0, .ref 0), (1, .ref 1), (2, .ref 76), (3, .ref 112), (4, bI i), (5, bI k), (6, bI b)]) (st' := []) l240_1595 (fun _ => rfl) ?_
    refine b_inc1 (lv' := [(0, .ref 0), (1, .ref 1), (2, .ref 76), (3, .ref 112), (4, bI (i + 6))]) l240_1655 rfl (by decide +kernel) (bSb rfl (bSb rfl (bSb rfl (bSb rfl (bSb rfl bSn))))) (b_in (by omega) (by omega)) (b_pc (pc' := 1658) rfl ?_)
    refine b_s (pc' := 23) (lv1 := [(0, .ref 0), (1, .ref 1), (2, .ref 76), (3, .ref 112), (4, bI (i + 6))]) (st' := []) l240_1658 (fun _ => rfl) ?_
    exact kont
  · refine b_pos (c := ¬ k = 0) (E1 := some (.inl 1, μf, c)) (E2 := none) (κ := some) hk0 ?_
    refine b_zne (pt := 1595) l240_1580 hv1 (by decide) rfl (fun _ => ?_) (fun z => absurd hk0 z)
    refine b_s (pc' := 1655) (lv1 := [(0, .ref 0), (1, .ref 1), (2, .ref 76), (3, .ref 112), (4, bI i), (5, bI k), (6, bI b)]) (st' := []) l240_1595 (fun _ => rfl) ?_
    refine b_inc1 (lv' := [(0, .ref 0), (1, .ref 1), (2, .ref 76), (3, .ref 112), (4, bI (i + 6))]) l240_1655 rfl (by decide +kernel) (bSb rfl (bSb rfl (bSb rfl (bSb rfl (bSb rfl bSn))))) (b_in (by omega) (by omega)) (b_pc (pc' := 1658) rfl ?_)
    refine b_s (pc' := 23) (lv1 := [(0, .ref 0), (1, .ref 1), (2, .ref 76), (3, .ref 112), (4, bI (i + 6))]) (st' := []) l240_1658 (fun _ => rfl) ?_
    exact kont
theorem g_23 {L : Nat} {xs : Nat → Int32} {i k b : Int} {c n1 : Nat} {μ μ2 μf : bM} (hL : L ≤ 3072) (hi : 0 ≤ i ∧ i + 6 ≤ (L : Int)) (hop : bAnd (xs i.toNat).toInt 31 = 23) (hF1 : F_X10_covers (bOrL (bShlL (xs (i + 1).toNat).toInt 32) (bAndL (xs (i + 2).toNat).toInt 4294967295)) μ = some k) (hF2 : F_X11_covers (bOrL (bShlL (xs (i + 1).toNat).toInt 32) (bAndL (xs (i + 2).toNat).toInt 4294967295)) μ = some (b, μ2)) (hEQ : k = b) (kont : bD L xs 9 240 23 [(0, .ref 0), (1, .ref 1), (2, .ref 76), (3, .ref 112), (4, bI (i + 6))] [] μ2 (some (.inl 1, μf, c))) : bD L xs 9 240 23 [(0, .ref 0), (1, .ref 1), (2, .ref 76), (3, .ref 112), (4, bI i)] [] μ (some (.inl 1, μf, c)) := by
  have hiR : bR i := b_in (by omega) (by omega)
  refine bD.ok fun hk => ?_
  refine b_s (pc' := 25) (lv1 := [(0, .ref 0), (1, .ref 1), (2, .ref 76), (3, .ref 112), (4, bI i)]) (st' := [bI i]) l240_23 (fun _ => rfl) ?_
  refine b_s (pc' := 26) (lv1 := [(0, .ref 0), (1, .ref 1), (2, .ref 76), (3, .ref 112), (4, bI i)]) (st' := [.ref 0, bI i]) l240_25 (fun _ => rfl) ?_
  refine b_scl l240_26 (b_pc (pc' := 27) rfl ?_)
  refine b_bipush l240_27 (by decide) (b_pc (pc' := 29) rfl ?_)
  refine b_isub1 l240_29 (b_in (by omega) (by omega)) (b_pc (pc' := 30) rfl ?_)
  refine b_neg (c := ((L : Int) - 6) < i) (E1 := none) (E2 := some (.inl 1, μf, c)) (κ := some) (by omega) ?_
  refine b_igt (pt := 1661) l240_30 hiR (b_in (by omega) (by omega)) (by decide) rfl (fun z => absurd z (by omega)) (fun _ => b_pc (pc' := 33) rfl ?_)
  refine b_s (pc' := 34) (lv1 := [(0, .ref 0), (1, .ref 1), (2, .ref 76), (3, .ref 112), (4, bI i)]) (st' := [.ref 0]) l240_33 (fun _ => rfl) ?_
  refine b_s (pc' := 36) (lv1 := [(0, .ref 0), (1, .ref 1), (2, .ref 76), (3, .ref 112), (4, bI i)]) (st' := [bI i, .ref 0]) l240_34 (fun _ => rfl) ?_
  refine b_scr l240_36 ⟨by omega, by omega⟩ (by omega) (b_pc (pc' := 37) rfl ?_)
  refine b_bipush l240_37 (by decide) (b_pc (pc' := 39) rfl ?_)
  refine b_iand l240_39 (b_pc (pc' := 40) rfl ?_)
  refine b_tsw l240_40 (bi_rg _) (by decide) (by decide) (by decide) ?_
  refine b_pc (pc' := bTg [(0, 152), (1, 256), (2, 292), (3, 348), (4, 416), (5, 540), (6, 620), (7, 712), (8, 725), (9, 738), (10, 794), (11, 862), (12, 918), (13, 998), (14, 1011), (15, 1067), (16, 1123), (17, 1191), (18, 1259), (19, 1315), (20, 1395), (21, 1462), (22, 1542), (23, 1598)] 1655 (bAnd (xs i.toNat).toInt 31)) rfl ?_
  refine b_pc (pc' := 1598) (by rw [hop]; rfl) ?_
  refine b_s (pc' := 1599) (lv1 := [(0, .ref 0), (1, .ref 1), (2, .ref 76), (3, .ref 112), (4, bI i)]) (st' := [.ref 1]) l240_1598 (fun _ => rfl) ?_
  refine b_s (pc' := 1600) (lv1 := [(0, .ref 0), (1, .ref 1), (2, .ref 76), (3, .ref 112), (4, bI i)]) (st' := [.ref 0, .ref 1]) l240_1599 (fun _ => rfl) ?_
  refine b_s (pc' := 1602) (lv1 := [(0, .ref 0), (1, .ref 1), (2, .ref 76), (3, .ref 112), (4, bI i)]) (st' := [bI i, .ref 0, .ref 1]) l240_1600 (fun _ => rfl) ?_
  refine b_s (pc' := 1603) (lv1 := [(0, .ref 0), (1, .ref 1), (2, .ref 76), (3, .ref 112), (4, bI i)]) (st' := [bI 1, bI i, .ref 0, .ref 1]) l240_1602 (fun _ => rfl) ?_
  refine b_iadd1 l240_1603 (b_in (by omega) (by omega)) (b_pc (pc' := 1604) rfl ?_)
  refine b_scr l240_1604 ⟨by omega, by omega⟩ (by omega) (b_pc (pc' := 1605) rfl ?_)
  refine b_i2l l240_1605 (bi_rg _) (b_pc (pc' := 1606) rfl ?_)
  refine b_bipush l240_1606 (by decide) (b_pc (pc' := 1608) rfl ?_)
  refine b_lshl l240_1608 (b_pc (pc' := 1609) rfl ?_)
  refine b_s (pc' := 1610) (lv1 := [(0, .ref 0), (1, .ref 1), (2, .ref 76), (3, .ref 112), (4, bI i)]) (st' := [.ref 0, bLg (bShlL (xs (i + 1).toNat).toInt 32), .ref 1]) l240_1609 (fun _ => rfl) ?_
  refine b_s (pc' := 1612) (lv1 := [(0, .ref 0), (1, .ref 1), (2, .ref 76), (3, .ref 112), (4, bI i)]) (st' := [bI i, .ref 0, bLg (bShlL (xs (i + 1).toNat).toInt 32), .ref 1]) l240_1610 (fun _ => rfl) ?_
  refine b_s (pc' := 1613) (lv1 := [(0, .ref 0), (1, .ref 1), (2, .ref 76), (3, .ref 112), (4, bI i)]) (st' := [bI 2, bI i, .ref 0, bLg (bShlL (xs (i + 1).toNat).toInt 32), .ref 1]) l240_1612 (fun _ => rfl) ?_
  refine b_iadd1 l240_1613 (b_in (by omega) (by omega)) (b_pc (pc' := 1614) rfl ?_)
  refine b_scr l240_1614 ⟨by omega, by omega⟩ (by omega) (b_pc (pc' := 1615) rfl ?_)
  refine b_i2l l240_1615 (bi_rg _) (b_pc (pc' := 1616) rfl ?_)
  refine b_s (pc' := 1619) (lv1 := [(0, .ref 0), (1, .ref 1), (2, .ref 76), (3, .ref 112), (4, bI i)]) (st' := [bLg 4294967295, bLg (xs (i + 2).toNat).toInt, bLg (bShlL (xs (i + 1).toNat).toInt 32), .ref 1]) l240_1616 (fun _ => rfl) ?_
  refine b_land l240_1619 (b_pc (pc' := 1620) rfl ?_)
  refine b_lor l240_1620 (b_pc (pc' := 1621) rfl ?_)
  refine b_cPki l240_1621 rfl (b_rc (ci := 8) (by rfl) (by decide) (by decide +kernel)) (Nat.le_of_ble_eq_true rfl) (Nat.le_of_ble_eq_true rfl) rfl (r_X10_covers (bOrL (bShlL (xs (i + 1).toNat).toInt 32) (bAndL (xs (i + 2).toNat).toInt 4294967295)) (bl_rg _)) hF1 fun hv1 => b_pc (pc' := 1624) rfl ?_
  refine b_s (pc' := 1625) (lv1 := [(0, .ref 0), (1, .ref 1), (2, .ref 76), (3, .ref 112), (4, bI i)]) (st' := [.ref 76, bI k]) l240_1624 (fun _ => rfl) ?_
  refine b_s (pc' := 1626) (lv1 := [(0, .ref 0), (1, .ref 1), (2, .ref 76), (3, .ref 112), (4, bI i)]) (st' := [.ref 0, .ref 76, bI k]) l240_1625 (fun _ => rfl) ?_
  refine b_s (pc' := 1628) (lv1 := [(0, .ref 0), (1, .ref 1), (2, .ref 76), (3, .ref 112), (4, bI i)]) (st' := [bI i, .ref 0, .ref 76, bI k]) l240_1626 (fun _ => rfl) ?_
  refine b_s (pc' := 1629) (lv1 := [(0, .ref 0), (1, .ref 1), (2, .ref 76), (3, .ref 112), (4, bI i)]) (st' := [bI 1, bI i, .ref 0, .ref 76, bI k]) l240_1628 (fun _ => rfl) ?_
  refine b_iadd1 l240_1629 (b_in (by omega) (by omega)) (b_pc (pc' := 1630) rfl ?_)
  refine b_scr l240_1630 ⟨by omega, by omega⟩ (by omega) (b_pc (pc' := 1631) rfl ?_)
  refine b_i2l l240_1631 (bi_rg _) (b_pc (pc' := 1632) rfl ?_)
  refine b_bipush l240_1632 (by decide) (b_pc (pc' := 1634) rfl ?_)
  refine b_lshl l240_1634 (b_pc (pc' := 1635) rfl ?_)
  refine b_s (pc' := 1636) (lv1 := [(0, .ref 0), (1, .ref 1), (2, .ref 76), (3, .ref 112), (4, bI i)]) (st' := [.ref 0, bLg (bShlL (xs (i + 1).toNat).toInt 32), .ref 76, bI k]) l240_1635 (fun _ => rfl) ?_
  refine b_s (pc' := 1638) (lv1 := [(0, .ref 0), (1, .ref 1), (2, .ref 76), (3, .ref 112), (4, bI i)]) (st' := [bI i, .ref 0, bLg (bShlL (xs (i + 1).toNat).toInt 32), .ref 76, bI k]) l240_1636 (fun _ => rfl) ?_
  refine b_s (pc' := 1639) (lv1 := [(0, .ref 0), (1, .ref 1), (2, .ref 76), (3, .ref 112), (4, bI i)]) (st' := [bI 2, bI i, .ref 0, bLg (bShlL (xs (i + 1).toNat).toInt 32), .ref 76, bI k]) l240_1638 (fun _ => rfl) ?_
  refine b_iadd1 l240_1639 (b_in (by omega) (by omega)) (b_pc (pc' := 1640) rfl ?_)
  refine b_scr l240_1640 ⟨by omega, by omega⟩ (by omega) (b_pc (pc' := 1641) rfl ?_)
  refine b_i2l l240_1641 (bi_rg _) (b_pc (pc' := 1642) rfl ?_)
  refine b_s (pc' := 1645) (lv1 := [(0, .ref 0), (1, .ref 1), (2, .ref 76), (3, .ref 112), (4, bI i)]) (st' := [bLg 4294967295, bLg (xs (i + 2).toNat).toInt, bLg (bShlL (xs (i + 1).toNat).toInt 32), .ref 76, bI k]) l240_1642 (fun _ => rfl) ?_
  refine b_land l240_1645 (b_pc (pc' := 1646) rfl ?_)
  refine b_lor l240_1646 (b_pc (pc' := 1647) rfl ?_)
  refine b_cMki l240_1647 rfl (b_rc (ci := 9) (by rfl) (by decide) (by decide +kernel)) (Nat.le_of_ble_eq_true rfl) (Nat.le_of_ble_eq_true rfl) rfl (r_X11_covers (bOrL (bShlL (xs (i + 1).toNat).toInt 32) (bAndL (xs (i + 2).toNat).toInt 4294967295)) (bl_rg _)) hF2 fun hv2 => bD.ok fun hk2 => b_pc (pc' := 1650) rfl ?_
  refine b_pos (c := k = b) (E1 := some (.inl 1, μf, c)) (E2 := none) (κ := some) hEQ ?_
  refine b_ieq (pt := 1655) l240_1650 hv1 hv2 (by decide) rfl (fun _ => ?_) (fun z => absurd hEQ z)
  refine b_inc1 (lv' := [(0, .ref 0), (1, .ref 1), (2, .ref 76), (3, .ref 112), (4, bI (i + 6))]) l240_1655 rfl (by decide +kernel) (bSb rfl (bSb rfl (bSb rfl (bSb rfl (bSb rfl bSn))))) (b_in (by omega) (by omega)) (b_pc (pc' := 1658) rfl ?_)
  refine b_s (pc' := 23) (lv1 := [(0, .ref 0), (1, .ref 1), (2, .ref 76), (3, .ref 112), (4, bI (i + 6))]) (st' := []) l240_1658 (fun _ => rfl) ?_
  exact kont
theorem g_d {L : Nat} {xs : Nat → Int32} {i  : Int} {c n1 : Nat} {μ  μf : bM} (hL : L ≤ 3072) (hi : 0 ≤ i ∧ i + 6 ≤ (L : Int)) (hop : ∀ q ∈ lawTb, ¬ bAnd (xs i.toNat).toInt 31 = q.1)  (kont : bD L xs 9 240 23 [(0, .ref 0), (1, .ref 1), (2, .ref 76), (3, .ref 112), (4, bI (i + 6))] [] μ (some (.inl 1, μf, c))) : bD L xs 9 240 23 [(0, .ref 0), (1, .ref 1), (2, .ref 76), (3, .ref 112), (4, bI i)] [] μ (some (.inl 1, μf, c)) := by
  have hiR : bR i := b_in (by omega) (by omega)
  refine bD.ok fun hk => ?_
  refine b_s (pc' := 25) (lv1 := [(0, .ref 0), (1, .ref 1), (2, .ref 76), (3, .ref 112), (4, bI i)]) (st' := [bI i]) l240_23 (fun _ => rfl) ?_
  refine b_s (pc' := 26) (lv1 := [(0, .ref 0), (1, .ref 1), (2, .ref 76), (3, .ref 112), (4, bI i)]) (st' := [.ref 0, bI i]) l240_25 (fun _ => rfl) ?_
  refine b_scl l240_26 (b_pc (pc' := 27) rfl ?_)
  refine b_bipush l240_27 (by decide) (b_pc (pc' := 29) rfl ?_)
  refine b_isub1 l240_29 (b_in (by omega) (by omega)) (b_pc (pc' := 30) rfl ?_)
  refine b_neg (c := ((L : Int) - 6) < i) (E1 := none) (E2 := some (.inl 1, μf, c)) (κ := some) (by omega) ?_
  refine b_igt (pt := 1661) l240_30 hiR (b_in (by omega) (by omega)) (by decide) rfl (fun z => absurd z (by omega)) (fun _ => b_pc (pc' := 33) rfl ?_)
  refine b_s (pc' := 34) (lv1 := [(0, .ref 0), (1, .ref 1), (2, .ref 76), (3, .ref 112), (4, bI i)]) (st' := [.ref 0]) l240_33 (fun _ => rfl) ?_
  refine b_s (pc' := 36) (lv1 := [(0, .ref 0), (1, .ref 1), (2, .ref 76), (3, .ref 112), (4, bI i)]) (st' := [bI i, .ref 0]) l240_34 (fun _ => rfl) ?_
  refine b_scr l240_36 ⟨by omega, by omega⟩ (by omega) (b_pc (pc' := 37) rfl ?_)
  refine b_bipush l240_37 (by decide) (b_pc (pc' := 39) rfl ?_)
  refine b_iand l240_39 (b_pc (pc' := 40) rfl ?_)
  refine b_tsw l240_40 (bi_rg _) (by decide) (by decide) (by decide) ?_
  refine b_pc (pc' := bTg [(0, 152), (1, 256), (2, 292), (3, 348), (4, 416), (5, 540), (6, 620), (7, 712), (8, 725), (9, 738), (10, 794), (11, 862), (12, 918), (13, 998), (14, 1011), (15, 1067), (16, 1123), (17, 1191), (18, 1259), (19, 1315), (20, 1395), (21, 1462), (22, 1542), (23, 1598)] 1655 (bAnd (xs i.toNat).toInt 31)) rfl ?_
  refine b_pc (pc' := 1655) (by exact bTg_none hop) ?_
  refine b_inc1 (lv' := [(0, .ref 0), (1, .ref 1), (2, .ref 76), (3, .ref 112), (4, bI (i + 6))]) l240_1655 rfl (by decide +kernel) (bSb rfl (bSb rfl (bSb rfl (bSb rfl (bSb rfl bSn))))) (b_in (by omega) (by omega)) (b_pc (pc' := 1658) rfl ?_)
  refine b_s (pc' := 23) (lv1 := [(0, .ref 0), (1, .ref 1), (2, .ref 76), (3, .ref 112), (4, bI (i + 6))]) (st' := []) l240_1658 (fun _ => rfl) ?_
  exact kont
theorem g_end {L : Nat} {xs : Nat → Int32} {i : Int} {μ : bM} (hL : L ≤ 3072) (hi : 0 ≤ i ∧ i ≤ (L : Int) ∧ (L : Int) < i + 6) : bD L xs 9 240 23 [(0, .ref 0), (1, .ref 1), (2, .ref 76), (3, .ref 112), (4, bI i)] [] μ (some (.inl 1, μ, 0)) := by
  have hiR : bR i := b_in (by omega) (by omega)
  refine b_s (pc' := 25) (lv1 := [(0, .ref 0), (1, .ref 1), (2, .ref 76), (3, .ref 112), (4, bI i)]) (st' := [bI i]) l240_23 (fun _ => rfl) ?_
  refine b_s (pc' := 26) (lv1 := [(0, .ref 0), (1, .ref 1), (2, .ref 76), (3, .ref 112), (4, bI i)]) (st' := [.ref 0, bI i]) l240_25 (fun _ => rfl) ?_
  refine b_scl l240_26 (b_pc (pc' := 27) rfl ?_)
  refine b_bipush l240_27 (by decide) (b_pc (pc' := 29) rfl ?_)
  refine b_isub1 l240_29 (b_in (by omega) (by omega)) (b_pc (pc' := 30) rfl ?_)
  refine b_pos (c := ((L : Int) - 6) < i) (E1 := some (.inl 1, μ, 0)) (E2 := none) (κ := some) (by omega) ?_
  refine b_igt (pt := 1661) l240_30 hiR (b_in (by omega) (by omega)) (by decide) rfl (fun _ => ?_) (fun z => absurd (show ((L : Int) - 6) < i by omega) z)
  refine b_s (pc' := 1662) (lv1 := [(0, .ref 0), (1, .ref 1), (2, .ref 76), (3, .ref 112), (4, bI i)]) (st' := [bI 1]) l240_1661 (fun _ => rfl) ?_
  exact b_retz l240_1662 rfl (by decide) rfl
end CD
