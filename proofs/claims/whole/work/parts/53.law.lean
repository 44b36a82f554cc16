section CD
abbrev lawTb : List (Int × Nat) := [(0, 152), (1, 256), (2, 292), (3, 348), (4, 416), (5, 540), (6, 620), (7, 712), (8, 725), (9, 738), (10, 794), (11, 862), (12, 918), (13, 998), (14, 1011), (15, 1067), (16, 1123), (17, 1191), (18, 1259), (19, 1315), (20, 1395), (21, 1462), (22, 1542), (23, 1598)]
theorem bTg_none {t : Nat} {a : Int} : ∀ {l : List (Int × Nat)}, (∀ q ∈ l, ¬ a = q.1) → bTg l t a = t
  | [], _ => rfl
  | q :: r, h => by
    unfold bTg
    rw [if_neg (h q List.mem_cons_self)]
    exact bTg_none (fun q hq => h q (List.mem_cons_of_mem _ hq))
theorem b_cn {n1 : Nat} {f : Bool} (hh : (if n1 = 0 then f else false) = true) : f = true ∧ 112 = 112 + n1 := by
  by_cases e : n1 = 0
  · rw [if_pos e] at hh
    exact ⟨hh, by omega⟩
  · rw [if_neg e] at hh
    cases hh
theorem b_in {a : Int} (h1 : -2147483648 ≤ a) (h2 : a ≤ 2147483647) : bR a := ⟨h1, h2⟩
theorem b_LR {L : Nat} (h : L ≤ 3072) : bR (L : Int) := by constructor <;> omega
theorem bCmp_0 {a b : Int} (h : a = b) : bCmp a b = 0 := by unfold bCmp; rw [if_neg (by omega), if_pos h]
section
variable {L : Nat} {xs : Nat → Int32} {d i pc len r1 r2 : Nat} {kc a b : Int} {lv : List (Nat × Value)} {st : List Value} {μ : bM} {o : Option bX}
theorem b_iadd1 (h : (ax_dt (ax_T i)).lookup pc = some (.iadd, len, r1, r2, kc)) (_ : bR (a + b)) (k : bD L xs d i (pc + len) lv (bI (a + b) :: st) μ o) : bD L xs d i pc lv (bI b :: bI a :: st) μ o := b_v h (fun _ => rfl) (congrArg Value.int (Int32.ofInt_add a b).symm) k
theorem b_isub1 (h : (ax_dt (ax_T i)).lookup pc = some (.isub, len, r1, r2, kc)) (_ : bR (a - b)) (k : bD L xs d i (pc + len) lv (bI (a - b) :: st) μ o) : bD L xs d i pc lv (bI b :: bI a :: st) μ o := b_v h (fun _ => rfl) (congrArg Value.int (Int32.ofInt_sub a b).symm) k
theorem b_inc1 {lv' : List (Nat × Value)} {n : Nat} {c : Int} (h : (ax_dt (ax_T i)).lookup pc = some (.iinc n c, len, r1, r2, kc)) (hl : lv.lookup n = some (bI a)) (hn : n < ax_dl (ax_T i)) (hw : bSub lv' (ax_st1 lv n (bI (a + c)))) (g : bR (a + c)) (k : bD L xs d i (pc + len) lv' st μ o) : bD L xs d i pc lv st μ o := by
  cases o with
  | none => intro _ r hr; cases hr
  | some r =>
    have := b_inc (E := some r) (κ := some) h hl hn hw (fun _ => k)
    unfold bG at this
    rw [if_pos g] at this
    exact this
end
section
variable {L : Nat} {xs : Nat → Int32} {d i pc j : Nat} {lv : List (Nat × Value)} {st as rest : List Value} {μ : bM} {x : ax_I} {o : Option bX}
theorem b_cPki {F : Option Int} {v : Int} (h : (ax_dt (ax_T i)).lookup pc = some x) (hc : ax_call x st = some (j, as, rest)) (hre : ∀ f, ax_recv ax_T x as (112, bH μ, f)) (h4 : (rest.map fun v => v.category).sum ≤ 8) (h5 : (lg_sl as).length ≤ ax_dl (ax_T j)) (hrt : ax_dr (ax_T j) = some .int) (kj : bD L xs d j 0 (lv_args 0 as) [] μ (F.bind (bPc μ))) (hF : F = some v) (k : (bR v) → bD L xs (d + 1) i (pc + 3) lv (bI v :: rest) μ o) : bD L xs (d + 1) i pc lv st μ o := by
  subst hF
  intro hok r hr
  obtain ⟨a1, a2, a3⟩ := kj hok (.inl v, μ, 0) rfl
  rw [hrt] at a2 a3
  obtain ⟨b1, b2, b3⟩ := k a2 a1 r hr
  refine ⟨b1, b2, fun f => ?_⟩
  rw [← ax_add0 (bOut (ax_dr (ax_T i)) r f)]
  exact bRn.call h hc (hre f) h4 h5 (a3 f) (fun hh => ⟨hh, rfl⟩) (b3 f)
theorem b_cMki {F : Option (Int × bM)} {v : Int} {μ1 : bM} (h : (ax_dt (ax_T i)).lookup pc = some x) (hc : ax_call x st = some (j, as, rest)) (hre : ∀ f, ax_recv ax_T x as (112, bH μ, f)) (h4 : (rest.map fun v => v.category).sum ≤ 8) (h5 : (lg_sl as).length ≤ ax_dl (ax_T j)) (hrt : ax_dr (ax_T j) = some .int) (kj : bD L xs d j 0 (lv_args 0 as) [] μ (F.bind bMc)) (hF : F = some (v, μ1)) (k : (bR v) → bD L xs (d + 1) i (pc + 3) lv (bI v :: rest) μ1 o) : bD L xs (d + 1) i pc lv st μ o := by
  subst hF
  intro hok r hr
  obtain ⟨a1, a2, a3⟩ := kj hok (.inl v, μ1, 0) rfl
  rw [hrt] at a2 a3
  obtain ⟨b1, b2, b3⟩ := k a2 a1 r hr
  refine ⟨b1, b2, fun f => ?_⟩
  rw [← ax_add0 (bOut (ax_dr (ax_T i)) r f)]
  exact bRn.call h hc (hre f) h4 h5 (a3 f) (fun hh => ⟨hh, rfl⟩) (b3 f)
theorem b_cKki {F : Option (Int × bM × Nat)} {v : Int} {μ1 : bM} {n1 : Nat} {w : Int ⊕ String} {μf : bM} {c : Nat} (h : (ax_dt (ax_T i)).lookup pc = some x) (hc : ax_call x st = some (j, as, rest)) (hre : ∀ f, ax_recv ax_T x as (112, bH μ, f)) (h4 : (rest.map fun v => v.category).sum ≤ 8) (h5 : (lg_sl as).length ≤ ax_dl (ax_T j)) (hrt : ax_dr (ax_T j) = some .int) (kj : bD L xs d j 0 (lv_args 0 as) [] μ (F.bind bCc)) (hF : F = some (v, μ1, n1)) (k : (bR v) → bD L xs (d + 1) i (pc + 3) lv (bI v :: rest) μ1 (some (w, μf, c))) : bD L xs (d + 1) i pc lv st μ (some (w, μf, c + n1)) := by
  subst hF
  intro hok r hr
  cases hr
  obtain ⟨a1, a2, a3⟩ := kj hok (.inl v, μ1, n1) rfl
  rw [hrt] at a2 a3
  obtain ⟨b1, b2, b3⟩ := k a2 a1 _ rfl
  refine ⟨b1, b2, fun f => ?_⟩
  have := bRn.call h hc (hre f) h4 h5 (a3 f) (fun hh => b_cn hh) (b3 _)
  refine c_eq rfl ?_ this
  unfold bOut ax_add
  simp only
  refine Prod.ext rfl (Prod.ext (Prod.ext rfl (Prod.ext rfl ?_)) (Prod.ext ?_ ?_))
  · show (if c = 0 then (if n1 = 0 then f else false) else false) = (if c + n1 = 0 then f else false)
    by_cases e1 : c = 0 <;> by_cases e2 : n1 = 0 <;> simp [e1, e2]
  · show n1 + c = c + n1; omega
  · show 6 * n1 + 6 * c = 6 * (c + n1); omega
theorem b_cPkz {F : Option Int} {v : Int} (h : (ax_dt (ax_T i)).lookup pc = some x) (hc : ax_call x st = some (j, as, rest)) (hre : ∀ f, ax_recv ax_T x as (112, bH μ, f)) (h4 : (rest.map fun v => v.category).sum ≤ 8) (h5 : (lg_sl as).length ≤ ax_dl (ax_T j)) (hrt : ax_dr (ax_T j) = some .boolean) (kj : bD L xs d j 0 (lv_args 0 as) [] μ (F.bind (bPc μ))) (hF : F = some v) (k : (0 ≤ v ∧ v ≤ 1) → bD L xs (d + 1) i (pc + 3) lv (bI v :: rest) μ o) : bD L xs (d + 1) i pc lv st μ o := by
  subst hF
  intro hok r hr
  obtain ⟨a1, a2, a3⟩ := kj hok (.inl v, μ, 0) rfl
  rw [hrt] at a2 a3
  obtain ⟨b1, b2, b3⟩ := k a2 a1 r hr
  refine ⟨b1, b2, fun f => ?_⟩
  rw [← ax_add0 (bOut (ax_dr (ax_T i)) r f)]
  exact bRn.call h hc (hre f) h4 h5 (a3 f) (fun hh => ⟨hh, rfl⟩) (b3 f)
theorem b_cMkz {F : Option (Int × bM)} {v : Int} {μ1 : bM} (h : (ax_dt (ax_T i)).lookup pc = some x) (hc : ax_call x st = some (j, as, rest)) (hre : ∀ f, ax_recv ax_T x as (112, bH μ, f)) (h4 : (rest.map fun v => v.category).sum ≤ 8) (h5 : (lg_sl as).length ≤ ax_dl (ax_T j)) (hrt : ax_dr (ax_T j) = some .boolean) (kj : bD L xs d j 0 (lv_args 0 as) [] μ (F.bind bMc)) (hF : F = some (v, μ1)) (k : (0 ≤ v ∧ v ≤ 1) → bD L xs (d + 1) i (pc + 3) lv (bI v :: rest) μ1 o) : bD L xs (d + 1) i pc lv st μ o := by
  subst hF
  intro hok r hr
  obtain ⟨a1, a2, a3⟩ := kj hok (.inl v, μ1, 0) rfl
  rw [hrt] at a2 a3
  obtain ⟨b1, b2, b3⟩ := k a2 a1 r hr
  refine ⟨b1, b2, fun f => ?_⟩
  rw [← ax_add0 (bOut (ax_dr (ax_T i)) r f)]
  exact bRn.call h hc (hre f) h4 h5 (a3 f) (fun hh => ⟨hh, rfl⟩) (b3 f)
theorem b_cKkz {F : Option (Int × bM × Nat)} {v : Int} {μ1 : bM} {n1 : Nat} {w : Int ⊕ String} {μf : bM} {c : Nat} (h : (ax_dt (ax_T i)).lookup pc = some x) (hc : ax_call x st = some (j, as, rest)) (hre : ∀ f, ax_recv ax_T x as (112, bH μ, f)) (h4 : (rest.map fun v => v.category).sum ≤ 8) (h5 : (lg_sl as).length ≤ ax_dl (ax_T j)) (hrt : ax_dr (ax_T j) = some .boolean) (kj : bD L xs d j 0 (lv_args 0 as) [] μ (F.bind bCc)) (hF : F = some (v, μ1, n1)) (k : (0 ≤ v ∧ v ≤ 1) → bD L xs (d + 1) i (pc + 3) lv (bI v :: rest) μ1 (some (w, μf, c))) : bD L xs (d + 1) i pc lv st μ (some (w, μf, c + n1)) := by
  subst hF
  intro hok r hr
  cases hr
  obtain ⟨a1, a2, a3⟩ := kj hok (.inl v, μ1, n1) rfl
  rw [hrt] at a2 a3
  obtain ⟨b1, b2, b3⟩ := k a2 a1 _ rfl
  refine ⟨b1, b2, fun f => ?_⟩
  have := bRn.call h hc (hre f) h4 h5 (a3 f) (fun hh => b_cn hh) (b3 _)
  refine c_eq rfl ?_ this
  unfold bOut ax_add
  simp only
  refine Prod.ext rfl (Prod.ext (Prod.ext rfl (Prod.ext rfl ?_)) (Prod.ext ?_ ?_))
  · show (if c = 0 then (if n1 = 0 then f else false) else false) = (if c + n1 = 0 then f else false)
    by_cases e1 : c = 0 <;> by_cases e2 : n1 = 0 <;> simp [e1, e2]
  · show n1 + c = c + n1; omega
  · show 6 * n1 + 6 * c = 6 * (c + n1); omega
theorem b_cPkl {F : Option Int} {v : Int} (h : (ax_dt (ax_T i)).lookup pc = some x) (hc : ax_call x st = some (j, as, rest)) (hre : ∀ f, ax_recv ax_T x as (112, bH μ, f)) (h4 : (rest.map fun v => v.category).sum ≤ 8) (h5 : (lg_sl as).length ≤ ax_dl (ax_T j)) (hrt : ax_dr (ax_T j) = some .long) (kj : bD L xs d j 0 (lv_args 0 as) [] μ (F.bind (bPc μ))) (hF : F = some v) (k : (bRL v) → bD L xs (d + 1) i (pc + 3) lv (bLg v :: rest) μ o) : bD L xs (d + 1) i pc lv st μ o := by
  subst hF
  intro hok r hr
  obtain ⟨a1, a2, a3⟩ := kj hok (.inl v, μ, 0) rfl
  rw [hrt] at a2 a3
  obtain ⟨b1, b2, b3⟩ := k a2 a1 r hr
  refine ⟨b1, b2, fun f => ?_⟩
  rw [← ax_add0 (bOut (ax_dr (ax_T i)) r f)]
  exact bRn.call h hc (hre f) h4 h5 (a3 f) (fun hh => ⟨hh, rfl⟩) (b3 f)
theorem b_cMkl {F : Option (Int × bM)} {v : Int} {μ1 : bM} (h : (ax_dt (ax_T i)).lookup pc = some x) (hc : ax_call x st = some (j, as, rest)) (hre : ∀ f, ax_recv ax_T x as (112, bH μ, f)) (h4 : (rest.map fun v => v.category).sum ≤ 8) (h5 : (lg_sl as).length ≤ ax_dl (ax_T j)) (hrt : ax_dr (ax_T j) = some .long) (kj : bD L xs d j 0 (lv_args 0 as) [] μ (F.bind bMc)) (hF : F = some (v, μ1)) (k : (bRL v) → bD L xs (d + 1) i (pc + 3) lv (bLg v :: rest) μ1 o) : bD L xs (d + 1) i pc lv st μ o := by
  subst hF
  intro hok r hr
  obtain ⟨a1, a2, a3⟩ := kj hok (.inl v, μ1, 0) rfl
  rw [hrt] at a2 a3
  obtain ⟨b1, b2, b3⟩ := k a2 a1 r hr
  refine ⟨b1, b2, fun f => ?_⟩
  rw [← ax_add0 (bOut (ax_dr (ax_T i)) r f)]
  exact bRn.call h hc (hre f) h4 h5 (a3 f) (fun hh => ⟨hh, rfl⟩) (b3 f)
theorem b_cKkl {F : Option (Int × bM × Nat)} {v : Int} {μ1 : bM} {n1 : Nat} {w : Int ⊕ String} {μf : bM} {c : Nat} (h : (ax_dt (ax_T i)).lookup pc = some x) (hc : ax_call x st = some (j, as, rest)) (hre : ∀ f, ax_recv ax_T x as (112, bH μ, f)) (h4 : (rest.map fun v => v.category).sum ≤ 8) (h5 : (lg_sl as).length ≤ ax_dl (ax_T j)) (hrt : ax_dr (ax_T j) = some .long) (kj : bD L xs d j 0 (lv_args 0 as) [] μ (F.bind bCc)) (hF : F = some (v, μ1, n1)) (k : (bRL v) → bD L xs (d + 1) i (pc + 3) lv (bLg v :: rest) μ1 (some (w, μf, c))) : bD L xs (d + 1) i pc lv st μ (some (w, μf, c + n1)) := by
  subst hF
  intro hok r hr
  cases hr
  obtain ⟨a1, a2, a3⟩ := kj hok (.inl v, μ1, n1) rfl
  rw [hrt] at a2 a3
  obtain ⟨b1, b2, b3⟩ := k a2 a1 _ rfl
  refine ⟨b1, b2, fun f => ?_⟩
  have := bRn.call h hc (hre f) h4 h5 (a3 f) (fun hh => b_cn hh) (b3 _)
  refine c_eq rfl ?_ this
  unfold bOut ax_add
  simp only
  refine Prod.ext rfl (Prod.ext (Prod.ext rfl (Prod.ext rfl ?_)) (Prod.ext ?_ ?_))
  · show (if c = 0 then (if n1 = 0 then f else false) else false) = (if c + n1 = 0 then f else false)
    by_cases e1 : c = 0 <;> by_cases e2 : n1 = 0 <;> simp [e1, e2]
  · show n1 + c = c + n1; omega
  · show 6 * n1 + 6 * c = 6 * (c + n1); omega
theorem b_cPkv {F : Option Int} {v : Int} (h : (ax_dt (ax_T i)).lookup pc = some x) (hc : ax_call x st = some (j, as, rest)) (hre : ∀ f, ax_recv ax_T x as (112, bH μ, f)) (h4 : (rest.map fun v => v.category).sum ≤ 8) (h5 : (lg_sl as).length ≤ ax_dl (ax_T j)) (hrt : ax_dr (ax_T j) = none) (kj : bD L xs d j 0 (lv_args 0 as) [] μ (F.bind (bPc μ))) (hF : F = some v) (k : (True) → bD L xs (d + 1) i (pc + 3) lv (rest) μ o) : bD L xs (d + 1) i pc lv st μ o := by
  subst hF
  intro hok r hr
  obtain ⟨a1, a2, a3⟩ := kj hok (.inl v, μ, 0) rfl
  rw [hrt] at a2 a3
  obtain ⟨b1, b2, b3⟩ := k a2 a1 r hr
  refine ⟨b1, b2, fun f => ?_⟩
  rw [← ax_add0 (bOut (ax_dr (ax_T i)) r f)]
  exact bRn.call h hc (hre f) h4 h5 (a3 f) (fun hh => ⟨hh, rfl⟩) (b3 f)
theorem b_cMkv {F : Option (Int × bM)} {v : Int} {μ1 : bM} (h : (ax_dt (ax_T i)).lookup pc = some x) (hc : ax_call x st = some (j, as, rest)) (hre : ∀ f, ax_recv ax_T x as (112, bH μ, f)) (h4 : (rest.map fun v => v.category).sum ≤ 8) (h5 : (lg_sl as).length ≤ ax_dl (ax_T j)) (hrt : ax_dr (ax_T j) = none) (kj : bD L xs d j 0 (lv_args 0 as) [] μ (F.bind bMc)) (hF : F = some (v, μ1)) (k : (True) → bD L xs (d + 1) i (pc + 3) lv (rest) μ1 o) : bD L xs (d + 1) i pc lv st μ o := by
  subst hF
  intro hok r hr
  obtain ⟨a1, a2, a3⟩ := kj hok (.inl v, μ1, 0) rfl
  rw [hrt] at a2 a3
  obtain ⟨b1, b2, b3⟩ := k a2 a1 r hr
  refine ⟨b1, b2, fun f => ?_⟩
  rw [← ax_add0 (bOut (ax_dr (ax_T i)) r f)]
  exact bRn.call h hc (hre f) h4 h5 (a3 f) (fun hh => ⟨hh, rfl⟩) (b3 f)
theorem b_cKkv {F : Option (Int × bM × Nat)} {v : Int} {μ1 : bM} {n1 : Nat} {w : Int ⊕ String} {μf : bM} {c : Nat} (h : (ax_dt (ax_T i)).lookup pc = some x) (hc : ax_call x st = some (j, as, rest)) (hre : ∀ f, ax_recv ax_T x as (112, bH μ, f)) (h4 : (rest.map fun v => v.category).sum ≤ 8) (h5 : (lg_sl as).length ≤ ax_dl (ax_T j)) (hrt : ax_dr (ax_T j) = none) (kj : bD L xs d j 0 (lv_args 0 as) [] μ (F.bind bCc)) (hF : F = some (v, μ1, n1)) (k : (True) → bD L xs (d + 1) i (pc + 3) lv (rest) μ1 (some (w, μf, c))) : bD L xs (d + 1) i pc lv st μ (some (w, μf, c + n1)) := by
  subst hF
  intro hok r hr
  cases hr
  obtain ⟨a1, a2, a3⟩ := kj hok (.inl v, μ1, n1) rfl
  rw [hrt] at a2 a3
  obtain ⟨b1, b2, b3⟩ := k a2 a1 _ rfl
  refine ⟨b1, b2, fun f => ?_⟩
  have := bRn.call h hc (hre f) h4 h5 (a3 f) (fun hh => b_cn hh) (b3 _)
  refine c_eq rfl ?_ this
  unfold bOut ax_add
  simp only
  refine Prod.ext rfl (Prod.ext (Prod.ext rfl (Prod.ext rfl ?_)) (Prod.ext ?_ ?_))
  · show (if c = 0 then (if n1 = 0 then f else false) else false) = (if c + n1 = 0 then f else false)
    by_cases e1 : c = 0 <;> by_cases e2 : n1 = 0 <;> simp [e1, e2]
  · show n1 + c = c + n1; omega
  · show 6 * n1 + 6 * c = 6 * (c + n1); omega
end
theorem g_0 {L : Nat} {xs : Nat → Int32} {i k b : Int} {c n1 : Nat} {μ μ1 μ2 μf : bM} (hL : L ≤ 3072) (hi : 0 ≤ i ∧ i + 6 ≤ (L : Int)) (hop : bAnd (xs i.toNat).toInt 31 = 0) (hF1 : F_L_feed (xs (i + 1).toNat).toInt (xs (i + 2).toNat).toInt (xs (i + 3).toNat).toInt (xs (i + 4).toNat).toInt (xs (i + 5).toNat).toInt μ = some (k, μ1, n1)) (hF2 : F_X11_feed (xs (i + 1).toNat).toInt (xs (i + 2).toNat).toInt (xs (i + 3).toNat).toInt (xs (i + 4).toNat).toInt (xs (i + 5).toNat).toInt μ1 = some (b, μ2)) (hEQ : μ2 76 0 = k) (ho : k = 0 → μ2 112 0 = b) (kont : bD L xs 9 241 23 [(0, .ref 0), (1, .ref 1), (2, .ref 76), (3, .ref 112), (4, bI (i + 6))] [] μ2 (some (.inl 1, μf, c))) : bD L xs 9 241 23 [(0, .ref 0), (1, .ref 1), (2, .ref 76), (3, .ref 112), (4, bI i)] [] μ (some (.inl 1, μf, (c + n1))) := by
  have hiR : bR i := b_in (by omega) (by omega)
  refine bD.ok fun hk => ?_
  refine b_s (pc' := 25) (lv1 := [(0, .ref 0), (1, .ref 1), (2, .ref 76), (3, .ref 112), (4, bI i)]) (st' := [bI i]) l241_23 (fun _ => rfl) ?_
  refine b_s (pc' := 26) (lv1 := [(0, .ref 0), (1, .ref 1), (2, .ref 76), (3, .ref 112), (4, bI i)]) (st' := [.ref 0, bI i]) l241_25 (fun _ => rfl) ?_
  refine b_scl l241_26 (b_pc (pc' := 27) rfl ?_)
  refine b_bipush l241_27 (by decide) (b_pc (pc' := 29) rfl ?_)
  refine b_isub1 l241_29 (b_in (by omega) (by omega)) (b_pc (pc' := 30) rfl ?_)
  refine b_neg (c := ((L : Int) - 6) < i) (E1 := none) (E2 := some (.inl 1, μf, (c + n1))) (κ := some) (by omega) ?_
  refine b_igt (pt := 1661) l241_30 hiR (b_in (by omega) (by omega)) (by decide) rfl (fun z => absurd z (by omega)) (fun _ => b_pc (pc' := 33) rfl ?_)
  refine b_s (pc' := 34) (lv1 := [(0, .ref 0), (1, .ref 1), (2, .ref 76), (3, .ref 112), (4, bI i)]) (st' := [.ref 0]) l241_33 (fun _ => rfl) ?_
  refine b_s (pc' := 36) (lv1 := [(0, .ref 0), (1, .ref 1), (2, .ref 76), (3, .ref 112), (4, bI i)]) (st' := [bI i, .ref 0]) l241_34 (fun _ => rfl) ?_
  refine b_scr l241_36 ⟨by omega, by omega⟩ (by omega) (b_pc (pc' := 37) rfl ?_)
  refine b_bipush l241_37 (by decide) (b_pc (pc' := 39) rfl ?_)
  refine b_iand l241_39 (b_pc (pc' := 40) rfl ?_)
  refine b_tsw l241_40 (bi_rg _) (by decide) (by decide) (by decide) ?_
  refine b_pc (pc' := bTg [(0, 152), (1, 256), (2, 292), (3, 348), (4, 416), (5, 540), (6, 620), (7, 712), (8, 725), (9, 738), (10, 794), (11, 862), (12, 918), (13, 998), (14, 1011), (15, 1067), (16, 1123), (17, 1191), (18, 1259), (19, 1315), (20, 1395), (21, 1462), (22, 1542), (23, 1598)] 1655 (bAnd (xs i.toNat).toInt 31)) rfl ?_
  refine b_pc (pc' := 152) (by rw [hop]; rfl) ?_
  refine b_s (pc' := 153) (lv1 := [(0, .ref 0), (1, .ref 1), (2, .ref 76), (3, .ref 112), (4, bI i)]) (st' := [.ref 1]) l241_152 (fun _ => rfl) ?_
  refine b_s (pc' := 154) (lv1 := [(0, .ref 0), (1, .ref 1), (2, .ref 76), (3, .ref 112), (4, bI i)]) (st' := [.ref 0, .ref 1]) l241_153 (fun _ => rfl) ?_
  refine b_s (pc' := 156) (lv1 := [(0, .ref 0), (1, .ref 1), (2, .ref 76), (3, .ref 112), (4, bI i)]) (st' := [bI i, .ref 0, .ref 1]) l241_154 (fun _ => rfl) ?_
  refine b_s (pc' := 157) (lv1 := [(0, .ref 0), (1, .ref 1), (2, .ref 76), (3, .ref 112), (4, bI i)]) (st' := [bI 1, bI i, .ref 0, .ref 1]) l241_156 (fun _ => rfl) ?_
  refine b_iadd1 l241_157 (b_in (by omega) (by omega)) (b_pc (pc' := 158) rfl ?_)
  refine b_scr l241_158 ⟨by omega, by omega⟩ (by omega) (b_pc (pc' := 159) rfl ?_)
  refine b_s (pc' := 160) (lv1 := [(0, .ref 0), (1, .ref 1), (2, .ref 76), (3, .ref 112), (4, bI i)]) (st' := [.ref 0, bI (xs (i + 1).toNat).toInt, .ref 1]) l241_159 (fun _ => rfl) ?_
  refine b_s (pc' := 162) (lv1 := [(0, .ref 0), (1, .ref 1), (2, .ref 76), (3, .ref 112), (4, bI i)]) (st' := [bI i, .ref 0, bI (xs (i + 1).toNat).toInt, .ref 1]) l241_160 (fun _ => rfl) ?_
  refine b_s (pc' := 163) (lv1 := [(0, .ref 0), (1, .ref 1), (2, .ref 76), (3, .ref 112), (4, bI i)]) (st' := [bI 2, bI i, .ref 0, bI (xs (i + 1).toNat).toInt, .ref 1]) l241_162 (fun _ => rfl) ?_
  refine b_iadd1 l241_163 (b_in (by omega) (by omega)) (b_pc (pc' := 164) rfl ?_)
  refine b_scr l241_164 ⟨by omega, by omega⟩ (by omega) (b_pc (pc' := 165) rfl ?_)
  refine b_s (pc' := 166) (lv1 := [(0, .ref 0), (1, .ref 1), (2, .ref 76), (3, .ref 112), (4, bI i)]) (st' := [.ref 0, bI (xs (i + 2).toNat).toInt, bI (xs (i + 1).toNat).toInt, .ref 1]) l241_165 (fun _ => rfl) ?_
  refine b_s (pc' := 168) (lv1 := [(0, .ref 0), (1, .ref 1), (2, .ref 76), (3, .ref 112), (4, bI i)]) (st' := [bI i, .ref 0, bI (xs (i + 2).toNat).toInt, bI (xs (i + 1).toNat).toInt, .ref 1]) l241_166 (fun _ => rfl) ?_
  refine b_s (pc' := 169) (lv1 := [(0, .ref 0), (1, .ref 1), (2, .ref 76), (3, .ref 112), (4, bI i)]) (st' := [bI 3, bI i, .ref 0, bI (xs (i + 2).toNat).toInt, bI (xs (i + 1).toNat).toInt, .ref 1]) l241_168 (fun _ => rfl) ?_
  refine b_iadd1 l241_169 (b_in (by omega) (by omega)) (b_pc (pc' := 170) rfl ?_)
  refine b_scr l241_170 ⟨by omega, by omega⟩ (by omega) (b_pc (pc' := 171) rfl ?_)
  refine b_s (pc' := 172) (lv1 := [(0, .ref 0), (1, .ref 1), (2, .ref 76), (3, .ref 112), (4, bI i)]) (st' := [.ref 0, bI (xs (i + 3).toNat).toInt, bI (xs (i + 2).toNat).toInt, bI (xs (i + 1).toNat).toInt, .ref 1]) l241_171 (fun _ => rfl) ?_
  refine b_s (pc' := 174) (lv1 := [(0, .ref 0), (1, .ref 1), (2, .ref 76), (3, .ref 112), (4, bI i)]) (st' := [bI i, .ref 0, bI (xs (i + 3).toNat).toInt, bI (xs (i + 2).toNat).toInt, bI (xs (i + 1).toNat).toInt, .ref 1]) l241_172 (fun _ => rfl) ?_
  refine b_s (pc' := 175) (lv1 := [(0, .ref 0), (1, .ref 1), (2, .ref 76), (3, .ref 112), (4, bI i)]) (st' := [bI 4, bI i, .ref 0, bI (xs (i + 3).toNat).toInt, bI (xs (i + 2).toNat).toInt, bI (xs (i + 1).toNat).toInt, .ref 1]) l241_174 (fun _ => rfl) ?_
  refine b_iadd1 l241_175 (b_in (by omega) (by omega)) (b_pc (pc' := 176) rfl ?_)
  refine b_scr l241_176 ⟨by omega, by omega⟩ (by omega) (b_pc (pc' := 177) rfl ?_)
  refine b_s (pc' := 178) (lv1 := [(0, .ref 0), (1, .ref 1), (2, .ref 76), (3, .ref 112), (4, bI i)]) (st' := [.ref 0, bI (xs (i + 4).toNat).toInt, bI (xs (i + 3).toNat).toInt, bI (xs (i + 2).toNat).toInt, bI (xs (i + 1).toNat).toInt, .ref 1]) l241_177 (fun _ => rfl) ?_
  refine b_s (pc' := 180) (lv1 := [(0, .ref 0), (1, .ref 1), (2, .ref 76), (3, .ref 112), (4, bI i)]) (st' := [bI i, .ref 0, bI (xs (i + 4).toNat).toInt, bI (xs (i + 3).toNat).toInt, bI (xs (i + 2).toNat).toInt, bI (xs (i + 1).toNat).toInt, .ref 1]) l241_178 (fun _ => rfl) ?_
  refine b_s (pc' := 181) (lv1 := [(0, .ref 0), (1, .ref 1), (2, .ref 76), (3, .ref 112), (4, bI i)]) (st' := [bI 5, bI i, .ref 0, bI (xs (i + 4).toNat).toInt, bI (xs (i + 3).toNat).toInt, bI (xs (i + 2).toNat).toInt, bI (xs (i + 1).toNat).toInt, .ref 1]) l241_180 (fun _ => rfl) ?_
  refine b_iadd1 l241_181 (b_in (by omega) (by omega)) (b_pc (pc' := 182) rfl ?_)
  refine b_scr l241_182 ⟨by omega, by omega⟩ (by omega) (b_pc (pc' := 183) rfl ?_)
  refine b_s (pc' := 184) (lv1 := [(0, .ref 0), (1, .ref 1), (2, .ref 76), (3, .ref 112), (4, bI i)]) (st' := [.ref 112, bI (xs (i + 5).toNat).toInt, bI (xs (i + 4).toNat).toInt, bI (xs (i + 3).toNat).toInt, bI (xs (i + 2).toNat).toInt, bI (xs (i + 1).toNat).toInt, .ref 1]) l241_183 (fun _ => rfl) ?_
  refine b_cKki l241_184 rfl (fun _ => trivial) (Nat.le_of_ble_eq_true rfl) (Nat.le_of_ble_eq_true rfl) rfl (r_L_feed (xs (i + 1).toNat).toInt (bi_rg _) (xs (i + 2).toNat).toInt (bi_rg _) (xs (i + 3).toNat).toInt (bi_rg _) (xs (i + 4).toNat).toInt (bi_rg _) (xs (i + 5).toNat).toInt (bi_rg _)) hF1 fun hv1 => bD.ok fun hk1 => b_pc (pc' := 187) rfl ?_
  refine b_w (pc' := 189) (lv1 := ax_st1 [(0, .ref 0), (1, .ref 1), (2, .ref 76), (3, .ref 112), (4, bI i)] 5 (bI k)) (lv' := [(0, .ref 0), (1, .ref 1), (2, .ref 76), (3, .ref 112), (4, bI i), (5, bI k)]) (st' := []) l241_187 (fun _ => rfl) (bSb rfl (bSb rfl (bSb rfl (bSb rfl (bSb rfl (bSb rfl bSn)))))) ?_
  refine b_s (pc' := 190) (lv1 := [(0, .ref 0), (1, .ref 1), (2, .ref 76), (3, .ref 112), (4, bI i), (5, bI k)]) (st' := [.ref 76]) l241_189 (fun _ => rfl) ?_
  refine b_s (pc' := 191) (lv1 := [(0, .ref 0), (1, .ref 1), (2, .ref 76), (3, .ref 112), (4, bI i), (5, bI k)]) (st' := [.ref 0, .ref 76]) l241_190 (fun _ => rfl) ?_
  refine b_s (pc' := 193) (lv1 := [(0, .ref 0), (1, .ref 1), (2, .ref 76), (3, .ref 112), (4, bI i), (5, bI k)]) (st' := [bI i, .ref 0, .ref 76]) l241_191 (fun _ => rfl) ?_
  refine b_s (pc' := 194) (lv1 := [(0, .ref 0), (1, .ref 1), (2, .ref 76), (3, .ref 112), (4, bI i), (5, bI k)]) (st' := [bI 1, bI i, .ref 0, .ref 76]) l241_193 (fun _ => rfl) ?_
  refine b_iadd1 l241_194 (b_in (by omega) (by omega)) (b_pc (pc' := 195) rfl ?_)
  refine b_scr l241_195 ⟨by omega, by omega⟩ (by omega) (b_pc (pc' := 196) rfl ?_)
  refine b_s (pc' := 197) (lv1 := [(0, .ref 0), (1, .ref 1), (2, .ref 76), (3, .ref 112), (4, bI i), (5, bI k)]) (st' := [.ref 0, bI (xs (i + 1).toNat).toInt, .ref 76]) l241_196 (fun _ => rfl) ?_
  refine b_s (pc' := 199) (lv1 := [(0, .ref 0), (1, .ref 1), (2, .ref 76), (3, .ref 112), (4, bI i), (5, bI k)]) (st' := [bI i, .ref 0, bI (xs (i + 1).toNat).toInt, .ref 76]) l241_197 (fun _ => rfl) ?_
  refine b_s (pc' := 200) (lv1 := [(0, .ref 0), (1, .ref 1), (2, .ref 76), (3, .ref 112), (4, bI i), (5, bI k)]) (st' := [bI 2, bI i, .ref 0, bI (xs (i + 1).toNat).toInt, .ref 76]) l241_199 (fun _ => rfl) ?_
  refine b_iadd1 l241_200 (b_in (by omega) (by omega)) (b_pc (pc' := 201) rfl ?_)
  refine b_scr l241_201 ⟨by omega, by omega⟩ (by omega) (b_pc (pc' := 202) rfl ?_)
  refine b_s (pc' := 203) (lv1 := [(0, .ref 0), (1, .ref 1), (2, .ref 76), (3, .ref 112), (4, bI i), (5, bI k)]) (st' := [.ref 0, bI (xs (i + 2).toNat).toInt, bI (xs (i + 1).toNat).toInt, .ref 76]) l241_202 (fun _ => rfl) ?_
  refine b_s (pc' := 205) (lv1 := [(0, .ref 0), (1, .ref 1), (2, .ref 76), (3, .ref 112), (4, bI i), (5, bI k)]) (st' := [bI i, .ref 0, bI (xs (i + 2).toNat).toInt, bI (xs (i + 1).toNat).toInt, .ref 76]) l241_203 (fun _ => rfl) ?_
  refine b_s (pc' := 206) (lv1 := [(0, .ref 0), (1, .ref 1), (2, .ref 76), (3, .ref 112), (4, bI i), (5, bI k)]) (st' := [bI 3, bI i, .ref 0, bI (xs (i + 2).toNat).toInt, bI (xs (i + 1).toNat).toInt, .ref 76]) l241_205 (fun _ => rfl) ?_
  refine b_iadd1 l241_206 (b_in (by omega) (by omega)) (b_pc (pc' := 207) rfl ?_)
  refine b_scr l241_207 ⟨by omega, by omega⟩ (by omega) (b_pc (pc' := 208) rfl ?_)
  refine b_s (pc' := 209) (lv1 := [(0, .ref 0), (1, .ref 1), (2, .ref 76), (3, .ref 112), (4, bI i), (5, bI k)]) (st' := [.ref 0, bI (xs (i + 3).toNat).toInt, bI (xs (i + 2).toNat).toInt, bI (xs (i + 1).toNat).toInt, .ref 76]) l241_208 (fun _ => rfl) ?_
  refine b_s (pc' := 211) (lv1 := [(0, .ref 0), (1, .ref 1), (2, .ref 76), (3, .ref 112), (4, bI i), (5, bI k)]) (st' := [bI i, .ref 0, bI (xs (i + 3).toNat).toInt, bI (xs (i + 2).toNat).toInt, bI (xs (i + 1).toNat).toInt, .ref 76]) l241_209 (fun _ => rfl) ?_
  refine b_s (pc' := 212) (lv1 := [(0, .ref 0), (1, .ref 1), (2, .ref 76), (3, .ref 112), (4, bI i), (5, bI k)]) (st' := [bI 4, bI i, .ref 0, bI (xs (i + 3).toNat).toInt, bI (xs (i + 2).toNat).toInt, bI (xs (i + 1).toNat).toInt, .ref 76]) l241_211 (fun _ => rfl) ?_
  refine b_iadd1 l241_212 (b_in (by omega) (by omega)) (b_pc (pc' := 213) rfl ?_)
  refine b_scr l241_213 ⟨by omega, by omega⟩ (by omega) (b_pc (pc' := 214) rfl ?_)
  refine b_s (pc' := 215) (lv1 := [(0, .ref 0), (1, .ref 1), (2, .ref 76), (3, .ref 112), (4, bI i), (5, bI k)]) (st' := [.ref 0, bI (xs (i + 4).toNat).toInt, bI (xs (i + 3).toNat).toInt, bI (xs (i + 2).toNat).toInt, bI (xs (i + 1).toNat).toInt, .ref 76]) l241_214 (fun _ => rfl) ?_
  refine b_s (pc' := 217) (lv1 := [(0, .ref 0), (1, .ref 1), (2, .ref 76), (3, .ref 112), (4, bI i), (5, bI k)]) (st' := [bI i, .ref 0, bI (xs (i + 4).toNat).toInt, bI (xs (i + 3).toNat).toInt, bI (xs (i + 2).toNat).toInt, bI (xs (i + 1).toNat).toInt, .ref 76]) l241_215 (fun _ => rfl) ?_
  refine b_s (pc' := 218) (lv1 := [(0, .ref 0), (1, .ref 1), (2, .ref 76), (3, .ref 112), (4, bI i), (5, bI k)]) (st' := [bI 5, bI i, .ref 0, bI (xs (i + 4).toNat).toInt, bI (xs (i + 3).toNat).toInt, bI (xs (i + 2).toNat).toInt, bI (xs (i + 1).toNat).toInt, .ref 76]) l241_217 (fun _ => rfl) ?_
  refine b_iadd1 l241_218 (b_in (by omega) (by omega)) (b_pc (pc' := 219) rfl ?_)
  refine b_scr l241_219 ⟨by omega, by omega⟩ (by omega) (b_pc (pc' := 220) rfl ?_)
  refine b_cMki l241_220 rfl (b_rc (ci := 9) (by rfl) (by decide) (by decide +kernel)) (Nat.le_of_ble_eq_true rfl) (Nat.le_of_ble_eq_true rfl) rfl (r_X11_feed (xs (i + 1).toNat).toInt (bi_rg _) (xs (i + 2).toNat).toInt (bi_rg _) (xs (i + 3).toNat).toInt (bi_rg _) (xs (i + 4).toNat).toInt (bi_rg _) (xs (i + 5).toNat).toInt (bi_rg _)) hF2 fun hv2 => bD.ok fun hk2 => b_pc (pc' := 223) rfl ?_
  refine b_w (pc' := 225) (lv1 := ax_st1 [(0, .ref 0), (1, .ref 1), (2, .ref 76), (3, .ref 112), (4, bI i), (5, bI k)] 6 (bI b)) (lv' := [(0, .ref 0), (1, .ref 1), (2, .ref 76), (3, .ref 112), (4, bI i), (5, bI k), (6, bI b)]) (st' := []) l241_223 (fun _ => rfl) (bSb rfl (bSb rfl (bSb rfl (bSb rfl (bSb rfl (bSb rfl (bSb rfl bSn))))))) ?_
  refine b_s (pc' := 226) (lv1 := [(0, .ref 0), (1, .ref 1), (2, .ref 76), (3, .ref 112), (4, bI i), (5, bI k), (6, bI b)]) (st' := [.ref 76]) l241_225 (fun _ => rfl) ?_
  refine b_cPki (v := μ2 76 0) l241_226 rfl (b_rc (ci := 9) (by rfl) (by decide) (by decide +kernel)) (Nat.le_of_ble_eq_true rfl) (Nat.le_of_ble_eq_true rfl) rfl (r_X11_thrown ) rfl fun hw1 => b_pc (pc' := 229) rfl ?_
  refine b_s (pc' := 231) (lv1 := [(0, .ref 0), (1, .ref 1), (2, .ref 76), (3, .ref 112), (4, bI i), (5, bI k), (6, bI b)]) (st' := [bI k, bI (μ2 76 0)]) l241_229 (fun _ => rfl) ?_
  refine b_pos (c := (μ2 76 0) = k) (E1 := some (.inl 1, μf, c)) (E2 := none) (κ := some) hEQ ?_
  refine b_ieq (pt := 236) l241_231 hw1 hv1 (by decide) rfl (fun _ => ?_) (fun z => absurd hEQ z)
  refine b_s (pc' := 238) (lv1 := [(0, .ref 0), (1, .ref 1), (2, .ref 76), (3, .ref 112), (4, bI i), (5, bI k), (6, bI b)]) (st' := [bI k]) l241_236 (fun _ => rfl) ?_
  by_cases hk0 : k = 0
  · refine b_neg (c := ¬ k = 0) (E1 := none) (E2 := some (.inl 1, μf, c)) (κ := some) (fun z => z hk0) ?_
    refine b_zne (pt := 253) l241_238 hv1 (by decide) rfl (fun z => absurd hk0 z) (fun _ => b_pc (pc' := 241) rfl ?_)
    refine b_s (pc' := 242) (lv1 := [(0, .ref 0), (1, .ref 1), (2, .ref 76), (3, .ref 112), (4, bI i), (5, bI k), (6, bI b)]) (st' := [.ref 112]) l241_241 (fun _ => rfl) ?_
    refine b_s (pc' := 243) (lv1 := [(0, .ref 0), (1, .ref 1), (2, .ref 76), (3, .ref 112), (4, bI i), (5, bI k), (6, bI b)]) (st' := [bI 0, .ref 112]) l241_242 (fun _ => rfl) ?_
    refine b_lal l241_243 (by rfl) (by decide) (b_pc (pc' := 244) rfl ?_)
    refine b_s (pc' := 246) (lv1 := [(0, .ref 0), (1, .ref 1), (2, .ref 76), (3, .ref 112), (4, bI i), (5, bI k), (6, bI b)]) (st' := [bI b, bLg (μ2 112 0)]) l241_244 (fun _ => rfl) ?_
    refine b_i2l l241_246 hv2 (b_pc (pc' := 247) rfl ?_)
    refine b_lcmp l241_247 (bO_l hk2 (show bSh 112 = (2, 1) from rfl)) (bR_L hv2) (b_pc (pc' := 248) rfl ?_)
    refine b_pos (c := (bCmp (μ2 112 0) b) = 0) (E1 := some (.inl 1, μf, c)) (E2 := none) (κ := some) (bCmp_0 (ho hk0)) ?_
    refine b_zeq (pt := 253) l241_248 (bCmp_R _ _) (by decide) rfl (fun _ => ?_) (fun z => absurd (bCmp_0 (ho hk0)) z)
    refine b_s (pc' := 1655) (lv1 := [(0, .ref 0), (1, .ref 1), (2, .ref 76), (3, .ref 112), (4, bI i), (5, bI k), (6, bI b)]) (st' := []) l241_253 (fun _ => rfl) ?_
    refine b_inc1 (lv' := [(0, .ref 0), (1, .ref 1), (2, .ref 76), (3, .ref 112), (4, bI (i + 6))]) l241_1655 rfl (by decide +kernel) (bSb rfl (bSb rfl (bSb rfl (bSb rfl (bSb rfl bSn))))) (b_in (by omega) (by omega)) (b_pc (pc' := 1658) rfl ?_)
    refine b_s (pc' := 23) (lv1 := [(0, .ref 0), (1, .ref 1), (2, .ref 76), (3, .ref 112), (4, bI (i + 6))]) (st' := []) l241_1658 (fun _ => rfl) ?_
    exact kont
  · refine b_pos (c := ¬ k = 0) (E1 := some (.inl 1, μf, c)) (E2 := none) (κ := some) hk0 ?_
    refine b_zne (pt := 253) l241_238 hv1 (by decide) rfl (fun _ => ?_) (fun z => absurd hk0 z)
    refine b_s (pc' := 1655) (lv1 := [(0, .ref 0), (1, .ref 1), (2, .ref 76), (3, .ref 112), (4, bI i), (5, bI k), (6, bI b)]) (st' := []) l241_253 (fun _ => rfl) ?_
    refine b_inc1 (lv' := [(0, .ref 0), (1, .ref 1), (2, .ref 76), (3, .ref 112), (4, bI (i + 6))]) l241_1655 rfl (by decide +kernel) (bSb rfl (bSb rfl (bSb rfl (bSb rfl (bSb rfl bSn))))) (b_in (by omega) (by omega)) (b_pc (pc' := 1658) rfl ?_)
    refine b_s (pc' := 23) (lv1 := [(0, .ref 0), (1, .ref 1), (2, .ref 76), (3, .ref 112), (4, bI (i + 6))]) (st' := []) l241_1658 (fun _ => rfl) ?_
    exact kont
theorem g_1 {L : Nat} {xs : Nat → Int32} {i k b : Int} {c n1 : Nat} {μ μ1 μ2 μf : bM} (hL : L ≤ 3072) (hi : 0 ≤ i ∧ i + 6 ≤ (L : Int)) (hop : bAnd (xs i.toNat).toInt 31 = 1) (hF1 : F_L_end (xs (i + 1).toNat).toInt μ = some (k, μ1, n1)) (hF2 : F_X11_end (xs (i + 1).toNat).toInt μ1 = some (b, μ2)) (hEQ : μ2 76 0 = k) (kont : bD L xs 9 241 23 [(0, .ref 0), (1, .ref 1), (2, .ref 76), (3, .ref 112), (4, bI (i + 6))] [] μ2 (some (.inl 1, μf, c))) : bD L xs 9 241 23 [(0, .ref 0), (1, .ref 1), (2, .ref 76), (3, .ref 112), (4, bI i)] [] μ (some (.inl 1, μf, (c + n1))) := by
  have hiR : bR i := b_in (by omega) (by omega)
  refine bD.ok fun hk => ?_
  refine b_s (pc' := 25) (lv1 := [(0, .ref 0), (1, .ref 1), (2, .ref 76), (3, .ref 112), (4, bI i)]) (st' := [bI i]) l241_23 (fun _ => rfl) ?_
  refine b_s (pc' := 26) (lv1 := [(0, .ref 0), (1, .ref 1), (2, .ref 76), (3, .ref 112), (4, bI i)]) (st' := [.ref 0, bI i]) l241_25 (fun _ => rfl) ?_
  refine b_scl l241_26 (b_pc (pc' := 27) rfl ?_)
  refine b_bipush l241_27 (by decide) (b_pc (pc' := 29) rfl ?_)
  refine b_isub1 l241_29 (b_in (by omega) (by omega)) (b_pc (pc' := 30) rfl ?_)
  refine b_neg (c := ((L : Int) - 6) < i) (E1 := none) (E2 := some (.inl 1, μf, (c + n1))) (κ := some) (by omega) ?_
  refine b_igt (pt := 1661) l241_30 hiR (b_in (by omega) (by omega)) (by decide) rfl (fun z => absurd z (by omega)) (fun _ => b_pc (pc' := 33) rfl ?_)
  refine b_s (pc' := 34) (lv1 := [(0, .ref 0), (1, .ref 1), (2, .ref 76), (3, .ref 112), (4, bI i)]) (st' := [.ref 0]) l241_33 (fun _ => rfl) ?_
  refine b_s (pc' := 36) (lv1 := [(0, .ref 0), (1, .ref 1), (2, .ref 76), (3, .ref 112), (4, bI i)]) (st' := [bI i, .ref 0]) l241_34 (fun _ => rfl) ?_
  refine b_scr l241_36 ⟨by omega, by omega⟩ (by omega) (b_pc (pc' := 37) rfl ?_)
  refine b_bipush l241_37 (by decide) (b_pc (pc' := 39) rfl ?_)
  refine b_iand l241_39 (b_pc (pc' := 40) rfl ?_)
  refine b_tsw l241_40 (bi_rg _) (by decide) (by decide) (by decide) ?_
  refine b_pc (pc' := bTg [(0, 152), (1, 256), (2, 292), (3, 348), (4, 416), (5, 540), (6, 620), (7, 712), (8, 725), (9, 738), (10, 794), (11, 862), (12, 918), (13, 998), (14, 1011), (15, 1067), (16, 1123), (17, 1191), (18, 1259), (19, 1315), (20, 1395), (21, 1462), (22, 1542), (23, 1598)] 1655 (bAnd (xs i.toNat).toInt 31)) rfl ?_
  refine b_pc (pc' := 256) (by rw [hop]; rfl) ?_
  refine b_s (pc' := 257) (lv1 := [(0, .ref 0), (1, .ref 1), (2, .ref 76), (3, .ref 112), (4, bI i)]) (st' := [.ref 1]) l241_256 (fun _ => rfl) ?_
  refine b_s (pc' := 258) (lv1 := [(0, .ref 0), (1, .ref 1), (2, .ref 76), (3, .ref 112), (4, bI i)]) (st' := [.ref 0, .ref 1]) l241_257 (fun _ => rfl) ?_
  refine b_s (pc' := 260) (lv1 := [(0, .ref 0), (1, .ref 1), (2, .ref 76), (3, .ref 112), (4, bI i)]) (st' := [bI i, .ref 0, .ref 1]) l241_258 (fun _ => rfl) ?_
  refine b_s (pc' := 261) (lv1 := [(0, .ref 0), (1, .ref 1), (2, .ref 76), (3, .ref 112), (4, bI i)]) (st' := [bI 1, bI i, .ref 0, .ref 1]) l241_260 (fun _ => rfl) ?_
  refine b_iadd1 l241_261 (b_in (by omega) (by omega)) (b_pc (pc' := 262) rfl ?_)
  refine b_scr l241_262 ⟨by omega, by omega⟩ (by omega) (b_pc (pc' := 263) rfl ?_)
  refine b_cKki l241_263 rfl (fun _ => trivial) (Nat.le_of_ble_eq_true rfl) (Nat.le_of_ble_eq_true rfl) rfl (r_L_end (xs (i + 1).toNat).toInt (bi_rg _)) hF1 fun hv1 => bD.ok fun hk1 => b_pc (pc' := 266) rfl ?_
  refine b_w (pc' := 268) (lv1 := ax_st1 [(0, .ref 0), (1, .ref 1), (2, .ref 76), (3, .ref 112), (4, bI i)] 5 (bI k)) (lv' := [(0, .ref 0), (1, .ref 1), (2, .ref 76), (3, .ref 112), (4, bI i), (5, bI k)]) (st' := []) l241_266 (fun _ => rfl) (bSb rfl (bSb rfl (bSb rfl (bSb rfl (bSb rfl (bSb rfl bSn)))))) ?_
  refine b_s (pc' := 269) (lv1 := [(0, .ref 0), (1, .ref 1), (2, .ref 76), (3, .ref 112), (4, bI i), (5, bI k)]) (st' := [.ref 76]) l241_268 (fun _ => rfl) ?_
  refine b_s (pc' := 270) (lv1 := [(0, .ref 0), (1, .ref 1), (2, .ref 76), (3, .ref 112), (4, bI i), (5, bI k)]) (st' := [.ref 0, .ref 76]) l241_269 (fun _ => rfl) ?_
  refine b_s (pc' := 272) (lv1 := [(0, .ref 0), (1, .ref 1), (2, .ref 76), (3, .ref 112), (4, bI i), (5, bI k)]) (st' := [bI i, .ref 0, .ref 76]) l241_270 (fun _ => rfl) ?_
  refine b_s (pc' := 273) (lv1 := [(0, .ref 0), (1, .ref 1), (2, .ref 76), (3, .ref 112), (4, bI i), (5, bI k)]) (st' := [bI 1, bI i, .ref 0, .ref 76]) l241_272 (fun _ => rfl) ?_
  refine b_iadd1 l241_273 (b_in (by omega) (by omega)) (b_pc (pc' := 274) rfl ?_)
  refine b_scr l241_274 ⟨by omega, by omega⟩ (by omega) (b_pc (pc' := 275) rfl ?_)
  refine b_cMkv l241_275 rfl (b_rc (ci := 9) (by rfl) (by decide) (by decide +kernel)) (Nat.le_of_ble_eq_true rfl) (Nat.le_of_ble_eq_true rfl) rfl (r_X11_end (xs (i + 1).toNat).toInt (bi_rg _)) hF2 fun hv2 => bD.ok fun hk2 => b_pc (pc' := 278) rfl ?_
  refine b_s (pc' := 279) (lv1 := [(0, .ref 0), (1, .ref 1), (2, .ref 76), (3, .ref 112), (4, bI i), (5, bI k)]) (st' := [.ref 76]) l241_278 (fun _ => rfl) ?_
  refine b_cPki (v := μ2 76 0) l241_279 rfl (b_rc (ci := 9) (by rfl) (by decide) (by decide +kernel)) (Nat.le_of_ble_eq_true rfl) (Nat.le_of_ble_eq_true rfl) rfl (r_X11_thrown ) rfl fun hw1 => b_pc (pc' := 282) rfl ?_
  refine b_s (pc' := 284) (lv1 := [(0, .ref 0), (1, .ref 1), (2, .ref 76), (3, .ref 112), (4, bI i), (5, bI k)]) (st' := [bI k, bI (μ2 76 0)]) l241_282 (fun _ => rfl) ?_
  refine b_pos (c := (μ2 76 0) = k) (E1 := some (.inl 1, μf, c)) (E2 := none) (κ := some) hEQ ?_
  refine b_ieq (pt := 289) l241_284 hw1 hv1 (by decide) rfl (fun _ => ?_) (fun z => absurd hEQ z)
  refine b_s (pc' := 1655) (lv1 := [(0, .ref 0), (1, .ref 1), (2, .ref 76), (3, .ref 112), (4, bI i), (5, bI k)]) (st' := []) l241_289 (fun _ => rfl) ?_
  refine b_inc1 (lv' := [(0, .ref 0), (1, .ref 1), (2, .ref 76), (3, .ref 112), (4, bI (i + 6))]) l241_1655 rfl (by decide +kernel) (bSb rfl (bSb rfl (bSb rfl (bSb rfl (bSb rfl bSn))))) (b_in (by omega) (by omega)) (b_pc (pc' := 1658) rfl ?_)
  refine b_s (pc' := 23) (lv1 := [(0, .ref 0), (1, .ref 1), (2, .ref 76), (3, .ref 112), (4, bI (i + 6))]) (st' := []) l241_1658 (fun _ => rfl) ?_
  exact kont
theorem g_2 {L : Nat} {xs : Nat → Int32} {i k b : Int} {c n1 : Nat} {μ μ1 μ2 μf : bM} (hL : L ≤ 3072) (hi : 0 ≤ i ∧ i + 6 ≤ (L : Int)) (hop : bAnd (xs i.toNat).toInt 31 = 2) (hF1 : F_L_unit (xs (i + 1).toNat).toInt μ = some (k, μ1, n1)) (hF2 : F_X11_unit (xs (i + 1).toNat).toInt μ1 = some (b, μ2)) (hEQ : μ2 76 0 = k) (ho : k = 0 → μ2 112 0 = b) (kont : bD L xs 9 241 23 [(0, .ref 0), (1, .ref 1), (2, .ref 76), (3, .ref 112), (4, bI (i + 6))] [] μ2 (some (.inl 1, μf, c))) : bD L xs 9 241 23 [(0, .ref 0), (1, .ref 1), (2, .ref 76), (3, .ref 112), (4, bI i)] [] μ (some (.inl 1, μf, (c + n1))) := by
  have hiR : bR i := b_in (by omega) (by omega)
  refine bD.ok fun hk => ?_
  refine b_s (pc' := 25) (lv1 := [(0, .ref 0), (1, .ref 1), (2, .ref 76), (3, .ref 112), (4, bI i)]) (st' := [bI i]) l241_23 (fun _ => rfl) ?_
  refine b_s (pc' := 26) (lv1 := [(0, .ref 0), (1, .ref 1), (2, .ref 76), (3, .ref 112), (4, bI i)]) (st' := [.ref 0, bI i]) l241_25 (fun _ => rfl) ?_
  refine b_scl l241_26 (b_pc (pc' := 27) rfl ?_)
  refine b_bipush l241_27 (by decide) (b_pc (pc' := 29) rfl ?_)
  refine b_isub1 l241_29 (b_in (by omega) (by omega)) (b_pc (pc' := 30) rfl ?_)
  refine b_neg (c := ((L : Int) - 6) < i) (E1 := none) (E2 := some (.inl 1, μf, (c + n1))) (κ := some) (by omega) ?_
  refine b_igt (pt := 1661) l241_30 hiR (b_in (by omega) (by omega)) (by decide) rfl (fun z => absurd z (by omega)) (fun _ => b_pc (pc' := 33) rfl ?_)
  refine b_s (pc' := 34) (lv1 := [(0, .ref 0), (1, .ref 1), (2, .ref 76), (3, .ref 112), (4, bI i)]) (st' := [.ref 0]) l241_33 (fun _ => rfl) ?_
  refine b_s (pc' := 36) (lv1 := [(0, .ref 0), (1, .ref 1), (2, .ref 76), (3, .ref 112), (4, bI i)]) (st' := [bI i, .ref 0]) l241_34 (fun _ => rfl) ?_
  refine b_scr l241_36 ⟨by omega, by omega⟩ (by omega) (b_pc (pc' := 37) rfl ?_)
  refine b_bipush l241_37 (by decide) (b_pc (pc' := 39) rfl ?_)
  refine b_iand l241_39 (b_pc (pc' := 40) rfl ?_)
  refine b_tsw l241_40 (bi_rg _) (by decide) (by decide) (by decide) ?_
  refine b_pc (pc' := bTg [(0, 152), (1, 256), (2, 292), (3, 348), (4, 416), (5, 540), (6, 620), (7, 712), (8, 725), (9, 738), (10, 794), (11, 862), (12, 918), (13, 998), (14, 1011), (15, 1067), (16, 1123), (17, 1191), (18, 1259), (19, 1315), (20, 1395), (21, 1462), (22, 1542), (23, 1598)] 1655 (bAnd (xs i.toNat).toInt 31)) rfl ?_
  refine b_pc (pc' := 292) (by rw [hop]; rfl) ?_
  refine b_s (pc' := 293) (lv1 := [(0, .ref 0), (1, .ref 1), (2, .ref 76), (3, .ref 112), (4, bI i)]) (st' := [.ref 1]) l241_292 (fun _ => rfl) ?_
  refine b_s (pc' := 294) (lv1 := [(0, .ref 0), (1, .ref 1), (2, .ref 76), (3, .ref 112), (4, bI i)]) (st' := [.ref 0, .ref 1]) l241_293 (fun _ => rfl) ?_
  refine b_s (pc' := 296) (lv1 := [(0, .ref 0), (1, .ref 1), (2, .ref 76), (3, .ref 112), (4, bI i)]) (st' := [bI i, .ref 0, .ref 1]) l241_294 (fun _ => rfl) ?_
  refine b_s (pc' := 297) (lv1 := [(0, .ref 0), (1, .ref 1), (2, .ref 76), (3, .ref 112), (4, bI i)]) (st' := [bI 1, bI i, .ref 0, .ref 1]) l241_296 (fun _ => rfl) ?_
  refine b_iadd1 l241_297 (b_in (by omega) (by omega)) (b_pc (pc' := 298) rfl ?_)
  refine b_scr l241_298 ⟨by omega, by omega⟩ (by omega) (b_pc (pc' := 299) rfl ?_)
  refine b_s (pc' := 300) (lv1 := [(0, .ref 0), (1, .ref 1), (2, .ref 76), (3, .ref 112), (4, bI i)]) (st' := [.ref 112, bI (xs (i + 1).toNat).toInt, .ref 1]) l241_299 (fun _ => rfl) ?_
  refine b_cKki l241_300 rfl (fun _ => trivial) (Nat.le_of_ble_eq_true rfl) (Nat.le_of_ble_eq_true rfl) rfl (r_L_unit (xs (i + 1).toNat).toInt (bi_rg _)) hF1 fun hv1 => bD.ok fun hk1 => b_pc (pc' := 303) rfl ?_
  refine b_w (pc' := 305) (lv1 := ax_st1 [(0, .ref 0), (1, .ref 1), (2, .ref 76), (3, .ref 112), (4, bI i)] 5 (bI k)) (lv' := [(0, .ref 0), (1, .ref 1), (2, .ref 76), (3, .ref 112), (4, bI i), (5, bI k)]) (st' := []) l241_303 (fun _ => rfl) (bSb rfl (bSb rfl (bSb rfl (bSb rfl (bSb rfl (bSb rfl bSn)))))) ?_
  refine b_s (pc' := 306) (lv1 := [(0, .ref 0), (1, .ref 1), (2, .ref 76), (3, .ref 112), (4, bI i), (5, bI k)]) (st' := [.ref 76]) l241_305 (fun _ => rfl) ?_
  refine b_s (pc' := 307) (lv1 := [(0, .ref 0), (1, .ref 1), (2, .ref 76), (3, .ref 112), (4, bI i), (5, bI k)]) (st' := [.ref 0, .ref 76]) l241_306 (fun _ => rfl) ?_
  refine b_s (pc' := 309) (lv1 := [(0, .ref 0), (1, .ref 1), (2, .ref 76), (3, .ref 112), (4, bI i), (5, bI k)]) (st' := [bI i, .ref 0, .ref 76]) l241_307 (fun _ => rfl) ?_
  refine b_s (pc' := 310) (lv1 := [(0, .ref 0), (1, .ref 1), (2, .ref 76), (3, .ref 112), (4, bI i), (5, bI k)]) (st' := [bI 1, bI i, .ref 0, .ref 76]) l241_309 (fun _ => rfl) ?_
  refine b_iadd1 l241_310 (b_in (by omega) (by omega)) (b_pc (pc' := 311) rfl ?_)
  refine b_scr l241_311 ⟨by omega, by omega⟩ (by omega) (b_pc (pc' := 312) rfl ?_)
  refine b_cMki l241_312 rfl (b_rc (ci := 9) (by rfl) (by decide) (by decide +kernel)) (Nat.le_of_ble_eq_true rfl) (Nat.le_of_ble_eq_true rfl) rfl (r_X11_unit (xs (i + 1).toNat).toInt (bi_rg _)) hF2 fun hv2 => bD.ok fun hk2 => b_pc (pc' := 315) rfl ?_
  refine b_w (pc' := 317) (lv1 := ax_st1 [(0, .ref 0), (1, .ref 1), (2, .ref 76), (3, .ref 112), (4, bI i), (5, bI k)] 6 (bI b)) (lv' := [(0, .ref 0), (1, .ref 1), (2, .ref 76), (3, .ref 112), (4, bI i), (5, bI k), (6, bI b)]) (st' := []) l241_315 (fun _ => rfl) (bSb rfl (bSb rfl (bSb rfl (bSb rfl (bSb rfl (bSb rfl (bSb rfl bSn))))))) ?_
  refine b_s (pc' := 318) (lv1 := [(0, .ref 0), (1, .ref 1), (2, .ref 76), (3, .ref 112), (4, bI i), (5, bI k), (6, bI b)]) (st' := [.ref 76]) l241_317 (fun _ => rfl) ?_
  refine b_cPki (v := μ2 76 0) l241_318 rfl (b_rc (ci := 9) (by rfl) (by decide) (by decide +kernel)) (Nat.le_of_ble_eq_true rfl) (Nat.le_of_ble_eq_true rfl) rfl (r_X11_thrown ) rfl fun hw1 => b_pc (pc' := 321) rfl ?_
  refine b_s (pc' := 323) (lv1 := [(0, .ref 0), (1, .ref 1), (2, .ref 76), (3, .ref 112), (4, bI i), (5, bI k), (6, bI b)]) (st' := [bI k, bI (μ2 76 0)]) l241_321 (fun _ => rfl) ?_
  refine b_pos (c := (μ2 76 0) = k) (E1 := some (.inl 1, μf, c)) (E2 := none) (κ := some) hEQ ?_
  refine b_ieq (pt := 328) l241_323 hw1 hv1 (by decide) rfl (fun _ => ?_) (fun z => absurd hEQ z)
  refine b_s (pc' := 330) (lv1 := [(0, .ref 0), (1, .ref 1), (2, .ref 76), (3, .ref 112), (4, bI i), (5, bI k), (6, bI b)]) (st' := [bI k]) l241_328 (fun _ => rfl) ?_
  by_cases hk0 : k = 0
  · refine b_neg (c := ¬ k = 0) (E1 := none) (E2 := some (.inl 1, μf, c)) (κ := some) (fun z => z hk0) ?_
    refine b_zne (pt := 345) l241_330 hv1 (by decide) rfl (fun z => absurd hk0 z) (fun _ => b_pc (pc' := 333) rfl ?_)
    refine b_s (pc' := 334) (lv1 := [(0, .ref 0), (1, .ref 1), (2, .ref 76), (3, .ref 112), (4, bI i), (5, bI k), (6, bI b)]) (st' := [.ref 112]) l241_333 (fun _ => rfl) ?_
    refine b_s (pc' := 335) (lv1 := [(0, .ref 0), (1, .ref 1), (2, .ref 76), (3, .ref 112), (4, bI i), (5, bI k), (6, bI b)]) (st' := [bI 0, .ref 112]) l241_334 (fun _ => rfl) ?_
    refine b_lal l241_335 (by rfl) (by decide) (b_pc (pc' := 336) rfl ?_)
    refine b_s (pc' := 338) (lv1 := [(0, .ref 0), (1, .ref 1), (2, .ref 76), (3, .ref 112), (4, bI i), (5, bI k), (6, bI b)]) (st' := [bI b, bLg (μ2 112 0)]) l241_336 (fun _ => rfl) ?_
    refine b_i2l l241_338 hv2 (b_pc (pc' := 339) rfl ?_)
    refine b_lcmp l241_339 (bO_l hk2 (show bSh 112 = (2, 1) from rfl)) (bR_L hv2) (b_pc (pc' := 340) rfl ?_)
    refine b_pos (c := (bCmp (μ2 112 0) b) = 0) (E1 := some (.inl 1, μf, c)) (E2 := none) (κ := some) (bCmp_0 (ho hk0)) ?_
    refine b_zeq (pt := 345) l241_340 (bCmp_R _ _) (by decide) rfl (fun _ => ?_) (fun z => absurd (bCmp_0 (ho hk0)) z)
    refine b_s (pc' := 1655) (lv1 := [(0, .ref 0), (1, .ref 1), (2, .ref 76), (3, .ref 112), (4, bI i), (5, bI k), (6, bI b)]) (st' := []) l241_345 (fun _ => rfl) ?_
    refine b_inc1 (lv' := [(0, .ref 0), (1, .ref 1), (2, .ref 76), (3, .ref 112), (4, bI (i + 6))]) l241_1655 rfl (by decide +kernel) (bSb rfl (bSb rfl (bSb rfl (bSb rfl (bSb rfl bSn))))) (b_in (by omega) (by omega)) (b_pc (pc' := 1658) rfl ?_)
    refine b_s (pc' := 23) (lv1 := [(0, .ref 0), (1, .ref 1), (2, .ref 76), (3, .ref 112), (4, bI (i + 6))]) (st' := []) l241_1658 (fun _ => rfl) ?_
    exact kont
  · refine b_pos (c := ¬ k = 0) (E1 := some (.inl 1, μf, c)) (E2 := none) (κ := some) hk0 ?_
    refine b_zne (pt := 345) l241_330 hv1 (by decide) rfl (fun _ => ?_) (fun z => absurd hk0 z)
    refine b_s (pc' := 1655) (lv1 := [(0, .ref 0), (1, .ref 1), (2, .ref 76), (3, .ref 112), (4, bI i), (5, bI k), (6, bI b)]) (st' := []) l241_345 (fun _ => rfl) ?_
    refine b_inc1 (lv' := [(0, .ref 0), (1, .ref 1), (2, .ref 76), (3, .ref 112), (4, bI (i + 6))]) l241_1655 rfl (by decide +kernel) (bSb rfl (bSb rfl (bSb rfl (bSb rfl (bSb rfl bSn))))) (b_in (by omega) (by omega)) (b_pc (pc' := 1658) rfl ?_)
    refine b_s (pc' := 23) (lv1 := [(0, .ref 0), (1, .ref 1), (2, .ref 76), (3, .ref 112), (4, bI (i + 6))]) (st' := []) l241_1658 (fun _ => rfl) ?_
    exact kont
theorem g_3 {L : Nat} {xs : Nat → Int32} {i k b : Int} {c n1 : Nat} {μ μ1 μ2 μf : bM} (hL : L ≤ 3072) (hi : 0 ≤ i ∧ i + 6 ≤ (L : Int)) (hop : bAnd (xs i.toNat).toInt 31 = 3) (hF1 : F_L_entry (xs (i + 1).toNat).toInt (xs (i + 2).toNat).toInt μ = some (k, μ1, n1)) (hF2 : F_X11_entry (xs (i + 1).toNat).toInt (xs (i + 2).toNat).toInt μ1 = some (b, μ2)) (hEQ : μ2 76 0 = k) (ho : k = 0 → μ2 112 0 = b) (kont : bD L xs 9 241 23 [(0, .ref 0), (1, .ref 1), (2, .ref 76), (3, .ref 112), (4, bI (i + 6))] [] μ2 (some (.inl 1, μf, c))) : bD L xs 9 241 23 [(0, .ref 0), (1, .ref 1), (2, .ref 76), (3, .ref 112), (4, bI i)] [] μ (some (.inl 1, μf, (c + n1))) := by
  have hiR : bR i := b_in (by omega) (by omega)
  refine bD.ok fun hk => ?_
  refine b_s (pc' := 25) (lv1 := [(0, .ref 0), (1, .ref 1), (2, .ref 76), (3, .ref 112), (4, bI i)]) (st' := [bI i]) l241_23 (fun _ => rfl) ?_
  refine b_s (pc' := 26) (lv1 := [(0, .ref 0), (1, .ref 1), (2, .ref 76), (3, .ref 112), (4, bI i)]) (st' := [.ref 0, bI i]) l241_25 (fun _ => rfl) ?_
  refine b_scl l241_26 (b_pc (pc' := 27) rfl ?_)
  refine b_bipush l241_27 (by decide) (b_pc (pc' := 29) rfl ?_)
  refine b_isub1 l241_29 (b_in (by omega) (by omega)) (b_pc (pc' := 30) rfl ?_)
  refine b_neg (c := ((L : Int) - 6) < i) (E1 := none) (E2 := some (.inl 1, μf, (c + n1))) (κ := some) (by omega) ?_
  refine b_igt (pt := 1661) l241_30 hiR (b_in (by omega) (by omega)) (by decide) rfl (fun z => absurd z (by omega)) (fun _ => b_pc (pc' := 33) rfl ?_)
  refine b_s (pc' := 34) (lv1 := [(0, .ref 0), (1, .ref 1), (2, .ref 76), (3, .ref 112), (4, bI i)]) (st' := [.ref 0]) l241_33 (fun _ => rfl) ?_
  refine b_s (pc' := 36) (lv1 := [(0, .ref 0), (1, .ref 1), (2, .ref 76), (3, .ref 112), (4, bI i)]) (st' := [bI i, .ref 0]) l241_34 (fun _ => rfl) ?_
  refine b_scr l241_36 ⟨by omega, by omega⟩ (by omega) (b_pc (pc' := 37) rfl ?_)
  refine b_bipush l241_37 (by decide) (b_pc (pc' := 39) rfl ?_)
  refine b_iand l241_39 (b_pc (pc' := 40) rfl ?_)
  refine b_tsw l241_40 (bi_rg _) (by decide) (by decide) (by decide) ?_
  refine b_pc (pc' := bTg [(0, 152), (1, 256), (2, 292), (3, 348), (4, 416), (5, 540), (6, 620), (7, 712), (8, 725), (9, 738), (10, 794), (11, 862), (12, 918), (13, 998), (14, 1011), (15, 1067), (16, 1123), (17, 1191), (18, 1259), (19, 1315), (20, 1395), (21, 1462), (22, 1542), (23, 1598)] 1655 (bAnd (xs i.toNat).toInt 31)) rfl ?_
  refine b_pc (pc' := 348) (by rw [hop]; rfl) ?_
  refine b_s (pc' := 349) (lv1 := [(0, .ref 0), (1, .ref 1), (2, .ref 76), (3, .ref 112), (4, bI i)]) (st' := [.ref 1]) l241_348 (fun _ => rfl) ?_
  refine b_s (pc' := 350) (lv1 := [(0, .ref 0), (1, .ref 1), (2, .ref 76), (3, .ref 112), (4, bI i)]) (st' := [.ref 0, .ref 1]) l241_349 (fun _ => rfl) ?_
  refine b_s (pc' := 352) (lv1 := [(0, .ref 0), (1, .ref 1), (2, .ref 76), (3, .ref 112), (4, bI i)]) (st' := [bI i, .ref 0, .ref 1]) l241_350 (fun _ => rfl) ?_
  refine b_s (pc' := 353) (lv1 := [(0, .ref 0), (1, .ref 1), (2, .ref 76), (3, .ref 112), (4, bI i)]) (st' := [bI 1, bI i, .ref 0, .ref 1]) l241_352 (fun _ => rfl) ?_
  refine b_iadd1 l241_353 (b_in (by omega) (by omega)) (b_pc (pc' := 354) rfl ?_)
  refine b_scr l241_354 ⟨by omega, by omega⟩ (by omega) (b_pc (pc' := 355) rfl ?_)
  refine b_s (pc' := 356) (lv1 := [(0, .ref 0), (1, .ref 1), (2, .ref 76), (3, .ref 112), (4, bI i)]) (st' := [.ref 0, bI (xs (i + 1).toNat).toInt, .ref 1]) l241_355 (fun _ => rfl) ?_
  refine b_s (pc' := 358) (lv1 := [(0, .ref 0), (1, .ref 1), (2, .ref 76), (3, .ref 112), (4, bI i)]) (st' := [bI i, .ref 0, bI (xs (i + 1).toNat).toInt, .ref 1]) l241_356 (fun _ => rfl) ?_
  refine b_s (pc' := 359) (lv1 := [(0, .ref 0), (1, .ref 1), (2, .ref 76), (3, .ref 112), (4, bI i)]) (st' := [bI 2, bI i, .ref 0, bI (xs (i + 1).toNat).toInt, .ref 1]) l241_358 (fun _ => rfl) ?_
  refine b_iadd1 l241_359 (b_in (by omega) (by omega)) (b_pc (pc' := 360) rfl ?_)
  refine b_scr l241_360 ⟨by omega, by omega⟩ (by omega) (b_pc (pc' := 361) rfl ?_)
  refine b_s (pc' := 362) (lv1 := [(0, .ref 0), (1, .ref 1), (2, .ref 76), (3, .ref 112), (4, bI i)]) (st' := [.ref 112, bI (xs (i + 2).toNat).toInt, bI (xs (i + 1).toNat).toInt, .ref 1]) l241_361 (fun _ => rfl) ?_
  refine b_cKki l241_362 rfl (fun _ => trivial) (Nat.le_of_ble_eq_true rfl) (Nat.le_of_ble_eq_true rfl) rfl (r_L_entry (xs (i + 1).toNat).toInt (bi_rg _) (xs (i + 2).toNat).toInt (bi_rg _)) hF1 fun hv1 => bD.ok fun hk1 => b_pc (pc' := 365) rfl ?_
  refine b_w (pc' := 367) (lv1 := ax_st1 [(0, .ref 0), (1, .ref 1), (2, .ref 76), (3, .ref 112), (4, bI i)] 5 (bI k)) (lv' := [(0, .ref 0), (1, .ref 1), (2, .ref 76), (3, .ref 112), (4, bI i), (5, bI k)]) (st' := []) l241_365 (fun _ => rfl) (bSb rfl (bSb rfl (bSb rfl (bSb rfl (bSb rfl (bSb rfl bSn)))))) ?_
  refine b_s (pc' := 368) (lv1 := [(0, .ref 0), (1, .ref 1), (2, .ref 76), (3, .ref 112), (4, bI i), (5, bI k)]) (st' := [.ref 76]) l241_367 (fun _ => rfl) ?_
  refine b_s (pc' := 369) (lv1 := [(0, .ref 0), (1, .ref 1), (2, .ref 76), (3, .ref 112), (4, bI i), (5, bI k)]) (st' := [.ref 0, .ref 76]) l241_368 (fun _ => rfl) ?_
  refine b_s (pc' := 371) (lv1 := [(0, .ref 0), (1, .ref 1), (2, .ref 76), (3, .ref 112), (4, bI i), (5, bI k)]) (st' := [bI i, .ref 0, .ref 76]) l241_369 (fun _ => rfl) ?_
  refine b_s (pc' := 372) (lv1 := [(0, .ref 0), (1, .ref 1), (2, .ref 76), (3, .ref 112), (4, bI i), (5, bI k)]) (st' := [bI 1, bI i, .ref 0, .ref 76]) l241_371 (fun _ => rfl) ?_
  refine b_iadd1 l241_372 (b_in (by omega) (by omega)) (b_pc (pc' := 373) rfl ?_)
  refine b_scr l241_373 ⟨by omega, by omega⟩ (by omega) (b_pc (pc' := 374) rfl ?_)
  refine b_s (pc' := 375) (lv1 := [(0, .ref 0), (1, .ref 1), (2, .ref 76), (3, .ref 112), (4, bI i), (5, bI k)]) (st' := [.ref 0, bI (xs (i + 1).toNat).toInt, .ref 76]) l241_374 (fun _ => rfl) ?_
  refine b_s (pc' := 377) (lv1 := [(0, .ref 0), (1, .ref 1), (2, .ref 76), (3, .ref 112), (4, bI i), (5, bI k)]) (st' := [bI i, .ref 0, bI (xs (i + 1).toNat).toInt, .ref 76]) l241_375 (fun _ => rfl) ?_
  refine b_s (pc' := 378) (lv1 := [(0, .ref 0), (1, .ref 1), (2, .ref 76), (3, .ref 112), (4, bI i), (5, bI k)]) (st' := [bI 2, bI i, .ref 0, bI (xs (i + 1).toNat).toInt, .ref 76]) l241_377 (fun _ => rfl) ?_
  refine b_iadd1 l241_378 (b_in (by omega) (by omega)) (b_pc (pc' := 379) rfl ?_)
  refine b_scr l241_379 ⟨by omega, by omega⟩ (by omega) (b_pc (pc' := 380) rfl ?_)
  refine b_cMki l241_380 rfl (b_rc (ci := 9) (by rfl) (by decide) (by decide +kernel)) (Nat.le_of_ble_eq_true rfl) (Nat.le_of_ble_eq_true rfl) rfl (r_X11_entry (xs (i + 1).toNat).toInt (bi_rg _) (xs (i + 2).toNat).toInt (bi_rg _)) hF2 fun hv2 => bD.ok fun hk2 => b_pc (pc' := 383) rfl ?_
  refine b_w (pc' := 385) (lv1 := ax_st1 [(0, .ref 0), (1, .ref 1), (2, .ref 76), (3, .ref 112), (4, bI i), (5, bI k)] 6 (bI b)) (lv' := [(0, .ref 0), (1, .ref 1), (2, .ref 76), (3, .ref 112), (4, bI i), (5, bI k), (6, bI b)]) (st' := []) l241_383 (fun _ => rfl) (bSb rfl (bSb rfl (bSb rfl (bSb rfl (bSb rfl (bSb rfl (bSb rfl bSn))))))) ?_
  refine b_s (pc' := 386) (lv1 := [(0, .ref 0), (1, .ref 1), (2, .ref 76), (3, .ref 112), (4, bI i), (5, bI k), (6, bI b)]) (st' := [.ref 76]) l241_385 (fun _ => rfl) ?_
  refine b_cPki (v := μ2 76 0) l241_386 rfl (b_rc (ci := 9) (by rfl) (by decide) (by decide +kernel)) (Nat.le_of_ble_eq_true rfl) (Nat.le_of_ble_eq_true rfl) rfl (r_X11_thrown ) rfl fun hw1 => b_pc (pc' := 389) rfl ?_
  refine b_s (pc' := 391) (lv1 := [(0, .ref 0), (1, .ref 1), (2, .ref 76), (3, .ref 112), (4, bI i), (5, bI k), (6, bI b)]) (st' := [bI k, bI (μ2 76 0)]) l241_389 (fun _ => rfl) ?_
  refine b_pos (c := (μ2 76 0) = k) (E1 := some (.inl 1, μf, c)) (E2 := none) (κ := some) hEQ ?_
  refine b_ieq (pt := 396) l241_391 hw1 hv1 (by decide) rfl (fun _ => ?_) (fun z => absurd hEQ z)
  refine b_s (pc' := 398) (lv1 := [(0, .ref 0), (1, .ref 1), (2, .ref 76), (3, .ref 112), (4, bI i), (5, bI k), (6, bI b)]) (st' := [bI k]) l241_396 (fun _ => rfl) ?_
  by_cases hk0 : k = 0
  · refine b_neg (c := ¬ k = 0) (E1 := none) (E2 := some (.inl 1, μf, c)) (κ := some) (fun z => z hk0) ?_
    refine b_zne (pt := 413) l241_398 hv1 (by decide) rfl (fun z => absurd hk0 z) (fun _ => b_pc (pc' := 401) rfl ?_)
    refine b_s (pc' := 402) (lv1 := [(0, .ref 0), (1, .ref 1), (2, .ref 76), (3, .ref 112), (4, bI i), (5, bI k), (6, bI b)]) (st' := [.ref 112]) l241_401 (fun _ => rfl) ?_
    refine b_s (pc' := 403) (lv1 := [(0, .ref 0), (1, .ref 1), (2, .ref 76), (3, .ref 112), (4, bI i), (5, bI k), (6, bI b)]) (st' := [bI 0, .ref 112]) l241_402 (fun _ => rfl) ?_
    refine b_lal l241_403 (by rfl) (by decide) (b_pc (pc' := 404) rfl ?_)
    refine b_s (pc' := 406) (lv1 := [(0, .ref 0), (1, .ref 1), (2, .ref 76), (3, .ref 112), (4, bI i), (5, bI k), (6, bI b)]) (st' := [bI b, bLg (μ2 112 0)]) l241_404 (fun _ => rfl) ?_
    refine b_i2l l241_406 hv2 (b_pc (pc' := 407) rfl ?_)
    refine b_lcmp l241_407 (bO_l hk2 (show bSh 112 = (2, 1) from rfl)) (bR_L hv2) (b_pc (pc' := 408) rfl ?_)
    refine b_pos (c := (bCmp (μ2 112 0) b) = 0) (E1 := some (.inl 1, μf, c)) (E2 := none) (κ := some) (bCmp_0 (ho hk0)) ?_
    refine b_zeq (pt := 413) l241_408 (bCmp_R _ _) (by decide) rfl (fun _ => ?_) (fun z => absurd (bCmp_0 (ho hk0)) z)
    refine b_s (pc' := 1655) (lv1 := [(0, .ref 0), (1, .ref 1), (2, .ref 76), (3, .ref 112), (4, bI i), (5, bI k), (6, bI b)]) (st' := []) l241_413 (fun _ => rfl) ?_
    refine b_inc1 (lv' := [(0, .ref 0), (1, .ref 1), (2, .ref 76), (3, .ref 112), (4, bI (i + 6))]) l241_1655 rfl (by decide +kernel) (bSb rfl (bSb rfl (bSb rfl (bSb rfl (bSb rfl bSn))))) (b_in (by omega) (by omega)) (b_pc (pc' := 1658) rfl ?_)
    refine b_s (pc' := 23) (lv1 := [(0, .ref 0), (1, .ref 1), (2, .ref 76), (3, .ref 112), (4, bI (i + 6))]) (st' := []) l241_1658 (fun _ => rfl) ?_
    exact kont
  · refine b_pos (c := ¬ k = 0) (E1 := some (.inl 1, μf, c)) (E2 := none) (κ := some) hk0 ?_
    refine b_zne (pt := 413) l241_398 hv1 (by decide) rfl (fun _ => ?_) (fun z => absurd hk0 z)
    refine b_s (pc' := 1655) (lv1 := [(0, .ref 0), (1, .ref 1), (2, .ref 76), (3, .ref 112), (4, bI i), (5, bI k), (6, bI b)]) (st' := []) l241_413 (fun _ => rfl) ?_
    refine b_inc1 (lv' := [(0, .ref 0), (1, .ref 1), (2, .ref 76), (3, .ref 112), (4, bI (i + 6))]) l241_1655 rfl (by decide +kernel) (bSb rfl (bSb rfl (bSb rfl (bSb rfl (bSb rfl bSn))))) (b_in (by omega) (by omega)) (b_pc (pc' := 1658) rfl ?_)
    refine b_s (pc' := 23) (lv1 := [(0, .ref 0), (1, .ref 1), (2, .ref 76), (3, .ref 112), (4, bI (i + 6))]) (st' := []) l241_1658 (fun _ => rfl) ?_
    exact kont
theorem g_4 {L : Nat} {xs : Nat → Int32} {i k b : Int} {c n1 : Nat} {μ μ1 μ2 μf : bM} (hL : L ≤ 3072) (hi : 0 ≤ i ∧ i + 6 ≤ (L : Int)) (hop : bAnd (xs i.toNat).toInt 31 = 4) (hF1 : F_L_number (xs (i + 1).toNat).toInt (xs (i + 2).toNat).toInt (xs (i + 3).toNat).toInt (bOrL (bShlL (xs (i + 4).toNat).toInt 32) (bAndL (xs (i + 5).toNat).toInt 4294967295)) μ = some (k, μ1, n1)) (hF2 : F_X11_number (xs (i + 1).toNat).toInt (xs (i + 2).toNat).toInt (xs (i + 3).toNat).toInt (bOrL (bShlL (xs (i + 4).toNat).toInt 32) (bAndL (xs (i + 5).toNat).toInt 4294967295)) μ1 = some (b, μ2)) (hEQ : μ2 76 0 = k) (ho : k = 0 → μ2 112 0 = b) (kont : bD L xs 9 241 23 [(0, .ref 0), (1, .ref 1), (2, .ref 76), (3, .ref 112), (4, bI (i + 6))] [] μ2 (some (.inl 1, μf, c))) : bD L xs 9 241 23 [(0, .ref 0), (1, .ref 1), (2, .ref 76), (3, .ref 112), (4, bI i)] [] μ (some (.inl 1, μf, (c + n1))) := by
  have hiR : bR i := b_in (by omega) (by omega)
  refine bD.ok fun hk => ?_
  refine b_s (pc' := 25) (lv1 := [(0, .ref 0), (1, .ref 1), (2, .ref 76), (3, .ref 112), (4, bI i)]) (st' := [bI i]) l241_23 (fun _ => rfl) ?_
  refine b_s (pc' := 26) (lv1 := [(0, .ref 0), (1, .ref 1), (2, .ref 76), (3, .ref 112), (4, bI i)]) (st' := [.ref 0, bI i]) l241_25 (fun _ => rfl) ?_
  refine b_scl l241_26 (b_pc (pc' := 27) rfl ?_)
  refine b_bipush l241_27 (by decide) (b_pc (pc' := 29) rfl ?_)
  refine b_isub1 l241_29 (b_in (by omega) (by omega)) (b_pc (pc' := 30) rfl ?_)
  refine b_neg (c := ((L : Int) - 6) < i) (E1 := none) (E2 := some (.inl 1, μf, (c + n1))) (κ := some) (by omega) ?_
  refine b_igt (pt := 1661) l241_30 hiR (b_in (by omega) (by omega)) (by decide) rfl (fun z => absurd z (by omega)) (fun _ => b_pc (pc' := 33) rfl ?_)
  refine b_s (pc' := 34) (lv1 := [(0, .ref 0), (1, .ref 1), (2, .ref 76), (3, .ref 112), (4, bI i)]) (st' := [.ref 0]) l241_33 (fun _ => rfl) ?_
  refine b_s (pc' := 36) (lv1 := [(0, .ref 0), (1, .ref 1), (2, .ref 76), (3, .ref 112), (4, bI i)]) (st' := [bI i, .ref 0]) l241_34 (fun _ => rfl) ?_
  refine b_scr l241_36 ⟨by omega, by omega⟩ (by omega) (b_pc (pc' := 37) rfl ?_)
  refine b_bipush l241_37 (by decide) (b_pc (pc' := 39) rfl ?_)
  refine b_iand l241_39 (b_pc (pc' := 40) rfl ?_)
  refine b_tsw l241_40 (bi_rg _) (by decide) (by decide) (by decide) ?_
  refine b_pc (pc' := bTg [(0, 152), (1, 256), (2, 292), (3, 348), (4, 416), (5, 540), (6, 620), (7, 712), (8, 725), (9, 738), (10, 794), (11, 862), (12, 918), (13, 998), (14, 1011), (15, 1067), (16, 1123), (17, 1191), (18, 1259), (19, 1315), (20, 1395), (21, 1462), (22, 1542), (23, 1598)] 1655 (bAnd (xs i.toNat).toInt 31)) rfl ?_
  refine b_pc (pc' := 416) (by rw [hop]; rfl) ?_
  refine b_s (pc' := 417) (lv1 := [(0, .ref 0), (1, .ref 1), (2, .ref 76), (3, .ref 112), (4, bI i)]) (st' := [.ref 1]) l241_416 (fun _ => rfl) ?_
  refine b_s (pc' := 418) (lv1 := [(0, .ref 0), (1, .ref 1), (2, .ref 76), (3, .ref 112), (4, bI i)]) (st' := [.ref 0, .ref 1]) l241_417 (fun _ => rfl) ?_
  refine b_s (pc' := 420) (lv1 := [(0, .ref 0), (1, .ref 1), (2, .ref 76), (3, .ref 112), (4, bI i)]) (st' := [bI i, .ref 0, .ref 1]) l241_418 (fun _ => rfl) ?_
  refine b_s (pc' := 421) (lv1 := [(0, .ref 0), (1, .ref 1), (2, .ref 76), (3, .ref 112), (4, bI i)]) (st' := [bI 1, bI i, .ref 0, .ref 1]) l241_420 (fun _ => rfl) ?_
  refine b_iadd1 l241_421 (b_in (by omega) (by omega)) (b_pc (pc' := 422) rfl ?_)
  refine b_scr l241_422 ⟨by omega, by omega⟩ (by omega) (b_pc (pc' := 423) rfl ?_)
  refine b_s (pc' := 424) (lv1 := [(0, .ref 0), (1, .ref 1), (2, .ref 76), (3, .ref 112), (4, bI i)]) (st' := [.ref 0, bI (xs (i + 1).toNat).toInt, .ref 1]) l241_423 (fun _ => rfl) ?_
  refine b_s (pc' := 426) (lv1 := [(0, .ref 0), (1, .ref 1), (2, .ref 76), (3, .ref 112), (4, bI i)]) (st' := [bI i, .ref 0, bI (xs (i + 1).toNat).toInt, .ref 1]) l241_424 (fun _ => rfl) ?_
  refine b_s (pc' := 427) (lv1 := [(0, .ref 0), (1, .ref 1), (2, .ref 76), (3, .ref 112), (4, bI i)]) (st' := [bI 2, bI i, .ref 0, bI (xs (i + 1).toNat).toInt, .ref 1]) l241_426 (fun _ => rfl) ?_
  refine b_iadd1 l241_427 (b_in (by omega) (by omega)) (b_pc (pc' := 428) rfl ?_)
  refine b_scr l241_428 ⟨by omega, by omega⟩ (by omega) (b_pc (pc' := 429) rfl ?_)
  refine b_s (pc' := 430) (lv1 := [(0, .ref 0), (1, .ref 1), (2, .ref 76), (3, .ref 112), (4, bI i)]) (st' := [.ref 0, bI (xs (i + 2).toNat).toInt, bI (xs (i + 1).toNat).toInt, .ref 1]) l241_429 (fun _ => rfl) ?_
  refine b_s (pc' := 432) (lv1 := [(0, .ref 0), (1, .ref 1), (2, .ref 76), (3, .ref 112), (4, bI i)]) (st' := [bI i, .ref 0, bI (xs (i + 2).toNat).toInt, bI (xs (i + 1).toNat).toInt, .ref 1]) l241_430 (fun _ => rfl) ?_
  refine b_s (pc' := 433) (lv1 := [(0, .ref 0), (1, .ref 1), (2, .ref 76), (3, .ref 112), (4, bI i)]) (st' := [bI 3, bI i, .ref 0, bI (xs (i + 2).toNat).toInt, bI (xs (i + 1).toNat).toInt, .ref 1]) l241_432 (fun _ => rfl) ?_
  refine b_iadd1 l241_433 (b_in (by omega) (by omega)) (b_pc (pc' := 434) rfl ?_)
  refine b_scr l241_434 ⟨by omega, by omega⟩ (by omega) (b_pc (pc' := 435) rfl ?_)
  refine b_s (pc' := 436) (lv1 := [(0, .ref 0), (1, .ref 1), (2, .ref 76), (3, .ref 112), (4, bI i)]) (st' := [.ref 0, bI (xs (i + 3).toNat).toInt, bI (xs (i + 2).toNat).toInt, bI (xs (i + 1).toNat).toInt, .ref 1]) l241_435 (fun _ => rfl) ?_
  refine b_s (pc' := 438) (lv1 := [(0, .ref 0), (1, .ref 1), (2, .ref 76), (3, .ref 112), (4, bI i)]) (st' := [bI i, .ref 0, bI (xs (i + 3).toNat).toInt, bI (xs (i + 2).toNat).toInt, bI (xs (i + 1).toNat).toInt, .ref 1]) l241_436 (fun _ => rfl) ?_
  refine b_s (pc' := 439) (lv1 := [(0, .ref 0), (1, .ref 1), (2, .ref 76), (3, .ref 112), (4, bI i)]) (st' := [bI 4, bI i, .ref 0, bI (xs (i + 3).toNat).toInt, bI (xs (i + 2).toNat).toInt, bI (xs (i + 1).toNat).toInt, .ref 1]) l241_438 (fun _ => rfl) ?_
  refine b_iadd1 l241_439 (b_in (by omega) (by omega)) (b_pc (pc' := 440) rfl ?_)
  refine b_scr l241_440 ⟨by omega, by omega⟩ (by omega) (b_pc (pc' := 441) rfl ?_)
  refine b_i2l l241_441 (bi_rg _) (b_pc (pc' := 442) rfl ?_)
  refine b_bipush l241_442 (by decide) (b_pc (pc' := 444) rfl ?_)
  refine b_lshl l241_444 (b_pc (pc' := 445) rfl ?_)
  refine b_s (pc' := 446) (lv1 := [(0, .ref 0), (1, .ref 1), (2, .ref 76), (3, .ref 112), (4, bI i)]) (st' := [.ref 0, bLg (bShlL (xs (i + 4).toNat).toInt 32), bI (xs (i + 3).toNat).toInt, bI (xs (i + 2).toNat).toInt, bI (xs (i + 1).toNat).toInt, .ref 1]) l241_445 (fun _ => rfl) ?_
  refine b_s (pc' := 448) (lv1 := [(0, .ref 0), (1, .ref 1), (2, .ref 76), (3, .ref 112), (4, bI i)]) (st' := [bI i, .ref 0, bLg (bShlL (xs (i + 4).toNat).toInt 32), bI (xs (i + 3).toNat).toInt, bI (xs (i + 2).toNat).toInt, bI (xs (i + 1).toNat).toInt, .ref 1]) l241_446 (fun _ => rfl) ?_
  refine b_s (pc' := 449) (lv1 := [(0, .ref 0), (1, .ref 1), (2, .ref 76), (3, .ref 112), (4, bI i)]) (st' := [bI 5, bI i, .ref 0, bLg (bShlL (xs (i + 4).toNat).toInt 32), bI (xs (i + 3).toNat).toInt, bI (xs (i + 2).toNat).toInt, bI (xs (i + 1).toNat).toInt, .ref 1]) l241_448 (fun _ => rfl) ?_
  refine b_iadd1 l241_449 (b_in (by omega) (by omega)) (b_pc (pc' := 450) rfl ?_)
  refine b_scr l241_450 ⟨by omega, by omega⟩ (by omega) (b_pc (pc' := 451) rfl ?_)
  refine b_i2l l241_451 (bi_rg _) (b_pc (pc' := 452) rfl ?_)
  refine b_s (pc' := 455) (lv1 := [(0, .ref 0), (1, .ref 1), (2, .ref 76), (3, .ref 112), (4, bI i)]) (st' := [bLg 4294967295, bLg (xs (i + 5).toNat).toInt, bLg (bShlL (xs (i + 4).toNat).toInt 32), bI (xs (i + 3).toNat).toInt, bI (xs (i + 2).toNat).toInt, bI (xs (i + 1).toNat).toInt, .ref 1]) l241_452 (fun _ => rfl) ?_
  refine b_land l241_455 (b_pc (pc' := 456) rfl ?_)
  refine b_lor l241_456 (b_pc (pc' := 457) rfl ?_)
  refine b_s (pc' := 458) (lv1 := [(0, .ref 0), (1, .ref 1), (2, .ref 76), (3, .ref 112), (4, bI i)]) (st' := [.ref 112, bLg (bOrL (bShlL (xs (i + 4).toNat).toInt 32) (bAndL (xs (i + 5).toNat).toInt 4294967295)), bI (xs (i + 3).toNat).toInt, bI (xs (i + 2).toNat).toInt, bI (xs (i + 1).toNat).toInt, .ref 1]) l241_457 (fun _ => rfl) ?_
  refine b_cKki l241_458 rfl (fun _ => trivial) (Nat.le_of_ble_eq_true rfl) (Nat.le_of_ble_eq_true rfl) rfl (r_L_number (xs (i + 1).toNat).toInt (bi_rg _) (xs (i + 2).toNat).toInt (bi_rg _) (xs (i + 3).toNat).toInt (bi_rg _) (bOrL (bShlL (xs (i + 4).toNat).toInt 32) (bAndL (xs (i + 5).toNat).toInt 4294967295)) (bl_rg _)) hF1 fun hv1 => bD.ok fun hk1 => b_pc (pc' := 461) rfl ?_
  refine b_w (pc' := 463) (lv1 := ax_st1 [(0, .ref 0), (1, .ref 1), (2, .ref 76), (3, .ref 112), (4, bI i)] 5 (bI k)) (lv' := [(0, .ref 0), (1, .ref 1), (2, .ref 76), (3, .ref 112), (4, bI i), (5, bI k)]) (st' := []) l241_461 (fun _ => rfl) (bSb rfl (bSb rfl (bSb rfl (bSb rfl (bSb rfl (bSb rfl bSn)))))) ?_
  refine b_s (pc' := 464) (lv1 := [(0, .ref 0), (1, .ref 1), (2, .ref 76), (3, .ref 112), (4, bI i), (5, bI k)]) (st' := [.ref 76]) l241_463 (fun _ => rfl) ?_
  refine b_s (pc' := 465) (lv1 := [(0, .ref 0), (1, .ref 1), (2, .ref 76), (3, .ref 112), (4, bI i), (5, bI k)]) (st' := [.ref 0, .ref 76]) l241_464 (fun _ => rfl) ?_
  refine b_s (pc' := 467) (lv1 := [(0, .ref 0), (1, .ref 1), (2, .ref 76), (3, .ref 112), (4, bI i), (5, bI k)]) (st' := [bI i, .ref 0, .ref 76]) l241_465 (fun _ => rfl) ?_
  refine b_s (pc' := 468) (lv1 := [(0, .ref 0), (1, .ref 1), (2, .ref 76), (3, .ref 112), (4, bI i), (5, bI k)]) (st' := [bI 1, bI i, .ref 0, .ref 76]) l241_467 (fun _ => rfl) ?_
  refine b_iadd1 l241_468 (b_in (by omega) (by omega)) (b_pc (pc' := 469) rfl ?_)
  refine b_scr l241_469 ⟨by omega, by omega⟩ (by omega) (b_pc (pc' := 470) rfl ?_)
  refine b_s (pc' := 471) (lv1 := [(0, .ref 0), (1, .ref 1), (2, .ref 76), (3, .ref 112), (4, bI i), (5, bI k)]) (st' := [.ref 0, bI (xs (i + 1).toNat).toInt, .ref 76]) l241_470 (fun _ => rfl) ?_
  refine b_s (pc' := 473) (lv1 := [(0, .ref 0), (1, .ref 1), (2, .ref 76), (3, .ref 112), (4, bI i), (5, bI k)]) (st' := [bI i, .ref 0, bI (xs (i + 1).toNat).toInt, .ref 76]) l241_471 (fun _ => rfl) ?_
  refine b_s (pc' := 474) (lv1 := [(0, .ref 0), (1, .ref 1), (2, .ref 76), (3, .ref 112), (4, bI i), (5, bI k)]) (st' := [bI 2, bI i, .ref 0, bI (xs (i + 1).toNat).toInt, .ref 76]) l241_473 (fun _ => rfl) ?_
  refine b_iadd1 l241_474 (b_in (by omega) (by omega)) (b_pc (pc' := 475) rfl ?_)
  refine b_scr l241_475 ⟨by omega, by omega⟩ (by omega) (b_pc (pc' := 476) rfl ?_)
  refine b_s (pc' := 477) (lv1 := [(0, .ref 0), (1, .ref 1), (2, .ref 76), (3, .ref 112), (4, bI i), (5, bI k)]) (st' := [.ref 0, bI (xs (i + 2).toNat).toInt, bI (xs (i + 1).toNat).toInt, .ref 76]) l241_476 (fun _ => rfl) ?_
  refine b_s (pc' := 479) (lv1 := [(0, .ref 0), (1, .ref 1), (2, .ref 76), (3, .ref 112), (4, bI i), (5, bI k)]) (st' := [bI i, .ref 0, bI (xs (i + 2).toNat).toInt, bI (xs (i + 1).toNat).toInt, .ref 76]) l241_477 (fun _ => rfl) ?_
  refine b_s (pc' := 480) (lv1 := [(0, .ref 0), (1, .ref 1), (2, .ref 76), (3, .ref 112), (4, bI i), (5, bI k)]) (st' := [bI 3, bI i, .ref 0, bI (xs (i + 2).toNat).toInt, bI (xs (i + 1).toNat).toInt, .ref 76]) l241_479 (fun _ => rfl) ?_
  refine b_iadd1 l241_480 (b_in (by omega) (by omega)) (b_pc (pc' := 481) rfl ?_)
  refine b_scr l241_481 ⟨by omega, by omega⟩ (by omega) (b_pc (pc' := 482) rfl ?_)
  refine b_s (pc' := 483) (lv1 := [(0, .ref 0), (1, .ref 1), (2, .ref 76), (3, .ref 112), (4, bI i), (5, bI k)]) (st' := [.ref 0, bI (xs (i + 3).toNat).toInt, bI (xs (i + 2).toNat).toInt, bI (xs (i + 1).toNat).toInt, .ref 76]) l241_482 (fun _ => rfl) ?_
  refine b_s (pc' := 485) (lv1 := [(0, .ref 0), (1, .ref 1), (2, .ref 76), (3, .ref 112), (4, bI i), (5, bI k)]) (st' := [bI i, .ref 0, bI (xs (i + 3).toNat).toInt, bI (xs (i + 2).toNat).toInt, bI (xs (i + 1).toNat).toInt, .ref 76]) l241_483 (fun _ => rfl) ?_
  refine b_s (pc' := 486) (lv1 := [(0, .ref 0), (1, .ref 1), (2, .ref 76), (3, .ref 112), (4, bI i), (5, bI k)]) (st' := [bI 4, bI i, .ref 0, bI (xs (i + 3).toNat).toInt, bI (xs (i + 2).toNat).toInt, bI (xs (i + 1).toNat).toInt, .ref 76]) l241_485 (fun _ => rfl) ?_
  refine b_iadd1 l241_486 (b_in (by omega) (by omega)) (b_pc (pc' := 487) rfl ?_)
  refine b_scr l241_487 ⟨by omega, by omega⟩ (by omega) (b_pc (pc' := 488) rfl ?_)
  refine b_i2l l241_488 (bi_rg _) (b_pc (pc' := 489) rfl ?_)
  refine b_bipush l241_489 (by decide) (b_pc (pc' := 491) rfl ?_)
  refine b_lshl l241_491 (b_pc (pc' := 492) rfl ?_)
  refine b_s (pc' := 493) (lv1 := [(0, .ref 0), (1, .ref 1), (2, .ref 76), (3, .ref 112), (4, bI i), (5, bI k)]) (st' := [.ref 0, bLg (bShlL (xs (i + 4).toNat).toInt 32), bI (xs (i + 3).toNat).toInt, bI (xs (i + 2).toNat).toInt, bI (xs (i + 1).toNat).toInt, .ref 76]) l241_492 (fun _ => rfl) ?_
  refine b_s (pc' := 495) (lv1 := [(0, .ref 0), (1, .ref 1), (2, .ref 76), (3, .ref 112), (4, bI i), (5, bI k)]) (st' := [bI i, .ref 0, bLg (bShlL (xs (i + 4).toNat).toInt 32), bI (xs (i + 3).toNat).toInt, bI (xs (i + 2).toNat).toInt, bI (xs (i + 1).toNat).toInt, .ref 76]) l241_493 (fun _ => rfl) ?_
  refine b_s (pc' := 496) (lv1 := [(0, .ref 0), (1, .ref 1), (2, .ref 76), (3, .ref 112), (4, bI i), (5, bI k)]) (st' := [bI 5, bI i, .ref 0, bLg (bShlL (xs (i + 4).toNat).toInt 32), bI (xs (i + 3).toNat).toInt, bI (xs (i + 2).toNat).toInt, bI (xs (i + 1).toNat).toInt, .ref 76]) l241_495 (fun _ => rfl) ?_
  refine b_iadd1 l241_496 (b_in (by omega) (by omega)) (b_pc (pc' := 497) rfl ?_)
  refine b_scr l241_497 ⟨by omega, by omega⟩ (by omega) (b_pc (pc' := 498) rfl ?_)
  refine b_i2l l241_498 (bi_rg _) (b_pc (pc' := 499) rfl ?_)
  refine b_s (pc' := 502) (lv1 := [(0, .ref 0), (1, .ref 1), (2, .ref 76), (3, .ref 112), (4, bI i), (5, bI k)]) (st' := [bLg 4294967295, bLg (xs (i + 5).toNat).toInt, bLg (bShlL (xs (i + 4).toNat).toInt 32), bI (xs (i + 3).toNat).toInt, bI (xs (i + 2).toNat).toInt, bI (xs (i + 1).toNat).toInt, .ref 76]) l241_499 (fun _ => rfl) ?_
  refine b_land l241_502 (b_pc (pc' := 503) rfl ?_)
  refine b_lor l241_503 (b_pc (pc' := 504) rfl ?_)
  refine b_cMki l241_504 rfl (b_rc (ci := 9) (by rfl) (by decide) (by decide +kernel)) (Nat.le_of_ble_eq_true rfl) (Nat.le_of_ble_eq_true rfl) rfl (r_X11_number (xs (i + 1).toNat).toInt (bi_rg _) (xs (i + 2).toNat).toInt (bi_rg _) (xs (i + 3).toNat).toInt (bi_rg _) (bOrL (bShlL (xs (i + 4).toNat).toInt 32) (bAndL (xs (i + 5).toNat).toInt 4294967295)) (bl_rg _)) hF2 fun hv2 => bD.ok fun hk2 => b_pc (pc' := 507) rfl ?_
  refine b_w (pc' := 509) (lv1 := ax_st1 [(0, .ref 0), (1, .ref 1), (2, .ref 76), (3, .ref 112), (4, bI i), (5, bI k)] 6 (bI b)) (lv' := [(0, .ref 0), (1, .ref 1), (2, .ref 76), (3, .ref 112), (4, bI i), (5, bI k), (6, bI b)]) (st' := []) l241_507 (fun _ => rfl) (bSb rfl (bSb rfl (bSb rfl (bSb rfl (bSb rfl (bSb rfl (bSb rfl bSn))))))) ?_
  refine b_s (pc' := 510) (lv1 := [(0, .ref 0), (1, .ref 1), (2, .ref 76), (3, .ref 112), (4, bI i), (5, bI k), (6, bI b)]) (st' := [.ref 76]) l241_509 (fun _ => rfl) ?_
  refine b_cPki (v := μ2 76 0) l241_510 rfl (b_rc (ci := 9) (by rfl) (by decide) (by decide +kernel)) (Nat.le_of_ble_eq_true rfl) (Nat.le_of_ble_eq_true rfl) rfl (r_X11_thrown ) rfl fun hw1 => b_pc (pc' := 513) rfl ?_
  refine b_s (pc' := 515) (lv1 := [(0, .ref 0), (1, .ref 1), (2, .ref 76), (3, .ref 112), (4, bI i), (5, bI k), (6, bI b)]) (st' := [bI k, bI (μ2 76 0)]) l241_513 (fun _ => rfl) ?_
  refine b_pos (c := (μ2 76 0) = k) (E1 := some (.inl 1, μf, c)) (E2 := none) (κ := some) hEQ ?_
  refine b_ieq (pt := 520) l241_515 hw1 hv1 (by decide) rfl (fun _ => ?_) (fun z => absurd hEQ z)
  refine b_s (pc' := 522) (lv1 := [(0, .ref 0), (1, .ref 1), (2, .ref 76), (3, .ref 112), (4, bI i), (5, bI k), (6, bI b)]) (st' := [bI k]) l241_520 (fun _ => rfl) ?_
  by_cases hk0 : k = 0
  · refine b_neg (c := ¬ k = 0) (E1 := none) (E2 := some (.inl 1, μf, c)) (κ := some) (fun z => z hk0) ?_
    refine b_zne (pt := 537) l241_522 hv1 (by decide) rfl (fun z => absurd hk0 z) (fun _ => b_pc (pc' := 525) rfl ?_)
    refine b_s (pc' := 526) (lv1 := [(0, .ref 0), (1, .ref 1), (2, .ref 76), (3, .ref 112), (4, bI i), (5, bI k), (6, bI b)]) (st' := [.ref 112]) l241_525 (fun _ => rfl) ?_
    refine b_s (pc' := 527) (lv1 := [(0, .ref 0), (1, .ref 1), (2, .ref 76), (3, .ref 112), (4, bI i), (5, bI k), (6, bI b)]) (st' := [bI 0, .ref 112]) l241_526 (fun _ => rfl) ?_
    refine b_lal l241_527 (by rfl) (by decide) (b_pc (pc' := 528) rfl ?_)
    refine b_s (pc' := 530) (lv1 := [(0, .ref 0), (1, .ref 1), (2, .ref 76), (3, .ref 112), (4, bI i), (5, bI k), (6, bI b)]) (st' := [bI b, bLg (μ2 112 0)]) l241_528 (fun _ => rfl) ?_
    refine b_i2l l241_530 hv2 (b_pc (pc' := 531) rfl ?_)
    refine b_lcmp l241_531 (bO_l hk2 (show bSh 112 = (2, 1) from rfl)) (bR_L hv2) (b_pc (pc' := 532) rfl ?_)
    refine b_pos (c := (bCmp (μ2 112 0) b) = 0) (E1 := some (.inl 1, μf, c)) (E2 := none) (κ := some) (bCmp_0 (ho hk0)) ?_
    refine b_zeq (pt := 537) l241_532 (bCmp_R _ _) (by decide) rfl (fun _ => ?_) (fun z => absurd (bCmp_0 (ho hk0)) z)
    refine b_s (pc' := 1655) (lv1 := [(0, .ref 0), (1, .ref 1), (2, .ref 76), (3, .ref 112), (4, bI i), (5, bI k), (6, bI b)]) (st' := []) l241_537 (fun _ => rfl) ?_
    refine b_inc1 (lv' := [(0, .ref 0), (1, .ref 1), (2, .ref 76), (3, .ref 112), (4, bI (i + 6))]) l241_1655 rfl (by decide +kernel) (bSb rfl (bSb rfl (bSb rfl (bSb rfl (bSb rfl bSn))))) (b_in (by omega) (by omega)) (b_pc (pc' := 1658) rfl ?_)
    refine b_s (pc' := 23) (lv1 := [(0, .ref 0), (1, .ref 1), (2, .ref 76), (3, .ref 112), (4, bI (i + 6))]) (st' := []) l241_1658 (fun _ => rfl) ?_
    exact kont
  · refine b_pos (c := ¬ k = 0) (E1 := some (.inl 1, μf, c)) (E2 := none) (κ := some) hk0 ?_
    refine b_zne (pt := 537) l241_522 hv1 (by decide) rfl (fun _ => ?_) (fun z => absurd hk0 z)
    refine b_s (pc' := 1655) (lv1 := [(0, .ref 0), (1, .ref 1), (2, .ref 76), (3, .ref 112), (4, bI i), (5, bI k), (6, bI b)]) (st' := []) l241_537 (fun _ => rfl) ?_
    refine b_inc1 (lv' := [(0, .ref 0), (1, .ref 1), (2, .ref 76), (3, .ref 112), (4, bI (i + 6))]) l241_1655 rfl (by decide +kernel) (bSb rfl (bSb rfl (bSb rfl (bSb rfl (bSb rfl bSn))))) (b_in (by omega) (by omega)) (b_pc (pc' := 1658) rfl ?_)
    refine b_s (pc' := 23) (lv1 := [(0, .ref 0), (1, .ref 1), (2, .ref 76), (3, .ref 112), (4, bI (i + 6))]) (st' := []) l241_1658 (fun _ => rfl) ?_
    exact kont
theorem g_5 {L : Nat} {xs : Nat → Int32} {i k b : Int} {c n1 : Nat} {μ μ1 μ2 μf : bM} (hL : L ≤ 3072) (hi : 0 ≤ i ∧ i + 6 ≤ (L : Int)) (hop : bAnd (xs i.toNat).toInt 31 = 5) (hF1 : F_L_bytes (xs (i + 1).toNat).toInt (xs (i + 2).toNat).toInt (xs (i + 3).toNat).toInt μ = some (k, μ1, n1)) (hF2 : F_X11_bytes (xs (i + 1).toNat).toInt (xs (i + 2).toNat).toInt (xs (i + 3).toNat).toInt μ1 = some (b, μ2)) (hEQ : μ2 76 0 = k) (ho : k = 0 → μ2 112 0 = b) (kont : bD L xs 9 241 23 [(0, .ref 0), (1, .ref 1), (2, .ref 76), (3, .ref 112), (4, bI (i + 6))] [] μ2 (some (.inl 1, μf, c))) : bD L xs 9 241 23 [(0, .ref 0), (1, .ref 1), (2, .ref 76), (3, .ref 112), (4, bI i)] [] μ (some (.inl 1, μf, (c + n1))) := by
  have hiR : bR i := b_in (by omega) (by omega)
  refine bD.ok fun hk => ?_
  refine b_s (pc' := 25) (lv1 := [(0, .ref 0), (1, .ref 1), (2, .ref 76), (3, .ref 112), (4, bI i)]) (st' := [bI i]) l241_23 (fun _ => rfl) ?_
  refine b_s (pc' := 26) (lv1 := [(0, .ref 0), (1, .ref 1), (2, .ref 76), (3, .ref 112), (4, bI i)]) (st' := [.ref 0, bI i]) l241_25 (fun _ => rfl) ?_
  refine b_scl l241_26 (b_pc (pc' := 27) rfl ?_)
  refine b_bipush l241_27 (by decide) (b_pc (pc' := 29) rfl ?_)
  refine b_isub1 l241_29 (b_in (by omega) (by omega)) (b_pc (pc' := 30) rfl ?_)
  refine b_neg (c := ((L : Int) - 6) < i) (E1 := none) (E2 := some (.inl 1, μf, (c + n1))) (κ := some) (by omega) ?_
  refine b_igt (pt := 1661) l241_30 hiR (b_in (by omega) (by omega)) (by decide) rfl (fun z => absurd z (by omega)) (fun _ => b_pc (pc' := 33) rfl ?_)
  refine b_s (pc' := 34) (lv1 := [(0, .ref 0), (1, .ref 1), (2, .ref 76), (3, .ref 112), (4, bI i)]) (st' := [.ref 0]) l241_33 (fun _ => rfl) ?_
  refine b_s (pc' := 36) (lv1 := [(0, .ref 0), (1, .ref 1), (2, .ref 76), (3, .ref 112), (4, bI i)]) (st' := [bI i, .ref 0]) l241_34 (fun _ => rfl) ?_
  refine b_scr l241_36 ⟨by omega, by omega⟩ (by omega) (b_pc (pc' := 37) rfl ?_)
  refine b_bipush l241_37 (by decide) (b_pc (pc' := 39) rfl ?_)
  refine b_iand l241_39 (b_pc (pc' := 40) rfl ?_)
  refine b_tsw l241_40 (bi_rg _) (by decide) (by decide) (by decide) ?_
  refine b_pc (pc' := bTg [(0, 152), (1, 256), (2, 292), (3, 348), (4, 416), (5, 540), (6, 620), (7, 712), (8, 725), (9, 738), (10, 794), (11, 862), (12, 918), (13, 998), (14, 1011), (15, 1067), (16, 1123), (17, 1191), (18, 1259), (19, 1315), (20, 1395), (21, 1462), (22, 1542), (23, 1598)] 1655 (bAnd (xs i.toNat).toInt 31)) rfl ?_
  refine b_pc (pc' := 540) (by rw [hop]; rfl) ?_
  refine b_s (pc' := 541) (lv1 := [(0, .ref 0), (1, .ref 1), (2, .ref 76), (3, .ref 112), (4, bI i)]) (st' := [.ref 1]) l241_540 (fun _ => rfl) ?_
  refine b_s (pc' := 542) (lv1 := [(0, .ref 0), (1, .ref 1), (2, .ref 76), (3, .ref 112), (4, bI i)]) (st' := [.ref 0, .ref 1]) l241_541 (fun _ => rfl) ?_
  refine b_s (pc' := 544) (lv1 := [(0, .ref 0), (1, .ref 1), (2, .ref 76), (3, .ref 112), (4, bI i)]) (st' := [bI i, .ref 0, .ref 1]) l241_542 (fun _ => rfl) ?_
  refine b_s (pc' := 545) (lv1 := [(0, .ref 0), (1, .ref 1), (2, .ref 76), (3, .ref 112), (4, bI i)]) (st' := [bI 1, bI i, .ref 0, .ref 1]) l241_544 (fun _ => rfl) ?_
  refine b_iadd1 l241_545 (b_in (by omega) (by omega)) (b_pc (pc' := 546) rfl ?_)
  refine b_scr l241_546 ⟨by omega, by omega⟩ (by omega) (b_pc (pc' := 547) rfl ?_)
  refine b_s (pc' := 548) (lv1 := [(0, .ref 0), (1, .ref 1), (2, .ref 76), (3, .ref 112), (4, bI i)]) (st' := [.ref 0, bI (xs (i + 1).toNat).toInt, .ref 1]) l241_547 (fun _ => rfl) ?_
  refine b_s (pc' := 550) (lv1 := [(0, .ref 0), (1, .ref 1), (2, .ref 76), (3, .ref 112), (4, bI i)]) (st' := [bI i, .ref 0, bI (xs (i + 1).toNat).toInt, .ref 1]) l241_548 (fun _ => rfl) ?_
  refine b_s (pc' := 551) (lv1 := [(0, .ref 0), (1, .ref 1), (2, .ref 76), (3, .ref 112), (4, bI i)]) (st' := [bI 2, bI i, .ref 0, bI (xs (i + 1).toNat).toInt, .ref 1]) l241_550 (fun _ => rfl) ?_
  refine b_iadd1 l241_551 (b_in (by omega) (by omega)) (b_pc (pc' := 552) rfl ?_)
  refine b_scr l241_552 ⟨by omega, by omega⟩ (by omega) (b_pc (pc' := 553) rfl ?_)
  refine b_s (pc' := 554) (lv1 := [(0, .ref 0), (1, .ref 1), (2, .ref 76), (3, .ref 112), (4, bI i)]) (st' := [.ref 0, bI (xs (i + 2).toNat).toInt, bI (xs (i + 1).toNat).toInt, .ref 1]) l241_553 (fun _ => rfl) ?_
  refine b_s (pc' := 556) (lv1 := [(0, .ref 0), (1, .ref 1), (2, .ref 76), (3, .ref 112), (4, bI i)]) (st' := [bI i, .ref 0, bI (xs (i + 2).toNat).toInt, bI (xs (i + 1).toNat).toInt, .ref 1]) l241_554 (fun _ => rfl) ?_
  refine b_s (pc' := 557) (lv1 := [(0, .ref 0), (1, .ref 1), (2, .ref 76), (3, .ref 112), (4, bI i)]) (st' := [bI 3, bI i, .ref 0, bI (xs (i + 2).toNat).toInt, bI (xs (i + 1).toNat).toInt, .ref 1]) l241_556 (fun _ => rfl) ?_
  refine b_iadd1 l241_557 (b_in (by omega) (by omega)) (b_pc (pc' := 558) rfl ?_)
  refine b_scr l241_558 ⟨by omega, by omega⟩ (by omega) (b_pc (pc' := 559) rfl ?_)
  refine b_s (pc' := 560) (lv1 := [(0, .ref 0), (1, .ref 1), (2, .ref 76), (3, .ref 112), (4, bI i)]) (st' := [.ref 112, bI (xs (i + 3).toNat).toInt, bI (xs (i + 2).toNat).toInt, bI (xs (i + 1).toNat).toInt, .ref 1]) l241_559 (fun _ => rfl) ?_
  refine b_cKki l241_560 rfl (fun _ => trivial) (Nat.le_of_ble_eq_true rfl) (Nat.le_of_ble_eq_true rfl) rfl (r_L_bytes (xs (i + 1).toNat).toInt (bi_rg _) (xs (i + 2).toNat).toInt (bi_rg _) (xs (i + 3).toNat).toInt (bi_rg _)) hF1 fun hv1 => bD.ok fun hk1 => b_pc (pc' := 563) rfl ?_
  refine b_w (pc' := 565) (lv1 := ax_st1 [(0, .ref 0), (1, .ref 1), (2, .ref 76), (3, .ref 112), (4, bI i)] 5 (bI k)) (lv' := [(0, .ref 0), (1, .ref 1), (2, .ref 76), (3, .ref 112), (4, bI i), (5, bI k)]) (st' := []) l241_563 (fun _ => rfl) (bSb rfl (bSb rfl (bSb rfl (bSb rfl (bSb rfl (bSb rfl bSn)))))) ?_
  refine b_s (pc' := 566) (lv1 := [(0, .ref 0), (1, .ref 1), (2, .ref 76), (3, .ref 112), (4, bI i), (5, bI k)]) (st' := [.ref 76]) l241_565 (fun _ => rfl) ?_
  refine b_s (pc' := 567) (lv1 := [(0, .ref 0), (1, .ref 1), (2, .ref 76), (3, .ref 112), (4, bI i), (5, bI k)]) (st' := [.ref 0, .ref 76]) l241_566 (fun _ => rfl) ?_
  refine b_s (pc' := 569) (lv1 := [(0, .ref 0), (1, .ref 1), (2, .ref 76), (3, .ref 112), (4, bI i), (5, bI k)]) (st' := [bI i, .ref 0, .ref 76]) l241_567 (fun _ => rfl) ?_
  refine b_s (pc' := 570) (lv1 := [(0, .ref 0), (1, .ref 1), (2, .ref 76), (3, .ref 112), (4, bI i), (5, bI k)]) (st' := [bI 1, bI i, .ref 0, .ref 76]) l241_569 (fun _ => rfl) ?_
  refine b_iadd1 l241_570 (b_in (by omega) (by omega)) (b_pc (pc' := 571) rfl ?_)
  refine b_scr l241_571 ⟨by omega, by omega⟩ (by omega) (b_pc (pc' := 572) rfl ?_)
  refine b_s (pc' := 573) (lv1 := [(0, .ref 0), (1, .ref 1), (2, .ref 76), (3, .ref 112), (4, bI i), (5, bI k)]) (st' := [.ref 0, bI (xs (i + 1).toNat).toInt, .ref 76]) l241_572 (fun _ => rfl) ?_
  refine b_s (pc' := 575) (lv1 := [(0, .ref 0), (1, .ref 1), (2, .ref 76), (3, .ref 112), (4, bI i), (5, bI k)]) (st' := [bI i, .ref 0, bI (xs (i + 1).toNat).toInt, .ref 76]) l241_573 (fun _ => rfl) ?_
  refine b_s (pc' := 576) (lv1 := [(0, .ref 0), (1, .ref 1), (2, .ref 76), (3, .ref 112), (4, bI i), (5, bI k)]) (st' := [bI 2, bI i, .ref 0, bI (xs (i + 1).toNat).toInt, .ref 76]) l241_575 (fun _ => rfl) ?_
  refine b_iadd1 l241_576 (b_in (by omega) (by omega)) (b_pc (pc' := 577) rfl ?_)
  refine b_scr l241_577 ⟨by omega, by omega⟩ (by omega) (b_pc (pc' := 578) rfl ?_)
  refine b_s (pc' := 579) (lv1 := [(0, .ref 0), (1, .ref 1), (2, .ref 76), (3, .ref 112), (4, bI i), (5, bI k)]) (st' := [.ref 0, bI (xs (i + 2).toNat).toInt, bI (xs (i + 1).toNat).toInt, .ref 76]) l241_578 (fun _ => rfl) ?_
  refine b_s (pc' := 581) (lv1 := [(0, .ref 0), (1, .ref 1), (2, .ref 76), (3, .ref 112), (4, bI i), (5, bI k)]) (st' := [bI i, .ref 0, bI (xs (i + 2).toNat).toInt, bI (xs (i + 1).toNat).toInt, .ref 76]) l241_579 (fun _ => rfl) ?_
  refine b_s (pc' := 582) (lv1 := [(0, .ref 0), (1, .ref 1), (2, .ref 76), (3, .ref 112), (4, bI i), (5, bI k)]) (st' := [bI 3, bI i, .ref 0, bI (xs (i + 2).toNat).toInt, bI (xs (i + 1).toNat).toInt, .ref 76]) l241_581 (fun _ => rfl) ?_
  refine b_iadd1 l241_582 (b_in (by omega) (by omega)) (b_pc (pc' := 583) rfl ?_)
  refine b_scr l241_583 ⟨by omega, by omega⟩ (by omega) (b_pc (pc' := 584) rfl ?_)
  refine b_cMki l241_584 rfl (b_rc (ci := 9) (by rfl) (by decide) (by decide +kernel)) (Nat.le_of_ble_eq_true rfl) (Nat.le_of_ble_eq_true rfl) rfl (r_X11_bytes (xs (i + 1).toNat).toInt (bi_rg _) (xs (i + 2).toNat).toInt (bi_rg _) (xs (i + 3).toNat).toInt (bi_rg _)) hF2 fun hv2 => bD.ok fun hk2 => b_pc (pc' := 587) rfl ?_
  refine b_w (pc' := 589) (lv1 := ax_st1 [(0, .ref 0), (1, .ref 1), (2, .ref 76), (3, .ref 112), (4, bI i), (5, bI k)] 6 (bI b)) (lv' := [(0, .ref 0), (1, .ref 1), (2, .ref 76), (3, .ref 112), (4, bI i), (5, bI k), (6, bI b)]) (st' := []) l241_587 (fun _ => rfl) (bSb rfl (bSb rfl (bSb rfl (bSb rfl (bSb rfl (bSb rfl (bSb rfl bSn))))))) ?_
  refine b_s (pc' := 590) (lv1 := [(0, .ref 0), (1, .ref 1), (2, .ref 76), (3, .ref 112), (4, bI i), (5, bI k), (6, bI b)]) (st' := [.ref 76]) l241_589 (fun _ => rfl) ?_
  refine b_cPki (v := μ2 76 0) l241_590 rfl (b_rc (ci := 9) (by rfl) (by decide) (by decide +kernel)) (Nat.le_of_ble_eq_true rfl) (Nat.le_of_ble_eq_true rfl) rfl (r_X11_thrown ) rfl fun hw1 => b_pc (pc' := 593) rfl ?_
  refine b_s (pc' := 595) (lv1 := [(0, .ref 0), (1, .ref 1), (2, .ref 76), (3, .ref 112), (4, bI i), (5, bI k), (6, bI b)]) (st' := [bI k, bI (μ2 76 0)]) l241_593 (fun _ => rfl) ?_
  refine b_pos (c := (μ2 76 0) = k) (E1 := some (.inl 1, μf, c)) (E2 := none) (κ := some) hEQ ?_
  refine b_ieq (pt := 600) l241_595 hw1 hv1 (by decide) rfl (fun _ => ?_) (fun z => absurd hEQ z)
  refine b_s (pc' := 602) (lv1 := [(0, .ref 0), (1, .ref 1), (2, .ref 76), (3, .ref 112), (4, bI i), (5, bI k), (6, bI b)]) (st' := [bI k]) l241_600 (fun _ => rfl) ?_
  by_cases hk0 : k = 0
  · refine b_neg (c := ¬ k = 0) (E1 := none) (E2 := some (.inl 1, μf, c)) (κ := some) (fun z => z hk0) ?_
    refine b_zne (pt := 617) l241_602 hv1 (by decide) rfl (fun z => absurd hk0 z) (fun _ => b_pc (pc' := 605) rfl ?_)
    refine b_s (pc' := 606) (lv1 := [(0, .ref 0), (1, .ref 1), (2, .ref 76), (3, .ref 112), (4, bI i), (5, bI k), (6, bI b)]) (st' := [.ref 112]) l241_605 (fun _ => rfl) ?_
    refine b_s (pc' := 607) (lv1 := [(0, .ref 0), (1, .ref 1), (2, .ref 76), (3, .ref 112), (4, bI i), (5, bI k), (6, bI b)]) (st' := [bI 0, .ref 112]) l241_606 (fun _ => rfl) ?_
    refine b_lal l241_607 (by rfl) (by decide) (b_pc (pc' := 608) rfl ?_)
    refine b_s (pc' := 610) (lv1 := [(0, .ref 0), (1, .ref 1), (2, .ref 76), (3, .ref 112), (4, bI i), (5, bI k), (6, bI b)]) (st' := [bI b, bLg (μ2 112 0)]) l241_608 (fun _ => rfl) ?_
    refine b_i2l l241_610 hv2 (b_pc (pc' := 611) rfl ?_)
    refine b_lcmp l241_611 (bO_l hk2 (show bSh 112 = (2, 1) from rfl)) (bR_L hv2) (b_pc (pc' := 612) rfl ?_)
    refine b_pos (c := (bCmp (μ2 112 0) b) = 0) (E1 := some (.inl 1, μf, c)) (E2 := none) (κ := some) (bCmp_0 (ho hk0)) ?_
    refine b_zeq (pt := 617) l241_612 (bCmp_R _ _) (by decide) rfl (fun _ => ?_) (fun z => absurd (bCmp_0 (ho hk0)) z)
    refine b_s (pc' := 1655) (lv1 := [(0, .ref 0), (1, .ref 1), (2, .ref 76), (3, .ref 112), (4, bI i), (5, bI k), (6, bI b)]) (st' := []) l241_617 (fun _ => rfl) ?_
    refine b_inc1 (lv' := [(0, .ref 0), (1, .ref 1), (2, .ref 76), (3, .ref 112), (4, bI (i + 6))]) l241_1655 rfl (by decide +kernel) (bSb rfl (bSb rfl (bSb rfl (bSb rfl (bSb rfl bSn))))) (b_in (by omega) (by omega)) (b_pc (pc' := 1658) rfl ?_)
    refine b_s (pc' := 23) (lv1 := [(0, .ref 0), (1, .ref 1), (2, .ref 76), (3, .ref 112), (4, bI (i + 6))]) (st' := []) l241_1658 (fun _ => rfl) ?_
    exact kont
  · refine b_pos (c := ¬ k = 0) (E1 := some (.inl 1, μf, c)) (E2 := none) (κ := some) hk0 ?_
    refine b_zne (pt := 617) l241_602 hv1 (by decide) rfl (fun _ => ?_) (fun z => absurd hk0 z)
    refine b_s (pc' := 1655) (lv1 := [(0, .ref 0), (1, .ref 1), (2, .ref 76), (3, .ref 112), (4, bI i), (5, bI k), (6, bI b)]) (st' := []) l241_617 (fun _ => rfl) ?_
    refine b_inc1 (lv' := [(0, .ref 0), (1, .ref 1), (2, .ref 76), (3, .ref 112), (4, bI (i + 6))]) l241_1655 rfl (by decide +kernel) (bSb rfl (bSb rfl (bSb rfl (bSb rfl (bSb rfl bSn))))) (b_in (by omega) (by omega)) (b_pc (pc' := 1658) rfl ?_)
    refine b_s (pc' := 23) (lv1 := [(0, .ref 0), (1, .ref 1), (2, .ref 76), (3, .ref 112), (4, bI (i + 6))]) (st' := []) l241_1658 (fun _ => rfl) ?_
    exact kont
theorem g_6 {L : Nat} {xs : Nat → Int32} {i k b : Int} {c n1 : Nat} {μ μ1 μ2 μf : bM} (hL : L ≤ 3072) (hi : 0 ≤ i ∧ i + 6 ≤ (L : Int)) (hop : bAnd (xs i.toNat).toInt 31 = 6) (hF1 : F_L_reference (xs (i + 1).toNat).toInt (xs (i + 2).toNat).toInt (xs (i + 3).toNat).toInt (xs (i + 4).toNat).toInt μ = some (k, μ1, n1)) (hF2 : F_X11_reference (xs (i + 1).toNat).toInt (xs (i + 2).toNat).toInt (xs (i + 3).toNat).toInt (xs (i + 4).toNat).toInt μ1 = some (b, μ2)) (hEQ : μ2 76 0 = k) (ho : k = 0 → μ2 112 0 = b) (kont : bD L xs 9 241 23 [(0, .ref 0), (1, .ref 1), (2, .ref 76), (3, .ref 112), (4, bI (i + 6))] [] μ2 (some (.inl 1, μf, c))) : bD L xs 9 241 23 [(0, .ref 0), (1, .ref 1), (2, .ref 76), (3, .ref 112), (4, bI i)] [] μ (some (.inl 1, μf, (c + n1))) := by
  have hiR : bR i := b_in (by omega) (by omega)
  refine bD.ok fun hk => ?_
  refine b_s (pc' := 25) (lv1 := [(0, .ref 0), (1, .ref 1), (2, .ref 76), (3, .ref 112), (4, bI i)]) (st' := [bI i]) l241_23 (fun _ => rfl) ?_
  refine b_s (pc' := 26) (lv1 := [(0, .ref 0), (1, .ref 1), (2, .ref 76), (3, .ref 112), (4, bI i)]) (st' := [.ref 0, bI i]) l241_25 (fun _ => rfl) ?_
  refine b_scl l241_26 (b_pc (pc' := 27) rfl ?_)
  refine b_bipush l241_27 (by decide) (b_pc (pc' := 29) rfl ?_)
  refine b_isub1 l241_29 (b_in (by omega) (by omega)) (b_pc (pc' := 30) rfl ?_)
  refine b_neg (c := ((L : Int) - 6) < i) (E1 := none) (E2 := some (.inl 1, μf, (c + n1))) (κ := some) (by omega) ?_
  refine b_igt (pt := 1661) l241_30 hiR (b_in (by omega) (by omega)) (by decide) rfl (fun z => absurd z (by omega)) (fun _ => b_pc (pc' := 33) rfl ?_)
  refine b_s (pc' := 34) (lv1 := [(0, .ref 0), (1, .ref 1), (2, .ref 76), (3, .ref 112), (4, bI i)]) (st' := [.ref 0]) l241_33 (fun _ => rfl) ?_
  refine b_s (pc' := 36) (lv1 := [(0, .ref 0), (1, .ref 1), (2, .ref 76), (3, .ref 112), (4, bI i)]) (st' := [bI i, .ref 0]) l241_34 (fun _ => rfl) ?_
  refine b_scr l241_36 ⟨by omega, by omega⟩ (by omega) (b_pc (pc' := 37) rfl ?_)
  refine b_bipush l241_37 (by decide) (b_pc (pc' := 39) rfl ?_)
  refine b_iand l241_39 (b_pc (pc' := 40) rfl ?_)
  refine b_tsw l241_40 (bi_rg _) (by decide) (by decide) (by decide) ?_
  refine b_pc (pc' := bTg [(0, 152), (1, 256), (2, 292), (3, 348), (4, 416), (5, 540), (6, 620), (7, 712), (8, 725), (9, 738), (10, 794), (11, 862), (12, 918), (13, 998), (14, 1011), (15, 1067), (16, 1123), (17, 1191), (18, 1259), (19, 1315), (20, 1395), (21, 1462), (22, 1542), (23, 1598)] 1655 (bAnd (xs i.toNat).toInt 31)) rfl ?_
  refine b_pc (pc' := 620) (by rw [hop]; rfl) ?_
  refine b_s (pc' := 621) (lv1 := [(0, .ref 0), (1, .ref 1), (2, .ref 76), (3, .ref 112), (4, bI i)]) (st' := [.ref 1]) l241_620 (fun _ => rfl) ?_
  refine b_s (pc' := 622) (lv1 := [(0, .ref 0), (1, .ref 1), (2, .ref 76), (3, .ref 112), (4, bI i)]) (st' := [.ref 0, .ref 1]) l241_621 (fun _ => rfl) ?_
  refine b_s (pc' := 624) (lv1 := [(0, .ref 0), (1, .ref 1), (2, .ref 76), (3, .ref 112), (4, bI i)]) (st' := [bI i, .ref 0, .ref 1]) l241_622 (fun _ => rfl) ?_
  refine b_s (pc' := 625) (lv1 := [(0, .ref 0), (1, .ref 1), (2, .ref 76), (3, .ref 112), (4, bI i)]) (st' := [bI 1, bI i, .ref 0, .ref 1]) l241_624 (fun _ => rfl) ?_
  refine b_iadd1 l241_625 (b_in (by omega) (by omega)) (b_pc (pc' := 626) rfl ?_)
  refine b_scr l241_626 ⟨by omega, by omega⟩ (by omega) (b_pc (pc' := 627) rfl ?_)
  refine b_s (pc' := 628) (lv1 := [(0, .ref 0), (1, .ref 1), (2, .ref 76), (3, .ref 112), (4, bI i)]) (st' := [.ref 0, bI (xs (i + 1).toNat).toInt, .ref 1]) l241_627 (fun _ => rfl) ?_
  refine b_s (pc' := 630) (lv1 := [(0, .ref 0), (1, .ref 1), (2, .ref 76), (3, .ref 112), (4, bI i)]) (st' := [bI i, .ref 0, bI (xs (i + 1).toNat).toInt, .ref 1]) l241_628 (fun _ => rfl) ?_
  refine b_s (pc' := 631) (lv1 := [(0, .ref 0), (1, .ref 1), (2, .ref 76), (3, .ref 112), (4, bI i)]) (st' := [bI 2, bI i, .ref 0, bI (xs (i + 1).toNat).toInt, .ref 1]) l241_630 (fun _ => rfl) ?_
  refine b_iadd1 l241_631 (b_in (by omega) (by omega)) (b_pc (pc' := 632) rfl ?_)
  refine b_scr l241_632 ⟨by omega, by omega⟩ (by omega) (b_pc (pc' := 633) rfl ?_)
  refine b_s (pc' := 634) (lv1 := [(0, .ref 0), (1, .ref 1), (2, .ref 76), (3, .ref 112), (4, bI i)]) (st' := [.ref 0, bI (xs (i + 2).toNat).toInt, bI (xs (i + 1).toNat).toInt, .ref 1]) l241_633 (fun _ => rfl) ?_
  refine b_s (pc' := 636) (lv1 := [(0, .ref 0), (1, .ref 1), (2, .ref 76), (3, .ref 112), (4, bI i)]) (st' := [bI i, .ref 0, bI (xs (i + 2).toNat).toInt, bI (xs (i + 1).toNat).toInt, .ref 1]) l241_634 (fun _ => rfl) ?_
  refine b_s (pc' := 637) (lv1 := [(0, .ref 0), (1, .ref 1), (2, .ref 76), (3, .ref 112), (4, bI i)]) (st' := [bI 3, bI i, .ref 0, bI (xs (i + 2).toNat).toInt, bI (xs (i + 1).toNat).toInt, .ref 1]) l241_636 (fun _ => rfl) ?_
  refine b_iadd1 l241_637 (b_in (by omega) (by omega)) (b_pc (pc' := 638) rfl ?_)
  refine b_scr l241_638 ⟨by omega, by omega⟩ (by omega) (b_pc (pc' := 639) rfl ?_)
  refine b_s (pc' := 640) (lv1 := [(0, .ref 0), (1, .ref 1), (2, .ref 76), (3, .ref 112), (4, bI i)]) (st' := [.ref 0, bI (xs (i + 3).toNat).toInt, bI (xs (i + 2).toNat).toInt, bI (xs (i + 1).toNat).toInt, .ref 1]) l241_639 (fun _ => rfl) ?_
  refine b_s (pc' := 642) (lv1 := [(0, .ref 0), (1, .ref 1), (2, .ref 76), (3, .ref 112), (4, bI i)]) (st' := [bI i, .ref 0, bI (xs (i + 3).toNat).toInt, bI (xs (i + 2).toNat).toInt, bI (xs (i + 1).toNat).toInt, .ref 1]) l241_640 (fun _ => rfl) ?_
  refine b_s (pc' := 643) (lv1 := [(0, .ref 0), (1, .ref 1), (2, .ref 76), (3, .ref 112), (4, bI i)]) (st' := [bI 4, bI i, .ref 0, bI (xs (i + 3).toNat).toInt, bI (xs (i + 2).toNat).toInt, bI (xs (i + 1).toNat).toInt, .ref 1]) l241_642 (fun _ => rfl) ?_
  refine b_iadd1 l241_643 (b_in (by omega) (by omega)) (b_pc (pc' := 644) rfl ?_)
  refine b_scr l241_644 ⟨by omega, by omega⟩ (by omega) (b_pc (pc' := 645) rfl ?_)
  refine b_s (pc' := 646) (lv1 := [(0, .ref 0), (1, .ref 1), (2, .ref 76), (3, .ref 112), (4, bI i)]) (st' := [.ref 112, bI (xs (i + 4).toNat).toInt, bI (xs (i + 3).toNat).toInt, bI (xs (i + 2).toNat).toInt, bI (xs (i + 1).toNat).toInt, .ref 1]) l241_645 (fun _ => rfl) ?_
  refine b_cKki l241_646 rfl (fun _ => trivial) (Nat.le_of_ble_eq_true rfl) (Nat.le_of_ble_eq_true rfl) rfl (r_L_reference (xs (i + 1).toNat).toInt (bi_rg _) (xs (i + 2).toNat).toInt (bi_rg _) (xs (i + 3).toNat).toInt (bi_rg _) (xs (i + 4).toNat).toInt (bi_rg _)) hF1 fun hv1 => bD.ok fun hk1 => b_pc (pc' := 649) rfl ?_
  refine b_w (pc' := 651) (lv1 := ax_st1 [(0, .ref 0), (1, .ref 1), (2, .ref 76), (3, .ref 112), (4, bI i)] 5 (bI k)) (lv' := [(0, .ref 0), (1, .ref 1), (2, .ref 76), (3, .ref 112), (4, bI i), (5, bI k)]) (st' := []) l241_649 (fun _ => rfl) (bSb rfl (bSb rfl (bSb rfl (bSb rfl (bSb rfl (bSb rfl bSn)))))) ?_
  refine b_s (pc' := 652) (lv1 := [(0, .ref 0), (1, .ref 1), (2, .ref 76), (3, .ref 112), (4, bI i), (5, bI k)]) (st' := [.ref 76]) l241_651 (fun _ => rfl) ?_
  refine b_s (pc' := 653) (lv1 := [(0, .ref 0), (1, .ref 1), (2, .ref 76), (3, .ref 112), (4, bI i), (5, bI k)]) (st' := [.ref 0, .ref 76]) l241_652 (fun _ => rfl) ?_
  refine b_s (pc' := 655) (lv1 := [(0, .ref 0), (1, .ref 1), (2, .ref 76), (3, .ref 112), (4, bI i), (5, bI k)]) (st' := [bI i, .ref 0, .ref 76]) l241_653 (fun _ => rfl) ?_
  refine b_s (pc' := 656) (lv1 := [(0, .ref 0), (1, .ref 1), (2, .ref 76), (3, .ref 112), (4, bI i), (5, bI k)]) (st' := [bI 1, bI i, .ref 0, .ref 76]) l241_655 (fun _ => rfl) ?_
  refine b_iadd1 l241_656 (b_in (by omega) (by omega)) (b_pc (pc' := 657) rfl ?_)
  refine b_scr l241_657 ⟨by omega, by omega⟩ (by omega) (b_pc (pc' := 658) rfl ?_)
  refine b_s (pc' := 659) (lv1 := [(0, .ref 0), (1, .ref 1), (2, .ref 76), (3, .ref 112), (4, bI i), (5, bI k)]) (st' := [.ref 0, bI (xs (i + 1).toNat).toInt, .ref 76]) l241_658 (fun _ => rfl) ?_
  refine b_s (pc' := 661) (lv1 := [(0, .ref 0), (1, .ref 1), (2, .ref 76), (3, .ref 112), (4, bI i), (5, bI k)]) (st' := [bI i, .ref 0, bI (xs (i + 1).toNat).toInt, .ref 76]) l241_659 (fun _ => rfl) ?_
  refine b_s (pc' := 662) (lv1 := [(0, .ref 0), (1, .ref 1), (2, .ref 76), (3, .ref 112), (4, bI i), (5, bI k)]) (st' := [bI 2, bI i, .ref 0, bI (xs (i + 1).toNat).toInt, .ref 76]) l241_661 (fun _ => rfl) ?_
  refine b_iadd1 l241_662 (b_in (by omega) (by omega)) (b_pc (pc' := 663) rfl ?_)
  refine b_scr l241_663 ⟨by omega, by omega⟩ (by omega) (b_pc (pc' := 664) rfl ?_)
  refine b_s (pc' := 665) (lv1 := [(0, .ref 0), (1, .ref 1), (2, .ref 76), (3, .ref 112), (4, bI i), (5, bI k)]) (st' := [.ref 0, bI (xs (i + 2).toNat).toInt, bI (xs (i + 1).toNat).toInt, .ref 76]) l241_664 (fun _ => rfl) ?_
  refine b_s (pc' := 667) (lv1 := [(0, .ref 0), (1, .ref 1), (2, .ref 76), (3, .ref 112), (4, bI i), (5, bI k)]) (st' := [bI i, .ref 0, bI (xs (i + 2).toNat).toInt, bI (xs (i + 1).toNat).toInt, .ref 76]) l241_665 (fun _ => rfl) ?_
  refine b_s (pc' := 668) (lv1 := [(0, .ref 0), (1, .ref 1), (2, .ref 76), (3, .ref 112), (4, bI i), (5, bI k)]) (st' := [bI 3, bI i, .ref 0, bI (xs (i + 2).toNat).toInt, bI (xs (i + 1).toNat).toInt, .ref 76]) l241_667 (fun _ => rfl) ?_
  refine b_iadd1 l241_668 (b_in (by omega) (by omega)) (b_pc (pc' := 669) rfl ?_)
  refine b_scr l241_669 ⟨by omega, by omega⟩ (by omega) (b_pc (pc' := 670) rfl ?_)
  refine b_s (pc' := 671) (lv1 := [(0, .ref 0), (1, .ref 1), (2, .ref 76), (3, .ref 112), (4, bI i), (5, bI k)]) (st' := [.ref 0, bI (xs (i + 3).toNat).toInt, bI (xs (i + 2).toNat).toInt, bI (xs (i + 1).toNat).toInt, .ref 76]) l241_670 (fun _ => rfl) ?_
  refine b_s (pc' := 673) (lv1 := [(0, .ref 0), (1, .ref 1), (2, .ref 76), (3, .ref 112), (4, bI i), (5, bI k)]) (st' := [bI i, .ref 0, bI (xs (i + 3).toNat).toInt, bI (xs (i + 2).toNat).toInt, bI (xs (i + 1).toNat).toInt, .ref 76]) l241_671 (fun _ => rfl) ?_
  refine b_s (pc' := 674) (lv1 := [(0, .ref 0), (1, .ref 1), (2, .ref 76), (3, .ref 112), (4, bI i), (5, bI k)]) (st' := [bI 4, bI i, .ref 0, bI (xs (i + 3).toNat).toInt, bI (xs (i + 2).toNat).toInt, bI (xs (i + 1).toNat).toInt, .ref 76]) l241_673 (fun _ => rfl) ?_
  refine b_iadd1 l241_674 (b_in (by omega) (by omega)) (b_pc (pc' := 675) rfl ?_)
  refine b_scr l241_675 ⟨by omega, by omega⟩ (by omega) (b_pc (pc' := 676) rfl ?_)
  refine b_cMki l241_676 rfl (b_rc (ci := 9) (by rfl) (by decide) (by decide +kernel)) (Nat.le_of_ble_eq_true rfl) (Nat.le_of_ble_eq_true rfl) rfl (r_X11_reference (xs (i + 1).toNat).toInt (bi_rg _) (xs (i + 2).toNat).toInt (bi_rg _) (xs (i + 3).toNat).toInt (bi_rg _) (xs (i + 4).toNat).toInt (bi_rg _)) hF2 fun hv2 => bD.ok fun hk2 => b_pc (pc' := 679) rfl ?_
  refine b_w (pc' := 681) (lv1 := ax_st1 [(0, .ref 0), (1, .ref 1), (2, .ref 76), (3, .ref 112), (4, bI i), (5, bI k)] 6 (bI b)) (lv' := [(0, .ref 0), (1, .ref 1), (2, .ref 76), (3, .ref 112), (4, bI i), (5, bI k), (6, bI b)]) (st' := []) l241_679 (fun _ => rfl) (bSb rfl (bSb rfl (bSb rfl (bSb rfl (bSb rfl (bSb rfl (bSb rfl bSn))))))) ?_
  refine b_s (pc' := 682) (lv1 := [(0, .ref 0), (1, .ref 1), (2, .ref 76), (3, .ref 112), (4, bI i), (5, bI k), (6, bI b)]) (st' := [.ref 76]) l241_681 (fun _ => rfl) ?_
  refine b_cPki (v := μ2 76 0) l241_682 rfl (b_rc (ci := 9) (by rfl) (by decide) (by decide +kernel)) (Nat.le_of_ble_eq_true rfl) (Nat.le_of_ble_eq_true rfl) rfl (r_X11_thrown ) rfl fun hw1 => b_pc (pc' := 685) rfl ?_
  refine b_s (pc' := 687) (lv1 := [(0, .ref 0), (1, .ref 1), (2, .ref 76), (3, .ref 112), (4, bI i), (5, bI k), (6, bI b)]) (st' := [bI k, bI (μ2 76 0)]) l241_685 (fun _ => rfl) ?_
  refine b_pos (c := (μ2 76 0) = k) (E1 := some (.inl 1, μf, c)) (E2 := none) (κ := some) hEQ ?_
  refine b_ieq (pt := 692) l241_687 hw1 hv1 (by decide) rfl (fun _ => ?_) (fun z => absurd hEQ z)
  refine b_s (pc' := 694) (lv1 := [(0, .ref 0), (1, .ref 1), (2, .ref 76), (3, .ref 112), (4, bI i), (5, bI k), (6, bI b)]) (st' := [bI k]) l241_692 (fun _ => rfl) ?_
  by_cases hk0 : k = 0
  · refine b_neg (c := ¬ k = 0) (E1 := none) (E2 := some (.inl 1, μf, c)) (κ := some) (fun z => z hk0) ?_
    refine b_zne (pt := 709) l241_694 hv1 (by decide) rfl (fun z => absurd hk0 z) (fun _ => b_pc (pc' := 697) rfl ?_)
    refine b_s (pc' := 698) (lv1 := [(0, .ref 0), (1, .ref 1), (2, .ref 76), (3, .ref 112), (4, bI i), (5, bI k), (6, bI b)]) (st' := [.ref 112]) l241_697 (fun _ => rfl) ?_
    refine b_s (pc' := 699) (lv1 := [(0, .ref 0), (1, .ref 1), (2, .ref 76), (3, .ref 112), (4, bI i), (5, bI k), (6, bI b)]) (st' := [bI 0, .ref 112]) l241_698 (fun _ => rfl) ?_
    refine b_lal l241_699 (by rfl) (by decide) (b_pc (pc' := 700) rfl ?_)
    refine b_s (pc' := 702) (lv1 := [(0, .ref 0), (1, .ref 1), (2, .ref 76), (3, .ref 112), (4, bI i), (5, bI k), (6, bI b)]) (st' := [bI b, bLg (μ2 112 0)]) l241_700 (fun _ => rfl) ?_
    refine b_i2l l241_702 hv2 (b_pc (pc' := 703) rfl ?_)
    refine b_lcmp l241_703 (bO_l hk2 (show bSh 112 = (2, 1) from rfl)) (bR_L hv2) (b_pc (pc' := 704) rfl ?_)
    refine b_pos (c := (bCmp (μ2 112 0) b) = 0) (E1 := some (.inl 1, μf, c)) (E2 := none) (κ := some) (bCmp_0 (ho hk0)) ?_
    refine b_zeq (pt := 709) l241_704 (bCmp_R _ _) (by decide) rfl (fun _ => ?_) (fun z => absurd (bCmp_0 (ho hk0)) z)
    refine b_s (pc' := 1655) (lv1 := [(0, .ref 0), (1, .ref 1), (2, .ref 76), (3, .ref 112), (4, bI i), (5, bI k), (6, bI b)]) (st' := []) l241_709 (fun _ => rfl) ?_
    refine b_inc1 (lv' := [(0, .ref 0), (1, .ref 1), (2, .ref 76), (3, .ref 112), (4, bI (i + 6))]) l241_1655 rfl (by decide +kernel) (bSb rfl (bSb rfl (bSb rfl (bSb rfl (bSb rfl bSn))))) (b_in (by omega) (by omega)) (b_pc (pc' := 1658) rfl ?_)
    refine b_s (pc' := 23) (lv1 := [(0, .ref 0), (1, .ref 1), (2, .ref 76), (3, .ref 112), (4, bI (i + 6))]) (st' := []) l241_1658 (fun _ => rfl) ?_
    exact kont
  · refine b_pos (c := ¬ k = 0) (E1 := some (.inl 1, μf, c)) (E2 := none) (κ := some) hk0 ?_
    refine b_zne (pt := 709) l241_694 hv1 (by decide) rfl (fun _ => ?_) (fun z => absurd hk0 z)
    refine b_s (pc' := 1655) (lv1 := [(0, .ref 0), (1, .ref 1), (2, .ref 76), (3, .ref 112), (4, bI i), (5, bI k), (6, bI b)]) (st' := []) l241_709 (fun _ => rfl) ?_
    refine b_inc1 (lv' := [(0, .ref 0), (1, .ref 1), (2, .ref 76), (3, .ref 112), (4, bI (i + 6))]) l241_1655 rfl (by decide +kernel) (bSb rfl (bSb rfl (bSb rfl (bSb rfl (bSb rfl bSn))))) (b_in (by omega) (by omega)) (b_pc (pc' := 1658) rfl ?_)
    refine b_s (pc' := 23) (lv1 := [(0, .ref 0), (1, .ref 1), (2, .ref 76), (3, .ref 112), (4, bI (i + 6))]) (st' := []) l241_1658 (fun _ => rfl) ?_
    exact kont
theorem g_7 {L : Nat} {xs : Nat → Int32} {i k b : Int} {c n1 : Nat} {μ μ1 μ2 μf : bM} (hL : L ≤ 3072) (hi : 0 ≤ i ∧ i + 6 ≤ (L : Int)) (hop : bAnd (xs i.toNat).toInt 31 = 7) (hF1 : F_X10_clear μ = some (k, μ1)) (hF2 : F_X11_clear μ1 = some (b, μ2)) (hEQ : k = b) (kont : bD L xs 9 241 23 [(0, .ref 0), (1, .ref 1), (2, .ref 76), (3, .ref 112), (4, bI (i + 6))] [] μ2 (some (.inl 1, μf, c))) : bD L xs 9 241 23 [(0, .ref 0), (1, .ref 1), (2, .ref 76), (3, .ref 112), (4, bI i)] [] μ (some (.inl 1, μf, c)) := by
  have hiR : bR i := b_in (by omega) (by omega)
  refine bD.ok fun hk => ?_
  refine b_s (pc' := 25) (lv1 := [(0, .ref 0), (1, .ref 1), (2, .ref 76), (3, .ref 112), (4, bI i)]) (st' := [bI i]) l241_23 (fun _ => rfl) ?_
  refine b_s (pc' := 26) (lv1 := [(0, .ref 0), (1, .ref 1), (2, .ref 76), (3, .ref 112), (4, bI i)]) (st' := [.ref 0, bI i]) l241_25 (fun _ => rfl) ?_
  refine b_scl l241_26 (b_pc (pc' := 27) rfl ?_)
  refine b_bipush l241_27 (by decide) (b_pc (pc' := 29) rfl ?_)
  refine b_isub1 l241_29 (b_in (by omega) (by omega)) (b_pc (pc' := 30) rfl ?_)
  refine b_neg (c := ((L : Int) - 6) < i) (E1 := none) (E2 := some (.inl 1, μf, c)) (κ := some) (by omega) ?_
  refine b_igt (pt := 1661) l241_30 hiR (b_in (by omega) (by omega)) (by decide) rfl (fun z => absurd z (by omega)) (fun _ => b_pc (pc' := 33) rfl ?_)
  refine b_s (pc' := 34) (lv1 := [(0, .ref 0), (1, .ref 1), (2, .ref 76), (3, .ref 112), (4, bI i)]) (st' := [.ref 0]) l241_33 (fun _ => rfl) ?_
  refine b_s (pc' := 36) (lv1 := [(0, .ref 0), (1, .ref 1), (2, .ref 76), (3, .ref 112), (4, bI i)]) (st' := [bI i, .ref 0]) l241_34 (fun _ => rfl) ?_
  refine b_scr l241_36 ⟨by omega, by omega⟩ (by omega) (b_pc (pc' := 37) rfl ?_)
  refine b_bipush l241_37 (by decide) (b_pc (pc' := 39) rfl ?_)
  refine b_iand l241_39 (b_pc (pc' := 40) rfl ?_)
  refine b_tsw l241_40 (bi_rg _) (by decide) (by decide) (by decide) ?_
  refine b_pc (pc' := bTg [(0, 152), (1, 256), (2, 292), (3, 348), (4, 416), (5, 540), (6, 620), (7, 712), (8, 725), (9, 738), (10, 794), (11, 862), (12, 918), (13, 998), (14, 1011), (15, 1067), (16, 1123), (17, 1191), (18, 1259), (19, 1315), (20, 1395), (21, 1462), (22, 1542), (23, 1598)] 1655 (bAnd (xs i.toNat).toInt 31)) rfl ?_
  refine b_pc (pc' := 712) (by rw [hop]; rfl) ?_
  refine b_s (pc' := 713) (lv1 := [(0, .ref 0), (1, .ref 1), (2, .ref 76), (3, .ref 112), (4, bI i)]) (st' := [.ref 1]) l241_712 (fun _ => rfl) ?_
  refine b_cMki l241_713 rfl (b_rc (ci := 8) (by rfl) (by decide) (by decide +kernel)) (Nat.le_of_ble_eq_true rfl) (Nat.le_of_ble_eq_true rfl) rfl (r_X10_clear ) hF1 fun hv1 => bD.ok fun hk1 => b_pc (pc' := 716) rfl ?_
  refine b_s (pc' := 717) (lv1 := [(0, .ref 0), (1, .ref 1), (2, .ref 76), (3, .ref 112), (4, bI i)]) (st' := [.ref 76, bI k]) l241_716 (fun _ => rfl) ?_
  refine b_cMki l241_717 rfl (b_rc (ci := 9) (by rfl) (by decide) (by decide +kernel)) (Nat.le_of_ble_eq_true rfl) (Nat.le_of_ble_eq_true rfl) rfl (r_X11_clear ) hF2 fun hv2 => bD.ok fun hk2 => b_pc (pc' := 720) rfl ?_
  refine b_pos (c := k = b) (E1 := some (.inl 1, μf, c)) (E2 := none) (κ := some) hEQ ?_
  refine b_ieq (pt := 1655) l241_720 hv1 hv2 (by decide) rfl (fun _ => ?_) (fun z => absurd hEQ z)
  refine b_inc1 (lv' := [(0, .ref 0), (1, .ref 1), (2, .ref 76), (3, .ref 112), (4, bI (i + 6))]) l241_1655 rfl (by decide +kernel) (bSb rfl (bSb rfl (bSb rfl (bSb rfl (bSb rfl bSn))))) (b_in (by omega) (by omega)) (b_pc (pc' := 1658) rfl ?_)
  refine b_s (pc' := 23) (lv1 := [(0, .ref 0), (1, .ref 1), (2, .ref 76), (3, .ref 112), (4, bI (i + 6))]) (st' := []) l241_1658 (fun _ => rfl) ?_
  exact kont
theorem g_8 {L : Nat} {xs : Nat → Int32} {i k b : Int} {c n1 : Nat} {μ μ1 μ2 μf : bM} (hL : L ≤ 3072) (hi : 0 ≤ i ∧ i + 6 ≤ (L : Int)) (hop : bAnd (xs i.toNat).toInt 31 = 8) (hF1 : F_X10_write μ = some (k, μ1)) (hF2 : F_X11_write μ1 = some (b, μ2)) (hEQ : k = b) (kont : bD L xs 9 241 23 [(0, .ref 0), (1, .ref 1), (2, .ref 76), (3, .ref 112), (4, bI (i + 6))] [] μ2 (some (.inl 1, μf, c))) : bD L xs 9 241 23 [(0, .ref 0), (1, .ref 1), (2, .ref 76), (3, .ref 112), (4, bI i)] [] μ (some (.inl 1, μf, c)) := by
  have hiR : bR i := b_in (by omega) (by omega)
  refine bD.ok fun hk => ?_
  refine b_s (pc' := 25) (lv1 := [(0, .ref 0), (1, .ref 1), (2, .ref 76), (3, .ref 112), (4, bI i)]) (st' := [bI i]) l241_23 (fun _ => rfl) ?_
  refine b_s (pc' := 26) (lv1 := [(0, .ref 0), (1, .ref 1), (2, .ref 76), (3, .ref 112), (4, bI i)]) (st' := [.ref 0, bI i]) l241_25 (fun _ => rfl) ?_
  refine b_scl l241_26 (b_pc (pc' := 27) rfl ?_)
  refine b_bipush l241_27 (by decide) (b_pc (pc' := 29) rfl ?_)
  refine b_isub1 l241_29 (b_in (by omega) (by omega)) (b_pc (pc' := 30) rfl ?_)
  refine b_neg (c := ((L : Int) - 6) < i) (E1 := none) (E2 := some (.inl 1, μf, c)) (κ := some) (by omega) ?_
  refine b_igt (pt := 1661) l241_30 hiR (b_in (by omega) (by omega)) (by decide) rfl (fun z => absurd z (by omega)) (fun _ => b_pc (pc' := 33) rfl ?_)
  refine b_s (pc' := 34) (lv1 := [(0, .ref 0), (1, .ref 1), (2, .ref 76), (3, .ref 112), (4, bI i)]) (st' := [.ref 0]) l241_33 (fun _ => rfl) ?_
  refine b_s (pc' := 36) (lv1 := [(0, .ref 0), (1, .ref 1), (2, .ref 76), (3, .ref 112), (4, bI i)]) (st' := [bI i, .ref 0]) l241_34 (fun _ => rfl) ?_
  refine b_scr l241_36 ⟨by omega, by omega⟩ (by omega) (b_pc (pc' := 37) rfl ?_)
  refine b_bipush l241_37 (by decide) (b_pc (pc' := 39) rfl ?_)
  refine b_iand l241_39 (b_pc (pc' := 40) rfl ?_)
  refine b_tsw l241_40 (bi_rg _) (by decide) (by decide) (by decide) ?_
  refine b_pc (pc' := bTg [(0, 152), (1, 256), (2, 292), (3, 348), (4, 416), (5, 540), (6, 620), (7, 712), (8, 725), (9, 738), (10, 794), (11, 862), (12, 918), (13, 998), (14, 1011), (15, 1067), (16, 1123), (17, 1191), (18, 1259), (19, 1315), (20, 1395), (21, 1462), (22, 1542), (23, 1598)] 1655 (bAnd (xs i.toNat).toInt 31)) rfl ?_
  refine b_pc (pc' := 725) (by rw [hop]; rfl) ?_
  refine b_s (pc' := 726) (lv1 := [(0, .ref 0), (1, .ref 1), (2, .ref 76), (3, .ref 112), (4, bI i)]) (st' := [.ref 1]) l241_725 (fun _ => rfl) ?_
  refine b_cMki l241_726 rfl (b_rc (ci := 8) (by rfl) (by decide) (by decide +kernel)) (Nat.le_of_ble_eq_true rfl) (Nat.le_of_ble_eq_true rfl) rfl (r_X10_write ) hF1 fun hv1 => bD.ok fun hk1 => b_pc (pc' := 729) rfl ?_
  refine b_s (pc' := 730) (lv1 := [(0, .ref 0), (1, .ref 1), (2, .ref 76), (3, .ref 112), (4, bI i)]) (st' := [.ref 76, bI k]) l241_729 (fun _ => rfl) ?_
  refine b_cMki l241_730 rfl (b_rc (ci := 9) (by rfl) (by decide) (by decide +kernel)) (Nat.le_of_ble_eq_true rfl) (Nat.le_of_ble_eq_true rfl) rfl (r_X11_write ) hF2 fun hv2 => bD.ok fun hk2 => b_pc (pc' := 733) rfl ?_
  refine b_pos (c := k = b) (E1 := some (.inl 1, μf, c)) (E2 := none) (κ := some) hEQ ?_
  refine b_ieq (pt := 1655) l241_733 hv1 hv2 (by decide) rfl (fun _ => ?_) (fun z => absurd hEQ z)
  refine b_inc1 (lv' := [(0, .ref 0), (1, .ref 1), (2, .ref 76), (3, .ref 112), (4, bI (i + 6))]) l241_1655 rfl (by decide +kernel) (bSb rfl (bSb rfl (bSb rfl (bSb rfl (bSb rfl bSn))))) (b_in (by omega) (by omega)) (b_pc (pc' := 1658) rfl ?_)
  refine b_s (pc' := 23) (lv1 := [(0, .ref 0), (1, .ref 1), (2, .ref 76), (3, .ref 112), (4, bI (i + 6))]) (st' := []) l241_1658 (fun _ => rfl) ?_
  exact kont
theorem g_9 {L : Nat} {xs : Nat → Int32} {i k b : Int} {c n1 : Nat} {μ μ1 μ2 μf : bM} (hL : L ≤ 3072) (hi : 0 ≤ i ∧ i + 6 ≤ (L : Int)) (hop : bAnd (xs i.toNat).toInt 31 = 9) (hF1 : F_L_size (xs (i + 1).toNat).toInt μ = some (k, μ1, n1)) (hF2 : F_X11_size (xs (i + 1).toNat).toInt μ1 = some (b, μ2)) (hEQ : μ2 76 0 = k) (ho : k = 0 → μ2 112 0 = b) (kont : bD L xs 9 241 23 [(0, .ref 0), (1, .ref 1), (2, .ref 76), (3, .ref 112), (4, bI (i + 6))] [] μ2 (some (.inl 1, μf, c))) : bD L xs 9 241 23 [(0, .ref 0), (1, .ref 1), (2, .ref 76), (3, .ref 112), (4, bI i)] [] μ (some (.inl 1, μf, (c + n1))) := by
  have hiR : bR i := b_in (by omega) (by omega)
  refine bD.ok fun hk => ?_
  refine b_s (pc' := 25) (lv1 := [(0, .ref 0), (1, .ref 1), (2, .ref 76), (3, .ref 112), (4, bI i)]) (st' := [bI i]) l241_23 (fun _ => rfl) ?_
  refine b_s (pc' := 26) (lv1 := [(0, .ref 0), (1, .ref 1), (2, .ref 76), (3, .ref 112), (4, bI i)]) (st' := [.ref 0, bI i]) l241_25 (fun _ => rfl) ?_
  refine b_scl l241_26 (b_pc (pc' := 27) rfl ?_)
  refine b_bipush l241_27 (by decide) (b_pc (pc' := 29) rfl ?_)
  refine b_isub1 l241_29 (b_in (by omega) (by omega)) (b_pc (pc' := 30) rfl ?_)
  refine b_neg (c := ((L : Int) - 6) < i) (E1 := none) (E2 := some (.inl 1, μf, (c + n1))) (κ := some) (by omega) ?_
  refine b_igt (pt := 1661) l241_30 hiR (b_in (by omega) (by omega)) (by decide) rfl (fun z => absurd z (by omega)) (fun _ => b_pc (pc' := 33) rfl ?_)
  refine b_s (pc' := 34) (lv1 := [(0, .ref 0), (1, .ref 1), (2, .ref 76), (3, .ref 112), (4, bI i)]) (st' := [.ref 0]) l241_33 (fun _ => rfl) ?_
  refine b_s (pc' := 36) (lv1 := [(0, .ref 0), (1, .ref 1), (2, .ref 76), (3, .ref 112), (4, bI i)]) (st' := [bI i, .ref 0]) l241_34 (fun _ => rfl) ?_
  refine b_scr l241_36 ⟨by omega, by omega⟩ (by omega) (b_pc (pc' := 37) rfl ?_)
  refine b_bipush l241_37 (by decide) (b_pc (pc' := 39) rfl ?_)
  refine b_iand l241_39 (b_pc (pc' := 40) rfl ?_)
  refine b_tsw l241_40 (bi_rg _) (by decide) (by decide) (by decide) ?_
  refine b_pc (pc' := bTg [(0, 152), (1, 256), (2, 292), (3, 348), (4, 416), (5, 540), (6, 620), (7, 712), (8, 725), (9, 738), (10, 794), (11, 862), (12, 918), (13, 998), (14, 1011), (15, 1067), (16, 1123), (17, 1191), (18, 1259), (19, 1315), (20, 1395), (21, 1462), (22, 1542), (23, 1598)] 1655 (bAnd (xs i.toNat).toInt 31)) rfl ?_
  refine b_pc (pc' := 738) (by rw [hop]; rfl) ?_
  refine b_s (pc' := 739) (lv1 := [(0, .ref 0), (1, .ref 1), (2, .ref 76), (3, .ref 112), (4, bI i)]) (st' := [.ref 1]) l241_738 (fun _ => rfl) ?_
  refine b_s (pc' := 740) (lv1 := [(0, .ref 0), (1, .ref 1), (2, .ref 76), (3, .ref 112), (4, bI i)]) (st' := [.ref 0, .ref 1]) l241_739 (fun _ => rfl) ?_
  refine b_s (pc' := 742) (lv1 := [(0, .ref 0), (1, .ref 1), (2, .ref 76), (3, .ref 112), (4, bI i)]) (st' := [bI i, .ref 0, .ref 1]) l241_740 (fun _ => rfl) ?_
  refine b_s (pc' := 743) (lv1 := [(0, .ref 0), (1, .ref 1), (2, .ref 76), (3, .ref 112), (4, bI i)]) (st' := [bI 1, bI i, .ref 0, .ref 1]) l241_742 (fun _ => rfl) ?_
  refine b_iadd1 l241_743 (b_in (by omega) (by omega)) (b_pc (pc' := 744) rfl ?_)
  refine b_scr l241_744 ⟨by omega, by omega⟩ (by omega) (b_pc (pc' := 745) rfl ?_)
  refine b_s (pc' := 746) (lv1 := [(0, .ref 0), (1, .ref 1), (2, .ref 76), (3, .ref 112), (4, bI i)]) (st' := [.ref 112, bI (xs (i + 1).toNat).toInt, .ref 1]) l241_745 (fun _ => rfl) ?_
  refine b_cKki l241_746 rfl (fun _ => trivial) (Nat.le_of_ble_eq_true rfl) (Nat.le_of_ble_eq_true rfl) rfl (r_L_size (xs (i + 1).toNat).toInt (bi_rg _)) hF1 fun hv1 => bD.ok fun hk1 => b_pc (pc' := 749) rfl ?_
  refine b_w (pc' := 751) (lv1 := ax_st1 [(0, .ref 0), (1, .ref 1), (2, .ref 76), (3, .ref 112), (4, bI i)] 5 (bI k)) (lv' := [(0, .ref 0), (1, .ref 1), (2, .ref 76), (3, .ref 112), (4, bI i), (5, bI k)]) (st' := []) l241_749 (fun _ => rfl) (bSb rfl (bSb rfl (bSb rfl (bSb rfl (bSb rfl (bSb rfl bSn)))))) ?_
  refine b_s (pc' := 752) (lv1 := [(0, .ref 0), (1, .ref 1), (2, .ref 76), (3, .ref 112), (4, bI i), (5, bI k)]) (st' := [.ref 76]) l241_751 (fun _ => rfl) ?_
  refine b_s (pc' := 753) (lv1 := [(0, .ref 0), (1, .ref 1), (2, .ref 76), (3, .ref 112), (4, bI i), (5, bI k)]) (st' := [.ref 0, .ref 76]) l241_752 (fun _ => rfl) ?_
  refine b_s (pc' := 755) (lv1 := [(0, .ref 0), (1, .ref 1), (2, .ref 76), (3, .ref 112), (4, bI i), (5, bI k)]) (st' := [bI i, .ref 0, .ref 76]) l241_753 (fun _ => rfl) ?_
  refine b_s (pc' := 756) (lv1 := [(0, .ref 0), (1, .ref 1), (2, .ref 76), (3, .ref 112), (4, bI i), (5, bI k)]) (st' := [bI 1, bI i, .ref 0, .ref 76]) l241_755 (fun _ => rfl) ?_
  refine b_iadd1 l241_756 (b_in (by omega) (by omega)) (b_pc (pc' := 757) rfl ?_)
  refine b_scr l241_757 ⟨by omega, by omega⟩ (by omega) (b_pc (pc' := 758) rfl ?_)
  refine b_cMki l241_758 rfl (b_rc (ci := 9) (by rfl) (by decide) (by decide +kernel)) (Nat.le_of_ble_eq_true rfl) (Nat.le_of_ble_eq_true rfl) rfl (r_X11_size (xs (i + 1).toNat).toInt (bi_rg _)) hF2 fun hv2 => bD.ok fun hk2 => b_pc (pc' := 761) rfl ?_
  refine b_w (pc' := 763) (lv1 := ax_st1 [(0, .ref 0), (1, .ref 1), (2, .ref 76), (3, .ref 112), (4, bI i), (5, bI k)] 6 (bI b)) (lv' := [(0, .ref 0), (1, .ref 1), (2, .ref 76), (3, .ref 112), (4, bI i), (5, bI k), (6, bI b)]) (st' := []) l241_761 (fun _ => rfl) (bSb rfl (bSb rfl (bSb rfl (bSb rfl (bSb rfl (bSb rfl (bSb rfl bSn))))))) ?_
  refine b_s (pc' := 764) (lv1 := [(0, .ref 0), (1, .ref 1), (2, .ref 76), (3, .ref 112), (4, bI i), (5, bI k), (6, bI b)]) (st' := [.ref 76]) l241_763 (fun _ => rfl) ?_
  refine b_cPki (v := μ2 76 0) l241_764 rfl (b_rc (ci := 9) (by rfl) (by decide) (by decide +kernel)) (Nat.le_of_ble_eq_true rfl) (Nat.le_of_ble_eq_true rfl) rfl (r_X11_thrown ) rfl fun hw1 => b_pc (pc' := 767) rfl ?_
  refine b_s (pc' := 769) (lv1 := [(0, .ref 0), (1, .ref 1), (2, .ref 76), (3, .ref 112), (4, bI i), (5, bI k), (6, bI b)]) (st' := [bI k, bI (μ2 76 0)]) l241_767 (fun _ => rfl) ?_
  refine b_pos (c := (μ2 76 0) = k) (E1 := some (.inl 1, μf, c)) (E2 := none) (κ := some) hEQ ?_
  refine b_ieq (pt := 774) l241_769 hw1 hv1 (by decide) rfl (fun _ => ?_) (fun z => absurd hEQ z)
  refine b_s (pc' := 776) (lv1 := [(0, .ref 0), (1, .ref 1), (2, .ref 76), (3, .ref 112), (4, bI i), (5, bI k), (6, bI b)]) (st' := [bI k]) l241_774 (fun _ => rfl) ?_
  by_cases hk0 : k = 0
  · refine b_neg (c := ¬ k = 0) (E1 := none) (E2 := some (.inl 1, μf, c)) (κ := some) (fun z => z hk0) ?_
    refine b_zne (pt := 791) l241_776 hv1 (by decide) rfl (fun z => absurd hk0 z) (fun _ => b_pc (pc' := 779) rfl ?_)
    refine b_s (pc' := 780) (lv1 := [(0, .ref 0), (1, .ref 1), (2, .ref 76), (3, .ref 112), (4, bI i), (5, bI k), (6, bI b)]) (st' := [.ref 112]) l241_779 (fun _ => rfl) ?_
    refine b_s (pc' := 781) (lv1 := [(0, .ref 0), (1, .ref 1), (2, .ref 76), (3, .ref 112), (4, bI i), (5, bI k), (6, bI b)]) (st' := [bI 0, .ref 112]) l241_780 (fun _ => rfl) ?_
    refine b_lal l241_781 (by rfl) (by decide) (b_pc (pc' := 782) rfl ?_)
    refine b_s (pc' := 784) (lv1 := [(0, .ref 0), (1, .ref 1), (2, .ref 76), (3, .ref 112), (4, bI i), (5, bI k), (6, bI b)]) (st' := [bI b, bLg (μ2 112 0)]) l241_782 (fun _ => rfl) ?_
    refine b_i2l l241_784 hv2 (b_pc (pc' := 785) rfl ?_)
    refine b_lcmp l241_785 (bO_l hk2 (show bSh 112 = (2, 1) from rfl)) (bR_L hv2) (b_pc (pc' := 786) rfl ?_)
    refine b_pos (c := (bCmp (μ2 112 0) b) = 0) (E1 := some (.inl 1, μf, c)) (E2 := none) (κ := some) (bCmp_0 (ho hk0)) ?_
    refine b_zeq (pt := 791) l241_786 (bCmp_R _ _) (by decide) rfl (fun _ => ?_) (fun z => absurd (bCmp_0 (ho hk0)) z)
    refine b_s (pc' := 1655) (lv1 := [(0, .ref 0), (1, .ref 1), (2, .ref 76), (3, .ref 112), (4, bI i), (5, bI k), (6, bI b)]) (st' := []) l241_791 (fun _ => rfl) ?_
    refine b_inc1 (lv' := [(0, .ref 0), (1, .ref 1), (2, .ref 76), (3, .ref 112), (4, bI (i + 6))]) l241_1655 rfl (by decide +kernel) (bSb rfl (bSb rfl (bSb rfl (bSb rfl (bSb rfl bSn))))) (b_in (by omega) (by omega)) (b_pc (pc' := 1658) rfl ?_)
    refine b_s (pc' := 23) (lv1 := [(0, .ref 0), (1, .ref 1), (2, .ref 76), (3, .ref 112), (4, bI (i + 6))]) (st' := []) l241_1658 (fun _ => rfl) ?_
    exact kont
  · refine b_pos (c := ¬ k = 0) (E1 := some (.inl 1, μf, c)) (E2 := none) (κ := some) hk0 ?_
    refine b_zne (pt := 791) l241_776 hv1 (by decide) rfl (fun _ => ?_) (fun z => absurd hk0 z)
    refine b_s (pc' := 1655) (lv1 := [(0, .ref 0), (1, .ref 1), (2, .ref 76), (3, .ref 112), (4, bI i), (5, bI k), (6, bI b)]) (st' := []) l241_791 (fun _ => rfl) ?_
    refine b_inc1 (lv' := [(0, .ref 0), (1, .ref 1), (2, .ref 76), (3, .ref 112), (4, bI (i + 6))]) l241_1655 rfl (by decide +kernel) (bSb rfl (bSb rfl (bSb rfl (bSb rfl (bSb rfl bSn))))) (b_in (by omega) (by omega)) (b_pc (pc' := 1658) rfl ?_)
    refine b_s (pc' := 23) (lv1 := [(0, .ref 0), (1, .ref 1), (2, .ref 76), (3, .ref 112), (4, bI (i + 6))]) (st' := []) l241_1658 (fun _ => rfl) ?_
    exact kont
theorem g_10 {L : Nat} {xs : Nat → Int32} {i k b : Int} {c n1 : Nat} {μ μ1 μ2 μf : bM} (hL : L ≤ 3072) (hi : 0 ≤ i ∧ i + 6 ≤ (L : Int)) (hop : bAnd (xs i.toNat).toInt 31 = 10) (hF1 : F_L_octet (xs (i + 1).toNat).toInt (xs (i + 2).toNat).toInt μ = some (k, μ1, n1)) (hF2 : F_X11_octet (xs (i + 1).toNat).toInt (xs (i + 2).toNat).toInt μ1 = some (b, μ2)) (hEQ : μ2 76 0 = k) (ho : k = 0 → μ2 112 0 = b) (kont : bD L xs 9 241 23 [(0, .ref 0), (1, .ref 1), (2, .ref 76), (3, .ref 112), (4, bI (i + 6))] [] μ2 (some (.inl 1, μf, c))) : bD L xs 9 241 23 [(0, .ref 0), (1, .ref 1), (2, .ref 76), (3, .ref 112), (4, bI i)] [] μ (some (.inl 1, μf, (c + n1))) := by
  have hiR : bR i := b_in (by omega) (by omega)
  refine bD.ok fun hk => ?_
  refine b_s (pc' := 25) (lv1 := [(0, .ref 0), (1, .ref 1), (2, .ref 76), (3, .ref 112), (4, bI i)]) (st' := [bI i]) l241_23 (fun _ => rfl) ?_
  refine b_s (pc' := 26) (lv1 := [(0, .ref 0), (1, .ref 1), (2, .ref 76), (3, .ref 112), (4, bI i)]) (st' := [.ref 0, bI i]) l241_25 (fun _ => rfl) ?_
  refine b_scl l241_26 (b_pc (pc' := 27) rfl ?_)
  refine b_bipush l241_27 (by decide) (b_pc (pc' := 29) rfl ?_)
  refine b_isub1 l241_29 (b_in (by omega) (by omega)) (b_pc (pc' := 30) rfl ?_)
  refine b_neg (c := ((L : Int) - 6) < i) (E1 := none) (E2 := some (.inl 1, μf, (c + n1))) (κ := some) (by omega) ?_
  refine b_igt (pt := 1661) l241_30 hiR (b_in (by omega) (by omega)) (by decide) rfl (fun z => absurd z (by omega)) (fun _ => b_pc (pc' := 33) rfl ?_)
  refine b_s (pc' := 34) (lv1 := [(0, .ref 0), (1, .ref 1), (2, .ref 76), (3, .ref 112), (4, bI i)]) (st' := [.ref 0]) l241_33 (fun _ => rfl) ?_
  refine b_s (pc' := 36) (lv1 := [(0, .ref 0), (1, .ref 1), (2, .ref 76), (3, .ref 112), (4, bI i)]) (st' := [bI i, .ref 0]) l241_34 (fun _ => rfl) ?_
  refine b_scr l241_36 ⟨by omega, by omega⟩ (by omega) (b_pc (pc' := 37) rfl ?_)
  refine b_bipush l241_37 (by decide) (b_pc (pc' := 39) rfl ?_)
  refine b_iand l241_39 (b_pc (pc' := 40) rfl ?_)
  refine b_tsw l241_40 (bi_rg _) (by decide) (by decide) (by decide) ?_
  refine b_pc (pc' := bTg [(0, 152), (1, 256), (2, 292), (3, 348), (4, 416), (5, 540), (6, 620), (7, 712), (8, 725), (9, 738), (10, 794), (11, 862), (12, 918), (13, 998), (14, 1011), (15, 1067), (16, 1123), (17, 1191), (18, 1259), (19, 1315), (20, 1395), (21, 1462), (22, 1542), (23, 1598)] 1655 (bAnd (xs i.toNat).toInt 31)) rfl ?_
  refine b_pc (pc' := 794) (by rw [hop]; rfl) ?_
  refine b_s (pc' := 795) (lv1 := [(0, .ref 0), (1, .ref 1), (2, .ref 76), (3, .ref 112), (4, bI i)]) (st' := [.ref 1]) l241_794 (fun _ => rfl) ?_
  refine b_s (pc' := 796) (lv1 := [(0, .ref 0), (1, .ref 1), (2, .ref 76), (3, .ref 112), (4, bI i)]) (st' := [.ref 0, .ref 1]) l241_795 (fun _ => rfl) ?_
  refine b_s (pc' := 798) (lv1 := [(0, .ref 0), (1, .ref 1), (2, .ref 76), (3, .ref 112), (4, bI i)]) (st' := [bI i, .ref 0, .ref 1]) l241_796 (fun _ => rfl) ?_
  refine b_s (pc' := 799) (lv1 := [(0, .ref 0), (1, .ref 1), (2, .ref 76), (3, .ref 112), (4, bI i)]) (st' := [bI 1, bI i, .ref 0, .ref 1]) l241_798 (fun _ => rfl) ?_
  refine b_iadd1 l241_799 (b_in (by omega) (by omega)) (b_pc (pc' := 800) rfl ?_)
  refine b_scr l241_800 ⟨by omega, by omega⟩ (by omega) (b_pc (pc' := 801) rfl ?_)
  refine b_s (pc' := 802) (lv1 := [(0, .ref 0), (1, .ref 1), (2, .ref 76), (3, .ref 112), (4, bI i)]) (st' := [.ref 0, bI (xs (i + 1).toNat).toInt, .ref 1]) l241_801 (fun _ => rfl) ?_
  refine b_s (pc' := 804) (lv1 := [(0, .ref 0), (1, .ref 1), (2, .ref 76), (3, .ref 112), (4, bI i)]) (st' := [bI i, .ref 0, bI (xs (i + 1).toNat).toInt, .ref 1]) l241_802 (fun _ => rfl) ?_
  refine b_s (pc' := 805) (lv1 := [(0, .ref 0), (1, .ref 1), (2, .ref 76), (3, .ref 112), (4, bI i)]) (st' := [bI 2, bI i, .ref 0, bI (xs (i + 1).toNat).toInt, .ref 1]) l241_804 (fun _ => rfl) ?_
  refine b_iadd1 l241_805 (b_in (by omega) (by omega)) (b_pc (pc' := 806) rfl ?_)
  refine b_scr l241_806 ⟨by omega, by omega⟩ (by omega) (b_pc (pc' := 807) rfl ?_)
  refine b_s (pc' := 808) (lv1 := [(0, .ref 0), (1, .ref 1), (2, .ref 76), (3, .ref 112), (4, bI i)]) (st' := [.ref 112, bI (xs (i + 2).toNat).toInt, bI (xs (i + 1).toNat).toInt, .ref 1]) l241_807 (fun _ => rfl) ?_
  refine b_cKki l241_808 rfl (fun _ => trivial) (Nat.le_of_ble_eq_true rfl) (Nat.le_of_ble_eq_true rfl) rfl (r_L_octet (xs (i + 1).toNat).toInt (bi_rg _) (xs (i + 2).toNat).toInt (bi_rg _)) hF1 fun hv1 => bD.ok fun hk1 => b_pc (pc' := 811) rfl ?_
  refine b_w (pc' := 813) (lv1 := ax_st1 [(0, .ref 0), (1, .ref 1), (2, .ref 76), (3, .ref 112), (4, bI i)] 5 (bI k)) (lv' := [(0, .ref 0), (1, .ref 1), (2, .ref 76), (3, .ref 112), (4, bI i), (5, bI k)]) (st' := []) l241_811 (fun _ => rfl) (bSb rfl (bSb rfl (bSb rfl (bSb rfl (bSb rfl (bSb rfl bSn)))))) ?_
  refine b_s (pc' := 814) (lv1 := [(0, .ref 0), (1, .ref 1), (2, .ref 76), (3, .ref 112), (4, bI i), (5, bI k)]) (st' := [.ref 76]) l241_813 (fun _ => rfl) ?_
  refine b_s (pc' := 815) (lv1 := [(0, .ref 0), (1, .ref 1), (2, .ref 76), (3, .ref 112), (4, bI i), (5, bI k)]) (st' := [.ref 0, .ref 76]) l241_814 (fun _ => rfl) ?_
  refine b_s (pc' := 817) (lv1 := [(0, .ref 0), (1, .ref 1), (2, .ref 76), (3, .ref 112), (4, bI i), (5, bI k)]) (st' := [bI i, .ref 0, .ref 76]) l241_815 (fun _ => rfl) ?_
  refine b_s (pc' := 818) (lv1 := [(0, .ref 0), (1, .ref 1), (2, .ref 76), (3, .ref 112), (4, bI i), (5, bI k)]) (st' := [bI 1, bI i, .ref 0, .ref 76]) l241_817 (fun _ => rfl) ?_
  refine b_iadd1 l241_818 (b_in (by omega) (by omega)) (b_pc (pc' := 819) rfl ?_)
  refine b_scr l241_819 ⟨by omega, by omega⟩ (by omega) (b_pc (pc' := 820) rfl ?_)
  refine b_s (pc' := 821) (lv1 := [(0, .ref 0), (1, .ref 1), (2, .ref 76), (3, .ref 112), (4, bI i), (5, bI k)]) (st' := [.ref 0, bI (xs (i + 1).toNat).toInt, .ref 76]) l241_820 (fun _ => rfl) ?_
  refine b_s (pc' := 823) (lv1 := [(0, .ref 0), (1, .ref 1), (2, .ref 76), (3, .ref 112), (4, bI i), (5, bI k)]) (st' := [bI i, .ref 0, bI (xs (i + 1).toNat).toInt, .ref 76]) l241_821 (fun _ => rfl) ?_
  refine b_s (pc' := 824) (lv1 := [(0, .ref 0), (1, .ref 1), (2, .ref 76), (3, .ref 112), (4, bI i), (5, bI k)]) (st' := [bI 2, bI i, .ref 0, bI (xs (i + 1).toNat).toInt, .ref 76]) l241_823 (fun _ => rfl) ?_
  refine b_iadd1 l241_824 (b_in (by omega) (by omega)) (b_pc (pc' := 825) rfl ?_)
  refine b_scr l241_825 ⟨by omega, by omega⟩ (by omega) (b_pc (pc' := 826) rfl ?_)
  refine b_cMki l241_826 rfl (b_rc (ci := 9) (by rfl) (by decide) (by decide +kernel)) (Nat.le_of_ble_eq_true rfl) (Nat.le_of_ble_eq_true rfl) rfl (r_X11_octet (xs (i + 1).toNat).toInt (bi_rg _) (xs (i + 2).toNat).toInt (bi_rg _)) hF2 fun hv2 => bD.ok fun hk2 => b_pc (pc' := 829) rfl ?_
  refine b_w (pc' := 831) (lv1 := ax_st1 [(0, .ref 0), (1, .ref 1), (2, .ref 76), (3, .ref 112), (4, bI i), (5, bI k)] 6 (bI b)) (lv' := [(0, .ref 0), (1, .ref 1), (2, .ref 76), (3, .ref 112), (4, bI i), (5, bI k), (6, bI b)]) (st' := []) l241_829 (fun _ => rfl) (bSb rfl (bSb rfl (bSb rfl (bSb rfl (bSb rfl (bSb rfl (bSb rfl bSn))))))) ?_
  refine b_s (pc' := 832) (lv1 := [(0, .ref 0), (1, .ref 1), (2, .ref 76), (3, .ref 112), (4, bI i), (5, bI k), (6, bI b)]) (st' := [.ref 76]) l241_831 (fun _ => rfl) ?_
  refine b_cPki (v := μ2 76 0) l241_832 rfl (b_rc (ci := 9) (by rfl) (by decide) (by decide +kernel)) (Nat.le_of_ble_eq_true rfl) (Nat.le_of_ble_eq_true rfl) rfl (r_X11_thrown ) rfl fun hw1 => b_pc (pc' := 835) rfl ?_
  refine b_s (pc' := 837) (lv1 := [(0, .ref 0), (1, .ref 1), (2, .ref 76), (3, .ref 112), (4, bI i), (5, bI k), (6, bI b)]) (st' := [bI k, bI (μ2 76 0)]) l241_835 (fun _ => rfl) ?_
  refine b_pos (c := (μ2 76 0) = k) (E1 := some (.inl 1, μf, c)) (E2 := none) (κ := some) hEQ ?_
  refine b_ieq (pt := 842) l241_837 hw1 hv1 (by decide) rfl (fun _ => ?_) (fun z => absurd hEQ z)
  refine b_s (pc' := 844) (lv1 := [(0, .ref 0), (1, .ref 1), (2, .ref 76), (3, .ref 112), (4, bI i), (5, bI k), (6, bI b)]) (st' := [bI k]) l241_842 (fun _ => rfl) ?_
  by_cases hk0 : k = 0
  · refine b_neg (c := ¬ k = 0) (E1 := none) (E2 := some (.inl 1, μf, c)) (κ := some) (fun z => z hk0) ?_
    refine b_zne (pt := 859) l241_844 hv1 (by decide) rfl (fun z => absurd hk0 z) (fun _ => b_pc (pc' := 847) rfl ?_)
    refine b_s (pc' := 848) (lv1 := [(0, .ref 0), (1, .ref 1), (2, .ref 76), (3, .ref 112), (4, bI i), (5, bI k), (6, bI b)]) (st' := [.ref 112]) l241_847 (fun _ => rfl) ?_
    refine b_s (pc' := 849) (lv1 := [(0, .ref 0), (1, .ref 1), (2, .ref 76), (3, .ref 112), (4, bI i), (5, bI k), (6, bI b)]) (st' := [bI 0, .ref 112]) l241_848 (fun _ => rfl) ?_
    refine b_lal l241_849 (by rfl) (by decide) (b_pc (pc' := 850) rfl ?_)
    refine b_s (pc' := 852) (lv1 := [(0, .ref 0), (1, .ref 1), (2, .ref 76), (3, .ref 112), (4, bI i), (5, bI k), (6, bI b)]) (st' := [bI b, bLg (μ2 112 0)]) l241_850 (fun _ => rfl) ?_
    refine b_i2l l241_852 hv2 (b_pc (pc' := 853) rfl ?_)
    refine b_lcmp l241_853 (bO_l hk2 (show bSh 112 = (2, 1) from rfl)) (bR_L hv2) (b_pc (pc' := 854) rfl ?_)
    refine b_pos (c := (bCmp (μ2 112 0) b) = 0) (E1 := some (.inl 1, μf, c)) (E2 := none) (κ := some) (bCmp_0 (ho hk0)) ?_
    refine b_zeq (pt := 859) l241_854 (bCmp_R _ _) (by decide) rfl (fun _ => ?_) (fun z => absurd (bCmp_0 (ho hk0)) z)
    refine b_s (pc' := 1655) (lv1 := [(0, .ref 0), (1, .ref 1), (2, .ref 76), (3, .ref 112), (4, bI i), (5, bI k), (6, bI b)]) (st' := []) l241_859 (fun _ => rfl) ?_
    refine b_inc1 (lv' := [(0, .ref 0), (1, .ref 1), (2, .ref 76), (3, .ref 112), (4, bI (i + 6))]) l241_1655 rfl (by decide +kernel) (bSb rfl (bSb rfl (bSb rfl (bSb rfl (bSb rfl bSn))))) (b_in (by omega) (by omega)) (b_pc (pc' := 1658) rfl ?_)
    refine b_s (pc' := 23) (lv1 := [(0, .ref 0), (1, .ref 1), (2, .ref 76), (3, .ref 112), (4, bI (i + 6))]) (st' := []) l241_1658 (fun _ => rfl) ?_
    exact kont
  · refine b_pos (c := ¬ k = 0) (E1 := some (.inl 1, μf, c)) (E2 := none) (κ := some) hk0 ?_
    refine b_zne (pt := 859) l241_844 hv1 (by decide) rfl (fun _ => ?_) (fun z => absurd hk0 z)
    refine b_s (pc' := 1655) (lv1 := [(0, .ref 0), (1, .ref 1), (2, .ref 76), (3, .ref 112), (4, bI i), (5, bI k), (6, bI b)]) (st' := []) l241_859 (fun _ => rfl) ?_
    refine b_inc1 (lv' := [(0, .ref 0), (1, .ref 1), (2, .ref 76), (3, .ref 112), (4, bI (i + 6))]) l241_1655 rfl (by decide +kernel) (bSb rfl (bSb rfl (bSb rfl (bSb rfl (bSb rfl bSn))))) (b_in (by omega) (by omega)) (b_pc (pc' := 1658) rfl ?_)
    refine b_s (pc' := 23) (lv1 := [(0, .ref 0), (1, .ref 1), (2, .ref 76), (3, .ref 112), (4, bI (i + 6))]) (st' := []) l241_1658 (fun _ => rfl) ?_
    exact kont
theorem g_11 {L : Nat} {xs : Nat → Int32} {i k b : Int} {c n1 : Nat} {μ μ1 μ2 μf : bM} (hL : L ≤ 3072) (hi : 0 ≤ i ∧ i + 6 ≤ (L : Int)) (hop : bAnd (xs i.toNat).toInt 31 = 11) (hF1 : F_L_load (xs (i + 1).toNat).toInt μ = some (k, μ1, n1)) (hF2 : F_X11_load (xs (i + 1).toNat).toInt μ1 = some (b, μ2)) (hEQ : μ2 76 0 = k) (ho : k = 0 → μ2 112 0 = b) (kont : bD L xs 9 241 23 [(0, .ref 0), (1, .ref 1), (2, .ref 76), (3, .ref 112), (4, bI (i + 6))] [] μ2 (some (.inl 1, μf, c))) : bD L xs 9 241 23 [(0, .ref 0), (1, .ref 1), (2, .ref 76), (3, .ref 112), (4, bI i)] [] μ (some (.inl 1, μf, (c + n1))) := by
  have hiR : bR i := b_in (by omega) (by omega)
  refine bD.ok fun hk => ?_
  refine b_s (pc' := 25) (lv1 := [(0, .ref 0), (1, .ref 1), (2, .ref 76), (3, .ref 112), (4, bI i)]) (st' := [bI i]) l241_23 (fun _ => rfl) ?_
  refine b_s (pc' := 26) (lv1 := [(0, .ref 0), (1, .ref 1), (2, .ref 76), (3, .ref 112), (4, bI i)]) (st' := [.ref 0, bI i]) l241_25 (fun _ => rfl) ?_
  refine b_scl l241_26 (b_pc (pc' := 27) rfl ?_)
  refine b_bipush l241_27 (by decide) (b_pc (pc' := 29) rfl ?_)
  refine b_isub1 l241_29 (b_in (by omega) (by omega)) (b_pc (pc' := 30) rfl ?_)
  refine b_neg (c := ((L : Int) - 6) < i) (E1 := none) (E2 := some (.inl 1, μf, (c + n1))) (κ := some) (by omega) ?_
  refine b_igt (pt := 1661) l241_30 hiR (b_in (by omega) (by omega)) (by decide) rfl (fun z => absurd z (by omega)) (fun _ => b_pc (pc' := 33) rfl ?_)
  refine b_s (pc' := 34) (lv1 := [(0, .ref 0), (1, .ref 1), (2, .ref 76), (3, .ref 112), (4, bI i)]) (st' := [.ref 0]) l241_33 (fun _ => rfl) ?_
  refine b_s (pc' := 36) (lv1 := [(0, .ref 0), (1, .ref 1), (2, .ref 76), (3, .ref 112), (4, bI i)]) (st' := [bI i, .ref 0]) l241_34 (fun _ => rfl) ?_
  refine b_scr l241_36 ⟨by omega, by omega⟩ (by omega) (b_pc (pc' := 37) rfl ?_)
  refine b_bipush l241_37 (by decide) (b_pc (pc' := 39) rfl ?_)
  refine b_iand l241_39 (b_pc (pc' := 40) rfl ?_)
  refine b_tsw l241_40 (bi_rg _) (by decide) (by decide) (by decide) ?_
  refine b_pc (pc' := bTg [(0, 152), (1, 256), (2, 292), (3, 348), (4, 416), (5, 540), (6, 620), (7, 712), (8, 725), (9, 738), (10, 794), (11, 862), (12, 918), (13, 998), (14, 1011), (15, 1067), (16, 1123), (17, 1191), (18, 1259), (19, 1315), (20, 1395), (21, 1462), (22, 1542), (23, 1598)] 1655 (bAnd (xs i.toNat).toInt 31)) rfl ?_
  refine b_pc (pc' := 862) (by rw [hop]; rfl) ?_
  refine b_s (pc' := 863) (lv1 := [(0, .ref 0), (1, .ref 1), (2, .ref 76), (3, .ref 112), (4, bI i)]) (st' := [.ref 1]) l241_862 (fun _ => rfl) ?_
  refine b_s (pc' := 864) (lv1 := [(0, .ref 0), (1, .ref 1), (2, .ref 76), (3, .ref 112), (4, bI i)]) (st' := [.ref 0, .ref 1]) l241_863 (fun _ => rfl) ?_
  refine b_s (pc' := 866) (lv1 := [(0, .ref 0), (1, .ref 1), (2, .ref 76), (3, .ref 112), (4, bI i)]) (st' := [bI i, .ref 0, .ref 1]) l241_864 (fun _ => rfl) ?_
  refine b_s (pc' := 867) (lv1 := [(0, .ref 0), (1, .ref 1), (2, .ref 76), (3, .ref 112), (4, bI i)]) (st' := [bI 1, bI i, .ref 0, .ref 1]) l241_866 (fun _ => rfl) ?_
  refine b_iadd1 l241_867 (b_in (by omega) (by omega)) (b_pc (pc' := 868) rfl ?_)
  refine b_scr l241_868 ⟨by omega, by omega⟩ (by omega) (b_pc (pc' := 869) rfl ?_)
  refine b_s (pc' := 870) (lv1 := [(0, .ref 0), (1, .ref 1), (2, .ref 76), (3, .ref 112), (4, bI i)]) (st' := [.ref 112, bI (xs (i + 1).toNat).toInt, .ref 1]) l241_869 (fun _ => rfl) ?_
  refine b_cKki l241_870 rfl (fun _ => trivial) (Nat.le_of_ble_eq_true rfl) (Nat.le_of_ble_eq_true rfl) rfl (r_L_load (xs (i + 1).toNat).toInt (bi_rg _)) hF1 fun hv1 => bD.ok fun hk1 => b_pc (pc' := 873) rfl ?_
  refine b_w (pc' := 875) (lv1 := ax_st1 [(0, .ref 0), (1, .ref 1), (2, .ref 76), (3, .ref 112), (4, bI i)] 5 (bI k)) (lv' := [(0, .ref 0), (1, .ref 1), (2, .ref 76), (3, .ref 112), (4, bI i), (5, bI k)]) (st' := []) l241_873 (fun _ => rfl) (bSb rfl (bSb rfl (bSb rfl (bSb rfl (bSb rfl (bSb rfl bSn)))))) ?_
  refine b_s (pc' := 876) (lv1 := [(0, .ref 0), (1, .ref 1), (2, .ref 76), (3, .ref 112), (4, bI i), (5, bI k)]) (st' := [.ref 76]) l241_875 (fun _ => rfl) ?_
  refine b_s (pc' := 877) (lv1 := [(0, .ref 0), (1, .ref 1), (2, .ref 76), (3, .ref 112), (4, bI i), (5, bI k)]) (st' := [.ref 0, .ref 76]) l241_876 (fun _ => rfl) ?_
  refine b_s (pc' := 879) (lv1 := [(0, .ref 0), (1, .ref 1), (2, .ref 76), (3, .ref 112), (4, bI i), (5, bI k)]) (st' := [bI i, .ref 0, .ref 76]) l241_877 (fun _ => rfl) ?_
  refine b_s (pc' := 880) (lv1 := [(0, .ref 0), (1, .ref 1), (2, .ref 76), (3, .ref 112), (4, bI i), (5, bI k)]) (st' := [bI 1, bI i, .ref 0, .ref 76]) l241_879 (fun _ => rfl) ?_
  refine b_iadd1 l241_880 (b_in (by omega) (by omega)) (b_pc (pc' := 881) rfl ?_)
  refine b_scr l241_881 ⟨by omega, by omega⟩ (by omega) (b_pc (pc' := 882) rfl ?_)
  refine b_cMki l241_882 rfl (b_rc (ci := 9) (by rfl) (by decide) (by decide +kernel)) (Nat.le_of_ble_eq_true rfl) (Nat.le_of_ble_eq_true rfl) rfl (r_X11_load (xs (i + 1).toNat).toInt (bi_rg _)) hF2 fun hv2 => bD.ok fun hk2 => b_pc (pc' := 885) rfl ?_
  refine b_w (pc' := 887) (lv1 := ax_st1 [(0, .ref 0), (1, .ref 1), (2, .ref 76), (3, .ref 112), (4, bI i), (5, bI k)] 6 (bI b)) (lv' := [(0, .ref 0), (1, .ref 1), (2, .ref 76), (3, .ref 112), (4, bI i), (5, bI k), (6, bI b)]) (st' := []) l241_885 (fun _ => rfl) (bSb rfl (bSb rfl (bSb rfl (bSb rfl (bSb rfl (bSb rfl (bSb rfl bSn))))))) ?_
  refine b_s (pc' := 888) (lv1 := [(0, .ref 0), (1, .ref 1), (2, .ref 76), (3, .ref 112), (4, bI i), (5, bI k), (6, bI b)]) (st' := [.ref 76]) l241_887 (fun _ => rfl) ?_
  refine b_cPki (v := μ2 76 0) l241_888 rfl (b_rc (ci := 9) (by rfl) (by decide) (by decide +kernel)) (Nat.le_of_ble_eq_true rfl) (Nat.le_of_ble_eq_true rfl) rfl (r_X11_thrown ) rfl fun hw1 => b_pc (pc' := 891) rfl ?_
  refine b_s (pc' := 893) (lv1 := [(0, .ref 0), (1, .ref 1), (2, .ref 76), (3, .ref 112), (4, bI i), (5, bI k), (6, bI b)]) (st' := [bI k, bI (μ2 76 0)]) l241_891 (fun _ => rfl) ?_
  refine b_pos (c := (μ2 76 0) = k) (E1 := some (.inl 1, μf, c)) (E2 := none) (κ := some) hEQ ?_
  refine b_ieq (pt := 898) l241_893 hw1 hv1 (by decide) rfl (fun _ => ?_) (fun z => absurd hEQ z)
  refine b_s (pc' := 900) (lv1 := [(0, .ref 0), (1, .ref 1), (2, .ref 76), (3, .ref 112), (4, bI i), (5, bI k), (6, bI b)]) (st' := [bI k]) l241_898 (fun _ => rfl) ?_
  by_cases hk0 : k = 0
  · refine b_neg (c := ¬ k = 0) (E1 := none) (E2 := some (.inl 1, μf, c)) (κ := some) (fun z => z hk0) ?_
    refine b_zne (pt := 915) l241_900 hv1 (by decide) rfl (fun z => absurd hk0 z) (fun _ => b_pc (pc' := 903) rfl ?_)
    refine b_s (pc' := 904) (lv1 := [(0, .ref 0), (1, .ref 1), (2, .ref 76), (3, .ref 112), (4, bI i), (5, bI k), (6, bI b)]) (st' := [.ref 112]) l241_903 (fun _ => rfl) ?_
    refine b_s (pc' := 905) (lv1 := [(0, .ref 0), (1, .ref 1), (2, .ref 76), (3, .ref 112), (4, bI i), (5, bI k), (6, bI b)]) (st' := [bI 0, .ref 112]) l241_904 (fun _ => rfl) ?_
    refine b_lal l241_905 (by rfl) (by decide) (b_pc (pc' := 906) rfl ?_)
    refine b_s (pc' := 908) (lv1 := [(0, .ref 0), (1, .ref 1), (2, .ref 76), (3, .ref 112), (4, bI i), (5, bI k), (6, bI b)]) (st' := [bI b, bLg (μ2 112 0)]) l241_906 (fun _ => rfl) ?_
    refine b_i2l l241_908 hv2 (b_pc (pc' := 909) rfl ?_)
    refine b_lcmp l241_909 (bO_l hk2 (show bSh 112 = (2, 1) from rfl)) (bR_L hv2) (b_pc (pc' := 910) rfl ?_)
    refine b_pos (c := (bCmp (μ2 112 0) b) = 0) (E1 := some (.inl 1, μf, c)) (E2 := none) (κ := some) (bCmp_0 (ho hk0)) ?_
    refine b_zeq (pt := 915) l241_910 (bCmp_R _ _) (by decide) rfl (fun _ => ?_) (fun z => absurd (bCmp_0 (ho hk0)) z)
    refine b_s (pc' := 1655) (lv1 := [(0, .ref 0), (1, .ref 1), (2, .ref 76), (3, .ref 112), (4, bI i), (5, bI k), (6, bI b)]) (st' := []) l241_915 (fun _ => rfl) ?_
    refine b_inc1 (lv' := [(0, .ref 0), (1, .ref 1), (2, .ref 76), (3, .ref 112), (4, bI (i + 6))]) l241_1655 rfl (by decide +kernel) (bSb rfl (bSb rfl (bSb rfl (bSb rfl (bSb rfl bSn))))) (b_in (by omega) (by omega)) (b_pc (pc' := 1658) rfl ?_)
    refine b_s (pc' := 23) (lv1 := [(0, .ref 0), (1, .ref 1), (2, .ref 76), (3, .ref 112), (4, bI (i + 6))]) (st' := []) l241_1658 (fun _ => rfl) ?_
    exact kont
  · refine b_pos (c := ¬ k = 0) (E1 := some (.inl 1, μf, c)) (E2 := none) (κ := some) hk0 ?_
    refine b_zne (pt := 915) l241_900 hv1 (by decide) rfl (fun _ => ?_) (fun z => absurd hk0 z)
    refine b_s (pc' := 1655) (lv1 := [(0, .ref 0), (1, .ref 1), (2, .ref 76), (3, .ref 112), (4, bI i), (5, bI k), (6, bI b)]) (st' := []) l241_915 (fun _ => rfl) ?_
    refine b_inc1 (lv' := [(0, .ref 0), (1, .ref 1), (2, .ref 76), (3, .ref 112), (4, bI (i + 6))]) l241_1655 rfl (by decide +kernel) (bSb rfl (bSb rfl (bSb rfl (bSb rfl (bSb rfl bSn))))) (b_in (by omega) (by omega)) (b_pc (pc' := 1658) rfl ?_)
    refine b_s (pc' := 23) (lv1 := [(0, .ref 0), (1, .ref 1), (2, .ref 76), (3, .ref 112), (4, bI (i + 6))]) (st' := []) l241_1658 (fun _ => rfl) ?_
    exact kont
theorem g_12 {L : Nat} {xs : Nat → Int32} {i k b : Int} {c n1 : Nat} {μ μ1 μ2 μf : bM} (hL : L ≤ 3072) (hi : 0 ≤ i ∧ i + 6 ≤ (L : Int)) (hop : bAnd (xs i.toNat).toInt 31 = 12) (hF1 : F_L_alter (xs (i + 1).toNat).toInt (xs (i + 2).toNat).toInt (xs (i + 3).toNat).toInt μ = some (k, μ1, n1)) (hF2 : F_X11_alter (xs (i + 1).toNat).toInt (xs (i + 2).toNat).toInt (xs (i + 3).toNat).toInt μ1 = some (b, μ2)) (hEQ : μ2 76 0 = k) (ho : k = 0 → μ2 112 0 = b) (kont : bD L xs 9 241 23 [(0, .ref 0), (1, .ref 1), (2, .ref 76), (3, .ref 112), (4, bI (i + 6))] [] μ2 (some (.inl 1, μf, c))) : bD L xs 9 241 23 [(0, .ref 0), (1, .ref 1), (2, .ref 76), (3, .ref 112), (4, bI i)] [] μ (some (.inl 1, μf, (c + n1))) := by
  have hiR : bR i := b_in (by omega) (by omega)
  refine bD.ok fun hk => ?_
  refine b_s (pc' := 25) (lv1 := [(0, .ref 0), (1, .ref 1), (2, .ref 76), (3, .ref 112), (4, bI i)]) (st' := [bI i]) l241_23 (fun _ => rfl) ?_
  refine b_s (pc' := 26) (lv1 := [(0, .ref 0), (1, .ref 1), (2, .ref 76), (3, .ref 112), (4, bI i)]) (st' := [.ref 0, bI i]) l241_25 (fun _ => rfl) ?_
  refine b_scl l241_26 (b_pc (pc' := 27) rfl ?_)
  refine b_bipush l241_27 (by decide) (b_pc (pc' := 29) rfl ?_)
  refine b_isub1 l241_29 (b_in (by omega) (by omega)) (b_pc (pc' := 30) rfl ?_)
  refine b_neg (c := ((L : Int) - 6) < i) (E1 := none) (E2 := some (.inl 1, μf, (c + n1))) (κ := some) (by omega) ?_
  refine b_igt (pt := 1661) l241_30 hiR (b_in (by omega) (by omega)) (by decide) rfl (fun z => absurd z (by omega)) (fun _ => b_pc (pc' := 33) rfl ?_)
  refine b_s (pc' := 34) (lv1 := [(0, .ref 0), (1, .ref 1), (2, .ref 76), (3, .ref 112), (4, bI i)]) (st' := [.ref 0]) l241_33 (fun _ => rfl) ?_
  refine b_s (pc' := 36) (lv1 := [(0, .ref 0), (1, .ref 1), (2, .ref 76), (3, .ref 112), (4, bI i)]) (st' := [bI i, .ref 0]) l241_34 (fun _ => rfl) ?_
  refine b_scr l241_36 ⟨by omega, by omega⟩ (by omega) (b_pc (pc' := 37) rfl ?_)
  refine b_bipush l241_37 (by decide) (b_pc (pc' := 39) rfl ?_)
  refine b_iand l241_39 (b_pc (pc' := 40) rfl ?_)
  refine b_tsw l241_40 (bi_rg _) (by decide) (by decide) (by decide) ?_
  refine b_pc (pc' := bTg [(0, 152), (1, 256), (2, 292), (3, 348), (4, 416), (5, 540), (6, 620), (7, 712), (8, 725), (9, 738), (10, 794), (11, 862), (12, 918), (13, 998), (14, 1011), (15, 1067), (16, 1123), (17, 1191), (18, 1259), (19, 1315), (20, 1395), (21, 1462), (22, 1542), (23, 1598)] 1655 (bAnd (xs i.toNat).toInt 31)) rfl ?_
  refine b_pc (pc' := 918) (by rw [hop]; rfl) ?_
  refine b_s (pc' := 919) (lv1 := [(0, .ref 0), (1, .ref 1), (2, .ref 76), (3, .ref 112), (4, bI i)]) (st' := [.ref 1]) l241_918 (fun _ => rfl) ?_
  refine b_s (pc' := 920) (lv1 := [(0, .ref 0), (1, .ref 1), (2, .ref 76), (3, .ref 112), (4, bI i)]) (st' := [.ref 0, .ref 1]) l241_919 (fun _ => rfl) ?_
  refine b_s (pc' := 922) (lv1 := [(0, .ref 0), (1, .ref 1), (2, .ref 76), (3, .ref 112), (4, bI i)]) (st' := [bI i, .ref 0, .ref 1]) l241_920 (fun _ => rfl) ?_
  refine b_s (pc' := 923) (lv1 := [(0, .ref 0), (1, .ref 1), (2, .ref 76), (3, .ref 112), (4, bI i)]) (st' := [bI 1, bI i, .ref 0, .ref 1]) l241_922 (fun _ => rfl) ?_
  refine b_iadd1 l241_923 (b_in (by omega) (by omega)) (b_pc (pc' := 924) rfl ?_)
  refine b_scr l241_924 ⟨by omega, by omega⟩ (by omega) (b_pc (pc' := 925) rfl ?_)
  refine b_s (pc' := 926) (lv1 := [(0, .ref 0), (1, .ref 1), (2, .ref 76), (3, .ref 112), (4, bI i)]) (st' := [.ref 0, bI (xs (i + 1).toNat).toInt, .ref 1]) l241_925 (fun _ => rfl) ?_
  refine b_s (pc' := 928) (lv1 := [(0, .ref 0), (1, .ref 1), (2, .ref 76), (3, .ref 112), (4, bI i)]) (st' := [bI i, .ref 0, bI (xs (i + 1).toNat).toInt, .ref 1]) l241_926 (fun _ => rfl) ?_
  refine b_s (pc' := 929) (lv1 := [(0, .ref 0), (1, .ref 1), (2, .ref 76), (3, .ref 112), (4, bI i)]) (st' := [bI 2, bI i, .ref 0, bI (xs (i + 1).toNat).toInt, .ref 1]) l241_928 (fun _ => rfl) ?_
  refine b_iadd1 l241_929 (b_in (by omega) (by omega)) (b_pc (pc' := 930) rfl ?_)
  refine b_scr l241_930 ⟨by omega, by omega⟩ (by omega) (b_pc (pc' := 931) rfl ?_)
  refine b_s (pc' := 932) (lv1 := [(0, .ref 0), (1, .ref 1), (2, .ref 76), (3, .ref 112), (4, bI i)]) (st' := [.ref 0, bI (xs (i + 2).toNat).toInt, bI (xs (i + 1).toNat).toInt, .ref 1]) l241_931 (fun _ => rfl) ?_
  refine b_s (pc' := 934) (lv1 := [(0, .ref 0), (1, .ref 1), (2, .ref 76), (3, .ref 112), (4, bI i)]) (st' := [bI i, .ref 0, bI (xs (i + 2).toNat).toInt, bI (xs (i + 1).toNat).toInt, .ref 1]) l241_932 (fun _ => rfl) ?_
  refine b_s (pc' := 935) (lv1 := [(0, .ref 0), (1, .ref 1), (2, .ref 76), (3, .ref 112), (4, bI i)]) (st' := [bI 3, bI i, .ref 0, bI (xs (i + 2).toNat).toInt, bI (xs (i + 1).toNat).toInt, .ref 1]) l241_934 (fun _ => rfl) ?_
  refine b_iadd1 l241_935 (b_in (by omega) (by omega)) (b_pc (pc' := 936) rfl ?_)
  refine b_scr l241_936 ⟨by omega, by omega⟩ (by omega) (b_pc (pc' := 937) rfl ?_)
  refine b_s (pc' := 938) (lv1 := [(0, .ref 0), (1, .ref 1), (2, .ref 76), (3, .ref 112), (4, bI i)]) (st' := [.ref 112, bI (xs (i + 3).toNat).toInt, bI (xs (i + 2).toNat).toInt, bI (xs (i + 1).toNat).toInt, .ref 1]) l241_937 (fun _ => rfl) ?_
  refine b_cKki l241_938 rfl (fun _ => trivial) (Nat.le_of_ble_eq_true rfl) (Nat.le_of_ble_eq_true rfl) rfl (r_L_alter (xs (i + 1).toNat).toInt (bi_rg _) (xs (i + 2).toNat).toInt (bi_rg _) (xs (i + 3).toNat).toInt (bi_rg _)) hF1 fun hv1 => bD.ok fun hk1 => b_pc (pc' := 941) rfl ?_
  refine b_w (pc' := 943) (lv1 := ax_st1 [(0, .ref 0), (1, .ref 1), (2, .ref 76), (3, .ref 112), (4, bI i)] 5 (bI k)) (lv' := [(0, .ref 0), (1, .ref 1), (2, .ref 76), (3, .ref 112), (4, bI i), (5, bI k)]) (st' := []) l241_941 (fun _ => rfl) (bSb rfl (bSb rfl (bSb rfl (bSb rfl (bSb rfl (bSb rfl bSn)))))) ?_
  refine b_s (pc' := 944) (lv1 := [(0, .ref 0), (1, .ref 1), (2, .ref 76), (3, .ref 112), (4, bI i), (5, bI k)]) (st' := [.ref 76]) l241_943 (fun _ => rfl) ?_
  refine b_s (pc' := 945) (lv1 := [(0, .ref 0), (1, .ref 1), (2, .ref 76), (3, .ref 112), (4, bI i), (5, bI k)]) (st' := [.ref 0, .ref 76]) l241_944 (fun _ => rfl) ?_
  refine b_s (pc' := 947) (lv1 := [(0, .ref 0), (1, .ref 1), (2, .ref 76), (3, .ref 112), (4, bI i), (5, bI k)]) (st' := [bI i, .ref 0, .ref 76]) l241_945 (fun _ => rfl) ?_
  refine b_s (pc' := 948) (lv1 := [(0, .ref 0), (1, .ref 1), (2, .ref 76), (3, .ref 112), (4, bI i), (5, bI k)]) (st' := [bI 1, bI i, .ref 0, .ref 76]) l241_947 (fun _ => rfl) ?_
  refine b_iadd1 l241_948 (b_in (by omega) (by omega)) (b_pc (pc' := 949) rfl ?_)
  refine b_scr l241_949 ⟨by omega, by omega⟩ (by omega) (b_pc (pc' := 950) rfl ?_)
  refine b_s (pc' := 951) (lv1 := [(0, .ref 0), (1, .ref 1), (2, .ref 76), (3, .ref 112), (4, bI i), (5, bI k)]) (st' := [.ref 0, bI (xs (i + 1).toNat).toInt, .ref 76]) l241_950 (fun _ => rfl) ?_
  refine b_s (pc' := 953) (lv1 := [(0, .ref 0), (1, .ref 1), (2, .ref 76), (3, .ref 112), (4, bI i), (5, bI k)]) (st' := [bI i, .ref 0, bI (xs (i + 1).toNat).toInt, .ref 76]) l241_951 (fun _ => rfl) ?_
  refine b_s (pc' := 954) (lv1 := [(0, .ref 0), (1, .ref 1), (2, .ref 76), (3, .ref 112), (4, bI i), (5, bI k)]) (st' := [bI 2, bI i, .ref 0, bI (xs (i + 1).toNat).toInt, .ref 76]) l241_953 (fun _ => rfl) ?_
  refine b_iadd1 l241_954 (b_in (by omega) (by omega)) (b_pc (pc' := 955) rfl ?_)
  refine b_scr l241_955 ⟨by omega, by omega⟩ (by omega) (b_pc (pc' := 956) rfl ?_)
  refine b_s (pc' := 957) (lv1 := [(0, .ref 0), (1, .ref 1), (2, .ref 76), (3, .ref 112), (4, bI i), (5, bI k)]) (st' := [.ref 0, bI (xs (i + 2).toNat).toInt, bI (xs (i + 1).toNat).toInt, .ref 76]) l241_956 (fun _ => rfl) ?_
  refine b_s (pc' := 959) (lv1 := [(0, .ref 0), (1, .ref 1), (2, .ref 76), (3, .ref 112), (4, bI i), (5, bI k)]) (st' := [bI i, .ref 0, bI (xs (i + 2).toNat).toInt, bI (xs (i + 1).toNat).toInt, .ref 76]) l241_957 (fun _ => rfl) ?_
  refine b_s (pc' := 960) (lv1 := [(0, .ref 0), (1, .ref 1), (2, .ref 76), (3, .ref 112), (4, bI i), (5, bI k)]) (st' := [bI 3, bI i, .ref 0, bI (xs (i + 2).toNat).toInt, bI (xs (i + 1).toNat).toInt, .ref 76]) l241_959 (fun _ => rfl) ?_
  refine b_iadd1 l241_960 (b_in (by omega) (by omega)) (b_pc (pc' := 961) rfl ?_)
  refine b_scr l241_961 ⟨by omega, by omega⟩ (by omega) (b_pc (pc' := 962) rfl ?_)
  refine b_cMki l241_962 rfl (b_rc (ci := 9) (by rfl) (by decide) (by decide +kernel)) (Nat.le_of_ble_eq_true rfl) (Nat.le_of_ble_eq_true rfl) rfl (r_X11_alter (xs (i + 1).toNat).toInt (bi_rg _) (xs (i + 2).toNat).toInt (bi_rg _) (xs (i + 3).toNat).toInt (bi_rg _)) hF2 fun hv2 => bD.ok fun hk2 => b_pc (pc' := 965) rfl ?_
  refine b_w (pc' := 967) (lv1 := ax_st1 [(0, .ref 0), (1, .ref 1), (2, .ref 76), (3, .ref 112), (4, bI i), (5, bI k)] 6 (bI b)) (lv' := [(0, .ref 0), (1, .ref 1), (2, .ref 76), (3, .ref 112), (4, bI i), (5, bI k), (6, bI b)]) (st' := []) l241_965 (fun _ => rfl) (bSb rfl (bSb rfl (bSb rfl (bSb rfl (bSb rfl (bSb rfl (bSb rfl bSn))))))) ?_
  refine b_s (pc' := 968) (lv1 := [(0, .ref 0), (1, .ref 1), (2, .ref 76), (3, .ref 112), (4, bI i), (5, bI k), (6, bI b)]) (st' := [.ref 76]) l241_967 (fun _ => rfl) ?_
  refine b_cPki (v := μ2 76 0) l241_968 rfl (b_rc (ci := 9) (by rfl) (by decide) (by decide +kernel)) (Nat.le_of_ble_eq_true rfl) (Nat.le_of_ble_eq_true rfl) rfl (r_X11_thrown ) rfl fun hw1 => b_pc (pc' := 971) rfl ?_
  refine b_s (pc' := 973) (lv1 := [(0, .ref 0), (1, .ref 1), (2, .ref 76), (3, .ref 112), (4, bI i), (5, bI k), (6, bI b)]) (st' := [bI k, bI (μ2 76 0)]) l241_971 (fun _ => rfl) ?_
  refine b_pos (c := (μ2 76 0) = k) (E1 := some (.inl 1, μf, c)) (E2 := none) (κ := some) hEQ ?_
  refine b_ieq (pt := 978) l241_973 hw1 hv1 (by decide) rfl (fun _ => ?_) (fun z => absurd hEQ z)
  refine b_s (pc' := 980) (lv1 := [(0, .ref 0), (1, .ref 1), (2, .ref 76), (3, .ref 112), (4, bI i), (5, bI k), (6, bI b)]) (st' := [bI k]) l241_978 (fun _ => rfl) ?_
  by_cases hk0 : k = 0
  · refine b_neg (c := ¬ k = 0) (E1 := none) (E2 := some (.inl 1, μf, c)) (κ := some) (fun z => z hk0) ?_
    refine b_zne (pt := 995) l241_980 hv1 (by decide) rfl (fun z => absurd hk0 z) (fun _ => b_pc (pc' := 983) rfl ?_)
    refine b_s (pc' := 984) (lv1 := [(0, .ref 0), (1, .ref 1), (2, .ref 76), (3, .ref 112), (4, bI i), (5, bI k), (6, bI b)]) (st' := [.ref 112]) l241_983 (fun _ => rfl) ?_
    refine b_s (pc' := 985) (lv1 := [(0, .ref 0), (1, .ref 1), (2, .ref 76), (3, .ref 112), (4, bI i), (5, bI k), (6, bI b)]) (st' := [bI 0, .ref 112]) l241_984 (fun _ => rfl) ?_
    refine b_lal l241_985 (by rfl) (by decide) (b_pc (pc' := 986) rfl ?_)
    refine b_s (pc' := 988) (lv1 := [(0, .ref 0), (1, .ref 1), (2, .ref 76), (3, .ref 112), (4, bI i), (5, bI k), (6, bI b)]) (st' := [bI b, bLg (μ2 112 0)]) l241_986 (fun _ => rfl) ?_
    refine b_i2l l241_988 hv2 (b_pc (pc' := 989) rfl ?_)
    refine b_lcmp l241_989 (bO_l hk2 (show bSh 112 = (2, 1) from rfl)) (bR_L hv2) (b_pc (pc' := 990) rfl ?_)
    refine b_pos (c := (bCmp (μ2 112 0) b) = 0) (E1 := some (.inl 1, μf, c)) (E2 := none) (κ := some) (bCmp_0 (ho hk0)) ?_
    refine b_zeq (pt := 995) l241_990 (bCmp_R _ _) (by decide) rfl (fun _ => ?_) (fun z => absurd (bCmp_0 (ho hk0)) z)
    refine b_s (pc' := 1655) (lv1 := [(0, .ref 0), (1, .ref 1), (2, .ref 76), (3, .ref 112), (4, bI i), (5, bI k), (6, bI b)]) (st' := []) l241_995 (fun _ => rfl) ?_
    refine b_inc1 (lv' := [(0, .ref 0), (1, .ref 1), (2, .ref 76), (3, .ref 112), (4, bI (i + 6))]) l241_1655 rfl (by decide +kernel) (bSb rfl (bSb rfl (bSb rfl (bSb rfl (bSb rfl bSn))))) (b_in (by omega) (by omega)) (b_pc (pc' := 1658) rfl ?_)
    refine b_s (pc' := 23) (lv1 := [(0, .ref 0), (1, .ref 1), (2, .ref 76), (3, .ref 112), (4, bI (i + 6))]) (st' := []) l241_1658 (fun _ => rfl) ?_
    exact kont
  · refine b_pos (c := ¬ k = 0) (E1 := some (.inl 1, μf, c)) (E2 := none) (κ := some) hk0 ?_
    refine b_zne (pt := 995) l241_980 hv1 (by decide) rfl (fun _ => ?_) (fun z => absurd hk0 z)
    refine b_s (pc' := 1655) (lv1 := [(0, .ref 0), (1, .ref 1), (2, .ref 76), (3, .ref 112), (4, bI i), (5, bI k), (6, bI b)]) (st' := []) l241_995 (fun _ => rfl) ?_
    refine b_inc1 (lv' := [(0, .ref 0), (1, .ref 1), (2, .ref 76), (3, .ref 112), (4, bI (i + 6))]) l241_1655 rfl (by decide +kernel) (bSb rfl (bSb rfl (bSb rfl (bSb rfl (bSb rfl bSn))))) (b_in (by omega) (by omega)) (b_pc (pc' := 1658) rfl ?_)
    refine b_s (pc' := 23) (lv1 := [(0, .ref 0), (1, .ref 1), (2, .ref 76), (3, .ref 112), (4, bI (i + 6))]) (st' := []) l241_1658 (fun _ => rfl) ?_
    exact kont
theorem g_13 {L : Nat} {xs : Nat → Int32} {i k b : Int} {c n1 : Nat} {μ μ1 μ2 μf : bM} (hL : L ≤ 3072) (hi : 0 ≤ i ∧ i + 6 ≤ (L : Int)) (hop : bAnd (xs i.toNat).toInt 31 = 13) (hF1 : F_X10_read μ = some (k, μ1, n1)) (hF2 : F_X11_read μ1 = some (b, μ2)) (hEQ : k = b) (kont : bD L xs 9 241 23 [(0, .ref 0), (1, .ref 1), (2, .ref 76), (3, .ref 112), (4, bI (i + 6))] [] μ2 (some (.inl 1, μf, c))) : bD L xs 9 241 23 [(0, .ref 0), (1, .ref 1), (2, .ref 76), (3, .ref 112), (4, bI i)] [] μ (some (.inl 1, μf, (c + n1))) := by
  have hiR : bR i := b_in (by omega) (by omega)
  refine bD.ok fun hk => ?_
  refine b_s (pc' := 25) (lv1 := [(0, .ref 0), (1, .ref 1), (2, .ref 76), (3, .ref 112), (4, bI i)]) (st' := [bI i]) l241_23 (fun _ => rfl) ?_
  refine b_s (pc' := 26) (lv1 := [(0, .ref 0), (1, .ref 1), (2, .ref 76), (3, .ref 112), (4, bI i)]) (st' := [.ref 0, bI i]) l241_25 (fun _ => rfl) ?_
  refine b_scl l241_26 (b_pc (pc' := 27) rfl ?_)
  refine b_bipush l241_27 (by decide) (b_pc (pc' := 29) rfl ?_)
  refine b_isub1 l241_29 (b_in (by omega) (by omega)) (b_pc (pc' := 30) rfl ?_)
  refine b_neg (c := ((L : Int) - 6) < i) (E1 := none) (E2 := some (.inl 1, μf, (c + n1))) (κ := some) (by omega) ?_
  refine b_igt (pt := 1661) l241_30 hiR (b_in (by omega) (by omega)) (by decide) rfl (fun z => absurd z (by omega)) (fun _ => b_pc (pc' := 33) rfl ?_)
  refine b_s (pc' := 34) (lv1 := [(0, .ref 0), (1, .ref 1), (2, .ref 76), (3, .ref 112), (4, bI i)]) (st' := [.ref 0]) l241_33 (fun _ => rfl) ?_
  refine b_s (pc' := 36) (lv1 := [(0, .ref 0), (1, .ref 1), (2, .ref 76), (3, .ref 112), (4, bI i)]) (st' := [bI i, .ref 0]) l241_34 (fun _ => rfl) ?_
  refine b_scr l241_36 ⟨by omega, by omega⟩ (by omega) (b_pc (pc' := 37) rfl ?_)
  refine b_bipush l241_37 (by decide) (b_pc (pc' := 39) rfl ?_)
  refine b_iand l241_39 (b_pc (pc' := 40) rfl ?_)
  refine b_tsw l241_40 (bi_rg _) (by decide) (by decide) (by decide) ?_
  refine b_pc (pc' := bTg [(0, 152), (1, 256), (2, 292), (3, 348), (4, 416), (5, 540), (6, 620), (7, 712), (8, 725), (9, 738), (10, 794), (11, 862), (12, 918), (13, 998), (14, 1011), (15, 1067), (16, 1123), (17, 1191), (18, 1259), (19, 1315), (20, 1395), (21, 1462), (22, 1542), (23, 1598)] 1655 (bAnd (xs i.toNat).toInt 31)) rfl ?_
  refine b_pc (pc' := 998) (by rw [hop]; rfl) ?_
  refine b_s (pc' := 999) (lv1 := [(0, .ref 0), (1, .ref 1), (2, .ref 76), (3, .ref 112), (4, bI i)]) (st' := [.ref 1]) l241_998 (fun _ => rfl) ?_
  refine b_cKki l241_999 rfl (b_rc (ci := 8) (by rfl) (by decide) (by decide +kernel)) (Nat.le_of_ble_eq_true rfl) (Nat.le_of_ble_eq_true rfl) rfl (r_X10_read ) hF1 fun hv1 => bD.ok fun hk1 => b_pc (pc' := 1002) rfl ?_
  refine b_s (pc' := 1003) (lv1 := [(0, .ref 0), (1, .ref 1), (2, .ref 76), (3, .ref 112), (4, bI i)]) (st' := [.ref 76, bI k]) l241_1002 (fun _ => rfl) ?_
  refine b_cMki l241_1003 rfl (b_rc (ci := 9) (by rfl) (by decide) (by decide +kernel)) (Nat.le_of_ble_eq_true rfl) (Nat.le_of_ble_eq_true rfl) rfl (r_X11_read ) hF2 fun hv2 => bD.ok fun hk2 => b_pc (pc' := 1006) rfl ?_
  refine b_pos (c := k = b) (E1 := some (.inl 1, μf, c)) (E2 := none) (κ := some) hEQ ?_
  refine b_ieq (pt := 1655) l241_1006 hv1 hv2 (by decide) rfl (fun _ => ?_) (fun z => absurd hEQ z)
  refine b_inc1 (lv' := [(0, .ref 0), (1, .ref 1), (2, .ref 76), (3, .ref 112), (4, bI (i + 6))]) l241_1655 rfl (by decide +kernel) (bSb rfl (bSb rfl (bSb rfl (bSb rfl (bSb rfl bSn))))) (b_in (by omega) (by omega)) (b_pc (pc' := 1658) rfl ?_)
  refine b_s (pc' := 23) (lv1 := [(0, .ref 0), (1, .ref 1), (2, .ref 76), (3, .ref 112), (4, bI (i + 6))]) (st' := []) l241_1658 (fun _ => rfl) ?_
  exact kont
theorem g_14 {L : Nat} {xs : Nat → Int32} {i k b : Int} {c n1 : Nat} {μ μ1 μ2 μf : bM} (hL : L ≤ 3072) (hi : 0 ≤ i ∧ i + 6 ≤ (L : Int)) (hop : bAnd (xs i.toNat).toInt 31 = 14) (hF1 : F_L_fault (xs (i + 1).toNat).toInt μ = some (k, μ1, n1)) (hF2 : F_X11_fault (xs (i + 1).toNat).toInt μ1 = some (b, μ2)) (hEQ : μ2 76 0 = k) (ho : k = 0 → μ2 112 0 = b) (kont : bD L xs 9 241 23 [(0, .ref 0), (1, .ref 1), (2, .ref 76), (3, .ref 112), (4, bI (i + 6))] [] μ2 (some (.inl 1, μf, c))) : bD L xs 9 241 23 [(0, .ref 0), (1, .ref 1), (2, .ref 76), (3, .ref 112), (4, bI i)] [] μ (some (.inl 1, μf, (c + n1))) := by
  have hiR : bR i := b_in (by omega) (by omega)
  refine bD.ok fun hk => ?_
  refine b_s (pc' := 25) (lv1 := [(0, .ref 0), (1, .ref 1), (2, .ref 76), (3, .ref 112), (4, bI i)]) (st' := [bI i]) l241_23 (fun _ => rfl) ?_
  refine b_s (pc' := 26) (lv1 := [(0, .ref 0), (1, .ref 1), (2, .ref 76), (3, .ref 112), (4, bI i)]) (st' := [.ref 0, bI i]) l241_25 (fun _ => rfl) ?_
  refine b_scl l241_26 (b_pc (pc' := 27) rfl ?_)
  refine b_bipush l241_27 (by decide) (b_pc (pc' := 29) rfl ?_)
  refine b_isub1 l241_29 (b_in (by omega) (by omega)) (b_pc (pc' := 30) rfl ?_)
  refine b_neg (c := ((L : Int) - 6) < i) (E1 := none) (E2 := some (.inl 1, μf, (c + n1))) (κ := some) (by omega) ?_
  refine b_igt (pt := 1661) l241_30 hiR (b_in (by omega) (by omega)) (by decide) rfl (fun z => absurd z (by omega)) (fun _ => b_pc (pc' := 33) rfl ?_)
  refine b_s (pc' := 34) (lv1 := [(0, .ref 0), (1, .ref 1), (2, .ref 76), (3, .ref 112), (4, bI i)]) (st' := [.ref 0]) l241_33 (fun _ => rfl) ?_
  refine b_s (pc' := 36) (lv1 := [(0, .ref 0), (1, .ref 1), (2, .ref 76), (3, .ref 112), (4, bI i)]) (st' := [bI i, .ref 0]) l241_34 (fun _ => rfl) ?_
  refine b_scr l241_36 ⟨by omega, by omega⟩ (by omega) (b_pc (pc' := 37) rfl ?_)
  refine b_bipush l241_37 (by decide) (b_pc (pc' := 39) rfl ?_)
  refine b_iand l241_39 (b_pc (pc' := 40) rfl ?_)
  refine b_tsw l241_40 (bi_rg _) (by decide) (by decide) (by decide) ?_
  refine b_pc (pc' := bTg [(0, 152), (1, 256), (2, 292), (3, 348), (4, 416), (5, 540), (6, 620), (7, 712), (8, 725), (9, 738), (10, 794), (11, 862), (12, 918), (13, 998), (14, 1011), (15, 1067), (16, 1123), (17, 1191), (18, 1259), (19, 1315), (20, 1395), (21, 1462), (22, 1542), (23, 1598)] 1655 (bAnd (xs i.toNat).toInt 31)) rfl ?_
  refine b_pc (pc' := 1011) (by rw [hop]; rfl) ?_
  refine b_s (pc' := 1012) (lv1 := [(0, .ref 0), (1, .ref 1), (2, .ref 76), (3, .ref 112), (4, bI i)]) (st' := [.ref 1]) l241_1011 (fun _ => rfl) ?_
  refine b_s (pc' := 1013) (lv1 := [(0, .ref 0), (1, .ref 1), (2, .ref 76), (3, .ref 112), (4, bI i)]) (st' := [.ref 0, .ref 1]) l241_1012 (fun _ => rfl) ?_
  refine b_s (pc' := 1015) (lv1 := [(0, .ref 0), (1, .ref 1), (2, .ref 76), (3, .ref 112), (4, bI i)]) (st' := [bI i, .ref 0, .ref 1]) l241_1013 (fun _ => rfl) ?_
  refine b_s (pc' := 1016) (lv1 := [(0, .ref 0), (1, .ref 1), (2, .ref 76), (3, .ref 112), (4, bI i)]) (st' := [bI 1, bI i, .ref 0, .ref 1]) l241_1015 (fun _ => rfl) ?_
  refine b_iadd1 l241_1016 (b_in (by omega) (by omega)) (b_pc (pc' := 1017) rfl ?_)
  refine b_scr l241_1017 ⟨by omega, by omega⟩ (by omega) (b_pc (pc' := 1018) rfl ?_)
  refine b_s (pc' := 1019) (lv1 := [(0, .ref 0), (1, .ref 1), (2, .ref 76), (3, .ref 112), (4, bI i)]) (st' := [.ref 112, bI (xs (i + 1).toNat).toInt, .ref 1]) l241_1018 (fun _ => rfl) ?_
  refine b_cKki l241_1019 rfl (fun _ => trivial) (Nat.le_of_ble_eq_true rfl) (Nat.le_of_ble_eq_true rfl) rfl (r_L_fault (xs (i + 1).toNat).toInt (bi_rg _)) hF1 fun hv1 => bD.ok fun hk1 => b_pc (pc' := 1022) rfl ?_
  refine b_w (pc' := 1024) (lv1 := ax_st1 [(0, .ref 0), (1, .ref 1), (2, .ref 76), (3, .ref 112), (4, bI i)] 5 (bI k)) (lv' := [(0, .ref 0), (1, .ref 1), (2, .ref 76), (3, .ref 112), (4, bI i), (5, bI k)]) (st' := []) l241_1022 (fun _ => rfl) (bSb rfl (bSb rfl (bSb rfl (bSb rfl (bSb rfl (bSb rfl bSn)))))) ?_
  refine b_s (pc' := 1025) (lv1 := [(0, .ref 0), (1, .ref 1), (2, .ref 76), (3, .ref 112), (4, bI i), (5, bI k)]) (st' := [.ref 76]) l241_1024 (fun _ => rfl) ?_
  refine b_s (pc' := 1026) (lv1 := [(0, .ref 0), (1, .ref 1), (2, .ref 76), (3, .ref 112), (4, bI i), (5, bI k)]) (st' := [.ref 0, .ref 76]) l241_1025 (fun _ => rfl) ?_
  refine b_s (pc' := 1028) (lv1 := [(0, .ref 0), (1, .ref 1), (2, .ref 76), (3, .ref 112), (4, bI i), (5, bI k)]) (st' := [bI i, .ref 0, .ref 76]) l241_1026 (fun _ => rfl) ?_
  refine b_s (pc' := 1029) (lv1 := [(0, .ref 0), (1, .ref 1), (2, .ref 76), (3, .ref 112), (4, bI i), (5, bI k)]) (st' := [bI 1, bI i, .ref 0, .ref 76]) l241_1028 (fun _ => rfl) ?_
  refine b_iadd1 l241_1029 (b_in (by omega) (by omega)) (b_pc (pc' := 1030) rfl ?_)
  refine b_scr l241_1030 ⟨by omega, by omega⟩ (by omega) (b_pc (pc' := 1031) rfl ?_)
  refine b_cMki l241_1031 rfl (b_rc (ci := 9) (by rfl) (by decide) (by decide +kernel)) (Nat.le_of_ble_eq_true rfl) (Nat.le_of_ble_eq_true rfl) rfl (r_X11_fault (xs (i + 1).toNat).toInt (bi_rg _)) hF2 fun hv2 => bD.ok fun hk2 => b_pc (pc' := 1034) rfl ?_
  refine b_w (pc' := 1036) (lv1 := ax_st1 [(0, .ref 0), (1, .ref 1), (2, .ref 76), (3, .ref 112), (4, bI i), (5, bI k)] 6 (bI b)) (lv' := [(0, .ref 0), (1, .ref 1), (2, .ref 76), (3, .ref 112), (4, bI i), (5, bI k), (6, bI b)]) (st' := []) l241_1034 (fun _ => rfl) (bSb rfl (bSb rfl (bSb rfl (bSb rfl (bSb rfl (bSb rfl (bSb rfl bSn))))))) ?_
  refine b_s (pc' := 1037) (lv1 := [(0, .ref 0), (1, .ref 1), (2, .ref 76), (3, .ref 112), (4, bI i), (5, bI k), (6, bI b)]) (st' := [.ref 76]) l241_1036 (fun _ => rfl) ?_
  refine b_cPki (v := μ2 76 0) l241_1037 rfl (b_rc (ci := 9) (by rfl) (by decide) (by decide +kernel)) (Nat.le_of_ble_eq_true rfl) (Nat.le_of_ble_eq_true rfl) rfl (r_X11_thrown ) rfl fun hw1 => b_pc (pc' := 1040) rfl ?_
  refine b_s (pc' := 1042) (lv1 := [(0, .ref 0), (1, .ref 1), (2, .ref 76), (3, .ref 112), (4, bI i), (5, bI k), (6, bI b)]) (st' := [bI k, bI (μ2 76 0)]) l241_1040 (fun _ => rfl) ?_
  refine b_pos (c := (μ2 76 0) = k) (E1 := some (.inl 1, μf, c)) (E2 := none) (κ := some) hEQ ?_
  refine b_ieq (pt := 1047) l241_1042 hw1 hv1 (by decide) rfl (fun _ => ?_) (fun z => absurd hEQ z)
  refine b_s (pc' := 1049) (lv1 := [(0, .ref 0), (1, .ref 1), (2, .ref 76), (3, .ref 112), (4, bI i), (5, bI k), (6, bI b)]) (st' := [bI k]) l241_1047 (fun _ => rfl) ?_
  by_cases hk0 : k = 0
  · refine b_neg (c := ¬ k = 0) (E1 := none) (E2 := some (.inl 1, μf, c)) (κ := some) (fun z => z hk0) ?_
    refine b_zne (pt := 1064) l241_1049 hv1 (by decide) rfl (fun z => absurd hk0 z) (fun _ => b_pc (pc' := 1052) rfl ?_)
    refine b_s (pc' := 1053) (lv1 := [(0, .ref 0), (1, .ref 1), (2, .ref 76), (3, .ref 112), (4, bI i), (5, bI k), (6, bI b)]) (st' := [.ref 112]) l241_1052 (fun _ => rfl) ?_
    refine b_s (pc' := 1054) (lv1 := [(0, .ref 0), (1, .ref 1), (2, .ref 76), (3, .ref 112), (4, bI i), (5, bI k), (6, bI b)]) (st' := [bI 0, .ref 112]) l241_1053 (fun _ => rfl) ?_
    refine b_lal l241_1054 (by rfl) (by decide) (b_pc (pc' := 1055) rfl ?_)
    refine b_s (pc' := 1057) (lv1 := [(0, .ref 0), (1, .ref 1), (2, .ref 76), (3, .ref 112), (4, bI i), (5, bI k), (6, bI b)]) (st' := [bI b, bLg (μ2 112 0)]) l241_1055 (fun _ => rfl) ?_
    refine b_i2l l241_1057 hv2 (b_pc (pc' := 1058) rfl ?_)
    refine b_lcmp l241_1058 (bO_l hk2 (show bSh 112 = (2, 1) from rfl)) (bR_L hv2) (b_pc (pc' := 1059) rfl ?_)
    refine b_pos (c := (bCmp (μ2 112 0) b) = 0) (E1 := some (.inl 1, μf, c)) (E2 := none) (κ := some) (bCmp_0 (ho hk0)) ?_
    refine b_zeq (pt := 1064) l241_1059 (bCmp_R _ _) (by decide) rfl (fun _ => ?_) (fun z => absurd (bCmp_0 (ho hk0)) z)
    refine b_s (pc' := 1655) (lv1 := [(0, .ref 0), (1, .ref 1), (2, .ref 76), (3, .ref 112), (4, bI i), (5, bI k), (6, bI b)]) (st' := []) l241_1064 (fun _ => rfl) ?_
    refine b_inc1 (lv' := [(0, .ref 0), (1, .ref 1), (2, .ref 76), (3, .ref 112), (4, bI (i + 6))]) l241_1655 rfl (by decide +kernel) (bSb rfl (bSb rfl (bSb rfl (bSb rfl (bSb rfl bSn))))) (b_in (by omega) (by omega)) (b_pc (pc' := 1658) rfl ?_)
    refine b_s (pc' := 23) (lv1 := [(0, .ref 0), (1, .ref 1), (2, .ref 76), (3, .ref 112), (4, bI (i + 6))]) (st' := []) l241_1658 (fun _ => rfl) ?_
    exact kont
  · refine b_pos (c := ¬ k = 0) (E1 := some (.inl 1, μf, c)) (E2 := none) (κ := some) hk0 ?_
    refine b_zne (pt := 1064) l241_1049 hv1 (by decide) rfl (fun _ => ?_) (fun z => absurd hk0 z)
    refine b_s (pc' := 1655) (lv1 := [(0, .ref 0), (1, .ref 1), (2, .ref 76), (3, .ref 112), (4, bI i), (5, bI k), (6, bI b)]) (st' := []) l241_1064 (fun _ => rfl) ?_
    refine b_inc1 (lv' := [(0, .ref 0), (1, .ref 1), (2, .ref 76), (3, .ref 112), (4, bI (i + 6))]) l241_1655 rfl (by decide +kernel) (bSb rfl (bSb rfl (bSb rfl (bSb rfl (bSb rfl bSn))))) (b_in (by omega) (by omega)) (b_pc (pc' := 1658) rfl ?_)
    refine b_s (pc' := 23) (lv1 := [(0, .ref 0), (1, .ref 1), (2, .ref 76), (3, .ref 112), (4, bI (i + 6))]) (st' := []) l241_1658 (fun _ => rfl) ?_
    exact kont
theorem g_15 {L : Nat} {xs : Nat → Int32} {i k b : Int} {c n1 : Nat} {μ μ1 μ2 μf : bM} (hL : L ≤ 3072) (hi : 0 ≤ i ∧ i + 6 ≤ (L : Int)) (hop : bAnd (xs i.toNat).toInt 31 = 15) (hF1 : F_L_count (xs (i + 1).toNat).toInt μ = some (k, μ1, n1)) (hF2 : F_X11_count (xs (i + 1).toNat).toInt μ1 = some (b, μ2)) (hEQ : μ2 76 0 = k) (ho : k = 0 → μ2 112 0 = b) (kont : bD L xs 9 241 23 [(0, .ref 0), (1, .ref 1), (2, .ref 76), (3, .ref 112), (4, bI (i + 6))] [] μ2 (some (.inl 1, μf, c))) : bD L xs 9 241 23 [(0, .ref 0), (1, .ref 1), (2, .ref 76), (3, .ref 112), (4, bI i)] [] μ (some (.inl 1, μf, (c + n1))) := by
  have hiR : bR i := b_in (by omega) (by omega)
  refine bD.ok fun hk => ?_
  refine b_s (pc' := 25) (lv1 := [(0, .ref 0), (1, .ref 1), (2, .ref 76), (3, .ref 112), (4, bI i)]) (st' := [bI i]) l241_23 (fun _ => rfl) ?_
  refine b_s (pc' := 26) (lv1 := [(0, .ref 0), (1, .ref 1), (2, .ref 76), (3, .ref 112), (4, bI i)]) (st' := [.ref 0, bI i]) l241_25 (fun _ => rfl) ?_
  refine b_scl l241_26 (b_pc (pc' := 27) rfl ?_)
  refine b_bipush l241_27 (by decide) (b_pc (pc' := 29) rfl ?_)
  refine b_isub1 l241_29 (b_in (by omega) (by omega)) (b_pc (pc' := 30) rfl ?_)
  refine b_neg (c := ((L : Int) - 6) < i) (E1 := none) (E2 := some (.inl 1, μf, (c + n1))) (κ := some) (by omega) ?_
  refine b_igt (pt := 1661) l241_30 hiR (b_in (by omega) (by omega)) (by decide) rfl (fun z => absurd z (by omega)) (fun _ => b_pc (pc' := 33) rfl ?_)
  refine b_s (pc' := 34) (lv1 := [(0, .ref 0), (1, .ref 1), (2, .ref 76), (3, .ref 112), (4, bI i)]) (st' := [.ref 0]) l241_33 (fun _ => rfl) ?_
  refine b_s (pc' := 36) (lv1 := [(0, .ref 0), (1, .ref 1), (2, .ref 76), (3, .ref 112), (4, bI i)]) (st' := [bI i, .ref 0]) l241_34 (fun _ => rfl) ?_
  refine b_scr l241_36 ⟨by omega, by omega⟩ (by omega) (b_pc (pc' := 37) rfl ?_)
  refine b_bipush l241_37 (by decide) (b_pc (pc' := 39) rfl ?_)
  refine b_iand l241_39 (b_pc (pc' := 40) rfl ?_)
  refine b_tsw l241_40 (bi_rg _) (by decide) (by decide) (by decide) ?_
  refine b_pc (pc' := bTg [(0, 152), (1, 256), (2, 292), (3, 348), (4, 416), (5, 540), (6, 620), (7, 712), (8, 725), (9, 738), (10, 794), (11, 862), (12, 918), (13, 998), (14, 1011), (15, 1067), (16, 1123), (17, 1191), (18, 1259), (19, 1315), (20, 1395), (21, 1462), (22, 1542), (23, 1598)] 1655 (bAnd (xs i.toNat).toInt 31)) rfl ?_
  refine b_pc (pc' := 1067) (by rw [hop]; rfl) ?_
  refine b_s (pc' := 1068) (lv1 := [(0, .ref 0), (1, .ref 1), (2, .ref 76), (3, .ref 112), (4, bI i)]) (st' := [.ref 1]) l241_1067 (fun _ => rfl) ?_
  refine b_s (pc' := 1069) (lv1 := [(0, .ref 0), (1, .ref 1), (2, .ref 76), (3, .ref 112), (4, bI i)]) (st' := [.ref 0, .ref 1]) l241_1068 (fun _ => rfl) ?_
  refine b_s (pc' := 1071) (lv1 := [(0, .ref 0), (1, .ref 1), (2, .ref 76), (3, .ref 112), (4, bI i)]) (st' := [bI i, .ref 0, .ref 1]) l241_1069 (fun _ => rfl) ?_
  refine b_s (pc' := 1072) (lv1 := [(0, .ref 0), (1, .ref 1), (2, .ref 76), (3, .ref 112), (4, bI i)]) (st' := [bI 1, bI i, .ref 0, .ref 1]) l241_1071 (fun _ => rfl) ?_
  refine b_iadd1 l241_1072 (b_in (by omega) (by omega)) (b_pc (pc' := 1073) rfl ?_)
  refine b_scr l241_1073 ⟨by omega, by omega⟩ (by omega) (b_pc (pc' := 1074) rfl ?_)
  refine b_s (pc' := 1075) (lv1 := [(0, .ref 0), (1, .ref 1), (2, .ref 76), (3, .ref 112), (4, bI i)]) (st' := [.ref 112, bI (xs (i + 1).toNat).toInt, .ref 1]) l241_1074 (fun _ => rfl) ?_
  refine b_cKki l241_1075 rfl (fun _ => trivial) (Nat.le_of_ble_eq_true rfl) (Nat.le_of_ble_eq_true rfl) rfl (r_L_count (xs (i + 1).toNat).toInt (bi_rg _)) hF1 fun hv1 => bD.ok fun hk1 => b_pc (pc' := 1078) rfl ?_
  refine b_w (pc' := 1080) (lv1 := ax_st1 [(0, .ref 0), (1, .ref 1), (2, .ref 76), (3, .ref 112), (4, bI i)] 5 (bI k)) (lv' := [(0, .ref 0), (1, .ref 1), (2, .ref 76), (3, .ref 112), (4, bI i), (5, bI k)]) (st' := []) l241_1078 (fun _ => rfl) (bSb rfl (bSb rfl (bSb rfl (bSb rfl (bSb rfl (bSb rfl bSn)))))) ?_
  refine b_s (pc' := 1081) (lv1 := [(0, .ref 0), (1, .ref 1), (2, .ref 76), (3, .ref 112), (4, bI i), (5, bI k)]) (st' := [.ref 76]) l241_1080 (fun _ => rfl) ?_
  refine b_s (pc' := 1082) (lv1 := [(0, .ref 0), (1, .ref 1), (2, .ref 76), (3, .ref 112), (4, bI i), (5, bI k)]) (st' := [.ref 0, .ref 76]) l241_1081 (fun _ => rfl) ?_
  refine b_s (pc' := 1084) (lv1 := [(0, .ref 0), (1, .ref 1), (2, .ref 76), (3, .ref 112), (4, bI i), (5, bI k)]) (st' := [bI i, .ref 0, .ref 76]) l241_1082 (fun _ => rfl) ?_
  refine b_s (pc' := 1085) (lv1 := [(0, .ref 0), (1, .ref 1), (2, .ref 76), (3, .ref 112), (4, bI i), (5, bI k)]) (st' := [bI 1, bI i, .ref 0, .ref 76]) l241_1084 (fun _ => rfl) ?_
  refine b_iadd1 l241_1085 (b_in (by omega) (by omega)) (b_pc (pc' := 1086) rfl ?_)
  refine b_scr l241_1086 ⟨by omega, by omega⟩ (by omega) (b_pc (pc' := 1087) rfl ?_)
  refine b_cMki l241_1087 rfl (b_rc (ci := 9) (by rfl) (by decide) (by decide +kernel)) (Nat.le_of_ble_eq_true rfl) (Nat.le_of_ble_eq_true rfl) rfl (r_X11_count (xs (i + 1).toNat).toInt (bi_rg _)) hF2 fun hv2 => bD.ok fun hk2 => b_pc (pc' := 1090) rfl ?_
  refine b_w (pc' := 1092) (lv1 := ax_st1 [(0, .ref 0), (1, .ref 1), (2, .ref 76), (3, .ref 112), (4, bI i), (5, bI k)] 6 (bI b)) (lv' := [(0, .ref 0), (1, .ref 1), (2, .ref 76), (3, .ref 112), (4, bI i), (5, bI k), (6, bI b)]) (st' := []) l241_1090 (fun _ => rfl) (bSb rfl (bSb rfl (bSb rfl (bSb rfl (bSb rfl (bSb rfl (bSb rfl bSn))))))) ?_
  refine b_s (pc' := 1093) (lv1 := [(0, .ref 0), (1, .ref 1), (2, .ref 76), (3, .ref 112), (4, bI i), (5, bI k), (6, bI b)]) (st' := [.ref 76]) l241_1092 (fun _ => rfl) ?_
  refine b_cPki (v := μ2 76 0) l241_1093 rfl (b_rc (ci := 9) (by rfl) (by decide) (by decide +kernel)) (Nat.le_of_ble_eq_true rfl) (Nat.le_of_ble_eq_true rfl) rfl (r_X11_thrown ) rfl fun hw1 => b_pc (pc' := 1096) rfl ?_
  refine b_s (pc' := 1098) (lv1 := [(0, .ref 0), (1, .ref 1), (2, .ref 76), (3, .ref 112), (4, bI i), (5, bI k), (6, bI b)]) (st' := [bI k, bI (μ2 76 0)]) l241_1096 (fun _ => rfl) ?_
  refine b_pos (c := (μ2 76 0) = k) (E1 := some (.inl 1, μf, c)) (E2 := none) (κ := some) hEQ ?_
  refine b_ieq (pt := 1103) l241_1098 hw1 hv1 (by decide) rfl (fun _ => ?_) (fun z => absurd hEQ z)
  refine b_s (pc' := 1105) (lv1 := [(0, .ref 0), (1, .ref 1), (2, .ref 76), (3, .ref 112), (4, bI i), (5, bI k), (6, bI b)]) (st' := [bI k]) l241_1103 (fun _ => rfl) ?_
  by_cases hk0 : k = 0
  · refine b_neg (c := ¬ k = 0) (E1 := none) (E2 := some (.inl 1, μf, c)) (κ := some) (fun z => z hk0) ?_
    refine b_zne (pt := 1120) l241_1105 hv1 (by decide) rfl (fun z => absurd hk0 z) (fun _ => b_pc (pc' := 1108) rfl ?_)
    refine b_s (pc' := 1109) (lv1 := [(0, .ref 0), (1, .ref 1), (2, .ref 76), (3, .ref 112), (4, bI i), (5, bI k), (6, bI b)]) (st' := [.ref 112]) l241_1108 (fun _ => rfl) ?_
    refine b_s (pc' := 1110) (lv1 := [(0, .ref 0), (1, .ref 1), (2, .ref 76), (3, .ref 112), (4, bI i), (5, bI k), (6, bI b)]) (st' := [bI 0, .ref 112]) l241_1109 (fun _ => rfl) ?_
    refine b_lal l241_1110 (by rfl) (by decide) (b_pc (pc' := 1111) rfl ?_)
    refine b_s (pc' := 1113) (lv1 := [(0, .ref 0), (1, .ref 1), (2, .ref 76), (3, .ref 112), (4, bI i), (5, bI k), (6, bI b)]) (st' := [bI b, bLg (μ2 112 0)]) l241_1111 (fun _ => rfl) ?_
    refine b_i2l l241_1113 hv2 (b_pc (pc' := 1114) rfl ?_)
    refine b_lcmp l241_1114 (bO_l hk2 (show bSh 112 = (2, 1) from rfl)) (bR_L hv2) (b_pc (pc' := 1115) rfl ?_)
    refine b_pos (c := (bCmp (μ2 112 0) b) = 0) (E1 := some (.inl 1, μf, c)) (E2 := none) (κ := some) (bCmp_0 (ho hk0)) ?_
    refine b_zeq (pt := 1120) l241_1115 (bCmp_R _ _) (by decide) rfl (fun _ => ?_) (fun z => absurd (bCmp_0 (ho hk0)) z)
    refine b_s (pc' := 1655) (lv1 := [(0, .ref 0), (1, .ref 1), (2, .ref 76), (3, .ref 112), (4, bI i), (5, bI k), (6, bI b)]) (st' := []) l241_1120 (fun _ => rfl) ?_
    refine b_inc1 (lv' := [(0, .ref 0), (1, .ref 1), (2, .ref 76), (3, .ref 112), (4, bI (i + 6))]) l241_1655 rfl (by decide +kernel) (bSb rfl (bSb rfl (bSb rfl (bSb rfl (bSb rfl bSn))))) (b_in (by omega) (by omega)) (b_pc (pc' := 1658) rfl ?_)
    refine b_s (pc' := 23) (lv1 := [(0, .ref 0), (1, .ref 1), (2, .ref 76), (3, .ref 112), (4, bI (i + 6))]) (st' := []) l241_1658 (fun _ => rfl) ?_
    exact kont
  · refine b_pos (c := ¬ k = 0) (E1 := some (.inl 1, μf, c)) (E2 := none) (κ := some) hk0 ?_
    refine b_zne (pt := 1120) l241_1105 hv1 (by decide) rfl (fun _ => ?_) (fun z => absurd hk0 z)
    refine b_s (pc' := 1655) (lv1 := [(0, .ref 0), (1, .ref 1), (2, .ref 76), (3, .ref 112), (4, bI i), (5, bI k), (6, bI b)]) (st' := []) l241_1120 (fun _ => rfl) ?_
    refine b_inc1 (lv' := [(0, .ref 0), (1, .ref 1), (2, .ref 76), (3, .ref 112), (4, bI (i + 6))]) l241_1655 rfl (by decide +kernel) (bSb rfl (bSb rfl (bSb rfl (bSb rfl (bSb rfl bSn))))) (b_in (by omega) (by omega)) (b_pc (pc' := 1658) rfl ?_)
    refine b_s (pc' := 23) (lv1 := [(0, .ref 0), (1, .ref 1), (2, .ref 76), (3, .ref 112), (4, bI (i + 6))]) (st' := []) l241_1658 (fun _ => rfl) ?_
    exact kont
theorem g_16 {L : Nat} {xs : Nat → Int32} {i k b : Int} {c n1 : Nat} {μ μ1 μ2 μf : bM} (hL : L ≤ 3072) (hi : 0 ≤ i ∧ i + 6 ≤ (L : Int)) (hop : bAnd (xs i.toNat).toInt 31 = 16) (hF1 : F_L_about (xs (i + 1).toNat).toInt (xs (i + 2).toNat).toInt μ = some (k, μ1, n1)) (hF2 : F_X11_about (xs (i + 1).toNat).toInt (xs (i + 2).toNat).toInt μ1 = some (b, μ2)) (hEQ : μ2 76 0 = k) (ho : k = 0 → μ2 112 0 = b) (kont : bD L xs 9 241 23 [(0, .ref 0), (1, .ref 1), (2, .ref 76), (3, .ref 112), (4, bI (i + 6))] [] μ2 (some (.inl 1, μf, c))) : bD L xs 9 241 23 [(0, .ref 0), (1, .ref 1), (2, .ref 76), (3, .ref 112), (4, bI i)] [] μ (some (.inl 1, μf, (c + n1))) := by
  have hiR : bR i := b_in (by omega) (by omega)
  refine bD.ok fun hk => ?_
  refine b_s (pc' := 25) (lv1 := [(0, .ref 0), (1, .ref 1), (2, .ref 76), (3, .ref 112), (4, bI i)]) (st' := [bI i]) l241_23 (fun _ => rfl) ?_
  refine b_s (pc' := 26) (lv1 := [(0, .ref 0), (1, .ref 1), (2, .ref 76), (3, .ref 112), (4, bI i)]) (st' := [.ref 0, bI i]) l241_25 (fun _ => rfl) ?_
  refine b_scl l241_26 (b_pc (pc' := 27) rfl ?_)
  refine b_bipush l241_27 (by decide) (b_pc (pc' := 29) rfl ?_)
  refine b_isub1 l241_29 (b_in (by omega) (by omega)) (b_pc (pc' := 30) rfl ?_)
  refine b_neg (c := ((L : Int) - 6) < i) (E1 := none) (E2 := some (.inl 1, μf, (c + n1))) (κ := some) (by omega) ?_
  refine b_igt (pt := 1661) l241_30 hiR (b_in (by omega) (by omega)) (by decide) rfl (fun z => absurd z (by omega)) (fun _ => b_pc (pc' := 33) rfl ?_)
  refine b_s (pc' := 34) (lv1 := [(0, .ref 0), (1, .ref 1), (2, .ref 76), (3, .ref 112), (4, bI i)]) (st' := [.ref 0]) l241_33 (fun _ => rfl) ?_
  refine b_s (pc' := 36) (lv1 := [(0, .ref 0), (1, .ref 1), (2, .ref 76), (3, .ref 112), (4, bI i)]) (st' := [bI i, .ref 0]) l241_34 (fun _ => rfl) ?_
  refine b_scr l241_36 ⟨by omega, by omega⟩ (by omega) (b_pc (pc' := 37) rfl ?_)
  refine b_bipush l241_37 (by decide) (b_pc (pc' := 39) rfl ?_)
  refine b_iand l241_39 (b_pc (pc' := 40) rfl ?_)
  refine b_tsw l241_40 (bi_rg _) (by decide) (by decide) (by decide) ?_
  refine b_pc (pc' := bTg [(0, 152), (1, 256), (2, 292), (3, 348), (4, 416), (5, 540), (6, 620), (7, 712), (8, 725), (9, 738), (10, 794), (11, 862), (12, 918), (13, 998), (14, 1011), (15, 1067), (16, 1123), (17, 1191), (18, 1259), (19, 1315), (20, 1395), (21, 1462), (22, 1542), (23, 1598)] 1655 (bAnd (xs i.toNat).toInt 31)) rfl ?_
  refine b_pc (pc' := 1123) (by rw [hop]; rfl) ?_
  refine b_s (pc' := 1124) (lv1 := [(0, .ref 0), (1, .ref 1), (2, .ref 76), (3, .ref 112), (4, bI i)]) (st' := [.ref 1]) l241_1123 (fun _ => rfl) ?_
  refine b_s (pc' := 1125) (lv1 := [(0, .ref 0), (1, .ref 1), (2, .ref 76), (3, .ref 112), (4, bI i)]) (st' := [.ref 0, .ref 1]) l241_1124 (fun _ => rfl) ?_
  refine b_s (pc' := 1127) (lv1 := [(0, .ref 0), (1, .ref 1), (2, .ref 76), (3, .ref 112), (4, bI i)]) (st' := [bI i, .ref 0, .ref 1]) l241_1125 (fun _ => rfl) ?_
  refine b_s (pc' := 1128) (lv1 := [(0, .ref 0), (1, .ref 1), (2, .ref 76), (3, .ref 112), (4, bI i)]) (st' := [bI 1, bI i, .ref 0, .ref 1]) l241_1127 (fun _ => rfl) ?_
  refine b_iadd1 l241_1128 (b_in (by omega) (by omega)) (b_pc (pc' := 1129) rfl ?_)
  refine b_scr l241_1129 ⟨by omega, by omega⟩ (by omega) (b_pc (pc' := 1130) rfl ?_)
  refine b_s (pc' := 1131) (lv1 := [(0, .ref 0), (1, .ref 1), (2, .ref 76), (3, .ref 112), (4, bI i)]) (st' := [.ref 0, bI (xs (i + 1).toNat).toInt, .ref 1]) l241_1130 (fun _ => rfl) ?_
  refine b_s (pc' := 1133) (lv1 := [(0, .ref 0), (1, .ref 1), (2, .ref 76), (3, .ref 112), (4, bI i)]) (st' := [bI i, .ref 0, bI (xs (i + 1).toNat).toInt, .ref 1]) l241_1131 (fun _ => rfl) ?_
  refine b_s (pc' := 1134) (lv1 := [(0, .ref 0), (1, .ref 1), (2, .ref 76), (3, .ref 112), (4, bI i)]) (st' := [bI 2, bI i, .ref 0, bI (xs (i + 1).toNat).toInt, .ref 1]) l241_1133 (fun _ => rfl) ?_
  refine b_iadd1 l241_1134 (b_in (by omega) (by omega)) (b_pc (pc' := 1135) rfl ?_)
  refine b_scr l241_1135 ⟨by omega, by omega⟩ (by omega) (b_pc (pc' := 1136) rfl ?_)
  refine b_s (pc' := 1137) (lv1 := [(0, .ref 0), (1, .ref 1), (2, .ref 76), (3, .ref 112), (4, bI i)]) (st' := [.ref 112, bI (xs (i + 2).toNat).toInt, bI (xs (i + 1).toNat).toInt, .ref 1]) l241_1136 (fun _ => rfl) ?_
  refine b_cKki l241_1137 rfl (fun _ => trivial) (Nat.le_of_ble_eq_true rfl) (Nat.le_of_ble_eq_true rfl) rfl (r_L_about (xs (i + 1).toNat).toInt (bi_rg _) (xs (i + 2).toNat).toInt (bi_rg _)) hF1 fun hv1 => bD.ok fun hk1 => b_pc (pc' := 1140) rfl ?_
  refine b_w (pc' := 1142) (lv1 := ax_st1 [(0, .ref 0), (1, .ref 1), (2, .ref 76), (3, .ref 112), (4, bI i)] 5 (bI k)) (lv' := [(0, .ref 0), (1, .ref 1), (2, .ref 76), (3, .ref 112), (4, bI i), (5, bI k)]) (st' := []) l241_1140 (fun _ => rfl) (bSb rfl (bSb rfl (bSb rfl (bSb rfl (bSb rfl (bSb rfl bSn)))))) ?_
  refine b_s (pc' := 1143) (lv1 := [(0, .ref 0), (1, .ref 1), (2, .ref 76), (3, .ref 112), (4, bI i), (5, bI k)]) (st' := [.ref 76]) l241_1142 (fun _ => rfl) ?_
  refine b_s (pc' := 1144) (lv1 := [(0, .ref 0), (1, .ref 1), (2, .ref 76), (3, .ref 112), (4, bI i), (5, bI k)]) (st' := [.ref 0, .ref 76]) l241_1143 (fun _ => rfl) ?_
  refine b_s (pc' := 1146) (lv1 := [(0, .ref 0), (1, .ref 1), (2, .ref 76), (3, .ref 112), (4, bI i), (5, bI k)]) (st' := [bI i, .ref 0, .ref 76]) l241_1144 (fun _ => rfl) ?_
  refine b_s (pc' := 1147) (lv1 := [(0, .ref 0), (1, .ref 1), (2, .ref 76), (3, .ref 112), (4, bI i), (5, bI k)]) (st' := [bI 1, bI i, .ref 0, .ref 76]) l241_1146 (fun _ => rfl) ?_
  refine b_iadd1 l241_1147 (b_in (by omega) (by omega)) (b_pc (pc' := 1148) rfl ?_)
  refine b_scr l241_1148 ⟨by omega, by omega⟩ (by omega) (b_pc (pc' := 1149) rfl ?_)
  refine b_s (pc' := 1150) (lv1 := [(0, .ref 0), (1, .ref 1), (2, .ref 76), (3, .ref 112), (4, bI i), (5, bI k)]) (st' := [.ref 0, bI (xs (i + 1).toNat).toInt, .ref 76]) l241_1149 (fun _ => rfl) ?_
  refine b_s (pc' := 1152) (lv1 := [(0, .ref 0), (1, .ref 1), (2, .ref 76), (3, .ref 112), (4, bI i), (5, bI k)]) (st' := [bI i, .ref 0, bI (xs (i + 1).toNat).toInt, .ref 76]) l241_1150 (fun _ => rfl) ?_
  refine b_s (pc' := 1153) (lv1 := [(0, .ref 0), (1, .ref 1), (2, .ref 76), (3, .ref 112), (4, bI i), (5, bI k)]) (st' := [bI 2, bI i, .ref 0, bI (xs (i + 1).toNat).toInt, .ref 76]) l241_1152 (fun _ => rfl) ?_
  refine b_iadd1 l241_1153 (b_in (by omega) (by omega)) (b_pc (pc' := 1154) rfl ?_)
  refine b_scr l241_1154 ⟨by omega, by omega⟩ (by omega) (b_pc (pc' := 1155) rfl ?_)
  refine b_cMki l241_1155 rfl (b_rc (ci := 9) (by rfl) (by decide) (by decide +kernel)) (Nat.le_of_ble_eq_true rfl) (Nat.le_of_ble_eq_true rfl) rfl (r_X11_about (xs (i + 1).toNat).toInt (bi_rg _) (xs (i + 2).toNat).toInt (bi_rg _)) hF2 fun hv2 => bD.ok fun hk2 => b_pc (pc' := 1158) rfl ?_
  refine b_w (pc' := 1160) (lv1 := ax_st1 [(0, .ref 0), (1, .ref 1), (2, .ref 76), (3, .ref 112), (4, bI i), (5, bI k)] 6 (bI b)) (lv' := [(0, .ref 0), (1, .ref 1), (2, .ref 76), (3, .ref 112), (4, bI i), (5, bI k), (6, bI b)]) (st' := []) l241_1158 (fun _ => rfl) (bSb rfl (bSb rfl (bSb rfl (bSb rfl (bSb rfl (bSb rfl (bSb rfl bSn))))))) ?_
  refine b_s (pc' := 1161) (lv1 := [(0, .ref 0), (1, .ref 1), (2, .ref 76), (3, .ref 112), (4, bI i), (5, bI k), (6, bI b)]) (st' := [.ref 76]) l241_1160 (fun _ => rfl) ?_
  refine b_cPki (v := μ2 76 0) l241_1161 rfl (b_rc (ci := 9) (by rfl) (by decide) (by decide +kernel)) (Nat.le_of_ble_eq_true rfl) (Nat.le_of_ble_eq_true rfl) rfl (r_X11_thrown ) rfl fun hw1 => b_pc (pc' := 1164) rfl ?_
  refine b_s (pc' := 1166) (lv1 := [(0, .ref 0), (1, .ref 1), (2, .ref 76), (3, .ref 112), (4, bI i), (5, bI k), (6, bI b)]) (st' := [bI k, bI (μ2 76 0)]) l241_1164 (fun _ => rfl) ?_
  refine b_pos (c := (μ2 76 0) = k) (E1 := some (.inl 1, μf, c)) (E2 := none) (κ := some) hEQ ?_
  refine b_ieq (pt := 1171) l241_1166 hw1 hv1 (by decide) rfl (fun _ => ?_) (fun z => absurd hEQ z)
  refine b_s (pc' := 1173) (lv1 := [(0, .ref 0), (1, .ref 1), (2, .ref 76), (3, .ref 112), (4, bI i), (5, bI k), (6, bI b)]) (st' := [bI k]) l241_1171 (fun _ => rfl) ?_
  by_cases hk0 : k = 0
  · refine b_neg (c := ¬ k = 0) (E1 := none) (E2 := some (.inl 1, μf, c)) (κ := some) (fun z => z hk0) ?_
    refine b_zne (pt := 1188) l241_1173 hv1 (by decide) rfl (fun z => absurd hk0 z) (fun _ => b_pc (pc' := 1176) rfl ?_)
    refine b_s (pc' := 1177) (lv1 := [(0, .ref 0), (1, .ref 1), (2, .ref 76), (3, .ref 112), (4, bI i), (5, bI k), (6, bI b)]) (st' := [.ref 112]) l241_1176 (fun _ => rfl) ?_
    refine b_s (pc' := 1178) (lv1 := [(0, .ref 0), (1, .ref 1), (2, .ref 76), (3, .ref 112), (4, bI i), (5, bI k), (6, bI b)]) (st' := [bI 0, .ref 112]) l241_1177 (fun _ => rfl) ?_
    refine b_lal l241_1178 (by rfl) (by decide) (b_pc (pc' := 1179) rfl ?_)
    refine b_s (pc' := 1181) (lv1 := [(0, .ref 0), (1, .ref 1), (2, .ref 76), (3, .ref 112), (4, bI i), (5, bI k), (6, bI b)]) (st' := [bI b, bLg (μ2 112 0)]) l241_1179 (fun _ => rfl) ?_
    refine b_i2l l241_1181 hv2 (b_pc (pc' := 1182) rfl ?_)
    refine b_lcmp l241_1182 (bO_l hk2 (show bSh 112 = (2, 1) from rfl)) (bR_L hv2) (b_pc (pc' := 1183) rfl ?_)
    refine b_pos (c := (bCmp (μ2 112 0) b) = 0) (E1 := some (.inl 1, μf, c)) (E2 := none) (κ := some) (bCmp_0 (ho hk0)) ?_
    refine b_zeq (pt := 1188) l241_1183 (bCmp_R _ _) (by decide) rfl (fun _ => ?_) (fun z => absurd (bCmp_0 (ho hk0)) z)
    refine b_s (pc' := 1655) (lv1 := [(0, .ref 0), (1, .ref 1), (2, .ref 76), (3, .ref 112), (4, bI i), (5, bI k), (6, bI b)]) (st' := []) l241_1188 (fun _ => rfl) ?_
    refine b_inc1 (lv' := [(0, .ref 0), (1, .ref 1), (2, .ref 76), (3, .ref 112), (4, bI (i + 6))]) l241_1655 rfl (by decide +kernel) (bSb rfl (bSb rfl (bSb rfl (bSb rfl (bSb rfl bSn))))) (b_in (by omega) (by omega)) (b_pc (pc' := 1658) rfl ?_)
    refine b_s (pc' := 23) (lv1 := [(0, .ref 0), (1, .ref 1), (2, .ref 76), (3, .ref 112), (4, bI (i + 6))]) (st' := []) l241_1658 (fun _ => rfl) ?_
    exact kont
  · refine b_pos (c := ¬ k = 0) (E1 := some (.inl 1, μf, c)) (E2 := none) (κ := some) hk0 ?_
    refine b_zne (pt := 1188) l241_1173 hv1 (by decide) rfl (fun _ => ?_) (fun z => absurd hk0 z)
    refine b_s (pc' := 1655) (lv1 := [(0, .ref 0), (1, .ref 1), (2, .ref 76), (3, .ref 112), (4, bI i), (5, bI k), (6, bI b)]) (st' := []) l241_1188 (fun _ => rfl) ?_
    refine b_inc1 (lv' := [(0, .ref 0), (1, .ref 1), (2, .ref 76), (3, .ref 112), (4, bI (i + 6))]) l241_1655 rfl (by decide +kernel) (bSb rfl (bSb rfl (bSb rfl (bSb rfl (bSb rfl bSn))))) (b_in (by omega) (by omega)) (b_pc (pc' := 1658) rfl ?_)
    refine b_s (pc' := 23) (lv1 := [(0, .ref 0), (1, .ref 1), (2, .ref 76), (3, .ref 112), (4, bI (i + 6))]) (st' := []) l241_1658 (fun _ => rfl) ?_
    exact kont
theorem g_17 {L : Nat} {xs : Nat → Int32} {i k b : Int} {c n1 : Nat} {μ μ1 μ2 μf : bM} (hL : L ≤ 3072) (hi : 0 ≤ i ∧ i + 6 ≤ (L : Int)) (hop : bAnd (xs i.toNat).toInt 31 = 17) (hF1 : F_L_child (xs (i + 1).toNat).toInt (xs (i + 2).toNat).toInt μ = some (k, μ1, n1)) (hF2 : F_X11_child (xs (i + 1).toNat).toInt (xs (i + 2).toNat).toInt μ1 = some (b, μ2)) (hEQ : μ2 76 0 = k) (ho : k = 0 → μ2 112 0 = b) (kont : bD L xs 9 241 23 [(0, .ref 0), (1, .ref 1), (2, .ref 76), (3, .ref 112), (4, bI (i + 6))] [] μ2 (some (.inl 1, μf, c))) : bD L xs 9 241 23 [(0, .ref 0), (1, .ref 1), (2, .ref 76), (3, .ref 112), (4, bI i)] [] μ (some (.inl 1, μf, (c + n1))) := by
  have hiR : bR i := b_in (by omega) (by omega)
  refine bD.ok fun hk => ?_
  refine b_s (pc' := 25) (lv1 := [(0, .ref 0), (1, .ref 1), (2, .ref 76), (3, .ref 112), (4, bI i)]) (st' := [bI i]) l241_23 (fun _ => rfl) ?_
  refine b_s (pc' := 26) (lv1 := [(0, .ref 0), (1, .ref 1), (2, .ref 76), (3, .ref 112), (4, bI i)]) (st' := [.ref 0, bI i]) l241_25 (fun _ => rfl) ?_
  refine b_scl l241_26 (b_pc (pc' := 27) rfl ?_)
  refine b_bipush l241_27 (by decide) (b_pc (pc' := 29) rfl ?_)
  refine b_isub1 l241_29 (b_in (by omega) (by omega)) (b_pc (pc' := 30) rfl ?_)
  refine b_neg (c := ((L : Int) - 6) < i) (E1 := none) (E2 := some (.inl 1, μf, (c + n1))) (κ := some) (by omega) ?_
  refine b_igt (pt := 1661) l241_30 hiR (b_in (by omega) (by omega)) (by decide) rfl (fun z => absurd z (by omega)) (fun _ => b_pc (pc' := 33) rfl ?_)
  refine b_s (pc' := 34) (lv1 := [(0, .ref 0), (1, .ref 1), (2, .ref 76), (3, .ref 112), (4, bI i)]) (st' := [.ref 0]) l241_33 (fun _ => rfl) ?_
  refine b_s (pc' := 36) (lv1 := [(0, .ref 0), (1, .ref 1), (2, .ref 76), (3, .ref 112), (4, bI i)]) (st' := [bI i, .ref 0]) l241_34 (fun _ => rfl) ?_
  refine b_scr l241_36 ⟨by omega, by omega⟩ (by omega) (b_pc (pc' := 37) rfl ?_)
  refine b_bipush l241_37 (by decide) (b_pc (pc' := 39) rfl ?_)
  refine b_iand l241_39 (b_pc (pc' := 40) rfl ?_)
  refine b_tsw l241_40 (bi_rg _) (by decide) (by decide) (by decide) ?_
  refine b_pc (pc' := bTg [(0, 152), (1, 256), (2, 292), (3, 348), (4, 416), (5, 540), (6, 620), (7, 712), (8, 725), (9, 738), (10, 794), (11, 862), (12, 918), (13, 998), (14, 1011), (15, 1067), (16, 1123), (17, 1191), (18, 1259), (19, 1315), (20, 1395), (21, 1462), (22, 1542), (23, 1598)] 1655 (bAnd (xs i.toNat).toInt 31)) rfl ?_
  refine b_pc (pc' := 1191) (by rw [hop]; rfl) ?_
  refine b_s (pc' := 1192) (lv1 := [(0, .ref 0), (1, .ref 1), (2, .ref 76), (3, .ref 112), (4, bI i)]) (st' := [.ref 1]) l241_1191 (fun _ => rfl) ?_
  refine b_s (pc' := 1193) (lv1 := [(0, .ref 0), (1, .ref 1), (2, .ref 76), (3, .ref 112), (4, bI i)]) (st' := [.ref 0, .ref 1]) l241_1192 (fun _ => rfl) ?_
  refine b_s (pc' := 1195) (lv1 := [(0, .ref 0), (1, .ref 1), (2, .ref 76), (3, .ref 112), (4, bI i)]) (st' := [bI i, .ref 0, .ref 1]) l241_1193 (fun _ => rfl) ?_
  refine b_s (pc' := 1196) (lv1 := [(0, .ref 0), (1, .ref 1), (2, .ref 76), (3, .ref 112), (4, bI i)]) (st' := [bI 1, bI i, .ref 0, .ref 1]) l241_1195 (fun _ => rfl) ?_
  refine b_iadd1 l241_1196 (b_in (by omega) (by omega)) (b_pc (pc' := 1197) rfl ?_)
  refine b_scr l241_1197 ⟨by omega, by omega⟩ (by omega) (b_pc (pc' := 1198) rfl ?_)
  refine b_s (pc' := 1199) (lv1 := [(0, .ref 0), (1, .ref 1), (2, .ref 76), (3, .ref 112), (4, bI i)]) (st' := [.ref 0, bI (xs (i + 1).toNat).toInt, .ref 1]) l241_1198 (fun _ => rfl) ?_
  refine b_s (pc' := 1201) (lv1 := [(0, .ref 0), (1, .ref 1), (2, .ref 76), (3, .ref 112), (4, bI i)]) (st' := [bI i, .ref 0, bI (xs (i + 1).toNat).toInt, .ref 1]) l241_1199 (fun _ => rfl) ?_
  refine b_s (pc' := 1202) (lv1 := [(0, .ref 0), (1, .ref 1), (2, .ref 76), (3, .ref 112), (4, bI i)]) (st' := [bI 2, bI i, .ref 0, bI (xs (i + 1).toNat).toInt, .ref 1]) l241_1201 (fun _ => rfl) ?_
  refine b_iadd1 l241_1202 (b_in (by omega) (by omega)) (b_pc (pc' := 1203) rfl ?_)
  refine b_scr l241_1203 ⟨by omega, by omega⟩ (by omega) (b_pc (pc' := 1204) rfl ?_)
  refine b_s (pc' := 1205) (lv1 := [(0, .ref 0), (1, .ref 1), (2, .ref 76), (3, .ref 112), (4, bI i)]) (st' := [.ref 112, bI (xs (i + 2).toNat).toInt, bI (xs (i + 1).toNat).toInt, .ref 1]) l241_1204 (fun _ => rfl) ?_
  refine b_cKki l241_1205 rfl (fun _ => trivial) (Nat.le_of_ble_eq_true rfl) (Nat.le_of_ble_eq_true rfl) rfl (r_L_child (xs (i + 1).toNat).toInt (bi_rg _) (xs (i + 2).toNat).toInt (bi_rg _)) hF1 fun hv1 => bD.ok fun hk1 => b_pc (pc' := 1208) rfl ?_
  refine b_w (pc' := 1210) (lv1 := ax_st1 [(0, .ref 0), (1, .ref 1), (2, .ref 76), (3, .ref 112), (4, bI i)] 5 (bI k)) (lv' := [(0, .ref 0), (1, .ref 1), (2, .ref 76), (3, .ref 112), (4, bI i), (5, bI k)]) (st' := []) l241_1208 (fun _ => rfl) (bSb rfl (bSb rfl (bSb rfl (bSb rfl (bSb rfl (bSb rfl bSn)))))) ?_
  refine b_s (pc' := 1211) (lv1 := [(0, .ref 0), (1, .ref 1), (2, .ref 76), (3, .ref 112), (4, bI i), (5, bI k)]) (st' := [.ref 76]) l241_1210 (fun _ => rfl) ?_
  refine b_s (pc' := 1212) (lv1 := [(0, .ref 0), (1, .ref 1), (2, .ref 76), (3, .ref 112), (4, bI i), (5, bI k)]) (st' := [.ref 0, .ref 76]) l241_1211 (fun _ => rfl) ?_
  refine b_s (pc' := 1214) (lv1 := [(0, .ref 0), (1, .ref 1), (2, .ref 76), (3, .ref 112), (4, bI i), (5, bI k)]) (st' := [bI i, .ref 0, .ref 76]) l241_1212 (fun _ => rfl) ?_
  refine b_s (pc' := 1215) (lv1 := [(0, .ref 0), (1, .ref 1), (2, .ref 76), (3, .ref 112), (4, bI i), (5, bI k)]) (st' := [bI 1, bI i, .ref 0, .ref 76]) l241_1214 (fun _ => rfl) ?_
  refine b_iadd1 l241_1215 (b_in (by omega) (by omega)) (b_pc (pc' := 1216) rfl ?_)
  refine b_scr l241_1216 ⟨by omega, by omega⟩ (by omega) (b_pc (pc' := 1217) rfl ?_)
  refine b_s (pc' := 1218) (lv1 := [(0, .ref 0), (1, .ref 1), (2, .ref 76), (3, .ref 112), (4, bI i), (5, bI k)]) (st' := [.ref 0, bI (xs (i + 1).toNat).toInt, .ref 76]) l241_1217 (fun _ => rfl) ?_
  refine b_s (pc' := 1220) (lv1 := [(0, .ref 0), (1, .ref 1), (2, .ref 76), (3, .ref 112), (4, bI i), (5, bI k)]) (st' := [bI i, .ref 0, bI (xs (i + 1).toNat).toInt, .ref 76]) l241_1218 (fun _ => rfl) ?_
  refine b_s (pc' := 1221) (lv1 := [(0, .ref 0), (1, .ref 1), (2, .ref 76), (3, .ref 112), (4, bI i), (5, bI k)]) (st' := [bI 2, bI i, .ref 0, bI (xs (i + 1).toNat).toInt, .ref 76]) l241_1220 (fun _ => rfl) ?_
  refine b_iadd1 l241_1221 (b_in (by omega) (by omega)) (b_pc (pc' := 1222) rfl ?_)
  refine b_scr l241_1222 ⟨by omega, by omega⟩ (by omega) (b_pc (pc' := 1223) rfl ?_)
  refine b_cMki l241_1223 rfl (b_rc (ci := 9) (by rfl) (by decide) (by decide +kernel)) (Nat.le_of_ble_eq_true rfl) (Nat.le_of_ble_eq_true rfl) rfl (r_X11_child (xs (i + 1).toNat).toInt (bi_rg _) (xs (i + 2).toNat).toInt (bi_rg _)) hF2 fun hv2 => bD.ok fun hk2 => b_pc (pc' := 1226) rfl ?_
  refine b_w (pc' := 1228) (lv1 := ax_st1 [(0, .ref 0), (1, .ref 1), (2, .ref 76), (3, .ref 112), (4, bI i), (5, bI k)] 6 (bI b)) (lv' := [(0, .ref 0), (1, .ref 1), (2, .ref 76), (3, .ref 112), (4, bI i), (5, bI k), (6, bI b)]) (st' := []) l241_1226 (fun _ => rfl) (bSb rfl (bSb rfl (bSb rfl (bSb rfl (bSb rfl (bSb rfl (bSb rfl bSn))))))) ?_
  refine b_s (pc' := 1229) (lv1 := [(0, .ref 0), (1, .ref 1), (2, .ref 76), (3, .ref 112), (4, bI i), (5, bI k), (6, bI b)]) (st' := [.ref 76]) l241_1228 (fun _ => rfl) ?_
  refine b_cPki (v := μ2 76 0) l241_1229 rfl (b_rc (ci := 9) (by rfl) (by decide) (by decide +kernel)) (Nat.le_of_ble_eq_true rfl) (Nat.le_of_ble_eq_true rfl) rfl (r_X11_thrown ) rfl fun hw1 => b_pc (pc' := 1232) rfl ?_
  refine b_s (pc' := 1234) (lv1 := [(0, .ref 0), (1, .ref 1), (2, .ref 76), (3, .ref 112), (4, bI i), (5, bI k), (6, bI b)]) (st' := [bI k, bI (μ2 76 0)]) l241_1232 (fun _ => rfl) ?_
  refine b_pos (c := (μ2 76 0) = k) (E1 := some (.inl 1, μf, c)) (E2 := none) (κ := some) hEQ ?_
  refine b_ieq (pt := 1239) l241_1234 hw1 hv1 (by decide) rfl (fun _ => ?_) (fun z => absurd hEQ z)
  refine b_s (pc' := 1241) (lv1 := [(0, .ref 0), (1, .ref 1), (2, .ref 76), (3, .ref 112), (4, bI i), (5, bI k), (6, bI b)]) (st' := [bI k]) l241_1239 (fun _ => rfl) ?_
  by_cases hk0 : k = 0
  · refine b_neg (c := ¬ k = 0) (E1 := none) (E2 := some (.inl 1, μf, c)) (κ := some) (fun z => z hk0) ?_
    refine b_zne (pt := 1256) l241_1241 hv1 (by decide) rfl (fun z => absurd hk0 z) (fun _ => b_pc (pc' := 1244) rfl ?_)
    refine b_s (pc' := 1245) (lv1 := [(0, .ref 0), (1, .ref 1), (2, .ref 76), (3, .ref 112), (4, bI i), (5, bI k), (6, bI b)]) (st' := [.ref 112]) l241_1244 (fun _ => rfl) ?_
    refine b_s (pc' := 1246) (lv1 := [(0, .ref 0), (1, .ref 1), (2, .ref 76), (3, .ref 112), (4, bI i), (5, bI k), (6, bI b)]) (st' := [bI 0, .ref 112]) l241_1245 (fun _ => rfl) ?_
    refine b_lal l241_1246 (by rfl) (by decide) (b_pc (pc' := 1247) rfl ?_)
    refine b_s (pc' := 1249) (lv1 := [(0, .ref 0), (1, .ref 1), (2, .ref 76), (3, .ref 112), (4, bI i), (5, bI k), (6, bI b)]) (st' := [bI b, bLg (μ2 112 0)]) l241_1247 (fun _ => rfl) ?_
    refine b_i2l l241_1249 hv2 (b_pc (pc' := 1250) rfl ?_)
    refine b_lcmp l241_1250 (bO_l hk2 (show bSh 112 = (2, 1) from rfl)) (bR_L hv2) (b_pc (pc' := 1251) rfl ?_)
    refine b_pos (c := (bCmp (μ2 112 0) b) = 0) (E1 := some (.inl 1, μf, c)) (E2 := none) (κ := some) (bCmp_0 (ho hk0)) ?_
    refine b_zeq (pt := 1256) l241_1251 (bCmp_R _ _) (by decide) rfl (fun _ => ?_) (fun z => absurd (bCmp_0 (ho hk0)) z)
    refine b_s (pc' := 1655) (lv1 := [(0, .ref 0), (1, .ref 1), (2, .ref 76), (3, .ref 112), (4, bI i), (5, bI k), (6, bI b)]) (st' := []) l241_1256 (fun _ => rfl) ?_
    refine b_inc1 (lv' := [(0, .ref 0), (1, .ref 1), (2, .ref 76), (3, .ref 112), (4, bI (i + 6))]) l241_1655 rfl (by decide +kernel) (bSb rfl (bSb rfl (bSb rfl (bSb rfl (bSb rfl bSn))))) (b_in (by omega) (by omega)) (b_pc (pc' := 1658) rfl ?_)
    refine b_s (pc' := 23) (lv1 := [(0, .ref 0), (1, .ref 1), (2, .ref 76), (3, .ref 112), (4, bI (i + 6))]) (st' := []) l241_1658 (fun _ => rfl) ?_
    exact kont
  · refine b_pos (c := ¬ k = 0) (E1 := some (.inl 1, μf, c)) (E2 := none) (κ := some) hk0 ?_
    refine b_zne (pt := 1256) l241_1241 hv1 (by decide) rfl (fun _ => ?_) (fun z => absurd hk0 z)
    refine b_s (pc' := 1655) (lv1 := [(0, .ref 0), (1, .ref 1), (2, .ref 76), (3, .ref 112), (4, bI i), (5, bI k), (6, bI b)]) (st' := []) l241_1256 (fun _ => rfl) ?_
    refine b_inc1 (lv' := [(0, .ref 0), (1, .ref 1), (2, .ref 76), (3, .ref 112), (4, bI (i + 6))]) l241_1655 rfl (by decide +kernel) (bSb rfl (bSb rfl (bSb rfl (bSb rfl (bSb rfl bSn))))) (b_in (by omega) (by omega)) (b_pc (pc' := 1658) rfl ?_)
    refine b_s (pc' := 23) (lv1 := [(0, .ref 0), (1, .ref 1), (2, .ref 76), (3, .ref 112), (4, bI (i + 6))]) (st' := []) l241_1658 (fun _ => rfl) ?_
    exact kont
theorem g_18 {L : Nat} {xs : Nat → Int32} {i k b : Int} {c n1 : Nat} {μ μ1 μ2 μf : bM} (hL : L ≤ 3072) (hi : 0 ≤ i ∧ i + 6 ≤ (L : Int)) (hop : bAnd (xs i.toNat).toInt 31 = 18) (hF1 : F_L_root (xs (i + 1).toNat).toInt μ = some (k, μ1, n1)) (hF2 : F_X11_root (xs (i + 1).toNat).toInt μ1 = some (b, μ2)) (hEQ : μ2 76 0 = k) (ho : k = 0 → μ2 112 0 = b) (kont : bD L xs 9 241 23 [(0, .ref 0), (1, .ref 1), (2, .ref 76), (3, .ref 112), (4, bI (i + 6))] [] μ2 (some (.inl 1, μf, c))) : bD L xs 9 241 23 [(0, .ref 0), (1, .ref 1), (2, .ref 76), (3, .ref 112), (4, bI i)] [] μ (some (.inl 1, μf, (c + n1))) := by
  have hiR : bR i := b_in (by omega) (by omega)
  refine bD.ok fun hk => ?_
  refine b_s (pc' := 25) (lv1 := [(0, .ref 0), (1, .ref 1), (2, .ref 76), (3, .ref 112), (4, bI i)]) (st' := [bI i]) l241_23 (fun _ => rfl) ?_
  refine b_s (pc' := 26) (lv1 := [(0, .ref 0), (1, .ref 1), (2, .ref 76), (3, .ref 112), (4, bI i)]) (st' := [.ref 0, bI i]) l241_25 (fun _ => rfl) ?_
  refine b_scl l241_26 (b_pc (pc' := 27) rfl ?_)
  refine b_bipush l241_27 (by decide) (b_pc (pc' := 29) rfl ?_)
  refine b_isub1 l241_29 (b_in (by omega) (by omega)) (b_pc (pc' := 30) rfl ?_)
  refine b_neg (c := ((L : Int) - 6) < i) (E1 := none) (E2 := some (.inl 1, μf, (c + n1))) (κ := some) (by omega) ?_
  refine b_igt (pt := 1661) l241_30 hiR (b_in (by omega) (by omega)) (by decide) rfl (fun z => absurd z (by omega)) (fun _ => b_pc (pc' := 33) rfl ?_)
  refine b_s (pc' := 34) (lv1 := [(0, .ref 0), (1, .ref 1), (2, .ref 76), (3, .ref 112), (4, bI i)]) (st' := [.ref 0]) l241_33 (fun _ => rfl) ?_
  refine b_s (pc' := 36) (lv1 := [(0, .ref 0), (1, .ref 1), (2, .ref 76), (3, .ref 112), (4, bI i)]) (st' := [bI i, .ref 0]) l241_34 (fun _ => rfl) ?_
  refine b_scr l241_36 ⟨by omega, by omega⟩ (by omega) (b_pc (pc' := 37) rfl ?_)
  refine b_bipush l241_37 (by decide) (b_pc (pc' := 39) rfl ?_)
  refine b_iand l241_39 (b_pc (pc' := 40) rfl ?_)
  refine b_tsw l241_40 (bi_rg _) (by decide) (by decide) (by decide) ?_
  refine b_pc (pc' := bTg [(0, 152), (1, 256), (2, 292), (3, 348), (4, 416), (5, 540), (6, 620), (7, 712), (8, 725), (9, 738), (10, 794), (11, 862), (12, 918), (13, 998), (14, 1011), (15, 1067), (16, 1123), (17, 1191), (18, 1259), (19, 1315), (20, 1395), (21, 1462), (22, 1542), (23, 1598)] 1655 (bAnd (xs i.toNat).toInt 31)) rfl ?_
  refine b_pc (pc' := 1259) (by rw [hop]; rfl) ?_
  refine b_s (pc' := 1260) (lv1 := [(0, .ref 0), (1, .ref 1), (2, .ref 76), (3, .ref 112), (4, bI i)]) (st' := [.ref 1]) l241_1259 (fun _ => rfl) ?_
  refine b_s (pc' := 1261) (lv1 := [(0, .ref 0), (1, .ref 1), (2, .ref 76), (3, .ref 112), (4, bI i)]) (st' := [.ref 0, .ref 1]) l241_1260 (fun _ => rfl) ?_
  refine b_s (pc' := 1263) (lv1 := [(0, .ref 0), (1, .ref 1), (2, .ref 76), (3, .ref 112), (4, bI i)]) (st' := [bI i, .ref 0, .ref 1]) l241_1261 (fun _ => rfl) ?_
  refine b_s (pc' := 1264) (lv1 := [(0, .ref 0), (1, .ref 1), (2, .ref 76), (3, .ref 112), (4, bI i)]) (st' := [bI 1, bI i, .ref 0, .ref 1]) l241_1263 (fun _ => rfl) ?_
  refine b_iadd1 l241_1264 (b_in (by omega) (by omega)) (b_pc (pc' := 1265) rfl ?_)
  refine b_scr l241_1265 ⟨by omega, by omega⟩ (by omega) (b_pc (pc' := 1266) rfl ?_)
  refine b_s (pc' := 1267) (lv1 := [(0, .ref 0), (1, .ref 1), (2, .ref 76), (3, .ref 112), (4, bI i)]) (st' := [.ref 112, bI (xs (i + 1).toNat).toInt, .ref 1]) l241_1266 (fun _ => rfl) ?_
  refine b_cKki l241_1267 rfl (fun _ => trivial) (Nat.le_of_ble_eq_true rfl) (Nat.le_of_ble_eq_true rfl) rfl (r_L_root (xs (i + 1).toNat).toInt (bi_rg _)) hF1 fun hv1 => bD.ok fun hk1 => b_pc (pc' := 1270) rfl ?_
  refine b_w (pc' := 1272) (lv1 := ax_st1 [(0, .ref 0), (1, .ref 1), (2, .ref 76), (3, .ref 112), (4, bI i)] 5 (bI k)) (lv' := [(0, .ref 0), (1, .ref 1), (2, .ref 76), (3, .ref 112), (4, bI i), (5, bI k)]) (st' := []) l241_1270 (fun _ => rfl) (bSb rfl (bSb rfl (bSb rfl (bSb rfl (bSb rfl (bSb rfl bSn)))))) ?_
  refine b_s (pc' := 1273) (lv1 := [(0, .ref 0), (1, .ref 1), (2, .ref 76), (3, .ref 112), (4, bI i), (5, bI k)]) (st' := [.ref 76]) l241_1272 (fun _ => rfl) ?_
  refine b_s (pc' := 1274) (lv1 := [(0, .ref 0), (1, .ref 1), (2, .ref 76), (3, .ref 112), (4, bI i), (5, bI k)]) (st' := [.ref 0, .ref 76]) l241_1273 (fun _ => rfl) ?_
  refine b_s (pc' := 1276) (lv1 := [(0, .ref 0), (1, .ref 1), (2, .ref 76), (3, .ref 112), (4, bI i), (5, bI k)]) (st' := [bI i, .ref 0, .ref 76]) l241_1274 (fun _ => rfl) ?_
  refine b_s (pc' := 1277) (lv1 := [(0, .ref 0), (1, .ref 1), (2, .ref 76), (3, .ref 112), (4, bI i), (5, bI k)]) (st' := [bI 1, bI i, .ref 0, .ref 76]) l241_1276 (fun _ => rfl) ?_
  refine b_iadd1 l241_1277 (b_in (by omega) (by omega)) (b_pc (pc' := 1278) rfl ?_)
  refine b_scr l241_1278 ⟨by omega, by omega⟩ (by omega) (b_pc (pc' := 1279) rfl ?_)
  refine b_cMki l241_1279 rfl (b_rc (ci := 9) (by rfl) (by decide) (by decide +kernel)) (Nat.le_of_ble_eq_true rfl) (Nat.le_of_ble_eq_true rfl) rfl (r_X11_root (xs (i + 1).toNat).toInt (bi_rg _)) hF2 fun hv2 => bD.ok fun hk2 => b_pc (pc' := 1282) rfl ?_
  refine b_w (pc' := 1284) (lv1 := ax_st1 [(0, .ref 0), (1, .ref 1), (2, .ref 76), (3, .ref 112), (4, bI i), (5, bI k)] 6 (bI b)) (lv' := [(0, .ref 0), (1, .ref 1), (2, .ref 76), (3, .ref 112), (4, bI i), (5, bI k), (6, bI b)]) (st' := []) l241_1282 (fun _ => rfl) (bSb rfl (bSb rfl (bSb rfl (bSb rfl (bSb rfl (bSb rfl (bSb rfl bSn))))))) ?_
  refine b_s (pc' := 1285) (lv1 := [(0, .ref 0), (1, .ref 1), (2, .ref 76), (3, .ref 112), (4, bI i), (5, bI k), (6, bI b)]) (st' := [.ref 76]) l241_1284 (fun _ => rfl) ?_
  refine b_cPki (v := μ2 76 0) l241_1285 rfl (b_rc (ci := 9) (by rfl) (by decide) (by decide +kernel)) (Nat.le_of_ble_eq_true rfl) (Nat.le_of_ble_eq_true rfl) rfl (r_X11_thrown ) rfl fun hw1 => b_pc (pc' := 1288) rfl ?_
  refine b_s (pc' := 1290) (lv1 := [(0, .ref 0), (1, .ref 1), (2, .ref 76), (3, .ref 112), (4, bI i), (5, bI k), (6, bI b)]) (st' := [bI k, bI (μ2 76 0)]) l241_1288 (fun _ => rfl) ?_
  refine b_pos (c := (μ2 76 0) = k) (E1 := some (.inl 1, μf, c)) (E2 := none) (κ := some) hEQ ?_
  refine b_ieq (pt := 1295) l241_1290 hw1 hv1 (by decide) rfl (fun _ => ?_) (fun z => absurd hEQ z)
  refine b_s (pc' := 1297) (lv1 := [(0, .ref 0), (1, .ref 1), (2, .ref 76), (3, .ref 112), (4, bI i), (5, bI k), (6, bI b)]) (st' := [bI k]) l241_1295 (fun _ => rfl) ?_
  by_cases hk0 : k = 0
  · refine b_neg (c := ¬ k = 0) (E1 := none) (E2 := some (.inl 1, μf, c)) (κ := some) (fun z => z hk0) ?_
    refine b_zne (pt := 1312) l241_1297 hv1 (by decide) rfl (fun z => absurd hk0 z) (fun _ => b_pc (pc' := 1300) rfl ?_)
    refine b_s (pc' := 1301) (lv1 := [(0, .ref 0), (1, .ref 1), (2, .ref 76), (3, .ref 112), (4, bI i), (5, bI k), (6, bI b)]) (st' := [.ref 112]) l241_1300 (fun _ => rfl) ?_
    refine b_s (pc' := 1302) (lv1 := [(0, .ref 0), (1, .ref 1), (2, .ref 76), (3, .ref 112), (4, bI i), (5, bI k), (6, bI b)]) (st' := [bI 0, .ref 112]) l241_1301 (fun _ => rfl) ?_
    refine b_lal l241_1302 (by rfl) (by decide) (b_pc (pc' := 1303) rfl ?_)
    refine b_s (pc' := 1305) (lv1 := [(0, .ref 0), (1, .ref 1), (2, .ref 76), (3, .ref 112), (4, bI i), (5, bI k), (6, bI b)]) (st' := [bI b, bLg (μ2 112 0)]) l241_1303 (fun _ => rfl) ?_
    refine b_i2l l241_1305 hv2 (b_pc (pc' := 1306) rfl ?_)
    refine b_lcmp l241_1306 (bO_l hk2 (show bSh 112 = (2, 1) from rfl)) (bR_L hv2) (b_pc (pc' := 1307) rfl ?_)
    refine b_pos (c := (bCmp (μ2 112 0) b) = 0) (E1 := some (.inl 1, μf, c)) (E2 := none) (κ := some) (bCmp_0 (ho hk0)) ?_
    refine b_zeq (pt := 1312) l241_1307 (bCmp_R _ _) (by decide) rfl (fun _ => ?_) (fun z => absurd (bCmp_0 (ho hk0)) z)
    refine b_s (pc' := 1655) (lv1 := [(0, .ref 0), (1, .ref 1), (2, .ref 76), (3, .ref 112), (4, bI i), (5, bI k), (6, bI b)]) (st' := []) l241_1312 (fun _ => rfl) ?_
    refine b_inc1 (lv' := [(0, .ref 0), (1, .ref 1), (2, .ref 76), (3, .ref 112), (4, bI (i + 6))]) l241_1655 rfl (by decide +kernel) (bSb rfl (bSb rfl (bSb rfl (bSb rfl (bSb rfl bSn))))) (b_in (by omega) (by omega)) (b_pc (pc' := 1658) rfl ?_)
    refine b_s (pc' := 23) (lv1 := [(0, .ref 0), (1, .ref 1), (2, .ref 76), (3, .ref 112), (4, bI (i + 6))]) (st' := []) l241_1658 (fun _ => rfl) ?_
    exact kont
  · refine b_pos (c := ¬ k = 0) (E1 := some (.inl 1, μf, c)) (E2 := none) (κ := some) hk0 ?_
    refine b_zne (pt := 1312) l241_1297 hv1 (by decide) rfl (fun _ => ?_) (fun z => absurd hk0 z)
    refine b_s (pc' := 1655) (lv1 := [(0, .ref 0), (1, .ref 1), (2, .ref 76), (3, .ref 112), (4, bI i), (5, bI k), (6, bI b)]) (st' := []) l241_1312 (fun _ => rfl) ?_
    refine b_inc1 (lv' := [(0, .ref 0), (1, .ref 1), (2, .ref 76), (3, .ref 112), (4, bI (i + 6))]) l241_1655 rfl (by decide +kernel) (bSb rfl (bSb rfl (bSb rfl (bSb rfl (bSb rfl bSn))))) (b_in (by omega) (by omega)) (b_pc (pc' := 1658) rfl ?_)
    refine b_s (pc' := 23) (lv1 := [(0, .ref 0), (1, .ref 1), (2, .ref 76), (3, .ref 112), (4, bI (i + 6))]) (st' := []) l241_1658 (fun _ => rfl) ?_
    exact kont
theorem g_19 {L : Nat} {xs : Nat → Int32} {i k b : Int} {c n1 : Nat} {μ μ1 μ2 μf : bM} (hL : L ≤ 3072) (hi : 0 ≤ i ∧ i + 6 ≤ (L : Int)) (hop : bAnd (xs i.toNat).toInt 31 = 19) (hF1 : F_L_attribute (xs (i + 1).toNat).toInt (xs (i + 2).toNat).toInt (xs (i + 3).toNat).toInt μ = some (k, μ1, n1)) (hF2 : F_X11_attribute (xs (i + 1).toNat).toInt (xs (i + 2).toNat).toInt (xs (i + 3).toNat).toInt μ1 = some (b, μ2)) (hEQ : μ2 76 0 = k) (ho : k = 0 → μ2 112 0 = b) (kont : bD L xs 9 241 23 [(0, .ref 0), (1, .ref 1), (2, .ref 76), (3, .ref 112), (4, bI (i + 6))] [] μ2 (some (.inl 1, μf, c))) : bD L xs 9 241 23 [(0, .ref 0), (1, .ref 1), (2, .ref 76), (3, .ref 112), (4, bI i)] [] μ (some (.inl 1, μf, (c + n1))) := by
  have hiR : bR i := b_in (by omega) (by omega)
  refine bD.ok fun hk => ?_
  refine b_s (pc' := 25) (lv1 := [(0, .ref 0), (1, .ref 1), (2, .ref 76), (3, .ref 112), (4, bI i)]) (st' := [bI i]) l241_23 (fun _ => rfl) ?_
  refine b_s (pc' := 26) (lv1 := [(0, .ref 0), (1, .ref 1), (2, .ref 76), (3, .ref 112), (4, bI i)]) (st' := [.ref 0, bI i]) l241_25 (fun _ => rfl) ?_
  refine b_scl l241_26 (b_pc (pc' := 27) rfl ?_)
  refine b_bipush l241_27 (by decide) (b_pc (pc' := 29) rfl ?_)
  refine b_isub1 l241_29 (b_in (by omega) (by omega)) (b_pc (pc' := 30) rfl ?_)
  refine b_neg (c := ((L : Int) - 6) < i) (E1 := none) (E2 := some (.inl 1, μf, (c + n1))) (κ := some) (by omega) ?_
  refine b_igt (pt := 1661) l241_30 hiR (b_in (by omega) (by omega)) (by decide) rfl (fun z => absurd z (by omega)) (fun _ => b_pc (pc' := 33) rfl ?_)
  refine b_s (pc' := 34) (lv1 := [(0, .ref 0), (1, .ref 1), (2, .ref 76), (3, .ref 112), (4, bI i)]) (st' := [.ref 0]) l241_33 (fun _ => rfl) ?_
  refine b_s (pc' := 36) (lv1 := [(0, .ref 0), (1, .ref 1), (2, .ref 76), (3, .ref 112), (4, bI i)]) (st' := [bI i, .ref 0]) l241_34 (fun _ => rfl) ?_
  refine b_scr l241_36 ⟨by omega, by omega⟩ (by omega) (b_pc (pc' := 37) rfl ?_)
  refine b_bipush l241_37 (by decide) (b_pc (pc' := 39) rfl ?_)
  refine b_iand l241_39 (b_pc (pc' := 40) rfl ?_)
  refine b_tsw l241_40 (bi_rg _) (by decide) (by decide) (by decide) ?_
  refine b_pc (pc' := bTg [(0, 152), (1, 256), (2, 292), (3, 348), (4, 416), (5, 540), (6, 620), (7, 712), (8, 725), (9, 738), (10, 794), (11, 862), (12, 918), (13, 998), (14, 1011), (15, 1067), (16, 1123), (17, 1191), (18, 1259), (19, 1315), (20, 1395), (21, 1462), (22, 1542), (23, 1598)] 1655 (bAnd (xs i.toNat).toInt 31)) rfl ?_
  refine b_pc (pc' := 1315) (by rw [hop]; rfl) ?_
  refine b_s (pc' := 1316) (lv1 := [(0, .ref 0), (1, .ref 1), (2, .ref 76), (3, .ref 112), (4, bI i)]) (st' := [.ref 1]) l241_1315 (fun _ => rfl) ?_
  refine b_s (pc' := 1317) (lv1 := [(0, .ref 0), (1, .ref 1), (2, .ref 76), (3, .ref 112), (4, bI i)]) (st' := [.ref 0, .ref 1]) l241_1316 (fun _ => rfl) ?_
  refine b_s (pc' := 1319) (lv1 := [(0, .ref 0), (1, .ref 1), (2, .ref 76), (3, .ref 112), (4, bI i)]) (st' := [bI i, .ref 0, .ref 1]) l241_1317 (fun _ => rfl) ?_
  refine b_s (pc' := 1320) (lv1 := [(0, .ref 0), (1, .ref 1), (2, .ref 76), (3, .ref 112), (4, bI i)]) (st' := [bI 1, bI i, .ref 0, .ref 1]) l241_1319 (fun _ => rfl) ?_
  refine b_iadd1 l241_1320 (b_in (by omega) (by omega)) (b_pc (pc' := 1321) rfl ?_)
  refine b_scr l241_1321 ⟨by omega, by omega⟩ (by omega) (b_pc (pc' := 1322) rfl ?_)
  refine b_s (pc' := 1323) (lv1 := [(0, .ref 0), (1, .ref 1), (2, .ref 76), (3, .ref 112), (4, bI i)]) (st' := [.ref 0, bI (xs (i + 1).toNat).toInt, .ref 1]) l241_1322 (fun _ => rfl) ?_
  refine b_s (pc' := 1325) (lv1 := [(0, .ref 0), (1, .ref 1), (2, .ref 76), (3, .ref 112), (4, bI i)]) (st' := [bI i, .ref 0, bI (xs (i + 1).toNat).toInt, .ref 1]) l241_1323 (fun _ => rfl) ?_
  refine b_s (pc' := 1326) (lv1 := [(0, .ref 0), (1, .ref 1), (2, .ref 76), (3, .ref 112), (4, bI i)]) (st' := [bI 2, bI i, .ref 0, bI (xs (i + 1).toNat).toInt, .ref 1]) l241_1325 (fun _ => rfl) ?_
  refine b_iadd1 l241_1326 (b_in (by omega) (by omega)) (b_pc (pc' := 1327) rfl ?_)
  refine b_scr l241_1327 ⟨by omega, by omega⟩ (by omega) (b_pc (pc' := 1328) rfl ?_)
  refine b_s (pc' := 1329) (lv1 := [(0, .ref 0), (1, .ref 1), (2, .ref 76), (3, .ref 112), (4, bI i)]) (st' := [.ref 0, bI (xs (i + 2).toNat).toInt, bI (xs (i + 1).toNat).toInt, .ref 1]) l241_1328 (fun _ => rfl) ?_
  refine b_s (pc' := 1331) (lv1 := [(0, .ref 0), (1, .ref 1), (2, .ref 76), (3, .ref 112), (4, bI i)]) (st' := [bI i, .ref 0, bI (xs (i + 2).toNat).toInt, bI (xs (i + 1).toNat).toInt, .ref 1]) l241_1329 (fun _ => rfl) ?_
  refine b_s (pc' := 1332) (lv1 := [(0, .ref 0), (1, .ref 1), (2, .ref 76), (3, .ref 112), (4, bI i)]) (st' := [bI 3, bI i, .ref 0, bI (xs (i + 2).toNat).toInt, bI (xs (i + 1).toNat).toInt, .ref 1]) l241_1331 (fun _ => rfl) ?_
  refine b_iadd1 l241_1332 (b_in (by omega) (by omega)) (b_pc (pc' := 1333) rfl ?_)
  refine b_scr l241_1333 ⟨by omega, by omega⟩ (by omega) (b_pc (pc' := 1334) rfl ?_)
  refine b_s (pc' := 1335) (lv1 := [(0, .ref 0), (1, .ref 1), (2, .ref 76), (3, .ref 112), (4, bI i)]) (st' := [.ref 112, bI (xs (i + 3).toNat).toInt, bI (xs (i + 2).toNat).toInt, bI (xs (i + 1).toNat).toInt, .ref 1]) l241_1334 (fun _ => rfl) ?_
  refine b_cKki l241_1335 rfl (fun _ => trivial) (Nat.le_of_ble_eq_true rfl) (Nat.le_of_ble_eq_true rfl) rfl (r_L_attribute (xs (i + 1).toNat).toInt (bi_rg _) (xs (i + 2).toNat).toInt (bi_rg _) (xs (i + 3).toNat).toInt (bi_rg _)) hF1 fun hv1 => bD.ok fun hk1 => b_pc (pc' := 1338) rfl ?_
  refine b_w (pc' := 1340) (lv1 := ax_st1 [(0, .ref 0), (1, .ref 1), (2, .ref 76), (3, .ref 112), (4, bI i)] 5 (bI k)) (lv' := [(0, .ref 0), (1, .ref 1), (2, .ref 76), (3, .ref 112), (4, bI i), (5, bI k)]) (st' := []) l241_1338 (fun _ => rfl) (bSb rfl (bSb rfl (bSb rfl (bSb rfl (bSb rfl (bSb rfl bSn)))))) ?_
  refine b_s (pc' := 1341) (lv1 := [(0, .ref 0), (1, .ref 1), (2, .ref 76), (3, .ref 112), (4, bI i), (5, bI k)]) (st' := [.ref 76]) l241_1340 (fun _ => rfl) ?_
  refine b_s (pc' := 1342) (lv1 := [(0, .ref 0), (1, .ref 1), (2, .ref 76), (3, .ref 112), (4, bI i), (5, bI k)]) (st' := [.ref 0, .ref 76]) l241_1341 (fun _ => rfl) ?_
  refine b_s (pc' := 1344) (lv1 := [(0, .ref 0), (1, .ref 1), (2, .ref 76), (3, .ref 112), (4, bI i), (5, bI k)]) (st' := [bI i, .ref 0, .ref 76]) l241_1342 (fun _ => rfl) ?_
  refine b_s (pc' := 1345) (lv1 := [(0, .ref 0), (1, .ref 1), (2, .ref 76), (3, .ref 112), (4, bI i), (5, bI k)]) (st' := [bI 1, bI i, .ref 0, .ref 76]) l241_1344 (fun _ => rfl) ?_
  refine b_iadd1 l241_1345 (b_in (by omega) (by omega)) (b_pc (pc' := 1346) rfl ?_)
  refine b_scr l241_1346 ⟨by omega, by omega⟩ (by omega) (b_pc (pc' := 1347) rfl ?_)
  refine b_s (pc' := 1348) (lv1 := [(0, .ref 0), (1, .ref 1), (2, .ref 76), (3, .ref 112), (4, bI i), (5, bI k)]) (st' := [.ref 0, bI (xs (i + 1).toNat).toInt, .ref 76]) l241_1347 (fun _ => rfl) ?_
  refine b_s (pc' := 1350) (lv1 := [(0, .ref 0), (1, .ref 1), (2, .ref 76), (3, .ref 112), (4, bI i), (5, bI k)]) (st' := [bI i, .ref 0, bI (xs (i + 1).toNat).toInt, .ref 76]) l241_1348 (fun _ => rfl) ?_
  refine b_s (pc' := 1351) (lv1 := [(0, .ref 0), (1, .ref 1), (2, .ref 76), (3, .ref 112), (4, bI i), (5, bI k)]) (st' := [bI 2, bI i, .ref 0, bI (xs (i + 1).toNat).toInt, .ref 76]) l241_1350 (fun _ => rfl) ?_
  refine b_iadd1 l241_1351 (b_in (by omega) (by omega)) (b_pc (pc' := 1352) rfl ?_)
  refine b_scr l241_1352 ⟨by omega, by omega⟩ (by omega) (b_pc (pc' := 1353) rfl ?_)
  refine b_s (pc' := 1354) (lv1 := [(0, .ref 0), (1, .ref 1), (2, .ref 76), (3, .ref 112), (4, bI i), (5, bI k)]) (st' := [.ref 0, bI (xs (i + 2).toNat).toInt, bI (xs (i + 1).toNat).toInt, .ref 76]) l241_1353 (fun _ => rfl) ?_
  refine b_s (pc' := 1356) (lv1 := [(0, .ref 0), (1, .ref 1), (2, .ref 76), (3, .ref 112), (4, bI i), (5, bI k)]) (st' := [bI i, .ref 0, bI (xs (i + 2).toNat).toInt, bI (xs (i + 1).toNat).toInt, .ref 76]) l241_1354 (fun _ => rfl) ?_
  refine b_s (pc' := 1357) (lv1 := [(0, .ref 0), (1, .ref 1), (2, .ref 76), (3, .ref 112), (4, bI i), (5, bI k)]) (st' := [bI 3, bI i, .ref 0, bI (xs (i + 2).toNat).toInt, bI (xs (i + 1).toNat).toInt, .ref 76]) l241_1356 (fun _ => rfl) ?_
  refine b_iadd1 l241_1357 (b_in (by omega) (by omega)) (b_pc (pc' := 1358) rfl ?_)
  refine b_scr l241_1358 ⟨by omega, by omega⟩ (by omega) (b_pc (pc' := 1359) rfl ?_)
  refine b_cMki l241_1359 rfl (b_rc (ci := 9) (by rfl) (by decide) (by decide +kernel)) (Nat.le_of_ble_eq_true rfl) (Nat.le_of_ble_eq_true rfl) rfl (r_X11_attribute (xs (i + 1).toNat).toInt (bi_rg _) (xs (i + 2).toNat).toInt (bi_rg _) (xs (i + 3).toNat).toInt (bi_rg _)) hF2 fun hv2 => bD.ok fun hk2 => b_pc (pc' := 1362) rfl ?_
  refine b_w (pc' := 1364) (lv1 := ax_st1 [(0, .ref 0), (1, .ref 1), (2, .ref 76), (3, .ref 112), (4, bI i), (5, bI k)] 6 (bI b)) (lv' := [(0, .ref 0), (1, .ref 1), (2, .ref 76), (3, .ref 112), (4, bI i), (5, bI k), (6, bI b)]) (st' := []) l241_1362 (fun _ => rfl) (bSb rfl (bSb rfl (bSb rfl (bSb rfl (bSb rfl (bSb rfl (bSb rfl bSn))))))) ?_
  refine b_s (pc' := 1365) (lv1 := [(0, .ref 0), (1, .ref 1), (2, .ref 76), (3, .ref 112), (4, bI i), (5, bI k), (6, bI b)]) (st' := [.ref 76]) l241_1364 (fun _ => rfl) ?_
  refine b_cPki (v := μ2 76 0) l241_1365 rfl (b_rc (ci := 9) (by rfl) (by decide) (by decide +kernel)) (Nat.le_of_ble_eq_true rfl) (Nat.le_of_ble_eq_true rfl) rfl (r_X11_thrown ) rfl fun hw1 => b_pc (pc' := 1368) rfl ?_
  refine b_s (pc' := 1370) (lv1 := [(0, .ref 0), (1, .ref 1), (2, .ref 76), (3, .ref 112), (4, bI i), (5, bI k), (6, bI b)]) (st' := [bI k, bI (μ2 76 0)]) l241_1368 (fun _ => rfl) ?_
  refine b_pos (c := (μ2 76 0) = k) (E1 := some (.inl 1, μf, c)) (E2 := none) (κ := some) hEQ ?_
  refine b_ieq (pt := 1375) l241_1370 hw1 hv1 (by decide) rfl (fun _ => ?_) (fun z => absurd hEQ z)
  refine b_s (pc' := 1377) (lv1 := [(0, .ref 0), (1, .ref 1), (2, .ref 76), (3, .ref 112), (4, bI i), (5, bI k), (6, bI b)]) (st' := [bI k]) l241_1375 (fun _ => rfl) ?_
  by_cases hk0 : k = 0
  · refine b_neg (c := ¬ k = 0) (E1 := none) (E2 := some (.inl 1, μf, c)) (κ := some) (fun z => z hk0) ?_
    refine b_zne (pt := 1392) l241_1377 hv1 (by decide) rfl (fun z => absurd hk0 z) (fun _ => b_pc (pc' := 1380) rfl ?_)
    refine b_s (pc' := 1381) (lv1 := [(0, .ref 0), (1, .ref 1), (2, .ref 76), (3, .ref 112), (4, bI i), (5, bI k), (6, bI b)]) (st' := [.ref 112]) l241_1380 (fun _ => rfl) ?_
    refine b_s (pc' := 1382) (lv1 := [(0, .ref 0), (1, .ref 1), (2, .ref 76), (3, .ref 112), (4, bI i), (5, bI k), (6, bI b)]) (st' := [bI 0, .ref 112]) l241_1381 (fun _ => rfl) ?_
    refine b_lal l241_1382 (by rfl) (by decide) (b_pc (pc' := 1383) rfl ?_)
    refine b_s (pc' := 1385) (lv1 := [(0, .ref 0), (1, .ref 1), (2, .ref 76), (3, .ref 112), (4, bI i), (5, bI k), (6, bI b)]) (st' := [bI b, bLg (μ2 112 0)]) l241_1383 (fun _ => rfl) ?_
    refine b_i2l l241_1385 hv2 (b_pc (pc' := 1386) rfl ?_)
    refine b_lcmp l241_1386 (bO_l hk2 (show bSh 112 = (2, 1) from rfl)) (bR_L hv2) (b_pc (pc' := 1387) rfl ?_)
    refine b_pos (c := (bCmp (μ2 112 0) b) = 0) (E1 := some (.inl 1, μf, c)) (E2 := none) (κ := some) (bCmp_0 (ho hk0)) ?_
    refine b_zeq (pt := 1392) l241_1387 (bCmp_R _ _) (by decide) rfl (fun _ => ?_) (fun z => absurd (bCmp_0 (ho hk0)) z)
    refine b_s (pc' := 1655) (lv1 := [(0, .ref 0), (1, .ref 1), (2, .ref 76), (3, .ref 112), (4, bI i), (5, bI k), (6, bI b)]) (st' := []) l241_1392 (fun _ => rfl) ?_
    refine b_inc1 (lv' := [(0, .ref 0), (1, .ref 1), (2, .ref 76), (3, .ref 112), (4, bI (i + 6))]) l241_1655 rfl (by decide +kernel) (bSb rfl (bSb rfl (bSb rfl (bSb rfl (bSb rfl bSn))))) (b_in (by omega) (by omega)) (b_pc (pc' := 1658) rfl ?_)
    refine b_s (pc' := 23) (lv1 := [(0, .ref 0), (1, .ref 1), (2, .ref 76), (3, .ref 112), (4, bI (i + 6))]) (st' := []) l241_1658 (fun _ => rfl) ?_
    exact kont
  · refine b_pos (c := ¬ k = 0) (E1 := some (.inl 1, μf, c)) (E2 := none) (κ := some) hk0 ?_
    refine b_zne (pt := 1392) l241_1377 hv1 (by decide) rfl (fun _ => ?_) (fun z => absurd hk0 z)
    refine b_s (pc' := 1655) (lv1 := [(0, .ref 0), (1, .ref 1), (2, .ref 76), (3, .ref 112), (4, bI i), (5, bI k), (6, bI b)]) (st' := []) l241_1392 (fun _ => rfl) ?_
    refine b_inc1 (lv' := [(0, .ref 0), (1, .ref 1), (2, .ref 76), (3, .ref 112), (4, bI (i + 6))]) l241_1655 rfl (by decide +kernel) (bSb rfl (bSb rfl (bSb rfl (bSb rfl (bSb rfl bSn))))) (b_in (by omega) (by omega)) (b_pc (pc' := 1658) rfl ?_)
    refine b_s (pc' := 23) (lv1 := [(0, .ref 0), (1, .ref 1), (2, .ref 76), (3, .ref 112), (4, bI (i + 6))]) (st' := []) l241_1658 (fun _ => rfl) ?_
    exact kont
theorem g_20 {L : Nat} {xs : Nat → Int32} {i k b : Int} {c n1 : Nat} {μ μ1 μ2 μf : bM} (hL : L ≤ 3072) (hi : 0 ≤ i ∧ i + 6 ≤ (L : Int)) (hop : bAnd (xs i.toNat).toInt 31 = 20) (hF1 : F_L_value (xs (i + 1).toNat).toInt (xs (i + 2).toNat).toInt μ = some (k, μ1, n1)) (hF2 : F_X11_value (xs (i + 1).toNat).toInt (xs (i + 2).toNat).toInt μ1 = some (b, μ2)) (hEQ : μ2 76 0 = k) (ho : k = 0 → μ2 112 0 = b) (kont : bD L xs 9 241 23 [(0, .ref 0), (1, .ref 1), (2, .ref 76), (3, .ref 112), (4, bI (i + 6))] [] μ2 (some (.inl 1, μf, c))) : bD L xs 9 241 23 [(0, .ref 0), (1, .ref 1), (2, .ref 76), (3, .ref 112), (4, bI i)] [] μ (some (.inl 1, μf, (c + n1))) := by
  have hiR : bR i := b_in (by omega) (by omega)
  refine bD.ok fun hk => ?_
  refine b_s (pc' := 25) (lv1 := [(0, .ref 0), (1, .ref 1), (2, .ref 76), (3, .ref 112), (4, bI i)]) (st' := [bI i]) l241_23 (fun _ => rfl) ?_
  refine b_s (pc' := 26) (lv1 := [(0, .ref 0), (1, .ref 1), (2, .ref 76), (3, .ref 112), (4, bI i)]) (st' := [.ref 0, bI i]) l241_25 (fun _ => rfl) ?_
  refine b_scl l241_26 (b_pc (pc' := 27) rfl ?_)
  refine b_bipush l241_27 (by decide) (b_pc (pc' := 29) rfl ?_)
  refine b_isub1 l241_29 (b_in (by omega) (by omega)) (b_pc (pc' := 30) rfl ?_)
  refine b_neg (c := ((L : Int) - 6) < i) (E1 := none) (E2 := some (.inl 1, μf, (c + n1))) (κ := some) (by omega) ?_
  refine b_igt (pt := 1661) l241_30 hiR (b_in (by omega) (by omega)) (by decide) rfl (fun z => absurd z (by omega)) (fun _ => b_pc (pc' := 33) rfl ?_)
  refine b_s (pc' := 34) (lv1 := [(0, .ref 0), (1, .ref 1), (2, .ref 76), (3, .ref 112), (4, bI i)]) (st' := [.ref 0]) l241_33 (fun _ => rfl) ?_
  refine b_s (pc' := 36) (lv1 := [(0, .ref 0), (1, .ref 1), (2, .ref 76), (3, .ref 112), (4, bI i)]) (st' := [bI i, .ref 0]) l241_34 (fun _ => rfl) ?_
  refine b_scr l241_36 ⟨by omega, by omega⟩ (by omega) (b_pc (pc' := 37) rfl ?_)
  refine b_bipush l241_37 (by decide) (b_pc (pc' := 39) rfl ?_)
  refine b_iand l241_39 (b_pc (pc' := 40) rfl ?_)
  refine b_tsw l241_40 (bi_rg _) (by decide) (by decide) (by decide) ?_
  refine b_pc (pc' := bTg [(0, 152), (1, 256), (2, 292), (3, 348), (4, 416), (5, 540), (6, 620), (7, 712), (8, 725), (9, 738), (10, 794), (11, 862), (12, 918), (13, 998), (14, 1011), (15, 1067), (16, 1123), (17, 1191), (18, 1259), (19, 1315), (20, 1395), (21, 1462), (22, 1542), (23, 1598)] 1655 (bAnd (xs i.toNat).toInt 31)) rfl ?_
  refine b_pc (pc' := 1395) (by rw [hop]; rfl) ?_
  refine b_s (pc' := 1396) (lv1 := [(0, .ref 0), (1, .ref 1), (2, .ref 76), (3, .ref 112), (4, bI i)]) (st' := [.ref 1]) l241_1395 (fun _ => rfl) ?_
  refine b_s (pc' := 1397) (lv1 := [(0, .ref 0), (1, .ref 1), (2, .ref 76), (3, .ref 112), (4, bI i)]) (st' := [.ref 0, .ref 1]) l241_1396 (fun _ => rfl) ?_
  refine b_s (pc' := 1399) (lv1 := [(0, .ref 0), (1, .ref 1), (2, .ref 76), (3, .ref 112), (4, bI i)]) (st' := [bI i, .ref 0, .ref 1]) l241_1397 (fun _ => rfl) ?_
  refine b_s (pc' := 1400) (lv1 := [(0, .ref 0), (1, .ref 1), (2, .ref 76), (3, .ref 112), (4, bI i)]) (st' := [bI 1, bI i, .ref 0, .ref 1]) l241_1399 (fun _ => rfl) ?_
  refine b_iadd1 l241_1400 (b_in (by omega) (by omega)) (b_pc (pc' := 1401) rfl ?_)
  refine b_scr l241_1401 ⟨by omega, by omega⟩ (by omega) (b_pc (pc' := 1402) rfl ?_)
  refine b_s (pc' := 1403) (lv1 := [(0, .ref 0), (1, .ref 1), (2, .ref 76), (3, .ref 112), (4, bI i)]) (st' := [.ref 0, bI (xs (i + 1).toNat).toInt, .ref 1]) l241_1402 (fun _ => rfl) ?_
  refine b_s (pc' := 1405) (lv1 := [(0, .ref 0), (1, .ref 1), (2, .ref 76), (3, .ref 112), (4, bI i)]) (st' := [bI i, .ref 0, bI (xs (i + 1).toNat).toInt, .ref 1]) l241_1403 (fun _ => rfl) ?_
  refine b_s (pc' := 1406) (lv1 := [(0, .ref 0), (1, .ref 1), (2, .ref 76), (3, .ref 112), (4, bI i)]) (st' := [bI 2, bI i, .ref 0, bI (xs (i + 1).toNat).toInt, .ref 1]) l241_1405 (fun _ => rfl) ?_
  refine b_iadd1 l241_1406 (b_in (by omega) (by omega)) (b_pc (pc' := 1407) rfl ?_)
  refine b_scr l241_1407 ⟨by omega, by omega⟩ (by omega) (b_pc (pc' := 1408) rfl ?_)
  refine b_s (pc' := 1409) (lv1 := [(0, .ref 0), (1, .ref 1), (2, .ref 76), (3, .ref 112), (4, bI i)]) (st' := [.ref 112, bI (xs (i + 2).toNat).toInt, bI (xs (i + 1).toNat).toInt, .ref 1]) l241_1408 (fun _ => rfl) ?_
  refine b_cKki l241_1409 rfl (fun _ => trivial) (Nat.le_of_ble_eq_true rfl) (Nat.le_of_ble_eq_true rfl) rfl (r_L_value (xs (i + 1).toNat).toInt (bi_rg _) (xs (i + 2).toNat).toInt (bi_rg _)) hF1 fun hv1 => bD.ok fun hk1 => b_pc (pc' := 1412) rfl ?_
  refine b_w (pc' := 1414) (lv1 := ax_st1 [(0, .ref 0), (1, .ref 1), (2, .ref 76), (3, .ref 112), (4, bI i)] 5 (bI k)) (lv' := [(0, .ref 0), (1, .ref 1), (2, .ref 76), (3, .ref 112), (4, bI i), (5, bI k)]) (st' := []) l241_1412 (fun _ => rfl) (bSb rfl (bSb rfl (bSb rfl (bSb rfl (bSb rfl (bSb rfl bSn)))))) ?_
  refine b_s (pc' := 1415) (lv1 := [(0, .ref 0), (1, .ref 1), (2, .ref 76), (3, .ref 112), (4, bI i), (5, bI k)]) (st' := [.ref 76]) l241_1414 (fun _ => rfl) ?_
  refine b_s (pc' := 1416) (lv1 := [(0, .ref 0), (1, .ref 1), (2, .ref 76), (3, .ref 112), (4, bI i), (5, bI k)]) (st' := [.ref 0, .ref 76]) l241_1415 (fun _ => rfl) ?_
  refine b_s (pc' := 1418) (lv1 := [(0, .ref 0), (1, .ref 1), (2, .ref 76), (3, .ref 112), (4, bI i), (5, bI k)]) (st' := [bI i, .ref 0, .ref 76]) l241_1416 (fun _ => rfl) ?_
  refine b_s (pc' := 1419) (lv1 := [(0, .ref 0), (1, .ref 1), (2, .ref 76), (3, .ref 112), (4, bI i), (5, bI k)]) (st' := [bI 1, bI i, .ref 0, .ref 76]) l241_1418 (fun _ => rfl) ?_
  refine b_iadd1 l241_1419 (b_in (by omega) (by omega)) (b_pc (pc' := 1420) rfl ?_)
  refine b_scr l241_1420 ⟨by omega, by omega⟩ (by omega) (b_pc (pc' := 1421) rfl ?_)
  refine b_s (pc' := 1422) (lv1 := [(0, .ref 0), (1, .ref 1), (2, .ref 76), (3, .ref 112), (4, bI i), (5, bI k)]) (st' := [.ref 0, bI (xs (i + 1).toNat).toInt, .ref 76]) l241_1421 (fun _ => rfl) ?_
  refine b_s (pc' := 1424) (lv1 := [(0, .ref 0), (1, .ref 1), (2, .ref 76), (3, .ref 112), (4, bI i), (5, bI k)]) (st' := [bI i, .ref 0, bI (xs (i + 1).toNat).toInt, .ref 76]) l241_1422 (fun _ => rfl) ?_
  refine b_s (pc' := 1425) (lv1 := [(0, .ref 0), (1, .ref 1), (2, .ref 76), (3, .ref 112), (4, bI i), (5, bI k)]) (st' := [bI 2, bI i, .ref 0, bI (xs (i + 1).toNat).toInt, .ref 76]) l241_1424 (fun _ => rfl) ?_
  refine b_iadd1 l241_1425 (b_in (by omega) (by omega)) (b_pc (pc' := 1426) rfl ?_)
  refine b_scr l241_1426 ⟨by omega, by omega⟩ (by omega) (b_pc (pc' := 1427) rfl ?_)
  refine b_cMkl l241_1427 rfl (b_rc (ci := 9) (by rfl) (by decide) (by decide +kernel)) (Nat.le_of_ble_eq_true rfl) (Nat.le_of_ble_eq_true rfl) rfl (r_X11_value (xs (i + 1).toNat).toInt (bi_rg _) (xs (i + 2).toNat).toInt (bi_rg _)) hF2 fun hv2 => bD.ok fun hk2 => b_pc (pc' := 1430) rfl ?_
  refine b_w (pc' := 1432) (lv1 := ax_st2 [(0, .ref 0), (1, .ref 1), (2, .ref 76), (3, .ref 112), (4, bI i), (5, bI k)] 6 (bLg b)) (lv' := [(0, .ref 0), (1, .ref 1), (2, .ref 76), (3, .ref 112), (4, bI i), (5, bI k), (6, bLg b)]) (st' := []) l241_1430 (fun _ => rfl) (bSb rfl (bSb rfl (bSb rfl (bSb rfl (bSb rfl (bSb rfl (bSb rfl bSn))))))) ?_
  refine b_s (pc' := 1433) (lv1 := [(0, .ref 0), (1, .ref 1), (2, .ref 76), (3, .ref 112), (4, bI i), (5, bI k), (6, bLg b)]) (st' := [.ref 76]) l241_1432 (fun _ => rfl) ?_
  refine b_cPki (v := μ2 76 0) l241_1433 rfl (b_rc (ci := 9) (by rfl) (by decide) (by decide +kernel)) (Nat.le_of_ble_eq_true rfl) (Nat.le_of_ble_eq_true rfl) rfl (r_X11_thrown ) rfl fun hw1 => b_pc (pc' := 1436) rfl ?_
  refine b_s (pc' := 1438) (lv1 := [(0, .ref 0), (1, .ref 1), (2, .ref 76), (3, .ref 112), (4, bI i), (5, bI k), (6, bLg b)]) (st' := [bI k, bI (μ2 76 0)]) l241_1436 (fun _ => rfl) ?_
  refine b_pos (c := (μ2 76 0) = k) (E1 := some (.inl 1, μf, c)) (E2 := none) (κ := some) hEQ ?_
  refine b_ieq (pt := 1443) l241_1438 hw1 hv1 (by decide) rfl (fun _ => ?_) (fun z => absurd hEQ z)
  refine b_s (pc' := 1445) (lv1 := [(0, .ref 0), (1, .ref 1), (2, .ref 76), (3, .ref 112), (4, bI i), (5, bI k), (6, bLg b)]) (st' := [bI k]) l241_1443 (fun _ => rfl) ?_
  by_cases hk0 : k = 0
  · refine b_neg (c := ¬ k = 0) (E1 := none) (E2 := some (.inl 1, μf, c)) (κ := some) (fun z => z hk0) ?_
    refine b_zne (pt := 1459) l241_1445 hv1 (by decide) rfl (fun z => absurd hk0 z) (fun _ => b_pc (pc' := 1448) rfl ?_)
    refine b_s (pc' := 1449) (lv1 := [(0, .ref 0), (1, .ref 1), (2, .ref 76), (3, .ref 112), (4, bI i), (5, bI k), (6, bLg b)]) (st' := [.ref 112]) l241_1448 (fun _ => rfl) ?_
    refine b_s (pc' := 1450) (lv1 := [(0, .ref 0), (1, .ref 1), (2, .ref 76), (3, .ref 112), (4, bI i), (5, bI k), (6, bLg b)]) (st' := [bI 0, .ref 112]) l241_1449 (fun _ => rfl) ?_
    refine b_lal l241_1450 (by rfl) (by decide) (b_pc (pc' := 1451) rfl ?_)
    refine b_s (pc' := 1453) (lv1 := [(0, .ref 0), (1, .ref 1), (2, .ref 76), (3, .ref 112), (4, bI i), (5, bI k), (6, bLg b)]) (st' := [bLg b, bLg (μ2 112 0)]) l241_1451 (fun _ => rfl) ?_
    refine b_lcmp l241_1453 (bO_l hk2 (show bSh 112 = (2, 1) from rfl)) hv2 (b_pc (pc' := 1454) rfl ?_)
    refine b_pos (c := (bCmp (μ2 112 0) b) = 0) (E1 := some (.inl 1, μf, c)) (E2 := none) (κ := some) (bCmp_0 (ho hk0)) ?_
    refine b_zeq (pt := 1459) l241_1454 (bCmp_R _ _) (by decide) rfl (fun _ => ?_) (fun z => absurd (bCmp_0 (ho hk0)) z)
    refine b_s (pc' := 1655) (lv1 := [(0, .ref 0), (1, .ref 1), (2, .ref 76), (3, .ref 112), (4, bI i), (5, bI k), (6, bLg b)]) (st' := []) l241_1459 (fun _ => rfl) ?_
    refine b_inc1 (lv' := [(0, .ref 0), (1, .ref 1), (2, .ref 76), (3, .ref 112), (4, bI (i + 6))]) l241_1655 rfl (by decide +kernel) (bSb rfl (bSb rfl (bSb rfl (bSb rfl (bSb rfl bSn))))) (b_in (by omega) (by omega)) (b_pc (pc' := 1658) rfl ?_)
    refine b_s (pc' := 23) (lv1 := [(0, .ref 0), (1, .ref 1), (2, .ref 76), (3, .ref 112), (4, bI (i + 6))]) (st' := []) l241_1658 (fun _ => rfl) ?_
    exact kont
  · refine b_pos (c := ¬ k = 0) (E1 := some (.inl 1, μf, c)) (E2 := none) (κ := some) hk0 ?_
    refine b_zne (pt := 1459) l241_1445 hv1 (by decide) rfl (fun _ => ?_) (fun z => absurd hk0 z)
    refine b_s (pc' := 1655) (lv1 := [(0, .ref 0), (1, .ref 1), (2, .ref 76), (3, .ref 112), (4, bI i), (5, bI k), (6, bLg b)]) (st' := []) l241_1459 (fun _ => rfl) ?_
    refine b_inc1 (lv' := [(0, .ref 0), (1, .ref 1), (2, .ref 76), (3, .ref 112), (4, bI (i + 6))]) l241_1655 rfl (by decide +kernel) (bSb rfl (bSb rfl (bSb rfl (bSb rfl (bSb rfl bSn))))) (b_in (by omega) (by omega)) (b_pc (pc' := 1658) rfl ?_)
    refine b_s (pc' := 23) (lv1 := [(0, .ref 0), (1, .ref 1), (2, .ref 76), (3, .ref 112), (4, bI (i + 6))]) (st' := []) l241_1658 (fun _ => rfl) ?_
    exact kont
theorem g_21 {L : Nat} {xs : Nat → Int32} {i k b : Int} {c n1 : Nat} {μ μ1 μ2 μf : bM} (hL : L ≤ 3072) (hi : 0 ≤ i ∧ i + 6 ≤ (L : Int)) (hop : bAnd (xs i.toNat).toInt 31 = 21) (hF1 : F_L_letter (xs (i + 1).toNat).toInt (xs (i + 2).toNat).toInt (xs (i + 3).toNat).toInt μ = some (k, μ1, n1)) (hF2 : F_X11_letter (xs (i + 1).toNat).toInt (xs (i + 2).toNat).toInt (xs (i + 3).toNat).toInt μ1 = some (b, μ2)) (hEQ : μ2 76 0 = k) (ho : k = 0 → μ2 112 0 = b) (kont : bD L xs 9 241 23 [(0, .ref 0), (1, .ref 1), (2, .ref 76), (3, .ref 112), (4, bI (i + 6))] [] μ2 (some (.inl 1, μf, c))) : bD L xs 9 241 23 [(0, .ref 0), (1, .ref 1), (2, .ref 76), (3, .ref 112), (4, bI i)] [] μ (some (.inl 1, μf, (c + n1))) := by
  have hiR : bR i := b_in (by omega) (by omega)
  refine bD.ok fun hk => ?_
  refine b_s (pc' := 25) (lv1 := [(0, .ref 0), (1, .ref 1), (2, .ref 76), (3, .ref 112), (4, bI i)]) (st' := [bI i]) l241_23 (fun _ => rfl) ?_
  refine b_s (pc' := 26) (lv1 := [(0, .ref 0), (1, .ref 1), (2, .ref 76), (3, .ref 112), (4, bI i)]) (st' := [.ref 0, bI i]) l241_25 (fun _ => rfl) ?_
  refine b_scl l241_26 (b_pc (pc' := 27) rfl ?_)
  refine b_bipush l241_27 (by decide) (b_pc (pc' := 29) rfl ?_)
  refine b_isub1 l241_29 (b_in (by omega) (by omega)) (b_pc (pc' := 30) rfl ?_)
  refine b_neg (c := ((L : Int) - 6) < i) (E1 := none) (E2 := some (.inl 1, μf, (c + n1))) (κ := some) (by omega) ?_
  refine b_igt (pt := 1661) l241_30 hiR (b_in (by omega) (by omega)) (by decide) rfl (fun z => absurd z (by omega)) (fun _ => b_pc (pc' := 33) rfl ?_)
  refine b_s (pc' := 34) (lv1 := [(0, .ref 0), (1, .ref 1), (2, .ref 76), (3, .ref 112), (4, bI i)]) (st' := [.ref 0]) l241_33 (fun _ => rfl) ?_
  refine b_s (pc' := 36) (lv1 := [(0, .ref 0), (1, .ref 1), (2, .ref 76), (3, .ref 112), (4, bI i)]) (st' := [bI i, .ref 0]) l241_34 (fun _ => rfl) ?_
  refine b_scr l241_36 ⟨by omega, by omega⟩ (by omega) (b_pc (pc' := 37) rfl ?_)
  refine b_bipush l241_37 (by decide) (b_pc (pc' := 39) rfl ?_)
  refine b_iand l241_39 (b_pc (pc' := 40) rfl ?_)
  refine b_tsw l241_40 (bi_rg _) (by decide) (by decide) (by decide) ?_
  refine b_pc (pc' := bTg [(0, 152), (1, 256), (2, 292), (3, 348), (4, 416), (5, 540), (6, 620), (7, 712), (8, 725), (9, 738), (10, 794), (11, 862), (12, 918), (13, 998), (14, 1011), (15, 1067), (16, 1123), (17, 1191), (18, 1259), (19, 1315), (20, 1395), (21, 1462), (22, 1542), (23, 1598)] 1655 (bAnd (xs i.toNat).toInt 31)) rfl ?_
  refine b_pc (pc' := 1462) (by rw [hop]; rfl) ?_
  refine b_s (pc' := 1463) (lv1 := [(0, .ref 0), (1, .ref 1), (2, .ref 76), (3, .ref 112), (4, bI i)]) (st' := [.ref 1]) l241_1462 (fun _ => rfl) ?_
  refine b_s (pc' := 1464) (lv1 := [(0, .ref 0), (1, .ref 1), (2, .ref 76), (3, .ref 112), (4, bI i)]) (st' := [.ref 0, .ref 1]) l241_1463 (fun _ => rfl) ?_
  refine b_s (pc' := 1466) (lv1 := [(0, .ref 0), (1, .ref 1), (2, .ref 76), (3, .ref 112), (4, bI i)]) (st' := [bI i, .ref 0, .ref 1]) l241_1464 (fun _ => rfl) ?_
  refine b_s (pc' := 1467) (lv1 := [(0, .ref 0), (1, .ref 1), (2, .ref 76), (3, .ref 112), (4, bI i)]) (st' := [bI 1, bI i, .ref 0, .ref 1]) l241_1466 (fun _ => rfl) ?_
  refine b_iadd1 l241_1467 (b_in (by omega) (by omega)) (b_pc (pc' := 1468) rfl ?_)
  refine b_scr l241_1468 ⟨by omega, by omega⟩ (by omega) (b_pc (pc' := 1469) rfl ?_)
  refine b_s (pc' := 1470) (lv1 := [(0, .ref 0), (1, .ref 1), (2, .ref 76), (3, .ref 112), (4, bI i)]) (st' := [.ref 0, bI (xs (i + 1).toNat).toInt, .ref 1]) l241_1469 (fun _ => rfl) ?_
  refine b_s (pc' := 1472) (lv1 := [(0, .ref 0), (1, .ref 1), (2, .ref 76), (3, .ref 112), (4, bI i)]) (st' := [bI i, .ref 0, bI (xs (i + 1).toNat).toInt, .ref 1]) l241_1470 (fun _ => rfl) ?_
  refine b_s (pc' := 1473) (lv1 := [(0, .ref 0), (1, .ref 1), (2, .ref 76), (3, .ref 112), (4, bI i)]) (st' := [bI 2, bI i, .ref 0, bI (xs (i + 1).toNat).toInt, .ref 1]) l241_1472 (fun _ => rfl) ?_
  refine b_iadd1 l241_1473 (b_in (by omega) (by omega)) (b_pc (pc' := 1474) rfl ?_)
  refine b_scr l241_1474 ⟨by omega, by omega⟩ (by omega) (b_pc (pc' := 1475) rfl ?_)
  refine b_s (pc' := 1476) (lv1 := [(0, .ref 0), (1, .ref 1), (2, .ref 76), (3, .ref 112), (4, bI i)]) (st' := [.ref 0, bI (xs (i + 2).toNat).toInt, bI (xs (i + 1).toNat).toInt, .ref 1]) l241_1475 (fun _ => rfl) ?_
  refine b_s (pc' := 1478) (lv1 := [(0, .ref 0), (1, .ref 1), (2, .ref 76), (3, .ref 112), (4, bI i)]) (st' := [bI i, .ref 0, bI (xs (i + 2).toNat).toInt, bI (xs (i + 1).toNat).toInt, .ref 1]) l241_1476 (fun _ => rfl) ?_
  refine b_s (pc' := 1479) (lv1 := [(0, .ref 0), (1, .ref 1), (2, .ref 76), (3, .ref 112), (4, bI i)]) (st' := [bI 3, bI i, .ref 0, bI (xs (i + 2).toNat).toInt, bI (xs (i + 1).toNat).toInt, .ref 1]) l241_1478 (fun _ => rfl) ?_
  refine b_iadd1 l241_1479 (b_in (by omega) (by omega)) (b_pc (pc' := 1480) rfl ?_)
  refine b_scr l241_1480 ⟨by omega, by omega⟩ (by omega) (b_pc (pc' := 1481) rfl ?_)
  refine b_s (pc' := 1482) (lv1 := [(0, .ref 0), (1, .ref 1), (2, .ref 76), (3, .ref 112), (4, bI i)]) (st' := [.ref 112, bI (xs (i + 3).toNat).toInt, bI (xs (i + 2).toNat).toInt, bI (xs (i + 1).toNat).toInt, .ref 1]) l241_1481 (fun _ => rfl) ?_
  refine b_cKki l241_1482 rfl (fun _ => trivial) (Nat.le_of_ble_eq_true rfl) (Nat.le_of_ble_eq_true rfl) rfl (r_L_letter (xs (i + 1).toNat).toInt (bi_rg _) (xs (i + 2).toNat).toInt (bi_rg _) (xs (i + 3).toNat).toInt (bi_rg _)) hF1 fun hv1 => bD.ok fun hk1 => b_pc (pc' := 1485) rfl ?_
  refine b_w (pc' := 1487) (lv1 := ax_st1 [(0, .ref 0), (1, .ref 1), (2, .ref 76), (3, .ref 112), (4, bI i)] 5 (bI k)) (lv' := [(0, .ref 0), (1, .ref 1), (2, .ref 76), (3, .ref 112), (4, bI i), (5, bI k)]) (st' := []) l241_1485 (fun _ => rfl) (bSb rfl (bSb rfl (bSb rfl (bSb rfl (bSb rfl (bSb rfl bSn)))))) ?_
  refine b_s (pc' := 1488) (lv1 := [(0, .ref 0), (1, .ref 1), (2, .ref 76), (3, .ref 112), (4, bI i), (5, bI k)]) (st' := [.ref 76]) l241_1487 (fun _ => rfl) ?_
  refine b_s (pc' := 1489) (lv1 := [(0, .ref 0), (1, .ref 1), (2, .ref 76), (3, .ref 112), (4, bI i), (5, bI k)]) (st' := [.ref 0, .ref 76]) l241_1488 (fun _ => rfl) ?_
  refine b_s (pc' := 1491) (lv1 := [(0, .ref 0), (1, .ref 1), (2, .ref 76), (3, .ref 112), (4, bI i), (5, bI k)]) (st' := [bI i, .ref 0, .ref 76]) l241_1489 (fun _ => rfl) ?_
  refine b_s (pc' := 1492) (lv1 := [(0, .ref 0), (1, .ref 1), (2, .ref 76), (3, .ref 112), (4, bI i), (5, bI k)]) (st' := [bI 1, bI i, .ref 0, .ref 76]) l241_1491 (fun _ => rfl) ?_
  refine b_iadd1 l241_1492 (b_in (by omega) (by omega)) (b_pc (pc' := 1493) rfl ?_)
  refine b_scr l241_1493 ⟨by omega, by omega⟩ (by omega) (b_pc (pc' := 1494) rfl ?_)
  refine b_s (pc' := 1495) (lv1 := [(0, .ref 0), (1, .ref 1), (2, .ref 76), (3, .ref 112), (4, bI i), (5, bI k)]) (st' := [.ref 0, bI (xs (i + 1).toNat).toInt, .ref 76]) l241_1494 (fun _ => rfl) ?_
  refine b_s (pc' := 1497) (lv1 := [(0, .ref 0), (1, .ref 1), (2, .ref 76), (3, .ref 112), (4, bI i), (5, bI k)]) (st' := [bI i, .ref 0, bI (xs (i + 1).toNat).toInt, .ref 76]) l241_1495 (fun _ => rfl) ?_
  refine b_s (pc' := 1498) (lv1 := [(0, .ref 0), (1, .ref 1), (2, .ref 76), (3, .ref 112), (4, bI i), (5, bI k)]) (st' := [bI 2, bI i, .ref 0, bI (xs (i + 1).toNat).toInt, .ref 76]) l241_1497 (fun _ => rfl) ?_
  refine b_iadd1 l241_1498 (b_in (by omega) (by omega)) (b_pc (pc' := 1499) rfl ?_)
  refine b_scr l241_1499 ⟨by omega, by omega⟩ (by omega) (b_pc (pc' := 1500) rfl ?_)
  refine b_s (pc' := 1501) (lv1 := [(0, .ref 0), (1, .ref 1), (2, .ref 76), (3, .ref 112), (4, bI i), (5, bI k)]) (st' := [.ref 0, bI (xs (i + 2).toNat).toInt, bI (xs (i + 1).toNat).toInt, .ref 76]) l241_1500 (fun _ => rfl) ?_
  refine b_s (pc' := 1503) (lv1 := [(0, .ref 0), (1, .ref 1), (2, .ref 76), (3, .ref 112), (4, bI i), (5, bI k)]) (st' := [bI i, .ref 0, bI (xs (i + 2).toNat).toInt, bI (xs (i + 1).toNat).toInt, .ref 76]) l241_1501 (fun _ => rfl) ?_
  refine b_s (pc' := 1504) (lv1 := [(0, .ref 0), (1, .ref 1), (2, .ref 76), (3, .ref 112), (4, bI i), (5, bI k)]) (st' := [bI 3, bI i, .ref 0, bI (xs (i + 2).toNat).toInt, bI (xs (i + 1).toNat).toInt, .ref 76]) l241_1503 (fun _ => rfl) ?_
  refine b_iadd1 l241_1504 (b_in (by omega) (by omega)) (b_pc (pc' := 1505) rfl ?_)
  refine b_scr l241_1505 ⟨by omega, by omega⟩ (by omega) (b_pc (pc' := 1506) rfl ?_)
  refine b_cMki l241_1506 rfl (b_rc (ci := 9) (by rfl) (by decide) (by decide +kernel)) (Nat.le_of_ble_eq_true rfl) (Nat.le_of_ble_eq_true rfl) rfl (r_X11_letter (xs (i + 1).toNat).toInt (bi_rg _) (xs (i + 2).toNat).toInt (bi_rg _) (xs (i + 3).toNat).toInt (bi_rg _)) hF2 fun hv2 => bD.ok fun hk2 => b_pc (pc' := 1509) rfl ?_
  refine b_w (pc' := 1511) (lv1 := ax_st1 [(0, .ref 0), (1, .ref 1), (2, .ref 76), (3, .ref 112), (4, bI i), (5, bI k)] 6 (bI b)) (lv' := [(0, .ref 0), (1, .ref 1), (2, .ref 76), (3, .ref 112), (4, bI i), (5, bI k), (6, bI b)]) (st' := []) l241_1509 (fun _ => rfl) (bSb rfl (bSb rfl (bSb rfl (bSb rfl (bSb rfl (bSb rfl (bSb rfl bSn))))))) ?_
  refine b_s (pc' := 1512) (lv1 := [(0, .ref 0), (1, .ref 1), (2, .ref 76), (3, .ref 112), (4, bI i), (5, bI k), (6, bI b)]) (st' := [.ref 76]) l241_1511 (fun _ => rfl) ?_
  refine b_cPki (v := μ2 76 0) l241_1512 rfl (b_rc (ci := 9) (by rfl) (by decide) (by decide +kernel)) (Nat.le_of_ble_eq_true rfl) (Nat.le_of_ble_eq_true rfl) rfl (r_X11_thrown ) rfl fun hw1 => b_pc (pc' := 1515) rfl ?_
  refine b_s (pc' := 1517) (lv1 := [(0, .ref 0), (1, .ref 1), (2, .ref 76), (3, .ref 112), (4, bI i), (5, bI k), (6, bI b)]) (st' := [bI k, bI (μ2 76 0)]) l241_1515 (fun _ => rfl) ?_
  refine b_pos (c := (μ2 76 0) = k) (E1 := some (.inl 1, μf, c)) (E2 := none) (κ := some) hEQ ?_
  refine b_ieq (pt := 1522) l241_1517 hw1 hv1 (by decide) rfl (fun _ => ?_) (fun z => absurd hEQ z)
  refine b_s (pc' := 1524) (lv1 := [(0, .ref 0), (1, .ref 1), (2, .ref 76), (3, .ref 112), (4, bI i), (5, bI k), (6, bI b)]) (st' := [bI k]) l241_1522 (fun _ => rfl) ?_
  by_cases hk0 : k = 0
  · refine b_neg (c := ¬ k = 0) (E1 := none) (E2 := some (.inl 1, μf, c)) (κ := some) (fun z => z hk0) ?_
    refine b_zne (pt := 1539) l241_1524 hv1 (by decide) rfl (fun z => absurd hk0 z) (fun _ => b_pc (pc' := 1527) rfl ?_)
    refine b_s (pc' := 1528) (lv1 := [(0, .ref 0), (1, .ref 1), (2, .ref 76), (3, .ref 112), (4, bI i), (5, bI k), (6, bI b)]) (st' := [.ref 112]) l241_1527 (fun _ => rfl) ?_
    refine b_s (pc' := 1529) (lv1 := [(0, .ref 0), (1, .ref 1), (2, .ref 76), (3, .ref 112), (4, bI i), (5, bI k), (6, bI b)]) (st' := [bI 0, .ref 112]) l241_1528 (fun _ => rfl) ?_
    refine b_lal l241_1529 (by rfl) (by decide) (b_pc (pc' := 1530) rfl ?_)
    refine b_s (pc' := 1532) (lv1 := [(0, .ref 0), (1, .ref 1), (2, .ref 76), (3, .ref 112), (4, bI i), (5, bI k), (6, bI b)]) (st' := [bI b, bLg (μ2 112 0)]) l241_1530 (fun _ => rfl) ?_
    refine b_i2l l241_1532 hv2 (b_pc (pc' := 1533) rfl ?_)
    refine b_lcmp l241_1533 (bO_l hk2 (show bSh 112 = (2, 1) from rfl)) (bR_L hv2) (b_pc (pc' := 1534) rfl ?_)
    refine b_pos (c := (bCmp (μ2 112 0) b) = 0) (E1 := some (.inl 1, μf, c)) (E2 := none) (κ := some) (bCmp_0 (ho hk0)) ?_
    refine b_zeq (pt := 1539) l241_1534 (bCmp_R _ _) (by decide) rfl (fun _ => ?_) (fun z => absurd (bCmp_0 (ho hk0)) z)
    refine b_s (pc' := 1655) (lv1 := [(0, .ref 0), (1, .ref 1), (2, .ref 76), (3, .ref 112), (4, bI i), (5, bI k), (6, bI b)]) (st' := []) l241_1539 (fun _ => rfl) ?_
    refine b_inc1 (lv' := [(0, .ref 0), (1, .ref 1), (2, .ref 76), (3, .ref 112), (4, bI (i + 6))]) l241_1655 rfl (by decide +kernel) (bSb rfl (bSb rfl (bSb rfl (bSb rfl (bSb rfl bSn))))) (b_in (by omega) (by omega)) (b_pc (pc' := 1658) rfl ?_)
    refine b_s (pc' := 23) (lv1 := [(0, .ref 0), (1, .ref 1), (2, .ref 76), (3, .ref 112), (4, bI (i + 6))]) (st' := []) l241_1658 (fun _ => rfl) ?_
    exact kont
  · refine b_pos (c := ¬ k = 0) (E1 := some (.inl 1, μf, c)) (E2 := none) (κ := some) hk0 ?_
    refine b_zne (pt := 1539) l241_1524 hv1 (by decide) rfl (fun _ => ?_) (fun z => absurd hk0 z)
    refine b_s (pc' := 1655) (lv1 := [(0, .ref 0), (1, .ref 1), (2, .ref 76), (3, .ref 112), (4, bI i), (5, bI k), (6, bI b)]) (st' := []) l241_1539 (fun _ => rfl) ?_
    refine b_inc1 (lv' := [(0, .ref 0), (1, .ref 1), (2, .ref 76), (3, .ref 112), (4, bI (i + 6))]) l241_1655 rfl (by decide +kernel) (bSb rfl (bSb rfl (bSb rfl (bSb rfl (bSb rfl bSn))))) (b_in (by omega) (by omega)) (b_pc (pc' := 1658) rfl ?_)
    refine b_s (pc' := 23) (lv1 := [(0, .ref 0), (1, .ref 1), (2, .ref 76), (3, .ref 112), (4, bI (i + 6))]) (st' := []) l241_1658 (fun _ => rfl) ?_
    exact kont
theorem g_22 {L : Nat} {xs : Nat → Int32} {i k b : Int} {c n1 : Nat} {μ μ1 μ2 μf : bM} (hL : L ≤ 3072) (hi : 0 ≤ i ∧ i + 6 ≤ (L : Int)) (hop : bAnd (xs i.toNat).toInt 31 = 22) (hF1 : F_L_find (xs (i + 1).toNat).toInt μ = some (k, μ1, n1)) (hF2 : F_X11_find (xs (i + 1).toNat).toInt μ1 = some (b, μ2)) (hEQ : μ2 76 0 = k) (ho : k = 0 → μ2 112 0 = b) (kont : bD L xs 9 241 23 [(0, .ref 0), (1, .ref 1), (2, .ref 76), (3, .ref 112), (4, bI (i + 6))] [] μ2 (some (.inl 1, μf, c))) : bD L xs 9 241 23 [(0, .ref 0), (1, .ref 1), (2, .ref 76), (3, .ref 112), (4, bI i)] [] μ (some (.inl 1, μf, (c + n1))) := by
  have hiR : bR i := b_in (by omega) (by omega)
  refine bD.ok fun hk => ?_
  refine b_s (pc' := 25) (lv1 := [(0, .ref 0), (1, .ref 1), (2, .ref 76), (3, .ref 112), (4, bI i)]) (st' := [bI i]) l241_23 (fun _ => rfl) ?_
  refine b_s (pc' := 26) (lv1 := [(0, .ref 0), (1, .ref 1), (2, .ref 76), (3, .ref 112), (4, bI i)]) (st' := [.ref 0, bI i]) l241_25 (fun _ => rfl) ?_
  refine b_scl l241_26 (b_pc (pc' := 27) rfl ?_)
  refine b_bipush l241_27 (by decide) (b_pc (pc' := 29) rfl ?_)
  refine b_isub1 l241_29 (b_in (by omega) (by omega)) (b_pc (pc' := 30) rfl ?_)
  refine b_neg (c := ((L : Int) - 6) < i) (E1 := none) (E2 := some (.inl 1, μf, (c + n1))) (κ := some) (by omega) ?_
  refine b_igt (pt := 1661) l241_30 hiR (b_in (by omega) (by omega)) (by decide) rfl (fun z => absurd z (by omega)) (fun _ => b_pc (pc' := 33) rfl ?_)
  refine b_s (pc' := 34) (lv1 := [(0, .ref 0), (1, .ref 1), (2, .ref 76), (3, .ref 112), (4, bI i)]) (st' := [.ref 0]) l241_33 (fun _ => rfl) ?_
  refine b_s (pc' := 36) (lv1 := [(0, .ref 0), (1, .ref 1), (2, .ref 76), (3, .ref 112), (4, bI i)]) (st' := [bI i, .ref 0]) l241_34 (fun _ => rfl) ?_
  refine b_scr l241_36 ⟨by omega, by omega⟩ (by omega) (b_pc (pc' := 37) rfl ?_)
  refine b_bipush l241_37 (by decide) (b_pc (pc' := 39) rfl ?_)
  refine b_iand l241_39 (b_pc (pc' := 40) rfl ?_)
  refine b_tsw l241_40 (bi_rg _) (by decide) (by decide) (by decide) ?_
  refine b_pc (pc' := bTg [(0, 152), (1, 256), (2, 292), (3, 348), (4, 416), (5, 540), (6, 620), (7, 712), (8, 725), (9, 738), (10, 794), (11, 862), (12, 918), (13, 998), (14, 1011), (15, 1067), (16, 1123), (17, 1191), (18, 1259), (19, 1315), (20, 1395), (21, 1462), (22, 1542), (23, 1598)] 1655 (bAnd (xs i.toNat).toInt 31)) rfl ?_
  refine b_pc (pc' := 1542) (by rw [hop]; rfl) ?_
  refine b_s (pc' := 1543) (lv1 := [(0, .ref 0), (1, .ref 1), (2, .ref 76), (3, .ref 112), (4, bI i)]) (st' := [.ref 1]) l241_1542 (fun _ => rfl) ?_
  refine b_s (pc' := 1544) (lv1 := [(0, .ref 0), (1, .ref 1), (2, .ref 76), (3, .ref 112), (4, bI i)]) (st' := [.ref 0, .ref 1]) l241_1543 (fun _ => rfl) ?_
  refine b_s (pc' := 1546) (lv1 := [(0, .ref 0), (1, .ref 1), (2, .ref 76), (3, .ref 112), (4, bI i)]) (st' := [bI i, .ref 0, .ref 1]) l241_1544 (fun _ => rfl) ?_
  refine b_s (pc' := 1547) (lv1 := [(0, .ref 0), (1, .ref 1), (2, .ref 76), (3, .ref 112), (4, bI i)]) (st' := [bI 1, bI i, .ref 0, .ref 1]) l241_1546 (fun _ => rfl) ?_
  refine b_iadd1 l241_1547 (b_in (by omega) (by omega)) (b_pc (pc' := 1548) rfl ?_)
  refine b_scr l241_1548 ⟨by omega, by omega⟩ (by omega) (b_pc (pc' := 1549) rfl ?_)
  refine b_s (pc' := 1550) (lv1 := [(0, .ref 0), (1, .ref 1), (2, .ref 76), (3, .ref 112), (4, bI i)]) (st' := [.ref 112, bI (xs (i + 1).toNat).toInt, .ref 1]) l241_1549 (fun _ => rfl) ?_
  refine b_cKki l241_1550 rfl (fun _ => trivial) (Nat.le_of_ble_eq_true rfl) (Nat.le_of_ble_eq_true rfl) rfl (r_L_find (xs (i + 1).toNat).toInt (bi_rg _)) hF1 fun hv1 => bD.ok fun hk1 => b_pc (pc' := 1553) rfl ?_
  refine b_w (pc' := 1555) (lv1 := ax_st1 [(0, .ref 0), (1, .ref 1), (2, .ref 76), (3, .ref 112), (4, bI i)] 5 (bI k)) (lv' := [(0, .ref 0), (1, .ref 1), (2, .ref 76), (3, .ref 112), (4, bI i), (5, bI k)]) (st' := []) l241_1553 (fun _ => rfl) (bSb rfl (bSb rfl (bSb rfl (bSb rfl (bSb rfl (bSb rfl bSn)))))) ?_
  refine b_s (pc' := 1556) (lv1 := [(0, .ref 0), (1, .ref 1), (2, .ref 76), (3, .ref 112), (4, bI i), (5, bI k)]) (st' := [.ref 76]) l241_1555 (fun _ => rfl) ?_
  refine b_s (pc' := 1557) (lv1 := [(0, .ref 0), (1, .ref 1), (2, .ref 76), (3, .ref 112), (4, bI i), (5, bI k)]) (st' := [.ref 0, .ref 76]) l241_1556 (fun _ => rfl) ?_
  refine b_s (pc' := 1559) (lv1 := [(0, .ref 0), (1, .ref 1), (2, .ref 76), (3, .ref 112), (4, bI i), (5, bI k)]) (st' := [bI i, .ref 0, .ref 76]) l241_1557 (fun _ => rfl) ?_
  refine b_s (pc' := 1560) (lv1 := [(0, .ref 0), (1, .ref 1), (2, .ref 76), (3, .ref 112), (4, bI i), (5, bI k)]) (st' := [bI 1, bI i, .ref 0, .ref 76]) l241_1559 (fun _ => rfl) ?_
  refine b_iadd1 l241_1560 (b_in (by omega) (by omega)) (b_pc (pc' := 1561) rfl ?_)
  refine b_scr l241_1561 ⟨by omega, by omega⟩ (by omega) (b_pc (pc' := 1562) rfl ?_)
  refine b_cMki l241_1562 rfl (b_rc (ci := 9) (by rfl) (by decide) (by decide +kernel)) (Nat.le_of_ble_eq_true rfl) (Nat.le_of_ble_eq_true rfl) rfl (r_X11_find (xs (i + 1).toNat).toInt (bi_rg _)) hF2 fun hv2 => bD.ok fun hk2 => b_pc (pc' := 1565) rfl ?_
  refine b_w (pc' := 1567) (lv1 := ax_st1 [(0, .ref 0), (1, .ref 1), (2, .ref 76), (3, .ref 112), (4, bI i), (5, bI k)] 6 (bI b)) (lv' := [(0, .ref 0), (1, .ref 1), (2, .ref 76), (3, .ref 112), (4, bI i), (5, bI k), (6, bI b)]) (st' := []) l241_1565 (fun _ => rfl) (bSb rfl (bSb rfl (bSb rfl (bSb rfl (bSb rfl (bSb rfl (bSb rfl bSn))))))) ?_
  refine b_s (pc' := 1568) (lv1 := [(0, .ref 0), (1, .ref 1), (2, .ref 76), (3, .ref 112), (4, bI i), (5, bI k), (6, bI b)]) (st' := [.ref 76]) l241_1567 (fun _ => rfl) ?_
  refine b_cPki (v := μ2 76 0) l241_1568 rfl (b_rc (ci := 9) (by rfl) (by decide) (by decide +kernel)) (Nat.le_of_ble_eq_true rfl) (Nat.le_of_ble_eq_true rfl) rfl (r_X11_thrown ) rfl fun hw1 => b_pc (pc' := 1571) rfl ?_
  refine b_s (pc' := 1573) (lv1 := [(0, .ref 0), (1, .ref 1), (2, .ref 76), (3, .ref 112), (4, bI i), (5, bI k), (6, bI b)]) (st' := [bI k, bI (μ2 76 0)]) l241_1571 (fun _ => rfl) ?_
  refine b_pos (c := (μ2 76 0) = k) (E1 := some (.inl 1, μf, c)) (E2 := none) (κ := some) hEQ ?_
  refine b_ieq (pt := 1578) l241_1573 hw1 hv1 (by decide) rfl (fun _ => ?_) (fun z => absurd hEQ z)
  refine b_s (pc' := 1580) (lv1 := [(0, .ref 0), (1, .ref 1), (2, .ref 76), (3, .ref 112), (4, bI i), (5, bI k), (6, bI b)]) (st' := [bI k]) l241_1578 (fun _ => rfl) ?_
  by_cases hk0 : k = 0
  · refine b_neg (c := ¬ k = 0) (E1 := none) (E2 := some (.inl 1, μf, c)) (κ := some) (fun z => z hk0) ?_
    refine b_zne (pt := 1595) l241_1580 hv1 (by decide) rfl (fun z => absurd hk0 z) (fun _ => b_pc (pc' := 1583) rfl ?_)
    refine b_s (pc' := 1584) (lv1 := [(0, .ref 0), (1, .ref 1), (2, .ref 76), (3, .ref 112), (4, bI i), (5, bI k), (6, bI b)]) (st' := [.ref 112]) l241_1583 (fun _ => rfl) ?_
    refine b_s (pc' := 1585) (lv1 := [(0, .ref 0), (1, .ref 1), (2, .ref 76), (3, .ref 112), (4, bI i), (5, bI k), (6, bI b)]) (st' := [bI 0, .ref 112]) l241_1584 (fun _ => rfl) ?_
    refine b_lal l241_1585 (by rfl) (by decide) (b_pc (pc' := 1586) rfl ?_)
    refine b_s (pc' := 1588) (lv1 := [(0, .ref 0), (1, .ref 1), (2, .ref 76), (3, .ref 112), (4, bI i), (5, bI k), (6, bI b)]) (st' := [bI b, bLg (μ2 112 0)]) l241_1586 (fun _ => rfl) ?_
    refine b_i2l l241_1588 hv2 (b_pc (pc' := 1589) rfl ?_)
    refine b_lcmp l241_1589 (bO_l hk2 (show bSh 112 = (2, 1) from rfl)) (bR_L hv2) (b_pc (pc' := 1590) rfl ?_)
    refine b_pos (c := (bCmp (μ2 112 0) b) = 0) (E1 := some (.inl 1, μf, c)) (E2 := none) (κ := some) (bCmp_0 (ho hk0)) ?_
    refine b_zeq (pt := 1595) l241_1590 (bCmp_R _ _) (by decide) rfl (fun _ => ?_) (fun z => absurd (bCmp_0 (ho hk0)) z)
    refine b_s (pc' := 1655) (lv1 := [(0, .ref 0), (1, .ref 1), (2, .ref 76), (3, .ref 112), (4, bI i), (5, bI k), (6, bI b)]) (st' := []) l241_1595 (fun _ => rfl) ?_
    refine b_inc1 (lv' := [(0, .ref 0), (1, .ref 1), (2, .ref 76), (3, .ref 112), (4, bI (i + 6))]) l241_1655 rfl (by decide +kernel) (bSb rfl (bSb rfl (bSb rfl (bSb rfl (bSb rfl bSn))))) (b_in (by omega) (by omega)) (b_pc (pc' := 1658) rfl ?_)
    refine b_s (pc' := 23) (lv1 := [(0, .ref 0), (1, .ref 1), (2, .ref 76), (3, .ref 112), (4, bI (i + 6))]) (st' := []) l241_1658 (fun _ => rfl) ?_
    exact kont
  · refine b_pos (c := ¬ k = 0) (E1 := some (.inl 1, μf, c)) (E2 := none) (κ := some) hk0 ?_
    refine b_zne (pt := 1595) l241_1580 hv1 (by decide) rfl (fun _ => ?_) (fun z => absurd hk0 z)
    refine b_s (pc' := 1655) (lv1 := [(0, .ref 0), (1, .ref 1), (2, .ref 76), (3, .ref 112), (4, bI i), (5, bI k), (6, bI b)]) (st' := []) l241_1595 (fun _ => rfl) ?_
    refine b_inc1 (lv' := [(0, .ref 0), (1, .ref 1), (2, .ref 76), (3, .ref 112), (4, bI (i + 6))]) l241_1655 rfl (by decide +kernel) (bSb rfl (bSb rfl (bSb rfl (bSb rfl (bSb rfl bSn))))) (b_in (by omega) (by omega)) (b_pc (pc' := 1658) rfl ?_)
    refine b_s (pc' := 23) (lv1 := [(0, .ref 0), (1, .ref 1), (2, .ref 76), (3, .ref 112), (4, bI (i + 6))]) (st' := []) l241_1658 (fun _ => rfl) ?_
    exact kont
theorem g_23 {L : Nat} {xs : Nat → Int32} {i k b : Int} {c n1 : Nat} {μ μ2 μf : bM} (hL : L ≤ 3072) (hi : 0 ≤ i ∧ i + 6 ≤ (L : Int)) (hop : bAnd (xs i.toNat).toInt 31 = 23) (hF1 : F_X10_covers (bOrL (bShlL (xs (i + 1).toNat).toInt 32) (bAndL (xs (i + 2).toNat).toInt 4294967295)) μ = some k) (hF2 : F_X11_covers (bOrL (bShlL (xs (i + 1).toNat).toInt 32) (bAndL (xs (i + 2).toNat).toInt 4294967295)) μ = some (b, μ2)) (hEQ : k = b) (kont : bD L xs 9 241 23 [(0, .ref 0), (1, .ref 1), (2, .ref 76), (3, .ref 112), (4, bI (i + 6))] [] μ2 (some (.inl 1, μf, c))) : bD L xs 9 241 23 [(0, .ref 0), (1, .ref 1), (2, .ref 76), (3, .ref 112), (4, bI i)] [] μ (some (.inl 1, μf, c)) := by
  have hiR : bR i := b_in (by omega) (by omega)
  refine bD.ok fun hk => ?_
  refine b_s (pc' := 25) (lv1 := [(0, .ref 0), (1, .ref 1), (2, .ref 76), (3, .ref 112), (4, bI i)]) (st' := [bI i]) l241_23 (fun _ => rfl) ?_
  refine b_s (pc' := 26) (lv1 := [(0, .ref 0), (1, .ref 1), (2, .ref 76), (3, .ref 112), (4, bI i)]) (st' := [.ref 0, bI i]) l241_25 (fun _ => rfl) ?_
  refine b_scl l241_26 (b_pc (pc' := 27) rfl ?_)
  refine b_bipush l241_27 (by decide) (b_pc (pc' := 29) rfl ?_)
  refine b_isub1 l241_29 (b_in (by omega) (by omega)) (b_pc (pc' := 30) rfl ?_)
  refine b_neg (c := ((L : Int) - 6) < i) (E1 := none) (E2 := some (.inl 1, μf, c)) (κ := some) (by omega) ?_
  refine b_igt (pt := 1661) l241_30 hiR (b_in (by omega) (by omega)) (by decide) rfl (fun z => absurd z (by omega)) (fun _ => b_pc (pc' := 33) rfl ?_)
  refine b_s (pc' := 34) (lv1 := [(0, .ref 0), (1, .ref 1), (2, .ref 76), (3, .ref 112), (4, bI i)]) (st' := [.ref 0]) l241_33 (fun _ => rfl) ?_
  refine b_s (pc' := 36) (lv1 := [(0, .ref 0), (1, .ref 1), (2, .ref 76), (3, .ref 112), (4, bI i)]) (st' := [bI i, .ref 0]) l241_34 (fun _ => rfl) ?_
  refine b_scr l241_36 ⟨by omega, by omega⟩ (by omega) (b_pc (pc' := 37) rfl ?_)
  refine b_bipush l241_37 (by decide) (b_pc (pc' := 39) rfl ?_)
  refine b_iand l241_39 (b_pc (pc' := 40) rfl ?_)
  refine b_tsw l241_40 (bi_rg _) (by decide) (by decide) (by decide) ?_
  refine b_pc (pc' := bTg [(0, 152), (1, 256), (2, 292), (3, 348), (4, 416), (5, 540), (6, 620), (7, 712), (8, 725), (9, 738), (10, 794), (11, 862), (12, 918), (13, 998), (14, 1011), (15, 1067), (16, 1123), (17, 1191), (18, 1259), (19, 1315), (20, 1395), (21, 1462), (22, 1542), (23, 1598)] 1655 (bAnd (xs i.toNat).toInt 31)) rfl ?_
  refine b_pc (pc' := 1598) (by rw [hop]; rfl) ?_
  refine b_s (pc' := 1599) (lv1 := [(0, .ref 0), (1, .ref 1), (2, .ref 76), (3, .ref 112), (4, bI i)]) (st' := [.ref 1]) l241_1598 (fun _ => rfl) ?_
  refine b_s (pc' := 1600) (lv1 := [(0, .ref 0), (1, .ref 1), (2, .ref 76), (3, .ref 112), (4, bI i)]) (st' := [.ref 0, .ref 1]) l241_1599 (fun _ => rfl) ?_
  refine b_s (pc' := 1602) (lv1 := [(0, .ref 0), (1, .ref 1), (2, .ref 76), (3, .ref 112), (4, bI i)]) (st' := [bI i, .ref 0, .ref 1]) l241_1600 (fun _ => rfl) ?_
  refine b_s (pc' := 1603) (lv1 := [(0, .ref 0), (1, .ref 1), (2, .ref 76), (3, .ref 112), (4, bI i)]) (st' := [bI 1, bI i, .ref 0, .ref 1]) l241_1602 (fun _ => rfl) ?_
  refine b_iadd1 l241_1603 (b_in (by omega) (by omega)) (b_pc (pc' := 1604) rfl ?_)
  refine b_scr l241_1604 ⟨by omega, by omega⟩ (by omega) (b_pc (pc' := 1605) rfl ?_)
  refine b_i2l l241_1605 (bi_rg _) (b_pc (pc' := 1606) rfl ?_)
  refine b_bipush l241_1606 (by decide) (b_pc (pc' := 1608) rfl ?_)
  refine b_lshl l241_1608 (b_pc (pc' := 1609) rfl ?_)
  refine b_s (pc' := 1610) (lv1 := [(0, .ref 0), (1, .ref 1), (2, .ref 76), (3, .ref 112), (4, bI i)]) (st' := [.ref 0, bLg (bShlL (xs (i + 1).toNat).toInt 32), .ref 1]) l241_1609 (fun _ => rfl) ?_
  refine b_s (pc' := 1612) (lv1 := [(0, .ref 0), (1, .ref 1), (2, .ref 76), (3, .ref 112), (4, bI i)]) (st' := [bI i, .ref 0, bLg (bShlL (xs (i + 1).toNat).toInt 32), .ref 1]) l241_1610 (fun _ => rfl) ?_
  refine b_s (pc' := 1613) (lv1 := [(0, .ref 0), (1, .ref 1), (2, .ref 76), (3, .ref 112), (4, bI i)]) (st' := [bI 2, bI i, .ref 0, bLg (bShlL (xs (i + 1).toNat).toInt 32), .ref 1]) l241_1612 (fun _ => rfl) ?_
  refine b_iadd1 l241_1613 (b_in (by omega) (by omega)) (b_pc (pc' := 1614) rfl ?_)
  refine b_scr l241_1614 ⟨by omega, by omega⟩ (by omega) (b_pc (pc' := 1615) rfl ?_)
  refine b_i2l l241_1615 (bi_rg _) (b_pc (pc' := 1616) rfl ?_)
  refine b_s (pc' := 1619) (lv1 := [(0, .ref 0), (1, .ref 1), (2, .ref 76), (3, .ref 112), (4, bI i)]) (st' := [bLg 4294967295, bLg (xs (i + 2).toNat).toInt, bLg (bShlL (xs (i + 1).toNat).toInt 32), .ref 1]) l241_1616 (fun _ => rfl) ?_
  refine b_land l241_1619 (b_pc (pc' := 1620) rfl ?_)
  refine b_lor l241_1620 (b_pc (pc' := 1621) rfl ?_)
  refine b_cPki l241_1621 rfl (b_rc (ci := 8) (by rfl) (by decide) (by decide +kernel)) (Nat.le_of_ble_eq_true rfl) (Nat.le_of_ble_eq_true rfl) rfl (r_X10_covers (bOrL (bShlL (xs (i + 1).toNat).toInt 32) (bAndL (xs (i + 2).toNat).toInt 4294967295)) (bl_rg _)) hF1 fun hv1 => b_pc (pc' := 1624) rfl ?_
  refine b_s (pc' := 1625) (lv1 := [(0, .ref 0), (1, .ref 1), (2, .ref 76), (3, .ref 112), (4, bI i)]) (st' := [.ref 76, bI k]) l241_1624 (fun _ => rfl) ?_
  refine b_s (pc' := 1626) (lv1 := [(0, .ref 0), (1, .ref 1), (2, .ref 76), (3, .ref 112), (4, bI i)]) (st' := [.ref 0, .ref 76, bI k]) l241_1625 (fun _ => rfl) ?_
  refine b_s (pc' := 1628) (lv1 := [(0, .ref 0), (1, .ref 1), (2, .ref 76), (3, .ref 112), (4, bI i)]) (st' := [bI i, .ref 0, .ref 76, bI k]) l241_1626 (fun _ => rfl) ?_
  refine b_s (pc' := 1629) (lv1 := [(0, .ref 0), (1, .ref 1), (2, .ref 76), (3, .ref 112), (4, bI i)]) (st' := [bI 1, bI i, .ref 0, .ref 76, bI k]) l241_1628 (fun _ => rfl) ?_
  refine b_iadd1 l241_1629 (b_in (by omega) (by omega)) (b_pc (pc' := 1630) rfl ?_)
  refine b_scr l241_1630 ⟨by omega, by omega⟩ (by omega) (b_pc (pc' := 1631) rfl ?_)
  refine b_i2l l241_1631 (bi_rg _) (b_pc (pc' := 1632) rfl ?_)
  refine b_bipush l241_1632 (by decide) (b_pc (pc' := 1634) rfl ?_)
  refine b_lshl l241_1634 (b_pc (pc' := 1635) rfl ?_)
  refine b_s (pc' := 1636) (lv1 := [(0, .ref 0), (1, .ref 1), (2, .ref 76), (3, .ref 112), (4, bI i)]) (st' := [.ref 0, bLg (bShlL (xs (i + 1).toNat).toInt 32), .ref 76, bI k]) l241_1635 (fun _ => rfl) ?_
  refine b_s (pc' := 1638) (lv1 := [(0, .ref 0), (1, .ref 1), (2, .ref 76), (3, .ref 112), (4, bI i)]) (st' := [bI i, .ref 0, bLg (bShlL (xs (i + 1).toNat).toInt 32), .ref 76, bI k]) l241_1636 (fun _ => rfl) ?_
  refine b_s (pc' := 1639) (lv1 := [(0, .ref 0), (1, .ref 1), (2, .ref 76), (3, .ref 112), (4, bI i)]) (st' := [bI 2, bI i, .ref 0, bLg (bShlL (xs (i + 1).toNat).toInt 32), .ref 76, bI k]) l241_1638 (fun _ => rfl) ?_
  refine b_iadd1 l241_1639 (b_in (by omega) (by omega)) (b_pc (pc' := 1640) rfl ?_)
  refine b_scr l241_1640 ⟨by omega, by omega⟩ (by omega) (b_pc (pc' := 1641) rfl ?_)
  refine b_i2l l241_1641 (bi_rg _) (b_pc (pc' := 1642) rfl ?_)
  refine b_s (pc' := 1645) (lv1 := [(0, .ref 0), (1, .ref 1), (2, .ref 76), (3, .ref 112), (4, bI i)]) (st' := [bLg 4294967295, bLg (xs (i + 2).toNat).toInt, bLg (bShlL (xs (i + 1).toNat).toInt 32), .ref 76, bI k]) l241_1642 (fun _ => rfl) ?_
  refine b_land l241_1645 (b_pc (pc' := 1646) rfl ?_)
  refine b_lor l241_1646 (b_pc (pc' := 1647) rfl ?_)
  refine b_cMki l241_1647 rfl (b_rc (ci := 9) (by rfl) (by decide) (by decide +kernel)) (Nat.le_of_ble_eq_true rfl) (Nat.le_of_ble_eq_true rfl) rfl (r_X11_covers (bOrL (bShlL (xs (i + 1).toNat).toInt 32) (bAndL (xs (i + 2).toNat).toInt 4294967295)) (bl_rg _)) hF2 fun hv2 => bD.ok fun hk2 => b_pc (pc' := 1650) rfl ?_
  refine b_pos (c := k = b) (E1 := some (.inl 1, μf, c)) (E2 := none) (κ := some) hEQ ?_
  refine b_ieq (pt := 1655) l241_1650 hv1 hv2 (by decide) rfl (fun _ => ?_) (fun z => absurd hEQ z)
  refine b_inc1 (lv' := [(0, .ref 0), (1, .ref 1), (2, .ref 76), (3, .ref 112), (4, bI (i + 6))]) l241_1655 rfl (by decide +kernel) (bSb rfl (bSb rfl (bSb rfl (bSb rfl (bSb rfl bSn))))) (b_in (by omega) (by omega)) (b_pc (pc' := 1658) rfl ?_)
  refine b_s (pc' := 23) (lv1 := [(0, .ref 0), (1, .ref 1), (2, .ref 76), (3, .ref 112), (4, bI (i + 6))]) (st' := []) l241_1658 (fun _ => rfl) ?_
  exact kont
theorem g_d {L : Nat} {xs : Nat → Int32} {i  : Int} {c n1 : Nat} {μ  μf : bM} (hL : L ≤ 3072) (hi : 0 ≤ i ∧ i + 6 ≤ (L : Int)) (hop : ∀ q ∈ lawTb, ¬ bAnd (xs i.toNat).toInt 31 = q.1)  (kont : bD L xs 9 241 23 [(0, .ref 0), (1, .ref 1), (2, .ref 76), (3, .ref 112), (4, bI (i + 6))] [] μ (some (.inl 1, μf, c))) : bD L xs 9 241 23 [(0, .ref 0), (1, .ref 1), (2, .ref 76), (3, .ref 112), (4, bI i)] [] μ (some (.inl 1, μf, c)) := by
  have hiR : bR i := b_in (by omega) (by omega)
  refine bD.ok fun hk => ?_
  refine b_s (pc' := 25) (lv1 := [(0, .ref 0), (1, .ref 1), (2, .ref 76), (3, .ref 112), (4, bI i)]) (st' := [bI i]) l241_23 (fun _ => rfl) ?_
  refine b_s (pc' := 26) (lv1 := [(0, .ref 0), (1, .ref 1), (2, .ref 76), (3, .ref 112), (4, bI i)]) (st' := [.ref 0, bI i]) l241_25 (fun _ => rfl) ?_
  refine b_scl l241_26 (b_pc (pc' := 27) rfl ?_)
  refine b_bipush l241_27 (by decide) (b_pc (pc' := 29) rfl ?_)
  refine b_isub1 l241_29 (b_in (by omega) (by omega)) (b_pc (pc' := 30) rfl ?_)
  refine b_neg (c := ((L : Int) - 6) < i) (E1 := none) (E2 := some (.inl 1, μf, c)) (κ := some) (by omega) ?_
  refine b_igt (pt := 1661) l241_30 hiR (b_in (by omega) (by omega)) (by decide) rfl (fun z => absurd z (by omega)) (fun _ => b_pc (pc' := 33) rfl ?_)
  refine b_s (pc' := 34) (lv1 := [(0, .ref 0), (1, .ref 1), (2, .ref 76), (3, .ref 112), (4, bI i)]) (st' := [.ref 0]) l241_33 (fun _ => rfl) ?_
  refine b_s (pc' := 36) (lv1 := [(0, .ref 0), (1, .ref 1), (2, .ref 76), (3, .ref 112), (4, bI i)]) (st' := [bI i, .ref 0]) l241_34 (fun _ => rfl) ?_
  refine b_scr l241_36 ⟨by omega, by omega⟩ (by omega) (b_pc (pc' := 37) rfl ?_)
  refine b_bipush l241_37 (by decide) (b_pc (pc' := 39) rfl ?_)
  refine b_iand l241_39 (b_pc (pc' := 40) rfl ?_)
  refine b_tsw l241_40 (bi_rg _) (by decide) (by decide) (by decide) ?_
  refine b_pc (pc' := bTg [(0, 152), (1, 256), (2, 292), (3, 348), (4, 416), (5, 540), (6, 620), (7, 712), (8, 725), (9, 738), (10, 794), (11, 862), (12, 918), (13, 998), (14, 1011), (15, 1067), (16, 1123), (17, 1191), (18, 1259), (19, 1315), (20, 1395), (21, 1462), (22, 1542), (23, 1598)] 1655 (bAnd (xs i.toNat).toInt 31)) rfl ?_
  refine b_pc (pc' := 1655) (by exact bTg_none hop) ?_
  refine b_inc1 (lv' := [(0, .ref 0), (1, .ref 1), (2, .ref 76), (3, .ref 112), (4, bI (i + 6))]) l241_1655 rfl (by decide +kernel) (bSb rfl (bSb rfl (bSb rfl (bSb rfl (bSb rfl bSn))))) (b_in (by omega) (by omega)) (b_pc (pc' := 1658) rfl ?_)
  refine b_s (pc' := 23) (lv1 := [(0, .ref 0), (1, .ref 1), (2, .ref 76), (3, .ref 112), (4, bI (i + 6))]) (st' := []) l241_1658 (fun _ => rfl) ?_
  exact kont
theorem g_end {L : Nat} {xs : Nat → Int32} {i : Int} {μ : bM} (hL : L ≤ 3072) (hi : 0 ≤ i ∧ i ≤ (L : Int) ∧ (L : Int) < i + 6) : bD L xs 9 241 23 [(0, .ref 0), (1, .ref 1), (2, .ref 76), (3, .ref 112), (4, bI i)] [] μ (some (.inl 1, μ, 0)) := by
  have hiR : bR i := b_in (by omega) (by omega)
  refine b_s (pc' := 25) (lv1 := [(0, .ref 0), (1, .ref 1), (2, .ref 76), (3, .ref 112), (4, bI i)]) (st' := [bI i]) l241_23 (fun _ => rfl) ?_
  refine b_s (pc' := 26) (lv1 := [(0, .ref 0), (1, .ref 1), (2, .ref 76), (3, .ref 112), (4, bI i)]) (st' := [.ref 0, bI i]) l241_25 (fun _ => rfl) ?_
  refine b_scl l241_26 (b_pc (pc' := 27) rfl ?_)
  refine b_bipush l241_27 (by decide) (b_pc (pc' := 29) rfl ?_)
  refine b_isub1 l241_29 (b_in (by omega) (by omega)) (b_pc (pc' := 30) rfl ?_)
  refine b_pos (c := ((L : Int) - 6) < i) (E1 := some (.inl 1, μ, 0)) (E2 := none) (κ := some) (by omega) ?_
  refine b_igt (pt := 1661) l241_30 hiR (b_in (by omega) (by omega)) (by decide) rfl (fun _ => ?_) (fun z => absurd (show ((L : Int) - 6) < i by omega) z)
  refine b_s (pc' := 1662) (lv1 := [(0, .ref 0), (1, .ref 1), (2, .ref 76), (3, .ref 112), (4, bI i)]) (st' := [bI 1]) l241_1661 (fun _ => rfl) ?_
  exact b_retz l241_1662 rfl (by decide) rfl
end CD
