section
/-! java/util/Arrays.fill -/
theorem l219_0 : (ax_dt (ax_T 219)).lookup 0 = some (.iconst 0, 1, 0, 0, 0) := by decide +kernel
theorem l219_1 : (ax_dt (ax_T 219)).lookup 1 = some (.istore_n 2, 1, 0, 0, 0) := by decide +kernel
theorem l219_2 : (ax_dt (ax_T 219)).lookup 2 = some (.aload_n 0, 1, 0, 0, 0) := by decide +kernel
theorem l219_3 : (ax_dt (ax_T 219)).lookup 3 = some (.arraylength, 1, 0, 0, 0) := by decide +kernel
theorem l219_4 : (ax_dt (ax_T 219)).lookup 4 = some (.istore_n 3, 1, 0, 0, 0) := by decide +kernel
theorem l219_5 : (ax_dt (ax_T 219)).lookup 5 = some (.iload_n 2, 1, 0, 0, 0) := by decide +kernel
theorem l219_6 : (ax_dt (ax_T 219)).lookup 6 = some (.iload_n 3, 1, 0, 0, 0) := by decide +kernel
theorem l219_7 : (ax_dt (ax_T 219)).lookup 7 = some (.if_icmp .ge 13, 3, 0, 0, 0) := by decide +kernel
theorem l219_10 : (ax_dt (ax_T 219)).lookup 10 = some (.aload_n 0, 1, 0, 0, 0) := by decide +kernel
theorem l219_11 : (ax_dt (ax_T 219)).lookup 11 = some (.iload_n 2, 1, 0, 0, 0) := by decide +kernel
theorem l219_12 : (ax_dt (ax_T 219)).lookup 12 = some (.iload_n 1, 1, 0, 0, 0) := by decide +kernel
theorem l219_13 : (ax_dt (ax_T 219)).lookup 13 = some (.iastore, 1, 0, 0, 0) := by decide +kernel
theorem l219_14 : (ax_dt (ax_T 219)).lookup 14 = some (.iinc 2 1, 3, 0, 0, 0) := by decide +kernel
theorem l219_17 : (ax_dt (ax_T 219)).lookup 17 = some (.goto (-12), 3, 0, 0, 0) := by decide +kernel
theorem l219_20 : (ax_dt (ax_T 219)).lookup 20 = some (.return_, 1, 0, 0, 0) := by decide +kernel
noncomputable def F_J7_fill_53178_5 (q : Nat) (v1 : Int) (v3 : Int) (v2 : Int) (μ : bM) : Option ((Int × bM) ⊕ (Int × bM)) := if v3 ≤ v2 then some (.inr (0, μ)) else bG (0 ≤ v2 ∧ v2 < ((bN q : Nat) : Int)) (bG (bR (v2 + 1)) (some (.inl ((v2 + 1), (bset μ q v2.toNat v1)))))
noncomputable def F_J7_fill_53178 (q : Nat) (v1 : Int) (μ : bM) : Option (Int × bM) := bLoop (fun z => F_J7_fill_53178_5 q v1 ((bN q : Nat) : Int) z.1 z.2) (0, μ)
theorem q_J7_fill_53178_5 {L : Nat} {xs : Nat → Int32} {d : Nat} {μ : bM} {q : Nat} {v1 : Int} {v3 : Int} {κ : ((Int × bM) ⊕ (Int × bM)) → Option bX} (hr : ∀ r : Int × bM, κ (.inr r) = (bMc) r) (H5 : ∀ (v2 : Int) (μ : bM), bR v2 → bD L xs (d + 0) 219 5 [(0, .ref q), (1, bI v1), (2, bI v2), (3, bI v3)] [] μ (κ (.inl (v2, μ)))) (hq : bSh q = (1, bN q)) (h1 : bR v1) {v2 : Int} (h2 : bR v2) (h3 : bR v3) : bD L xs (d + 0) 219 5 [(0, .ref q), (1, bI v1), (2, bI v2), (3, bI v3)] [] μ ((F_J7_fill_53178_5 q v1 v3 v2 μ).bind κ) := by
  unfold F_J7_fill_53178_5
  refine bD.ok fun hk => ?_
  refine b_s (pc' := 6) (lv1 := [(0, .ref q), (1, bI v1), (2, bI v2), (3, bI v3)]) (st' := [bI v2]) l219_5 (fun _ => rfl) ?_
  refine b_s (pc' := 7) (lv1 := [(0, .ref q), (1, bI v1), (2, bI v2), (3, bI v3)]) (st' := [bI v3, bI v2]) l219_6 (fun _ => rfl) ?_
  refine b_ige (pt := 20) l219_7 h2 h3 (by decide) rfl (fun c1 => ?_) (fun c1 => b_pc (pc' := 10) rfl ?_)
  · exact b_retv l219_20 rfl (hr _)
  · refine b_s (pc' := 11) (lv1 := [(0, .ref q), (1, bI v1), (2, bI v2), (3, bI v3)]) (st' := [.ref q]) l219_10 (fun _ => rfl) ?_
    refine b_s (pc' := 12) (lv1 := [(0, .ref q), (1, bI v1), (2, bI v2), (3, bI v3)]) (st' := [bI v2, .ref q]) l219_11 (fun _ => rfl) ?_
    refine b_s (pc' := 13) (lv1 := [(0, .ref q), (1, bI v1), (2, bI v2), (3, bI v3)]) (st' := [bI v1, bI v2, .ref q]) l219_12 (fun _ => rfl) ?_
    refine b_g fun g4 => ?_
    refine b_ias l219_13 hq g4 h1 (bD.ok fun hk2 => b_pc (pc' := 14) rfl ?_)
    refine b_inc (lv' := [(0, .ref q), (1, bI v1), (2, bI (v2 + 1)), (3, bI v3)]) l219_14 rfl (by decide +kernel) (bSb rfl (bSb rfl (bSb rfl (bSb rfl bSn)))) fun g3 => (b_pc (pc' := 17) rfl ?_)
    refine b_s (pc' := 5) (lv1 := [(0, .ref q), (1, bI v1), (2, bI (v2 + 1)), (3, bI v3)]) (st' := []) l219_17 (fun _ => rfl) ?_
    refine bD.wk (lv' := [(0, .ref q), (1, bI v1), (2, bI (v2 + 1)), (3, bI v3)]) (bSb rfl (bSb rfl (bSb rfl (bSb rfl bSn)))) ?_
    exact H5 (v2 + 1) (bset μ q v2.toNat v1) g3
theorem p_J7_fill_53178_5 {L : Nat} {xs : Nat → Int32} {d : Nat} {μ : bM} {q : Nat} {κ : (Int × bM) → Option bX} (hr : ∀ r : Int × bM, κ r = (bMc) r) (hq : bSh q = (1, bN q)) {v1 : Int} (h1 : bR v1) {v2 : Int} (h2 : bR v2) {v3 : Int} (h3 : bR v3) : bD L xs (d + 0) 219 5 [(0, .ref q), (1, bI v1), (2, bI v2), (3, bI v3)] [] μ ((bLoop (fun z => F_J7_fill_53178_5 q v1 v3 z.1 z.2) (v2, μ)).bind κ) :=
  b_loop (fun z => [(0, .ref q), (1, bI v1), (2, bI z.1), (3, bI v3)]) (fun z => z.2) (fun z => bR z.1) (fun κ' hκ HH z hz => q_J7_fill_53178_5 (κ := κ') (fun r => (hκ _).trans (hr r)) (fun a2 am b2 => HH (a2, am) b2) hq h1 hz h3) (v2, μ) h2
theorem r_J7_fill_53178 {L : Nat} {xs : Nat → Int32} {d : Nat} {μ : bM} (q : Nat) (hq : bSh q = (1, bN q)) (v1 : Int) (h1 : bR v1) : bD L xs (d + 0) 219 0 [(0, .ref q), (1, bI v1)] [] μ ((F_J7_fill_53178 q v1 μ).bind (bMc)) := by
  have hr : ∀ r, (bMc) r = (bMc) r := fun _ => rfl
  unfold F_J7_fill_53178
  refine bD.ok fun hk => ?_
  refine b_s (pc' := 1) (lv1 := [(0, .ref q), (1, bI v1)]) (st' := [bI 0]) l219_0 (fun _ => rfl) ?_
  refine b_w (pc' := 2) (lv1 := ax_st1 [(0, .ref q), (1, bI v1)] 2 (bI 0)) (lv' := [(0, .ref q), (1, bI v1), (2, bI 0)]) (st' := []) l219_1 (fun _ => rfl) (bSb rfl (bSb rfl (bSb rfl bSn))) ?_
  refine b_s (pc' := 3) (lv1 := [(0, .ref q), (1, bI v1), (2, bI 0)]) (st' := [.ref q]) l219_2 (fun _ => rfl) ?_
  refine b_len l219_3 hq (by decide) (b_pc (pc' := 4) rfl ?_)
  refine b_w (pc' := 5) (lv1 := ax_st1 [(0, .ref q), (1, bI v1), (2, bI 0)] 3 (bI ((bN q : Nat) : Int))) (lv' := [(0, .ref q), (1, bI v1), (2, bI 0), (3, bI ((bN q : Nat) : Int))]) (st' := []) l219_4 (fun _ => rfl) (bSb rfl (bSb rfl (bSb rfl (bSb rfl bSn)))) ?_
  refine bD.wk (lv' := [(0, .ref q), (1, bI v1), (2, bI 0), (3, bI ((bN q : Nat) : Int))]) (bSb rfl (bSb rfl (bSb rfl (bSb rfl bSn)))) ?_
  exact p_J7_fill_53178_5 hr hq h1 (by decide) (bN_R hq (by decide))
/-! ET$Chains.forget -/
theorem l1_0 : (ax_dt (ax_T 1)).lookup 0 = some (.aload_n 0, 1, 0, 0, 0) := by decide +kernel
theorem l1_1 : (ax_dt (ax_T 1)).lookup 1 = some (.getfield 11, 3, 0, 0, 0) := by decide +kernel
theorem l1_4 : (ax_dt (ax_T 1)).lookup 4 = some (.iconst (-1), 1, 0, 0, 0) := by decide +kernel
theorem l1_5 : (ax_dt (ax_T 1)).lookup 5 = some (.invokestatic 24, 3, 219, 2, 0) := by decide +kernel
theorem l1_8 : (ax_dt (ax_T 1)).lookup 8 = some (.return_, 1, 0, 0, 0) := by decide +kernel
noncomputable def F_X0_forget (c : Nat) (μ : bM) : Option (Int × bM) := bMm (F_J7_fill_53178 (c + 1) (-1) μ) (fun w1 μ2 => some (0, μ2))
theorem r_X0_forget {L : Nat} {xs : Nat → Int32} {d : Nat} {μ : bM} (c : Nat) (hc : bChn c)  : bD L xs (d + 1) 1 0 [(0, .ref c)] [] μ ((F_X0_forget c μ).bind (bMc)) := by
  have hr : ∀ r, (bMc) r = (bMc) r := fun _ => rfl
  unfold F_X0_forget
  refine bD.ok fun hk => ?_
  refine b_s (pc' := 1) (lv1 := [(0, .ref c)]) (st' := [.ref c]) l1_0 (fun _ => rfl) ?_
  refine b_gp (q' := (c + 1)) (j := 1) l1_1 hc (by decide) (by decide) rfl hk rfl rfl (b_pc (pc' := 4) rfl ?_)
  refine b_s (pc' := 5) (lv1 := [(0, .ref c)]) (st' := [bI (-1), .ref (c + 1)]) l1_4 (fun _ => rfl) ?_
  refine b_cMv l1_5 rfl (fun _ => trivial) (Nat.le_of_ble_eq_true rfl) (Nat.le_of_ble_eq_true rfl) rfl (r_J7_fill_53178 (c + 1) (bA (bChn_h hc)) (-1) (by decide)) fun w1 μ2 hw1 => bD.ok fun hk3 => b_pc (pc' := 8) rfl ?_
  exact b_retv l1_8 rfl (hr _)
/-! ET$Chains.bucket -/
theorem l5_0 : (ax_dt (ax_T 5)).lookup 0 = some (.iload_n 0, 1, 0, 0, 0) := by decide +kernel
theorem l5_1 : (ax_dt (ax_T 5)).lookup 1 = some (.iload_n 0, 1, 0, 0, 0) := by decide +kernel
theorem l5_2 : (ax_dt (ax_T 5)).lookup 2 = some (.bipush 8, 2, 0, 0, 0) := by decide +kernel
theorem l5_4 : (ax_dt (ax_T 5)).lookup 4 = some (.iushr, 1, 0, 0, 0) := by decide +kernel
theorem l5_5 : (ax_dt (ax_T 5)).lookup 5 = some (.ixor, 1, 0, 0, 0) := by decide +kernel
theorem l5_6 : (ax_dt (ax_T 5)).lookup 6 = some (.iload_n 0, 1, 0, 0, 0) := by decide +kernel
theorem l5_7 : (ax_dt (ax_T 5)).lookup 7 = some (.bipush 16, 2, 0, 0, 0) := by decide +kernel
theorem l5_9 : (ax_dt (ax_T 5)).lookup 9 = some (.iushr, 1, 0, 0, 0) := by decide +kernel
theorem l5_10 : (ax_dt (ax_T 5)).lookup 10 = some (.ixor, 1, 0, 0, 0) := by decide +kernel
theorem l5_11 : (ax_dt (ax_T 5)).lookup 11 = some (.sipush 255, 3, 0, 0, 0) := by decide +kernel
theorem l5_14 : (ax_dt (ax_T 5)).lookup 14 = some (.iand, 1, 0, 0, 0) := by decide +kernel
theorem l5_15 : (ax_dt (ax_T 5)).lookup 15 = some (.ireturn, 1, 0, 0, 0) := by decide +kernel
noncomputable def F_X0_bucket (v0 : Int) (μ : bM) : Option (Int) := some ((bAnd (bXor (bXor v0 (bUshr v0 8)) (bUshr v0 16)) 255))
theorem r_X0_bucket {L : Nat} {xs : Nat → Int32} {d : Nat} {μ : bM}  (v0 : Int) (h0 : bR v0) : bD L xs (d + 0) 5 0 [(0, bI v0)] [] μ ((F_X0_bucket v0 μ).bind (bPc μ)) := by
  have hr : ∀ r, (bPc μ) r = (bPc μ) r := fun _ => rfl
  unfold F_X0_bucket
  refine bD.ok fun hk => ?_
  refine b_s (pc' := 1) (lv1 := [(0, bI v0)]) (st' := [bI v0]) l5_0 (fun _ => rfl) ?_
  refine b_s (pc' := 2) (lv1 := [(0, bI v0)]) (st' := [bI v0, bI v0]) l5_1 (fun _ => rfl) ?_
  refine b_bipush l5_2 (by decide) (b_pc (pc' := 4) rfl ?_)
  refine b_iushr l5_4 (b_pc (pc' := 5) rfl ?_)
  refine b_ixor l5_5 (b_pc (pc' := 6) rfl ?_)
  refine b_s (pc' := 7) (lv1 := [(0, bI v0)]) (st' := [bI v0, bI (bXor v0 (bUshr v0 8))]) l5_6 (fun _ => rfl) ?_
  refine b_bipush l5_7 (by decide) (b_pc (pc' := 9) rfl ?_)
  refine b_iushr l5_9 (b_pc (pc' := 10) rfl ?_)
  refine b_ixor l5_10 (b_pc (pc' := 11) rfl ?_)
  refine b_sipush l5_11 (by decide) (b_pc (pc' := 14) rfl ?_)
  refine b_iand l5_14 (b_pc (pc' := 15) rfl ?_)
  exact b_reti l5_15 rfl (bi_rg _) (hr _)
/-! ET$Chains.first -/
theorem l2_0 : (ax_dt (ax_T 2)).lookup 0 = some (.aload_n 0, 1, 0, 0, 0) := by decide +kernel
theorem l2_1 : (ax_dt (ax_T 2)).lookup 1 = some (.getfield 11, 3, 0, 0, 0) := by decide +kernel
theorem l2_4 : (ax_dt (ax_T 2)).lookup 4 = some (.iload_n 1, 1, 0, 0, 0) := by decide +kernel
theorem l2_5 : (ax_dt (ax_T 2)).lookup 5 = some (.invokestatic 30, 3, 5, 1, 0) := by decide +kernel
theorem l2_8 : (ax_dt (ax_T 2)).lookup 8 = some (.iaload, 1, 0, 0, 0) := by decide +kernel
theorem l2_9 : (ax_dt (ax_T 2)).lookup 9 = some (.ireturn, 1, 0, 0, 0) := by decide +kernel
noncomputable def F_X0_first (c : Nat) (v1 : Int) (μ : bM) : Option (Int) := (F_X0_bucket v1 μ).bind fun w1 => bG (0 ≤ w1 ∧ w1 < 256) (some ((μ (c + 1) w1.toNat)))
theorem r_X0_first {L : Nat} {xs : Nat → Int32} {d : Nat} {μ : bM} (c : Nat) (hc : bChn c) (v1 : Int) (h1 : bR v1) : bD L xs (d + 1) 2 0 [(0, .ref c), (1, bI v1)] [] μ ((F_X0_first c v1 μ).bind (bPc μ)) := by
  have hr : ∀ r, (bPc μ) r = (bPc μ) r := fun _ => rfl
  unfold F_X0_first
  refine bD.ok fun hk => ?_
  refine b_s (pc' := 1) (lv1 := [(0, .ref c), (1, bI v1)]) (st' := [.ref c]) l2_0 (fun _ => rfl) ?_
  refine b_gp (q' := (c + 1)) (j := 1) l2_1 hc (by decide) (by decide) rfl hk rfl rfl (b_pc (pc' := 4) rfl ?_)
  refine b_s (pc' := 5) (lv1 := [(0, .ref c), (1, bI v1)]) (st' := [bI v1, .ref (c + 1)]) l2_4 (fun _ => rfl) ?_
  refine b_cPi l2_5 rfl (fun _ => trivial) (Nat.le_of_ble_eq_true rfl) (Nat.le_of_ble_eq_true rfl) rfl (r_X0_bucket v1 h1) fun w1 hw1 => b_pc (pc' := 8) rfl ?_
  refine b_g fun g2 => ?_
  refine b_ial l2_8 (bChn_h hc) g2 (b_pc (pc' := 9) rfl ?_)
  exact b_reti l2_9 rfl (bO_i hk (bChn_h hc)) (hr _)
/-! ET$Chains.after -/
theorem l3_0 : (ax_dt (ax_T 3)).lookup 0 = some (.iload_n 1, 1, 0, 0, 0) := by decide +kernel
theorem l3_1 : (ax_dt (ax_T 3)).lookup 1 = some (.ifCond .lt 21, 3, 0, 0, 0) := by decide +kernel
theorem l3_4 : (ax_dt (ax_T 3)).lookup 4 = some (.iload_n 1, 1, 0, 0, 0) := by decide +kernel
theorem l3_5 : (ax_dt (ax_T 3)).lookup 5 = some (.aload_n 0, 1, 0, 0, 0) := by decide +kernel
theorem l3_6 : (ax_dt (ax_T 3)).lookup 6 = some (.getfield 21, 3, 0, 1, 0) := by decide +kernel
theorem l3_9 : (ax_dt (ax_T 3)).lookup 9 = some (.arraylength, 1, 0, 0, 0) := by decide +kernel
theorem l3_10 : (ax_dt (ax_T 3)).lookup 10 = some (.if_icmp .ge 12, 3, 0, 0, 0) := by decide +kernel
theorem l3_13 : (ax_dt (ax_T 3)).lookup 13 = some (.aload_n 0, 1, 0, 0, 0) := by decide +kernel
theorem l3_14 : (ax_dt (ax_T 3)).lookup 14 = some (.getfield 21, 3, 0, 1, 0) := by decide +kernel
theorem l3_17 : (ax_dt (ax_T 3)).lookup 17 = some (.iload_n 1, 1, 0, 0, 0) := by decide +kernel
theorem l3_18 : (ax_dt (ax_T 3)).lookup 18 = some (.iaload, 1, 0, 0, 0) := by decide +kernel
theorem l3_19 : (ax_dt (ax_T 3)).lookup 19 = some (.goto 4, 3, 0, 0, 0) := by decide +kernel
theorem l3_22 : (ax_dt (ax_T 3)).lookup 22 = some (.iconst (-1), 1, 0, 0, 0) := by decide +kernel
theorem l3_23 : (ax_dt (ax_T 3)).lookup 23 = some (.ireturn, 1, 0, 0, 0) := by decide +kernel
noncomputable def F_X0_after (c : Nat) (v1 : Int) (μ : bM) : Option (Int) := if v1 < 0 then some ((-1)) else if ((bN (c + 2) : Nat) : Int) ≤ v1 then some ((-1)) else bG (0 ≤ v1 ∧ v1 < ((bN (c + 2) : Nat) : Int)) (some ((μ (c + 2) v1.toNat)))
theorem r_X0_after {L : Nat} {xs : Nat → Int32} {d : Nat} {μ : bM} (c : Nat) (hc : bChn c) (v1 : Int) (h1 : bR v1) : bD L xs (d + 0) 3 0 [(0, .ref c), (1, bI v1)] [] μ ((F_X0_after c v1 μ).bind (bPc μ)) := by
  have hr : ∀ r, (bPc μ) r = (bPc μ) r := fun _ => rfl
  unfold F_X0_after
  refine bD.ok fun hk => ?_
  refine b_s (pc' := 1) (lv1 := [(0, .ref c), (1, bI v1)]) (st' := [bI v1]) l3_0 (fun _ => rfl) ?_
  refine b_zlt (pt := 22) l3_1 h1 (by decide) rfl (fun c1 => ?_) (fun c1 => b_pc (pc' := 4) rfl ?_)
  · refine b_s (pc' := 23) (lv1 := [(0, .ref c), (1, bI v1)]) (st' := [bI (-1)]) l3_22 (fun _ => rfl) ?_
    exact b_reti l3_23 rfl (by decide) (hr _)
  · refine b_s (pc' := 5) (lv1 := [(0, .ref c), (1, bI v1)]) (st' := [bI v1]) l3_4 (fun _ => rfl) ?_
    refine b_s (pc' := 6) (lv1 := [(0, .ref c), (1, bI v1)]) (st' := [.ref c, bI v1]) l3_5 (fun _ => rfl) ?_
    refine b_gp (q' := (c + 2)) (j := 2) l3_6 hc (by decide) (by decide) rfl hk rfl rfl (b_pc (pc' := 9) rfl ?_)
    refine b_len l3_9 (bChn_n hc) (by decide) (b_pc (pc' := 10) rfl ?_)
    refine b_ige (pt := 22) l3_10 h1 (bN_R (bChn_n hc) (by decide)) (by decide) rfl (fun c2 => ?_) (fun c2 => b_pc (pc' := 13) rfl ?_)
    · refine b_s (pc' := 23) (lv1 := [(0, .ref c), (1, bI v1)]) (st' := [bI (-1)]) l3_22 (fun _ => rfl) ?_
      exact b_reti l3_23 rfl (by decide) (hr _)
    · refine b_s (pc' := 14) (lv1 := [(0, .ref c), (1, bI v1)]) (st' := [.ref c]) l3_13 (fun _ => rfl) ?_
      refine b_gp (q' := (c + 2)) (j := 2) l3_14 hc (by decide) (by decide) rfl hk rfl rfl (b_pc (pc' := 17) rfl ?_)
      refine b_s (pc' := 18) (lv1 := [(0, .ref c), (1, bI v1)]) (st' := [bI v1, .ref (c + 2)]) l3_17 (fun _ => rfl) ?_
      refine b_g fun g3 => ?_
      refine b_ial l3_18 (bChn_n hc) g3 (b_pc (pc' := 19) rfl ?_)
      refine b_s (pc' := 23) (lv1 := [(0, .ref c), (1, bI v1)]) (st' := [bI (μ (c + 2) v1.toNat)]) l3_19 (fun _ => rfl) ?_
      exact b_reti l3_23 rfl (bO_i hk (bChn_n hc)) (hr _)
/-! ET$Chains.add -/
theorem l4_0 : (ax_dt (ax_T 4)).lookup 0 = some (.iload_n 2, 1, 0, 0, 0) := by decide +kernel
theorem l4_1 : (ax_dt (ax_T 4)).lookup 1 = some (.ifCond .lt 36, 3, 0, 0, 0) := by decide +kernel
theorem l4_4 : (ax_dt (ax_T 4)).lookup 4 = some (.iload_n 2, 1, 0, 0, 0) := by decide +kernel
theorem l4_5 : (ax_dt (ax_T 4)).lookup 5 = some (.aload_n 0, 1, 0, 0, 0) := by decide +kernel
theorem l4_6 : (ax_dt (ax_T 4)).lookup 6 = some (.getfield 21, 3, 0, 1, 0) := by decide +kernel
theorem l4_9 : (ax_dt (ax_T 4)).lookup 9 = some (.arraylength, 1, 0, 0, 0) := by decide +kernel
theorem l4_10 : (ax_dt (ax_T 4)).lookup 10 = some (.if_icmp .ge 27, 3, 0, 0, 0) := by decide +kernel
theorem l4_13 : (ax_dt (ax_T 4)).lookup 13 = some (.iload_n 1, 1, 0, 0, 0) := by decide +kernel
theorem l4_14 : (ax_dt (ax_T 4)).lookup 14 = some (.invokestatic 30, 3, 5, 1, 0) := by decide +kernel
theorem l4_17 : (ax_dt (ax_T 4)).lookup 17 = some (.istore_n 3, 1, 0, 0, 0) := by decide +kernel
theorem l4_18 : (ax_dt (ax_T 4)).lookup 18 = some (.aload_n 0, 1, 0, 0, 0) := by decide +kernel
theorem l4_19 : (ax_dt (ax_T 4)).lookup 19 = some (.getfield 21, 3, 0, 1, 0) := by decide +kernel
theorem l4_22 : (ax_dt (ax_T 4)).lookup 22 = some (.iload_n 2, 1, 0, 0, 0) := by decide +kernel
theorem l4_23 : (ax_dt (ax_T 4)).lookup 23 = some (.aload_n 0, 1, 0, 0, 0) := by decide +kernel
theorem l4_24 : (ax_dt (ax_T 4)).lookup 24 = some (.getfield 11, 3, 0, 0, 0) := by decide +kernel
theorem l4_27 : (ax_dt (ax_T 4)).lookup 27 = some (.iload_n 3, 1, 0, 0, 0) := by decide +kernel
theorem l4_28 : (ax_dt (ax_T 4)).lookup 28 = some (.iaload, 1, 0, 0, 0) := by decide +kernel
theorem l4_29 : (ax_dt (ax_T 4)).lookup 29 = some (.iastore, 1, 0, 0, 0) := by decide +kernel
theorem l4_30 : (ax_dt (ax_T 4)).lookup 30 = some (.aload_n 0, 1, 0, 0, 0) := by decide +kernel
theorem l4_31 : (ax_dt (ax_T 4)).lookup 31 = some (.getfield 11, 3, 0, 0, 0) := by decide +kernel
theorem l4_34 : (ax_dt (ax_T 4)).lookup 34 = some (.iload_n 3, 1, 0, 0, 0) := by decide +kernel
theorem l4_35 : (ax_dt (ax_T 4)).lookup 35 = some (.iload_n 2, 1, 0, 0, 0) := by decide +kernel
theorem l4_36 : (ax_dt (ax_T 4)).lookup 36 = some (.iastore, 1, 0, 0, 0) := by decide +kernel
theorem l4_37 : (ax_dt (ax_T 4)).lookup 37 = some (.return_, 1, 0, 0, 0) := by decide +kernel
noncomputable def F_X0_add (c : Nat) (v1 : Int) (v2 : Int) (μ : bM) : Option (Int × bM) := if v2 < 0 then some (0, μ) else if ((bN (c + 2) : Nat) : Int) ≤ v2 then some (0, μ) else (F_X0_bucket v1 μ).bind fun w3 => bG (0 ≤ w3 ∧ w3 < 256) (bG (0 ≤ v2 ∧ v2 < ((bN (c + 2) : Nat) : Int)) (bG (0 ≤ w3 ∧ w3 < 256) (some (0, (bset (bset μ (c + 2) v2.toNat (μ (c + 1) w3.toNat)) (c + 1) w3.toNat v2)))))
theorem r_X0_add {L : Nat} {xs : Nat → Int32} {d : Nat} {μ : bM} (c : Nat) (hc : bChn c) (v1 : Int) (h1 : bR v1) (v2 : Int) (h2 : bR v2) : bD L xs (d + 1) 4 0 [(0, .ref c), (1, bI v1), (2, bI v2)] [] μ ((F_X0_add c v1 v2 μ).bind (bMc)) := by
  have hr : ∀ r, (bMc) r = (bMc) r := fun _ => rfl
  unfold F_X0_add
  refine bD.ok fun hk => ?_
  refine b_s (pc' := 1) (lv1 := [(0, .ref c), (1, bI v1), (2, bI v2)]) (st' := [bI v2]) l4_0 (fun _ => rfl) ?_
  refine b_zlt (pt := 37) l4_1 h2 (by decide) rfl (fun c1 => ?_) (fun c1 => b_pc (pc' := 4) rfl ?_)
  · exact b_retv l4_37 rfl (hr _)
  · refine b_s (pc' := 5) (lv1 := [(0, .ref c), (1, bI v1), (2, bI v2)]) (st' := [bI v2]) l4_4 (fun _ => rfl) ?_
    refine b_s (pc' := 6) (lv1 := [(0, .ref c), (1, bI v1), (2, bI v2)]) (st' := [.ref c, bI v2]) l4_5 (fun _ => rfl) ?_
    refine b_gp (q' := (c + 2)) (j := 2) l4_6 hc (by decide) (by decide) rfl hk rfl rfl (b_pc (pc' := 9) rfl ?_)
    refine b_len l4_9 (bChn_n hc) (by decide) (b_pc (pc' := 10) rfl ?_)
    refine b_ige (pt := 37) l4_10 h2 (bN_R (bChn_n hc) (by decide)) (by decide) rfl (fun c2 => ?_) (fun c2 => b_pc (pc' := 13) rfl ?_)
    · exact b_retv l4_37 rfl (hr _)
    · refine b_s (pc' := 14) (lv1 := [(0, .ref c), (1, bI v1), (2, bI v2)]) (st' := [bI v1]) l4_13 (fun _ => rfl) ?_
      refine b_cPi l4_14 rfl (fun _ => trivial) (Nat.le_of_ble_eq_true rfl) (Nat.le_of_ble_eq_true rfl) rfl (r_X0_bucket v1 h1) fun w3 hw3 => b_pc (pc' := 17) rfl ?_
      refine b_w (pc' := 18) (lv1 := ax_st1 [(0, .ref c), (1, bI v1), (2, bI v2)] 3 (bI w3)) (lv' := [(0, .ref c), (2, bI v2), (3, bI w3)]) (st' := []) l4_17 (fun _ => rfl) (bSb rfl (bSb rfl (bSb rfl bSn))) ?_
      refine b_s (pc' := 19) (lv1 := [(0, .ref c), (2, bI v2), (3, bI w3)]) (st' := [.ref c]) l4_18 (fun _ => rfl) ?_
      refine b_gp (q' := (c + 2)) (j := 2) l4_19 hc (by decide) (by decide) rfl hk rfl rfl (b_pc (pc' := 22) rfl ?_)
      refine b_s (pc' := 23) (lv1 := [(0, .ref c), (2, bI v2), (3, bI w3)]) (st' := [bI v2, .ref (c + 2)]) l4_22 (fun _ => rfl) ?_
      refine b_s (pc' := 24) (lv1 := [(0, .ref c), (2, bI v2), (3, bI w3)]) (st' := [.ref c, bI v2, .ref (c + 2)]) l4_23 (fun _ => rfl) ?_
      refine b_gp (q' := (c + 1)) (j := 1) l4_24 hc (by decide) (by decide) rfl hk rfl rfl (b_pc (pc' := 27) rfl ?_)
      refine b_s (pc' := 28) (lv1 := [(0, .ref c), (2, bI v2), (3, bI w3)]) (st' := [bI w3, .ref (c + 1), bI v2, .ref (c + 2)]) l4_27 (fun _ => rfl) ?_
      refine b_g fun g8 => ?_
      refine b_ial l4_28 (bChn_h hc) g8 (b_pc (pc' := 29) rfl ?_)
      refine b_g fun g7 => ?_
      refine b_ias l4_29 (bChn_n hc) g7 (bO_i hk (bChn_h hc)) (bD.ok fun hk4 => b_pc (pc' := 30) rfl ?_)
      refine b_s (pc' := 31) (lv1 := [(0, .ref c), (2, bI v2), (3, bI w3)]) (st' := [.ref c]) l4_30 (fun _ => rfl) ?_
      refine b_gp (q' := (c + 1)) (j := 1) l4_31 hc (by decide) (by decide) rfl hk4 rfl rfl (b_pc (pc' := 34) rfl ?_)
      refine b_s (pc' := 35) (lv1 := [(0, .ref c), (2, bI v2), (3, bI w3)]) (st' := [bI w3, .ref (c + 1)]) l4_34 (fun _ => rfl) ?_
      refine b_s (pc' := 36) (lv1 := [(0, .ref c), (2, bI v2), (3, bI w3)]) (st' := [bI v2, bI w3, .ref (c + 1)]) l4_35 (fun _ => rfl) ?_
      refine b_g fun g6 => ?_
      refine b_ias l4_36 (bChn_h hc) g6 h2 (bD.ok fun hk5 => b_pc (pc' := 37) rfl ?_)
      exact b_retv l4_37 rfl (hr _)
/-! ET$Sections.of -/
theorem l50_0 : (ax_dt (ax_T 50)).lookup 0 = some (.iload_n 1, 1, 0, 0, 0) := by decide +kernel
theorem l50_1 : (ax_dt (ax_T 50)).lookup 1 = some (.ifCond .ne 8, 3, 0, 0, 0) := by decide +kernel
theorem l50_4 : (ax_dt (ax_T 50)).lookup 4 = some (.aload_n 0, 1, 0, 0, 0) := by decide +kernel
theorem l50_5 : (ax_dt (ax_T 50)).lookup 5 = some (.getfield 14, 3, 4, 0, 0) := by decide +kernel
theorem l50_8 : (ax_dt (ax_T 50)).lookup 8 = some (.areturn, 1, 0, 0, 0) := by decide +kernel
theorem l50_9 : (ax_dt (ax_T 50)).lookup 9 = some (.iload_n 1, 1, 0, 0, 0) := by decide +kernel
theorem l50_10 : (ax_dt (ax_T 50)).lookup 10 = some (.iconst 1, 1, 0, 0, 0) := by decide +kernel
theorem l50_11 : (ax_dt (ax_T 50)).lookup 11 = some (.if_icmp .ne 10, 3, 0, 0, 0) := by decide +kernel
theorem l50_14 : (ax_dt (ax_T 50)).lookup 14 = some (.aload_n 0, 1, 0, 0, 0) := by decide +kernel
theorem l50_15 : (ax_dt (ax_T 50)).lookup 15 = some (.getfield 20, 3, 4, 1, 0) := by decide +kernel
theorem l50_18 : (ax_dt (ax_T 50)).lookup 18 = some (.goto 7, 3, 0, 0, 0) := by decide +kernel
theorem l50_21 : (ax_dt (ax_T 50)).lookup 21 = some (.aload_n 0, 1, 0, 0, 0) := by decide +kernel
theorem l50_22 : (ax_dt (ax_T 50)).lookup 22 = some (.getfield 23, 3, 4, 2, 0) := by decide +kernel
theorem l50_25 : (ax_dt (ax_T 50)).lookup 25 = some (.areturn, 1, 0, 0, 0) := by decide +kernel
noncomputable def F_X5_of (v1 : Int) (μ : bM) : Option (Int) := if ¬ v1 = 0 then if ¬ v1 = 1 then some ((11 : Nat) : Int) else some ((9 : Nat) : Int) else some ((7 : Nat) : Int)
theorem r_X5_of {L : Nat} {xs : Nat → Int32} {d : Nat} {μ : bM}  (v1 : Int) (h1 : bR v1) : bD L xs (d + 0) 50 0 [(0, .ref 6), (1, bI v1)] [] μ ((F_X5_of v1 μ).bind (bPc μ)) := by
  have hr : ∀ r, (bPc μ) r = (bPc μ) r := fun _ => rfl
  unfold F_X5_of
  refine bD.ok fun hk => ?_
  refine b_s (pc' := 1) (lv1 := [(0, .ref 6), (1, bI v1)]) (st' := [bI v1]) l50_0 (fun _ => rfl) ?_
  refine b_zne (pt := 9) l50_1 h1 (by decide) rfl (fun c1 => ?_) (fun c1 => b_pc (pc' := 4) rfl ?_)
  · refine b_s (pc' := 10) (lv1 := [(0, .ref 6), (1, bI v1)]) (st' := [bI v1]) l50_9 (fun _ => rfl) ?_
    refine b_s (pc' := 11) (lv1 := [(0, .ref 6), (1, bI v1)]) (st' := [bI 1, bI v1]) l50_10 (fun _ => rfl) ?_
    refine b_ine (pt := 21) l50_11 h1 (by decide) (by decide) rfl (fun c2 => ?_) (fun c2 => b_pc (pc' := 14) rfl ?_)
    · refine b_s (pc' := 22) (lv1 := [(0, .ref 6), (1, bI v1)]) (st' := [.ref 6]) l50_21 (fun _ => rfl) ?_
      refine b_gp (q' := 11) (j := 5) l50_22 (by rfl) (by decide) (by decide) rfl hk rfl rfl (b_pc (pc' := 25) rfl ?_)
      exact b_reta l50_25 rfl (by rfl) (hr _)
    · refine b_s (pc' := 15) (lv1 := [(0, .ref 6), (1, bI v1)]) (st' := [.ref 6]) l50_14 (fun _ => rfl) ?_
      refine b_gp (q' := 9) (j := 3) l50_15 (by rfl) (by decide) (by decide) rfl hk rfl rfl (b_pc (pc' := 18) rfl ?_)
      refine b_s (pc' := 25) (lv1 := [(0, .ref 6), (1, bI v1)]) (st' := [.ref 9]) l50_18 (fun _ => rfl) ?_
      exact b_reta l50_25 rfl (by rfl) (hr _)
  · refine b_s (pc' := 5) (lv1 := [(0, .ref 6), (1, bI v1)]) (st' := [.ref 6]) l50_4 (fun _ => rfl) ?_
    refine b_gp (q' := 7) (j := 1) l50_5 (by rfl) (by decide) (by decide) rfl hk rfl rfl (b_pc (pc' := 8) rfl ?_)
    exact b_reta l50_8 rfl (by rfl) (hr _)
/-! ET$Store.at -/
theorem l55_0 : (ax_dt (ax_T 55)).lookup 0 = some (.iload_n 1, 1, 0, 0, 0) := by decide +kernel
theorem l55_1 : (ax_dt (ax_T 55)).lookup 1 = some (.ifCond .lt 24, 3, 0, 0, 0) := by decide +kernel
theorem l55_4 : (ax_dt (ax_T 55)).lookup 4 = some (.iload_n 1, 1, 0, 0, 0) := by decide +kernel
theorem l55_5 : (ax_dt (ax_T 55)).lookup 5 = some (.aload_n 0, 1, 0, 0, 0) := by decide +kernel
theorem l55_6 : (ax_dt (ax_T 55)).lookup 6 = some (.getfield 21, 3, 5, 1, 0) := by decide +kernel
theorem l55_9 : (ax_dt (ax_T 55)).lookup 9 = some (.if_icmp .ge 16, 3, 0, 0, 0) := by decide +kernel
theorem l55_12 : (ax_dt (ax_T 55)).lookup 12 = some (.aload_n 0, 1, 0, 0, 0) := by decide +kernel
theorem l55_13 : (ax_dt (ax_T 55)).lookup 13 = some (.getfield 15, 3, 5, 0, 0) := by decide +kernel
theorem l55_16 : (ax_dt (ax_T 55)).lookup 16 = some (.iload_n 1, 1, 0, 0, 0) := by decide +kernel
theorem l55_17 : (ax_dt (ax_T 55)).lookup 17 = some (.baload, 1, 0, 0, 0) := by decide +kernel
theorem l55_18 : (ax_dt (ax_T 55)).lookup 18 = some (.sipush 255, 3, 0, 0, 0) := by decide +kernel
theorem l55_21 : (ax_dt (ax_T 55)).lookup 21 = some (.iand, 1, 0, 0, 0) := by decide +kernel
theorem l55_22 : (ax_dt (ax_T 55)).lookup 22 = some (.goto 4, 3, 0, 0, 0) := by decide +kernel
theorem l55_25 : (ax_dt (ax_T 55)).lookup 25 = some (.iconst 0, 1, 0, 0, 0) := by decide +kernel
theorem l55_26 : (ax_dt (ax_T 55)).lookup 26 = some (.ireturn, 1, 0, 0, 0) := by decide +kernel
noncomputable def F_X6_at (s : Nat) (v1 : Int) (μ : bM) : Option (Int) := if v1 < 0 then some (0) else if (μ s 1) ≤ v1 then some (0) else bG (0 ≤ v1 ∧ v1 < ((bN (s + 1) : Nat) : Int)) (some ((bAnd (μ (s + 1) v1.toNat) 255)))
theorem r_X6_at {L : Nat} {xs : Nat → Int32} {d : Nat} {μ : bM} (s : Nat) (hs : bStore s) (v1 : Int) (h1 : bR v1) : bD L xs (d + 0) 55 0 [(0, .ref s), (1, bI v1)] [] μ ((F_X6_at s v1 μ).bind (bPc μ)) := by
  have hr : ∀ r, (bPc μ) r = (bPc μ) r := fun _ => rfl
  unfold F_X6_at
  refine bD.ok fun hk => ?_
  refine b_s (pc' := 1) (lv1 := [(0, .ref s), (1, bI v1)]) (st' := [bI v1]) l55_0 (fun _ => rfl) ?_
  refine b_zlt (pt := 25) l55_1 h1 (by decide) rfl (fun c1 => ?_) (fun c1 => b_pc (pc' := 4) rfl ?_)
  · refine b_s (pc' := 26) (lv1 := [(0, .ref s), (1, bI v1)]) (st' := [bI 0]) l55_25 (fun _ => rfl) ?_
    exact b_reti l55_26 rfl (by decide) (hr _)
  · refine b_s (pc' := 5) (lv1 := [(0, .ref s), (1, bI v1)]) (st' := [bI v1]) l55_4 (fun _ => rfl) ?_
    refine b_s (pc' := 6) (lv1 := [(0, .ref s), (1, bI v1)]) (st' := [.ref s, bI v1]) l55_5 (fun _ => rfl) ?_
    refine b_gi l55_6 hs (by decide) (by decide) rfl (b_pc (pc' := 9) rfl ?_)
    refine b_ige (pt := 25) l55_9 h1 (bO_f hk (ci := 5) hs rfl) (by decide) rfl (fun c2 => ?_) (fun c2 => b_pc (pc' := 12) rfl ?_)
    · refine b_s (pc' := 26) (lv1 := [(0, .ref s), (1, bI v1)]) (st' := [bI 0]) l55_25 (fun _ => rfl) ?_
      exact b_reti l55_26 rfl (by decide) (hr _)
    · refine b_s (pc' := 13) (lv1 := [(0, .ref s), (1, bI v1)]) (st' := [.ref s]) l55_12 (fun _ => rfl) ?_
      refine b_gp (q' := (s + 1)) (j := 1) l55_13 hs (by decide) (by decide) rfl hk rfl rfl (b_pc (pc' := 16) rfl ?_)
      refine b_s (pc' := 17) (lv1 := [(0, .ref s), (1, bI v1)]) (st' := [bI v1, .ref (s + 1)]) l55_16 (fun _ => rfl) ?_
      refine b_g fun g3 => ?_
      refine b_bal l55_17 (bStore_d hs) g3 (b_pc (pc' := 18) rfl ?_)
      refine b_sipush l55_18 (by decide) (b_pc (pc' := 21) rfl ?_)
      refine b_iand l55_21 (b_pc (pc' := 22) rfl ?_)
      refine b_s (pc' := 26) (lv1 := [(0, .ref s), (1, bI v1)]) (st' := [bI (bAnd (μ (s + 1) v1.toNat) 255)]) l55_22 (fun _ => rfl) ?_
      exact b_reti l55_26 rfl (bi_rg _) (hr _)
/-! ET$Store.zeroFrom -/
theorem l67_0 : (ax_dt (ax_T 67)).lookup 0 = some (.iload_n 1, 1, 0, 0, 0) := by decide +kernel
theorem l67_1 : (ax_dt (ax_T 67)).lookup 1 = some (.istore_n 3, 1, 0, 0, 0) := by decide +kernel
theorem l67_2 : (ax_dt (ax_T 67)).lookup 2 = some (.iload_n 3, 1, 0, 0, 0) := by decide +kernel
theorem l67_3 : (ax_dt (ax_T 67)).lookup 3 = some (.iload_n 2, 1, 0, 0, 0) := by decide +kernel
theorem l67_4 : (ax_dt (ax_T 67)).lookup 4 = some (.if_icmp .ge 19, 3, 0, 0, 0) := by decide +kernel
theorem l67_7 : (ax_dt (ax_T 67)).lookup 7 = some (.aload_n 0, 1, 0, 0, 0) := by decide +kernel
theorem l67_8 : (ax_dt (ax_T 67)).lookup 8 = some (.iload_n 3, 1, 0, 0, 0) := by decide +kernel
theorem l67_9 : (ax_dt (ax_T 67)).lookup 9 = some (.invokevirtual 42, 3, 55, 1, 0) := by decide +kernel
theorem l67_12 : (ax_dt (ax_T 67)).lookup 12 = some (.ifCond .ne 5, 3, 0, 0, 0) := by decide +kernel
theorem l67_15 : (ax_dt (ax_T 67)).lookup 15 = some (.iload_n 3, 1, 0, 0, 0) := by decide +kernel
theorem l67_16 : (ax_dt (ax_T 67)).lookup 16 = some (.ireturn, 1, 0, 0, 0) := by decide +kernel
theorem l67_17 : (ax_dt (ax_T 67)).lookup 17 = some (.iinc 3 1, 3, 0, 0, 0) := by decide +kernel
theorem l67_20 : (ax_dt (ax_T 67)).lookup 20 = some (.goto (-18), 3, 0, 0, 0) := by decide +kernel
theorem l67_23 : (ax_dt (ax_T 67)).lookup 23 = some (.iconst (-1), 1, 0, 0, 0) := by decide +kernel
theorem l67_24 : (ax_dt (ax_T 67)).lookup 24 = some (.ireturn, 1, 0, 0, 0) := by decide +kernel
noncomputable def F_X6_zeroFrom_2 (s : Nat) (v2 : Int) (μ : bM) (v3 : Int) : Option ((Int) ⊕ (Int)) := if v2 ≤ v3 then some (.inr ((-1))) else (F_X6_at s v3 μ).bind fun w2 => if ¬ w2 = 0 then bG (bR (v3 + 1)) (some (.inl (v3 + 1))) else some (.inr (v3))
noncomputable def F_X6_zeroFrom (s : Nat) (v1 : Int) (v2 : Int) (μ : bM) : Option (Int) := bLoop (fun z => F_X6_zeroFrom_2 s v2 μ z) v1
theorem q_X6_zeroFrom_2 {L : Nat} {xs : Nat → Int32} {d : Nat} {μ : bM} {s : Nat} {v2 : Int} {κ : ((Int) ⊕ (Int)) → Option bX} (hr : ∀ r : Int, κ (.inr r) = (bPc μ) r) (H2 : ∀ (v3 : Int), bR v3 → bD L xs (d + 1) 67 2 [(0, .ref s), (2, bI v2), (3, bI v3)] [] μ (κ (.inl v3))) (hs : bStore s) (h2 : bR v2) {v3 : Int} (h3 : bR v3) : bD L xs (d + 1) 67 2 [(0, .ref s), (2, bI v2), (3, bI v3)] [] μ ((F_X6_zeroFrom_2 s v2 μ v3).bind κ) := by
  unfold F_X6_zeroFrom_2
  refine bD.ok fun hk => ?_
  refine b_s (pc' := 3) (lv1 := [(0, .ref s), (2, bI v2), (3, bI v3)]) (st' := [bI v3]) l67_2 (fun _ => rfl) ?_
  refine b_s (pc' := 4) (lv1 := [(0, .ref s), (2, bI v2), (3, bI v3)]) (st' := [bI v2, bI v3]) l67_3 (fun _ => rfl) ?_
  refine b_ige (pt := 23) l67_4 h3 h2 (by decide) rfl (fun c1 => ?_) (fun c1 => b_pc (pc' := 7) rfl ?_)
  · refine b_s (pc' := 24) (lv1 := [(0, .ref s), (2, bI v2), (3, bI v3)]) (st' := [bI (-1)]) l67_23 (fun _ => rfl) ?_
    exact b_reti l67_24 rfl (by decide) (hr _)
  · refine b_s (pc' := 8) (lv1 := [(0, .ref s), (2, bI v2), (3, bI v3)]) (st' := [.ref s]) l67_7 (fun _ => rfl) ?_
    refine b_s (pc' := 9) (lv1 := [(0, .ref s), (2, bI v2), (3, bI v3)]) (st' := [bI v3, .ref s]) l67_8 (fun _ => rfl) ?_
    refine b_cPi l67_9 rfl (b_rc (ci := 5) hs (by decide) (by decide +kernel)) (Nat.le_of_ble_eq_true rfl) (Nat.le_of_ble_eq_true rfl) rfl (r_X6_at s hs v3 h3) fun w2 hw2 => b_pc (pc' := 12) rfl ?_
    refine b_zne (pt := 17) l67_12 hw2 (by decide) rfl (fun c3 => ?_) (fun c3 => b_pc (pc' := 15) rfl ?_)
    · refine b_inc (lv' := [(0, .ref s), (2, bI v2), (3, bI (v3 + 1))]) l67_17 rfl (by decide +kernel) (bSb rfl (bSb rfl (bSb rfl bSn))) fun g4 => (b_pc (pc' := 20) rfl ?_)
      refine b_s (pc' := 2) (lv1 := [(0, .ref s), (2, bI v2), (3, bI (v3 + 1))]) (st' := []) l67_20 (fun _ => rfl) ?_
      refine bD.wk (lv' := [(0, .ref s), (2, bI v2), (3, bI (v3 + 1))]) (bSb rfl (bSb rfl (bSb rfl bSn))) ?_
      exact H2 (v3 + 1) g4
    · refine b_s (pc' := 16) (lv1 := [(0, .ref s), (2, bI v2), (3, bI v3)]) (st' := [bI v3]) l67_15 (fun _ => rfl) ?_
      exact b_reti l67_16 rfl h3 (hr _)
theorem p_X6_zeroFrom_2 {L : Nat} {xs : Nat → Int32} {d : Nat} {μ : bM} {s : Nat} {κ : (Int) → Option bX} (hr : ∀ r : Int, κ r = (bPc μ) r) (hs : bStore s) {v2 : Int} (h2 : bR v2) {v3 : Int} (h3 : bR v3) : bD L xs (d + 1) 67 2 [(0, .ref s), (2, bI v2), (3, bI v3)] [] μ ((bLoop (fun z => F_X6_zeroFrom_2 s v2 μ z) v3).bind κ) :=
  b_loop (fun z => [(0, .ref s), (2, bI v2), (3, bI z)]) (fun z => μ) (fun z => bR z) (fun κ' hκ HH z hz => q_X6_zeroFrom_2 (κ := κ') (fun r => (hκ _).trans (hr r)) (fun a3 b3 => HH a3 b3) hs h2 hz) v3 h3
theorem r_X6_zeroFrom {L : Nat} {xs : Nat → Int32} {d : Nat} {μ : bM} (s : Nat) (hs : bStore s) (v1 : Int) (h1 : bR v1) (v2 : Int) (h2 : bR v2) : bD L xs (d + 1) 67 0 [(0, .ref s), (1, bI v1), (2, bI v2)] [] μ ((F_X6_zeroFrom s v1 v2 μ).bind (bPc μ)) := by
  have hr : ∀ r, (bPc μ) r = (bPc μ) r := fun _ => rfl
  unfold F_X6_zeroFrom
  refine bD.ok fun hk => ?_
  refine b_s (pc' := 1) (lv1 := [(0, .ref s), (1, bI v1), (2, bI v2)]) (st' := [bI v1]) l67_0 (fun _ => rfl) ?_
  refine b_w (pc' := 2) (lv1 := ax_st1 [(0, .ref s), (1, bI v1), (2, bI v2)] 3 (bI v1)) (lv' := [(0, .ref s), (2, bI v2), (3, bI v1)]) (st' := []) l67_1 (fun _ => rfl) (bSb rfl (bSb rfl (bSb rfl bSn))) ?_
  refine bD.wk (lv' := [(0, .ref s), (2, bI v2), (3, bI v1)]) (bSb rfl (bSb rfl (bSb rfl bSn))) ?_
  exact p_X6_zeroFrom_2 hr hs h2 h1
/-! ET$Form.isText -/
theorem l15_0 : (ax_dt (ax_T 15)).lookup 0 = some (.iload_n 0, 1, 0, 0, 0) := by decide +kernel
theorem l15_1 : (ax_dt (ax_T 15)).lookup 1 = some (.bipush 8, 2, 0, 0, 0) := by decide +kernel
theorem l15_3 : (ax_dt (ax_T 15)).lookup 3 = some (.if_icmp .eq 9, 3, 0, 0, 0) := by decide +kernel
theorem l15_6 : (ax_dt (ax_T 15)).lookup 6 = some (.iload_n 0, 1, 0, 0, 0) := by decide +kernel
theorem l15_7 : (ax_dt (ax_T 15)).lookup 7 = some (.bipush 14, 2, 0, 0, 0) := by decide +kernel
theorem l15_9 : (ax_dt (ax_T 15)).lookup 9 = some (.if_icmp .ne 7, 3, 0, 0, 0) := by decide +kernel
theorem l15_12 : (ax_dt (ax_T 15)).lookup 12 = some (.iconst 1, 1, 0, 0, 0) := by decide +kernel
theorem l15_13 : (ax_dt (ax_T 15)).lookup 13 = some (.goto 4, 3, 0, 0, 0) := by decide +kernel
theorem l15_16 : (ax_dt (ax_T 15)).lookup 16 = some (.iconst 0, 1, 0, 0, 0) := by decide +kernel
theorem l15_17 : (ax_dt (ax_T 15)).lookup 17 = some (.ireturn, 1, 0, 0, 0) := by decide +kernel
noncomputable def F_X2_isText (v0 : Int) (μ : bM) : Option (Int) := if v0 = 8 then some (1) else if ¬ v0 = 14 then some (0) else some (1)
theorem r_X2_isText {L : Nat} {xs : Nat → Int32} {d : Nat} {μ : bM}  (v0 : Int) (h0 : bR v0) : bD L xs (d + 0) 15 0 [(0, bI v0)] [] μ ((F_X2_isText v0 μ).bind (bPc μ)) := by
  have hr : ∀ r, (bPc μ) r = (bPc μ) r := fun _ => rfl
  unfold F_X2_isText
  refine bD.ok fun hk => ?_
  refine b_s (pc' := 1) (lv1 := [(0, bI v0)]) (st' := [bI v0]) l15_0 (fun _ => rfl) ?_
  refine b_bipush l15_1 (by decide) (b_pc (pc' := 3) rfl ?_)
  refine b_ieq (pt := 12) l15_3 h0 (by decide) (by decide) rfl (fun c1 => ?_) (fun c1 => b_pc (pc' := 6) rfl ?_)
  · refine b_s (pc' := 13) (lv1 := [(0, bI v0)]) (st' := [bI 1]) l15_12 (fun _ => rfl) ?_
    refine b_s (pc' := 17) (lv1 := [(0, bI v0)]) (st' := [bI 1]) l15_13 (fun _ => rfl) ?_
    exact b_retz l15_17 rfl (by decide) (hr _)
  · refine b_s (pc' := 7) (lv1 := [(0, bI v0)]) (st' := [bI v0]) l15_6 (fun _ => rfl) ?_
    refine b_bipush l15_7 (by decide) (b_pc (pc' := 9) rfl ?_)
    refine b_ine (pt := 16) l15_9 h0 (by decide) (by decide) rfl (fun c2 => ?_) (fun c2 => b_pc (pc' := 12) rfl ?_)
    · refine b_s (pc' := 17) (lv1 := [(0, bI v0)]) (st' := [bI 0]) l15_16 (fun _ => rfl) ?_
      exact b_retz l15_17 rfl (by decide) (hr _)
    · refine b_s (pc' := 13) (lv1 := [(0, bI v0)]) (st' := [bI 1]) l15_12 (fun _ => rfl) ?_
      refine b_s (pc' := 17) (lv1 := [(0, bI v0)]) (st' := [bI 1]) l15_13 (fun _ => rfl) ?_
      exact b_retz l15_17 rfl (by decide) (hr _)
/-! ET$Form.isLetters -/
theorem l16_0 : (ax_dt (ax_T 16)).lookup 0 = some (.iload_n 0, 1, 0, 0, 0) := by decide +kernel
theorem l16_1 : (ax_dt (ax_T 16)).lookup 1 = some (.invokestatic 9, 3, 15, 1, 0) := by decide +kernel
theorem l16_4 : (ax_dt (ax_T 16)).lookup 4 = some (.ifCond .ne 9, 3, 0, 0, 0) := by decide +kernel
theorem l16_7 : (ax_dt (ax_T 16)).lookup 7 = some (.iload_n 0, 1, 0, 0, 0) := by decide +kernel
theorem l16_8 : (ax_dt (ax_T 16)).lookup 8 = some (.bipush 10, 2, 0, 0, 0) := by decide +kernel
theorem l16_10 : (ax_dt (ax_T 16)).lookup 10 = some (.if_icmp .ne 7, 3, 0, 0, 0) := by decide +kernel
theorem l16_13 : (ax_dt (ax_T 16)).lookup 13 = some (.iconst 1, 1, 0, 0, 0) := by decide +kernel
theorem l16_14 : (ax_dt (ax_T 16)).lookup 14 = some (.goto 4, 3, 0, 0, 0) := by decide +kernel
theorem l16_17 : (ax_dt (ax_T 16)).lookup 17 = some (.iconst 0, 1, 0, 0, 0) := by decide +kernel
theorem l16_18 : (ax_dt (ax_T 16)).lookup 18 = some (.ireturn, 1, 0, 0, 0) := by decide +kernel
noncomputable def F_X2_isLetters (v0 : Int) (μ : bM) : Option (Int) := (F_X2_isText v0 μ).bind fun w1 => if ¬ w1 = 0 then some (1) else if ¬ v0 = 10 then some (0) else some (1)
theorem r_X2_isLetters {L : Nat} {xs : Nat → Int32} {d : Nat} {μ : bM}  (v0 : Int) (h0 : bR v0) : bD L xs (d + 1) 16 0 [(0, bI v0)] [] μ ((F_X2_isLetters v0 μ).bind (bPc μ)) := by
  have hr : ∀ r, (bPc μ) r = (bPc μ) r := fun _ => rfl
  unfold F_X2_isLetters
  refine bD.ok fun hk => ?_
  refine b_s (pc' := 1) (lv1 := [(0, bI v0)]) (st' := [bI v0]) l16_0 (fun _ => rfl) ?_
  refine b_cPz l16_1 rfl (fun _ => trivial) (Nat.le_of_ble_eq_true rfl) (Nat.le_of_ble_eq_true rfl) rfl (r_X2_isText v0 h0) fun w1 hw1 => b_pc (pc' := 4) rfl ?_
  refine b_zne (pt := 13) l16_4 (bZ_R hw1) (by decide) rfl (fun c2 => ?_) (fun c2 => b_pc (pc' := 7) rfl ?_)
  · refine b_s (pc' := 14) (lv1 := [(0, bI v0)]) (st' := [bI 1]) l16_13 (fun _ => rfl) ?_
    refine b_s (pc' := 18) (lv1 := [(0, bI v0)]) (st' := [bI 1]) l16_14 (fun _ => rfl) ?_
    exact b_retz l16_18 rfl (by decide) (hr _)
  · refine b_s (pc' := 8) (lv1 := [(0, bI v0)]) (st' := [bI v0]) l16_7 (fun _ => rfl) ?_
    refine b_bipush l16_8 (by decide) (b_pc (pc' := 10) rfl ?_)
    refine b_ine (pt := 17) l16_10 h0 (by decide) (by decide) rfl (fun c3 => ?_) (fun c3 => b_pc (pc' := 13) rfl ?_)
    · refine b_s (pc' := 18) (lv1 := [(0, bI v0)]) (st' := [bI 0]) l16_17 (fun _ => rfl) ?_
      exact b_retz l16_18 rfl (by decide) (hr _)
    · refine b_s (pc' := 14) (lv1 := [(0, bI v0)]) (st' := [bI 1]) l16_13 (fun _ => rfl) ?_
      refine b_s (pc' := 18) (lv1 := [(0, bI v0)]) (st' := [bI 1]) l16_14 (fun _ => rfl) ?_
      exact b_retz l16_18 rfl (by decide) (hr _)
/-! ET$Form.isReference -/
theorem l17_0 : (ax_dt (ax_T 17)).lookup 0 = some (.iload_n 0, 1, 0, 0, 0) := by decide +kernel
theorem l17_1 : (ax_dt (ax_T 17)).lookup 1 = some (.bipush 19, 2, 0, 0, 0) := by decide +kernel
theorem l17_3 : (ax_dt (ax_T 17)).lookup 3 = some (.if_icmp .eq 9, 3, 0, 0, 0) := by decide +kernel
theorem l17_6 : (ax_dt (ax_T 17)).lookup 6 = some (.iload_n 0, 1, 0, 0, 0) := by decide +kernel
theorem l17_7 : (ax_dt (ax_T 17)).lookup 7 = some (.bipush 21, 2, 0, 0, 0) := by decide +kernel
theorem l17_9 : (ax_dt (ax_T 17)).lookup 9 = some (.if_icmp .ne 7, 3, 0, 0, 0) := by decide +kernel
theorem l17_12 : (ax_dt (ax_T 17)).lookup 12 = some (.iconst 1, 1, 0, 0, 0) := by decide +kernel
theorem l17_13 : (ax_dt (ax_T 17)).lookup 13 = some (.goto 4, 3, 0, 0, 0) := by decide +kernel
theorem l17_16 : (ax_dt (ax_T 17)).lookup 16 = some (.iconst 0, 1, 0, 0, 0) := by decide +kernel
theorem l17_17 : (ax_dt (ax_T 17)).lookup 17 = some (.ireturn, 1, 0, 0, 0) := by decide +kernel
noncomputable def F_X2_isReference (v0 : Int) (μ : bM) : Option (Int) := if v0 = 19 then some (1) else if ¬ v0 = 21 then some (0) else some (1)
theorem r_X2_isReference {L : Nat} {xs : Nat → Int32} {d : Nat} {μ : bM}  (v0 : Int) (h0 : bR v0) : bD L xs (d + 0) 17 0 [(0, bI v0)] [] μ ((F_X2_isReference v0 μ).bind (bPc μ)) := by
  have hr : ∀ r, (bPc μ) r = (bPc μ) r := fun _ => rfl
  unfold F_X2_isReference
  refine bD.ok fun hk => ?_
  refine b_s (pc' := 1) (lv1 := [(0, bI v0)]) (st' := [bI v0]) l17_0 (fun _ => rfl) ?_
  refine b_bipush l17_1 (by decide) (b_pc (pc' := 3) rfl ?_)
  refine b_ieq (pt := 12) l17_3 h0 (by decide) (by decide) rfl (fun c1 => ?_) (fun c1 => b_pc (pc' := 6) rfl ?_)
  · refine b_s (pc' := 13) (lv1 := [(0, bI v0)]) (st' := [bI 1]) l17_12 (fun _ => rfl) ?_
    refine b_s (pc' := 17) (lv1 := [(0, bI v0)]) (st' := [bI 1]) l17_13 (fun _ => rfl) ?_
    exact b_retz l17_17 rfl (by decide) (hr _)
  · refine b_s (pc' := 7) (lv1 := [(0, bI v0)]) (st' := [bI v0]) l17_6 (fun _ => rfl) ?_
    refine b_bipush l17_7 (by decide) (b_pc (pc' := 9) rfl ?_)
    refine b_ine (pt := 16) l17_9 h0 (by decide) (by decide) rfl (fun c2 => ?_) (fun c2 => b_pc (pc' := 12) rfl ?_)
    · refine b_s (pc' := 17) (lv1 := [(0, bI v0)]) (st' := [bI 0]) l17_16 (fun _ => rfl) ?_
      exact b_retz l17_17 rfl (by decide) (hr _)
    · refine b_s (pc' := 13) (lv1 := [(0, bI v0)]) (st' := [bI 1]) l17_12 (fun _ => rfl) ?_
      refine b_s (pc' := 17) (lv1 := [(0, bI v0)]) (st' := [bI 1]) l17_13 (fun _ => rfl) ?_
      exact b_retz l17_17 rfl (by decide) (hr _)
/-! ET$Form.isNumber -/
theorem l18_0 : (ax_dt (ax_T 18)).lookup 0 = some (.iload_n 0, 1, 0, 0, 0) := by decide +kernel
theorem l18_1 : (ax_dt (ax_T 18)).lookup 1 = some (.tableswitch 101 5 25 #[99, 99, 99, 101, 101, 101, 99, 99, 99, 101, 99, 101, 101, 101, 101, 101, 101, 101, 101, 101, 99], 99, 0, 0, 0) := by decide +kernel
theorem l18_100 : (ax_dt (ax_T 18)).lookup 100 = some (.iconst 1, 1, 0, 0, 0) := by decide +kernel
theorem l18_101 : (ax_dt (ax_T 18)).lookup 101 = some (.ireturn, 1, 0, 0, 0) := by decide +kernel
theorem l18_102 : (ax_dt (ax_T 18)).lookup 102 = some (.iconst 0, 1, 0, 0, 0) := by decide +kernel
theorem l18_103 : (ax_dt (ax_T 18)).lookup 103 = some (.ireturn, 1, 0, 0, 0) := by decide +kernel
noncomputable def F_X2_isNumber (v0 : Int) (μ : bM) : Option (Int) := if v0 = 5 then some (1) else if v0 = 6 then some (1) else if v0 = 7 then some (1) else if v0 = 8 then some (0) else if v0 = 9 then some (0) else if v0 = 10 then some (0) else if v0 = 11 then some (1) else if v0 = 12 then some (1) else if v0 = 13 then some (1) else if v0 = 14 then some (0) else if v0 = 15 then some (1) else if v0 = 16 then some (0) else if v0 = 17 then some (0) else if v0 = 18 then some (0) else if v0 = 19 then some (0) else if v0 = 20 then some (0) else if v0 = 21 then some (0) else if v0 = 22 then some (0) else if v0 = 23 then some (0) else if v0 = 24 then some (0) else if v0 = 25 then some (1) else some (0)
theorem r_X2_isNumber {L : Nat} {xs : Nat → Int32} {d : Nat} {μ : bM}  (v0 : Int) (h0 : bR v0) : bD L xs (d + 0) 18 0 [(0, bI v0)] [] μ ((F_X2_isNumber v0 μ).bind (bPc μ)) := by
  have hr : ∀ r, (bPc μ) r = (bPc μ) r := fun _ => rfl
  unfold F_X2_isNumber
  refine bD.ok fun hk => ?_
  refine b_s (pc' := 1) (lv1 := [(0, bI v0)]) (st' := [bI v0]) l18_0 (fun _ => rfl) ?_
  refine b_tsw l18_1 h0 (by decide) (by decide) (by decide) ?_
  refine b_pc (pc' := bTg [(5, 100), (6, 100), (7, 100), (8, 102), (9, 102), (10, 102), (11, 100), (12, 100), (13, 100), (14, 102), (15, 100), (16, 102), (17, 102), (18, 102), (19, 102), (20, 102), (21, 102), (22, 102), (23, 102), (24, 102), (25, 100)] 102 v0) rfl ?_
  refine b_tg (fun c21 => ?_) (fun c21 => ?_)
  · refine b_s (pc' := 101) (lv1 := [(0, bI v0)]) (st' := [bI 1]) l18_100 (fun _ => rfl) ?_
    exact b_retz l18_101 rfl (by decide) (hr _)
  · refine b_tg (fun c20 => ?_) (fun c20 => ?_)
    · refine b_s (pc' := 101) (lv1 := [(0, bI v0)]) (st' := [bI 1]) l18_100 (fun _ => rfl) ?_
      exact b_retz l18_101 rfl (by decide) (hr _)
    · refine b_tg (fun c19 => ?_) (fun c19 => ?_)
      · refine b_s (pc' := 101) (lv1 := [(0, bI v0)]) (st' := [bI 1]) l18_100 (fun _ => rfl) ?_
        exact b_retz l18_101 rfl (by decide) (hr _)
      · refine b_tg (fun c18 => ?_) (fun c18 => ?_)
        · refine b_s (pc' := 103) (lv1 := [(0, bI v0)]) (st' := [bI 0]) l18_102 (fun _ => rfl) ?_
          exact b_retz l18_103 rfl (by decide) (hr _)
        · refine b_tg (fun c17 => ?_) (fun c17 => ?_)
          · refine b_s (pc' := 103) (lv1 := [(0, bI v0)]) (st' := [bI 0]) l18_102 (fun _ => rfl) ?_
            exact b_retz l18_103 rfl (by decide) (hr _)
          · refine b_tg (fun c16 => ?_) (fun c16 => ?_)
            · refine b_s (pc' := 103) (lv1 := [(0, bI v0)]) (st' := [bI 0]) l18_102 (fun _ => rfl) ?_
              exact b_retz l18_103 rfl (by decide) (hr _)
            · refine b_tg (fun c15 => ?_) (fun c15 => ?_)
              · refine b_s (pc' := 101) (lv1 := [(0, bI v0)]) (st' := [bI 1]) l18_100 (fun _ => rfl) ?_
                exact b_retz l18_101 rfl (by decide) (hr _)
              · refine b_tg (fun c14 => ?_) (fun c14 => ?_)
                · refine b_s (pc' := 101) (lv1 := [(0, bI v0)]) (st' := [bI 1]) l18_100 (fun _ => rfl) ?_
                  exact b_retz l18_101 rfl (by decide) (hr _)
                · refine b_tg (fun c13 => ?_) (fun c13 => ?_)
                  · refine b_s (pc' := 101) (lv1 := [(0, bI v0)]) (st' := [bI 1]) l18_100 (fun _ => rfl) ?_
                    exact b_retz l18_101 rfl (by decide) (hr _)
                  · refine b_tg (fun c12 => ?_) (fun c12 => ?_)
                    · refine b_s (pc' := 103) (lv1 := [(0, bI v0)]) (st' := [bI 0]) l18_102 (fun _ => rfl) ?_
                      exact b_retz l18_103 rfl (by decide) (hr _)
                    · refine b_tg (fun c11 => ?_) (fun c11 => ?_)
                      · refine b_s (pc' := 101) (lv1 := [(0, bI v0)]) (st' := [bI 1]) l18_100 (fun _ => rfl) ?_
                        exact b_retz l18_101 rfl (by decide) (hr _)
                      · refine b_tg (fun c10 => ?_) (fun c10 => ?_)
                        · refine b_s (pc' := 103) (lv1 := [(0, bI v0)]) (st' := [bI 0]) l18_102 (fun _ => rfl) ?_
                          exact b_retz l18_103 rfl (by decide) (hr _)
                        · refine b_tg (fun c9 => ?_) (fun c9 => ?_)
                          · refine b_s (pc' := 103) (lv1 := [(0, bI v0)]) (st' := [bI 0]) l18_102 (fun _ => rfl) ?_
                            exact b_retz l18_103 rfl (by decide) (hr _)
                          · refine b_tg (fun c8 => ?_) (fun c8 => ?_)
                            · refine b_s (pc' := 103) (lv1 := [(0, bI v0)]) (st' := [bI 0]) l18_102 (fun _ => rfl) ?_
                              exact b_retz l18_103 rfl (by decide) (hr _)
                            · refine b_tg (fun c7 => ?_) (fun c7 => ?_)
                              · refine b_s (pc' := 103) (lv1 := [(0, bI v0)]) (st' := [bI 0]) l18_102 (fun _ => rfl) ?_
                                exact b_retz l18_103 rfl (by decide) (hr _)
                              · refine b_tg (fun c6 => ?_) (fun c6 => ?_)
                                · refine b_s (pc' := 103) (lv1 := [(0, bI v0)]) (st' := [bI 0]) l18_102 (fun _ => rfl) ?_
                                  exact b_retz l18_103 rfl (by decide) (hr _)
                                · refine b_tg (fun c5 => ?_) (fun c5 => ?_)
                                  · refine b_s (pc' := 103) (lv1 := [(0, bI v0)]) (st' := [bI 0]) l18_102 (fun _ => rfl) ?_
                                    exact b_retz l18_103 rfl (by decide) (hr _)
                                  · refine b_tg (fun c4 => ?_) (fun c4 => ?_)
                                    · refine b_s (pc' := 103) (lv1 := [(0, bI v0)]) (st' := [bI 0]) l18_102 (fun _ => rfl) ?_
                                      exact b_retz l18_103 rfl (by decide) (hr _)
                                    · refine b_tg (fun c3 => ?_) (fun c3 => ?_)
                                      · refine b_s (pc' := 103) (lv1 := [(0, bI v0)]) (st' := [bI 0]) l18_102 (fun _ => rfl) ?_
                                        exact b_retz l18_103 rfl (by decide) (hr _)
                                      · refine b_tg (fun c2 => ?_) (fun c2 => ?_)
                                        · refine b_s (pc' := 103) (lv1 := [(0, bI v0)]) (st' := [bI 0]) l18_102 (fun _ => rfl) ?_
                                          exact b_retz l18_103 rfl (by decide) (hr _)
                                        · refine b_tg (fun c1 => ?_) (fun c1 => ?_)
                                          · refine b_s (pc' := 101) (lv1 := [(0, bI v0)]) (st' := [bI 1]) l18_100 (fun _ => rfl) ?_
                                            exact b_retz l18_101 rfl (by decide) (hr _)
                                          · refine b_pc (pc' := 102) rfl ?_
                                            refine b_s (pc' := 103) (lv1 := [(0, bI v0)]) (st' := [bI 0]) l18_102 (fun _ => rfl) ?_
                                            exact b_retz l18_103 rfl (by decide) (hr _)
/-! ET$Form.isForm -/
theorem l19_0 : (ax_dt (ax_T 19)).lookup 0 = some (.iload_n 0, 1, 0, 0, 0) := by decide +kernel
theorem l19_1 : (ax_dt (ax_T 19)).lookup 1 = some (.invokestatic 13, 3, 18, 1, 0) := by decide +kernel
theorem l19_4 : (ax_dt (ax_T 19)).lookup 4 = some (.ifCond .ne 17, 3, 0, 0, 0) := by decide +kernel
theorem l19_7 : (ax_dt (ax_T 19)).lookup 7 = some (.iload_n 0, 1, 0, 0, 0) := by decide +kernel
theorem l19_8 : (ax_dt (ax_T 19)).lookup 8 = some (.invokestatic 16, 3, 16, 1, 0) := by decide +kernel
theorem l19_11 : (ax_dt (ax_T 19)).lookup 11 = some (.ifCond .ne 10, 3, 0, 0, 0) := by decide +kernel
theorem l19_14 : (ax_dt (ax_T 19)).lookup 14 = some (.iload_n 0, 1, 0, 0, 0) := by decide +kernel
theorem l19_15 : (ax_dt (ax_T 19)).lookup 15 = some (.invokestatic 19, 3, 17, 1, 0) := by decide +kernel
theorem l19_18 : (ax_dt (ax_T 19)).lookup 18 = some (.ifCond .eq 7, 3, 0, 0, 0) := by decide +kernel
theorem l19_21 : (ax_dt (ax_T 19)).lookup 21 = some (.iconst 1, 1, 0, 0, 0) := by decide +kernel
theorem l19_22 : (ax_dt (ax_T 19)).lookup 22 = some (.goto 4, 3, 0, 0, 0) := by decide +kernel
theorem l19_25 : (ax_dt (ax_T 19)).lookup 25 = some (.iconst 0, 1, 0, 0, 0) := by decide +kernel
theorem l19_26 : (ax_dt (ax_T 19)).lookup 26 = some (.ireturn, 1, 0, 0, 0) := by decide +kernel
noncomputable def F_X2_isForm (v0 : Int) (μ : bM) : Option (Int) := (F_X2_isNumber v0 μ).bind fun w1 => if ¬ w1 = 0 then some (1) else (F_X2_isLetters v0 μ).bind fun w3 => if ¬ w3 = 0 then some (1) else (F_X2_isReference v0 μ).bind fun w5 => if w5 = 0 then some (0) else some (1)
theorem r_X2_isForm {L : Nat} {xs : Nat → Int32} {d : Nat} {μ : bM}  (v0 : Int) (h0 : bR v0) : bD L xs (d + 2) 19 0 [(0, bI v0)] [] μ ((F_X2_isForm v0 μ).bind (bPc μ)) := by
  have hr : ∀ r, (bPc μ) r = (bPc μ) r := fun _ => rfl
  unfold F_X2_isForm
  refine bD.ok fun hk => ?_
  refine b_s (pc' := 1) (lv1 := [(0, bI v0)]) (st' := [bI v0]) l19_0 (fun _ => rfl) ?_
  refine b_cPz l19_1 rfl (fun _ => trivial) (Nat.le_of_ble_eq_true rfl) (Nat.le_of_ble_eq_true rfl) rfl (r_X2_isNumber v0 h0) fun w1 hw1 => b_pc (pc' := 4) rfl ?_
  refine b_zne (pt := 21) l19_4 (bZ_R hw1) (by decide) rfl (fun c2 => ?_) (fun c2 => b_pc (pc' := 7) rfl ?_)
  · refine b_s (pc' := 22) (lv1 := [(0, bI v0)]) (st' := [bI 1]) l19_21 (fun _ => rfl) ?_
    refine b_s (pc' := 26) (lv1 := [(0, bI v0)]) (st' := [bI 1]) l19_22 (fun _ => rfl) ?_
    exact b_retz l19_26 rfl (by decide) (hr _)
  · refine b_s (pc' := 8) (lv1 := [(0, bI v0)]) (st' := [bI v0]) l19_7 (fun _ => rfl) ?_
    refine b_cPz l19_8 rfl (fun _ => trivial) (Nat.le_of_ble_eq_true rfl) (Nat.le_of_ble_eq_true rfl) rfl (r_X2_isLetters v0 h0) fun w3 hw3 => b_pc (pc' := 11) rfl ?_
    refine b_zne (pt := 21) l19_11 (bZ_R hw3) (by decide) rfl (fun c4 => ?_) (fun c4 => b_pc (pc' := 14) rfl ?_)
    · refine b_s (pc' := 22) (lv1 := [(0, bI v0)]) (st' := [bI 1]) l19_21 (fun _ => rfl) ?_
      refine b_s (pc' := 26) (lv1 := [(0, bI v0)]) (st' := [bI 1]) l19_22 (fun _ => rfl) ?_
      exact b_retz l19_26 rfl (by decide) (hr _)
    · refine b_s (pc' := 15) (lv1 := [(0, bI v0)]) (st' := [bI v0]) l19_14 (fun _ => rfl) ?_
      refine b_cPz l19_15 rfl (fun _ => trivial) (Nat.le_of_ble_eq_true rfl) (Nat.le_of_ble_eq_true rfl) rfl (r_X2_isReference v0 h0) fun w5 hw5 => b_pc (pc' := 18) rfl ?_
      refine b_zeq (pt := 25) l19_18 (bZ_R hw5) (by decide) rfl (fun c6 => ?_) (fun c6 => b_pc (pc' := 21) rfl ?_)
      · refine b_s (pc' := 26) (lv1 := [(0, bI v0)]) (st' := [bI 0]) l19_25 (fun _ => rfl) ?_
        exact b_retz l19_26 rfl (by decide) (hr _)
      · refine b_s (pc' := 22) (lv1 := [(0, bI v0)]) (st' := [bI 1]) l19_21 (fun _ => rfl) ?_
        refine b_s (pc' := 26) (lv1 := [(0, bI v0)]) (st' := [bI 1]) l19_22 (fun _ => rfl) ?_
        exact b_retz l19_26 rfl (by decide) (hr _)
/-! ET$Form.holds -/
theorem l20_0 : (ax_dt (ax_T 20)).lookup 0 = some (.iload_n 0, 1, 0, 0, 0) := by decide +kernel
theorem l20_1 : (ax_dt (ax_T 20)).lookup 1 = some (.lookupswitch 161 #[(5, 79), (6, 99), (11, 59), (12, 131), (15, 119), (25, 149)], 59, 0, 0, 0) := by decide +kernel
theorem l20_60 : (ax_dt (ax_T 20)).lookup 60 = some (.lload_n 1, 1, 0, 0, 0) := by decide +kernel
theorem l20_61 : (ax_dt (ax_T 20)).lookup 61 = some (.lconst 0, 1, 0, 0, 0) := by decide +kernel
theorem l20_62 : (ax_dt (ax_T 20)).lookup 62 = some (.lcmp, 1, 0, 0, 0) := by decide +kernel
theorem l20_63 : (ax_dt (ax_T 20)).lookup 63 = some (.ifCond .lt 15, 3, 0, 0, 0) := by decide +kernel
theorem l20_66 : (ax_dt (ax_T 20)).lookup 66 = some (.lload_n 1, 1, 0, 0, 0) := by decide +kernel
theorem l20_67 : (ax_dt (ax_T 20)).lookup 67 = some (.ldc2_w 22, 3, 0, 0, 255) := by decide +kernel
theorem l20_70 : (ax_dt (ax_T 20)).lookup 70 = some (.lcmp, 1, 0, 0, 0) := by decide +kernel
theorem l20_71 : (ax_dt (ax_T 20)).lookup 71 = some (.ifCond .gt 7, 3, 0, 0, 0) := by decide +kernel
theorem l20_74 : (ax_dt (ax_T 20)).lookup 74 = some (.iconst 1, 1, 0, 0, 0) := by decide +kernel
theorem l20_75 : (ax_dt (ax_T 20)).lookup 75 = some (.goto 4, 3, 0, 0, 0) := by decide +kernel
theorem l20_78 : (ax_dt (ax_T 20)).lookup 78 = some (.iconst 0, 1, 0, 0, 0) := by decide +kernel
theorem l20_79 : (ax_dt (ax_T 20)).lookup 79 = some (.ireturn, 1, 0, 0, 0) := by decide +kernel
theorem l20_80 : (ax_dt (ax_T 20)).lookup 80 = some (.lload_n 1, 1, 0, 0, 0) := by decide +kernel
theorem l20_81 : (ax_dt (ax_T 20)).lookup 81 = some (.lconst 0, 1, 0, 0, 0) := by decide +kernel
theorem l20_82 : (ax_dt (ax_T 20)).lookup 82 = some (.lcmp, 1, 0, 0, 0) := by decide +kernel
theorem l20_83 : (ax_dt (ax_T 20)).lookup 83 = some (.ifCond .lt 15, 3, 0, 0, 0) := by decide +kernel
theorem l20_86 : (ax_dt (ax_T 20)).lookup 86 = some (.lload_n 1, 1, 0, 0, 0) := by decide +kernel
theorem l20_87 : (ax_dt (ax_T 20)).lookup 87 = some (.ldc2_w 24, 3, 0, 0, 65535) := by decide +kernel
theorem l20_90 : (ax_dt (ax_T 20)).lookup 90 = some (.lcmp, 1, 0, 0, 0) := by decide +kernel
theorem l20_91 : (ax_dt (ax_T 20)).lookup 91 = some (.ifCond .gt 7, 3, 0, 0, 0) := by decide +kernel
theorem l20_94 : (ax_dt (ax_T 20)).lookup 94 = some (.iconst 1, 1, 0, 0, 0) := by decide +kernel
theorem l20_95 : (ax_dt (ax_T 20)).lookup 95 = some (.goto 4, 3, 0, 0, 0) := by decide +kernel
theorem l20_98 : (ax_dt (ax_T 20)).lookup 98 = some (.iconst 0, 1, 0, 0, 0) := by decide +kernel
theorem l20_99 : (ax_dt (ax_T 20)).lookup 99 = some (.ireturn, 1, 0, 0, 0) := by decide +kernel
theorem l20_100 : (ax_dt (ax_T 20)).lookup 100 = some (.lload_n 1, 1, 0, 0, 0) := by decide +kernel
theorem l20_101 : (ax_dt (ax_T 20)).lookup 101 = some (.lconst 0, 1, 0, 0, 0) := by decide +kernel
theorem l20_102 : (ax_dt (ax_T 20)).lookup 102 = some (.lcmp, 1, 0, 0, 0) := by decide +kernel
theorem l20_103 : (ax_dt (ax_T 20)).lookup 103 = some (.ifCond .lt 15, 3, 0, 0, 0) := by decide +kernel
theorem l20_106 : (ax_dt (ax_T 20)).lookup 106 = some (.lload_n 1, 1, 0, 0, 0) := by decide +kernel
theorem l20_107 : (ax_dt (ax_T 20)).lookup 107 = some (.ldc2_w 26, 3, 0, 0, 4294967295) := by decide +kernel
theorem l20_110 : (ax_dt (ax_T 20)).lookup 110 = some (.lcmp, 1, 0, 0, 0) := by decide +kernel
theorem l20_111 : (ax_dt (ax_T 20)).lookup 111 = some (.ifCond .gt 7, 3, 0, 0, 0) := by decide +kernel
theorem l20_114 : (ax_dt (ax_T 20)).lookup 114 = some (.iconst 1, 1, 0, 0, 0) := by decide +kernel
theorem l20_115 : (ax_dt (ax_T 20)).lookup 115 = some (.goto 4, 3, 0, 0, 0) := by decide +kernel
theorem l20_118 : (ax_dt (ax_T 20)).lookup 118 = some (.iconst 0, 1, 0, 0, 0) := by decide +kernel
theorem l20_119 : (ax_dt (ax_T 20)).lookup 119 = some (.ireturn, 1, 0, 0, 0) := by decide +kernel
theorem l20_120 : (ax_dt (ax_T 20)).lookup 120 = some (.lload_n 1, 1, 0, 0, 0) := by decide +kernel
theorem l20_121 : (ax_dt (ax_T 20)).lookup 121 = some (.lconst 0, 1, 0, 0, 0) := by decide +kernel
theorem l20_122 : (ax_dt (ax_T 20)).lookup 122 = some (.lcmp, 1, 0, 0, 0) := by decide +kernel
theorem l20_123 : (ax_dt (ax_T 20)).lookup 123 = some (.ifCond .lt 7, 3, 0, 0, 0) := by decide +kernel
theorem l20_126 : (ax_dt (ax_T 20)).lookup 126 = some (.iconst 1, 1, 0, 0, 0) := by decide +kernel
theorem l20_127 : (ax_dt (ax_T 20)).lookup 127 = some (.goto 4, 3, 0, 0, 0) := by decide +kernel
theorem l20_130 : (ax_dt (ax_T 20)).lookup 130 = some (.iconst 0, 1, 0, 0, 0) := by decide +kernel
theorem l20_131 : (ax_dt (ax_T 20)).lookup 131 = some (.ireturn, 1, 0, 0, 0) := by decide +kernel
theorem l20_132 : (ax_dt (ax_T 20)).lookup 132 = some (.lload_n 1, 1, 0, 0, 0) := by decide +kernel
theorem l20_133 : (ax_dt (ax_T 20)).lookup 133 = some (.lconst 0, 1, 0, 0, 0) := by decide +kernel
theorem l20_134 : (ax_dt (ax_T 20)).lookup 134 = some (.lcmp, 1, 0, 0, 0) := by decide +kernel
theorem l20_135 : (ax_dt (ax_T 20)).lookup 135 = some (.ifCond .eq 9, 3, 0, 0, 0) := by decide +kernel
theorem l20_138 : (ax_dt (ax_T 20)).lookup 138 = some (.lload_n 1, 1, 0, 0, 0) := by decide +kernel
theorem l20_139 : (ax_dt (ax_T 20)).lookup 139 = some (.lconst 1, 1, 0, 0, 0) := by decide +kernel
theorem l20_140 : (ax_dt (ax_T 20)).lookup 140 = some (.lcmp, 1, 0, 0, 0) := by decide +kernel
theorem l20_141 : (ax_dt (ax_T 20)).lookup 141 = some (.ifCond .ne 7, 3, 0, 0, 0) := by decide +kernel
theorem l20_144 : (ax_dt (ax_T 20)).lookup 144 = some (.iconst 1, 1, 0, 0, 0) := by decide +kernel
theorem l20_145 : (ax_dt (ax_T 20)).lookup 145 = some (.goto 4, 3, 0, 0, 0) := by decide +kernel
theorem l20_148 : (ax_dt (ax_T 20)).lookup 148 = some (.iconst 0, 1, 0, 0, 0) := by decide +kernel
theorem l20_149 : (ax_dt (ax_T 20)).lookup 149 = some (.ireturn, 1, 0, 0, 0) := by decide +kernel
theorem l20_150 : (ax_dt (ax_T 20)).lookup 150 = some (.lload_n 1, 1, 0, 0, 0) := by decide +kernel
theorem l20_151 : (ax_dt (ax_T 20)).lookup 151 = some (.lconst 1, 1, 0, 0, 0) := by decide +kernel
theorem l20_152 : (ax_dt (ax_T 20)).lookup 152 = some (.lcmp, 1, 0, 0, 0) := by decide +kernel
theorem l20_153 : (ax_dt (ax_T 20)).lookup 153 = some (.ifCond .ne 7, 3, 0, 0, 0) := by decide +kernel
theorem l20_156 : (ax_dt (ax_T 20)).lookup 156 = some (.iconst 1, 1, 0, 0, 0) := by decide +kernel
theorem l20_157 : (ax_dt (ax_T 20)).lookup 157 = some (.goto 4, 3, 0, 0, 0) := by decide +kernel
theorem l20_160 : (ax_dt (ax_T 20)).lookup 160 = some (.iconst 0, 1, 0, 0, 0) := by decide +kernel
theorem l20_161 : (ax_dt (ax_T 20)).lookup 161 = some (.ireturn, 1, 0, 0, 0) := by decide +kernel
theorem l20_162 : (ax_dt (ax_T 20)).lookup 162 = some (.iconst 1, 1, 0, 0, 0) := by decide +kernel
theorem l20_163 : (ax_dt (ax_T 20)).lookup 163 = some (.ireturn, 1, 0, 0, 0) := by decide +kernel
noncomputable def F_X2_holds (v0 : Int) (v1 : Int) (μ : bM) : Option (Int) := if v0 = 5 then if (bCmp v1 0) < 0 then some (0) else if 0 < (bCmp v1 65535) then some (0) else some (1) else if v0 = 6 then if (bCmp v1 0) < 0 then some (0) else if 0 < (bCmp v1 4294967295) then some (0) else some (1) else if v0 = 11 then if (bCmp v1 0) < 0 then some (0) else if 0 < (bCmp v1 255) then some (0) else some (1) else if v0 = 12 then if (bCmp v1 0) = 0 then some (1) else if ¬ (bCmp v1 1) = 0 then some (0) else some (1) else if v0 = 15 then if (bCmp v1 0) < 0 then some (0) else some (1) else if v0 = 25 then if ¬ (bCmp v1 1) = 0 then some (0) else some (1) else some (1)
theorem r_X2_holds {L : Nat} {xs : Nat → Int32} {d : Nat} {μ : bM}  (v0 : Int) (h0 : bR v0) (v1 : Int) (h1 : bRL v1) : bD L xs (d + 0) 20 0 [(0, bI v0), (1, bLg v1)] [] μ ((F_X2_holds v0 v1 μ).bind (bPc μ)) := by
  have hr : ∀ r, (bPc μ) r = (bPc μ) r := fun _ => rfl
  unfold F_X2_holds
  refine bD.ok fun hk => ?_
  refine b_s (pc' := 1) (lv1 := [(0, bI v0), (1, bLg v1)]) (st' := [bI v0]) l20_0 (fun _ => rfl) ?_
  refine b_lsw l20_1 h0 (by decide) (by decide) (by decide) ?_
  refine b_pc (pc' := bTg [(5, 80), (6, 100), (11, 60), (12, 132), (15, 120), (25, 150)] 162 v0) rfl ?_
  refine b_tg (fun c16 => ?_) (fun c16 => ?_)
  · refine b_s (pc' := 81) (lv1 := [(0, bI v0), (1, bLg v1)]) (st' := [bLg v1]) l20_80 (fun _ => rfl) ?_
    refine b_lconst (e := 0) l20_81 (by decide) (b_pc (pc' := 82) rfl ?_)
    refine b_lcmp l20_82 h1 (by decide) (b_pc (pc' := 83) rfl ?_)
    refine b_zlt (pt := 98) l20_83 (bCmp_R _ _) (by decide) rfl (fun c1 => ?_) (fun c1 => b_pc (pc' := 86) rfl ?_)
    · refine b_s (pc' := 99) (lv1 := [(0, bI v0), (1, bLg v1)]) (st' := [bI 0]) l20_98 (fun _ => rfl) ?_
      exact b_retz l20_99 rfl (by decide) (hr _)
    · refine b_s (pc' := 87) (lv1 := [(0, bI v0), (1, bLg v1)]) (st' := [bLg v1]) l20_86 (fun _ => rfl) ?_
      refine b_s (pc' := 90) (lv1 := [(0, bI v0), (1, bLg v1)]) (st' := [bLg 65535, bLg v1]) l20_87 (fun _ => rfl) ?_
      refine b_lcmp l20_90 h1 (by decide) (b_pc (pc' := 91) rfl ?_)
      refine b_zgt (pt := 98) l20_91 (bCmp_R _ _) (by decide) rfl (fun c2 => ?_) (fun c2 => b_pc (pc' := 94) rfl ?_)
      · refine b_s (pc' := 99) (lv1 := [(0, bI v0), (1, bLg v1)]) (st' := [bI 0]) l20_98 (fun _ => rfl) ?_
        exact b_retz l20_99 rfl (by decide) (hr _)
      · refine b_s (pc' := 95) (lv1 := [(0, bI v0), (1, bLg v1)]) (st' := [bI 1]) l20_94 (fun _ => rfl) ?_
        refine b_s (pc' := 99) (lv1 := [(0, bI v0), (1, bLg v1)]) (st' := [bI 1]) l20_95 (fun _ => rfl) ?_
        exact b_retz l20_99 rfl (by decide) (hr _)
  · refine b_tg (fun c15 => ?_) (fun c15 => ?_)
    · refine b_s (pc' := 101) (lv1 := [(0, bI v0), (1, bLg v1)]) (st' := [bLg v1]) l20_100 (fun _ => rfl) ?_
      refine b_lconst (e := 0) l20_101 (by decide) (b_pc (pc' := 102) rfl ?_)
      refine b_lcmp l20_102 h1 (by decide) (b_pc (pc' := 103) rfl ?_)
      refine b_zlt (pt := 118) l20_103 (bCmp_R _ _) (by decide) rfl (fun c3 => ?_) (fun c3 => b_pc (pc' := 106) rfl ?_)
      · refine b_s (pc' := 119) (lv1 := [(0, bI v0), (1, bLg v1)]) (st' := [bI 0]) l20_118 (fun _ => rfl) ?_
        exact b_retz l20_119 rfl (by decide) (hr _)
      · refine b_s (pc' := 107) (lv1 := [(0, bI v0), (1, bLg v1)]) (st' := [bLg v1]) l20_106 (fun _ => rfl) ?_
        refine b_s (pc' := 110) (lv1 := [(0, bI v0), (1, bLg v1)]) (st' := [bLg 4294967295, bLg v1]) l20_107 (fun _ => rfl) ?_
        refine b_lcmp l20_110 h1 (by decide) (b_pc (pc' := 111) rfl ?_)
        refine b_zgt (pt := 118) l20_111 (bCmp_R _ _) (by decide) rfl (fun c4 => ?_) (fun c4 => b_pc (pc' := 114) rfl ?_)
        · refine b_s (pc' := 119) (lv1 := [(0, bI v0), (1, bLg v1)]) (st' := [bI 0]) l20_118 (fun _ => rfl) ?_
          exact b_retz l20_119 rfl (by decide) (hr _)
        · refine b_s (pc' := 115) (lv1 := [(0, bI v0), (1, bLg v1)]) (st' := [bI 1]) l20_114 (fun _ => rfl) ?_
          refine b_s (pc' := 119) (lv1 := [(0, bI v0), (1, bLg v1)]) (st' := [bI 1]) l20_115 (fun _ => rfl) ?_
          exact b_retz l20_119 rfl (by decide) (hr _)
    · refine b_tg (fun c14 => ?_) (fun c14 => ?_)
      · refine b_s (pc' := 61) (lv1 := [(0, bI v0), (1, bLg v1)]) (st' := [bLg v1]) l20_60 (fun _ => rfl) ?_
        refine b_lconst (e := 0) l20_61 (by decide) (b_pc (pc' := 62) rfl ?_)
        refine b_lcmp l20_62 h1 (by decide) (b_pc (pc' := 63) rfl ?_)
        refine b_zlt (pt := 78) l20_63 (bCmp_R _ _) (by decide) rfl (fun c5 => ?_) (fun c5 => b_pc (pc' := 66) rfl ?_)
        · refine b_s (pc' := 79) (lv1 := [(0, bI v0), (1, bLg v1)]) (st' := [bI 0]) l20_78 (fun _ => rfl) ?_
          exact b_retz l20_79 rfl (by decide) (hr _)
        · refine b_s (pc' := 67) (lv1 := [(0, bI v0), (1, bLg v1)]) (st' := [bLg v1]) l20_66 (fun _ => rfl) ?_
          refine b_s (pc' := 70) (lv1 := [(0, bI v0), (1, bLg v1)]) (st' := [bLg 255, bLg v1]) l20_67 (fun _ => rfl) ?_
          refine b_lcmp l20_70 h1 (by decide) (b_pc (pc' := 71) rfl ?_)
          refine b_zgt (pt := 78) l20_71 (bCmp_R _ _) (by decide) rfl (fun c6 => ?_) (fun c6 => b_pc (pc' := 74) rfl ?_)
          · refine b_s (pc' := 79) (lv1 := [(0, bI v0), (1, bLg v1)]) (st' := [bI 0]) l20_78 (fun _ => rfl) ?_
            exact b_retz l20_79 rfl (by decide) (hr _)
          · refine b_s (pc' := 75) (lv1 := [(0, bI v0), (1, bLg v1)]) (st' := [bI 1]) l20_74 (fun _ => rfl) ?_
            refine b_s (pc' := 79) (lv1 := [(0, bI v0), (1, bLg v1)]) (st' := [bI 1]) l20_75 (fun _ => rfl) ?_
            exact b_retz l20_79 rfl (by decide) (hr _)
      · refine b_tg (fun c13 => ?_) (fun c13 => ?_)
        · refine b_s (pc' := 133) (lv1 := [(0, bI v0), (1, bLg v1)]) (st' := [bLg v1]) l20_132 (fun _ => rfl) ?_
          refine b_lconst (e := 0) l20_133 (by decide) (b_pc (pc' := 134) rfl ?_)
          refine b_lcmp l20_134 h1 (by decide) (b_pc (pc' := 135) rfl ?_)
          refine b_zeq (pt := 144) l20_135 (bCmp_R _ _) (by decide) rfl (fun c7 => ?_) (fun c7 => b_pc (pc' := 138) rfl ?_)
          · refine b_s (pc' := 145) (lv1 := [(0, bI v0), (1, bLg v1)]) (st' := [bI 1]) l20_144 (fun _ => rfl) ?_
            refine b_s (pc' := 149) (lv1 := [(0, bI v0), (1, bLg v1)]) (st' := [bI 1]) l20_145 (fun _ => rfl) ?_
            exact b_retz l20_149 rfl (by decide) (hr _)
          · refine b_s (pc' := 139) (lv1 := [(0, bI v0), (1, bLg v1)]) (st' := [bLg v1]) l20_138 (fun _ => rfl) ?_
            refine b_lconst (e := 1) l20_139 (by decide) (b_pc (pc' := 140) rfl ?_)
            refine b_lcmp l20_140 h1 (by decide) (b_pc (pc' := 141) rfl ?_)
            refine b_zne (pt := 148) l20_141 (bCmp_R _ _) (by decide) rfl (fun c8 => ?_) (fun c8 => b_pc (pc' := 144) rfl ?_)
            · refine b_s (pc' := 149) (lv1 := [(0, bI v0), (1, bLg v1)]) (st' := [bI 0]) l20_148 (fun _ => rfl) ?_
              exact b_retz l20_149 rfl (by decide) (hr _)
            · refine b_s (pc' := 145) (lv1 := [(0, bI v0), (1, bLg v1)]) (st' := [bI 1]) l20_144 (fun _ => rfl) ?_
              refine b_s (pc' := 149) (lv1 := [(0, bI v0), (1, bLg v1)]) (st' := [bI 1]) l20_145 (fun _ => rfl) ?_
              exact b_retz l20_149 rfl (by decide) (hr _)
        · refine b_tg (fun c12 => ?_) (fun c12 => ?_)
          · refine b_s (pc' := 121) (lv1 := [(0, bI v0), (1, bLg v1)]) (st' := [bLg v1]) l20_120 (fun _ => rfl) ?_
            refine b_lconst (e := 0) l20_121 (by decide) (b_pc (pc' := 122) rfl ?_)
            refine b_lcmp l20_122 h1 (by decide) (b_pc (pc' := 123) rfl ?_)
            refine b_zlt (pt := 130) l20_123 (bCmp_R _ _) (by decide) rfl (fun c9 => ?_) (fun c9 => b_pc (pc' := 126) rfl ?_)
            · refine b_s (pc' := 131) (lv1 := [(0, bI v0), (1, bLg v1)]) (st' := [bI 0]) l20_130 (fun _ => rfl) ?_
              exact b_retz l20_131 rfl (by decide) (hr _)
            · refine b_s (pc' := 127) (lv1 := [(0, bI v0), (1, bLg v1)]) (st' := [bI 1]) l20_126 (fun _ => rfl) ?_
              refine b_s (pc' := 131) (lv1 := [(0, bI v0), (1, bLg v1)]) (st' := [bI 1]) l20_127 (fun _ => rfl) ?_
              exact b_retz l20_131 rfl (by decide) (hr _)
          · refine b_tg (fun c11 => ?_) (fun c11 => ?_)
            · refine b_s (pc' := 151) (lv1 := [(0, bI v0), (1, bLg v1)]) (st' := [bLg v1]) l20_150 (fun _ => rfl) ?_
              refine b_lconst (e := 1) l20_151 (by decide) (b_pc (pc' := 152) rfl ?_)
              refine b_lcmp l20_152 h1 (by decide) (b_pc (pc' := 153) rfl ?_)
              refine b_zne (pt := 160) l20_153 (bCmp_R _ _) (by decide) rfl (fun c10 => ?_) (fun c10 => b_pc (pc' := 156) rfl ?_)
              · refine b_s (pc' := 161) (lv1 := [(0, bI v0), (1, bLg v1)]) (st' := [bI 0]) l20_160 (fun _ => rfl) ?_
                exact b_retz l20_161 rfl (by decide) (hr _)
              · refine b_s (pc' := 157) (lv1 := [(0, bI v0), (1, bLg v1)]) (st' := [bI 1]) l20_156 (fun _ => rfl) ?_
                refine b_s (pc' := 161) (lv1 := [(0, bI v0), (1, bLg v1)]) (st' := [bI 1]) l20_157 (fun _ => rfl) ?_
                exact b_retz l20_161 rfl (by decide) (hr _)
            · refine b_pc (pc' := 162) rfl ?_
              refine b_s (pc' := 163) (lv1 := [(0, bI v0), (1, bLg v1)]) (st' := [bI 1]) l20_162 (fun _ => rfl) ?_
              exact b_retz l20_163 rfl (by decide) (hr _)
/-! ET$Form.width -/
theorem l21_0 : (ax_dt (ax_T 21)).lookup 0 = some (.iload_n 0, 1, 0, 0, 0) := by decide +kernel
theorem l21_1 : (ax_dt (ax_T 21)).lookup 1 = some (.tableswitch 84 5 19 #[77, 79, 81, 84, 84, 84, 75, 75, 84, 79, 84, 84, 84, 84, 79], 75, 0, 0, 0) := by decide +kernel
theorem l21_76 : (ax_dt (ax_T 21)).lookup 76 = some (.iconst 1, 1, 0, 0, 0) := by decide +kernel
theorem l21_77 : (ax_dt (ax_T 21)).lookup 77 = some (.ireturn, 1, 0, 0, 0) := by decide +kernel
theorem l21_78 : (ax_dt (ax_T 21)).lookup 78 = some (.iconst 2, 1, 0, 0, 0) := by decide +kernel
theorem l21_79 : (ax_dt (ax_T 21)).lookup 79 = some (.ireturn, 1, 0, 0, 0) := by decide +kernel
theorem l21_80 : (ax_dt (ax_T 21)).lookup 80 = some (.iconst 4, 1, 0, 0, 0) := by decide +kernel
theorem l21_81 : (ax_dt (ax_T 21)).lookup 81 = some (.ireturn, 1, 0, 0, 0) := by decide +kernel
theorem l21_82 : (ax_dt (ax_T 21)).lookup 82 = some (.bipush 8, 2, 0, 0, 0) := by decide +kernel
theorem l21_84 : (ax_dt (ax_T 21)).lookup 84 = some (.ireturn, 1, 0, 0, 0) := by decide +kernel
theorem l21_85 : (ax_dt (ax_T 21)).lookup 85 = some (.iconst 0, 1, 0, 0, 0) := by decide +kernel
theorem l21_86 : (ax_dt (ax_T 21)).lookup 86 = some (.ireturn, 1, 0, 0, 0) := by decide +kernel
noncomputable def F_X2_width (v0 : Int) (μ : bM) : Option (Int) := if v0 = 5 then some (2) else if v0 = 6 then some (4) else if v0 = 7 then some (8) else if v0 = 8 then some (0) else if v0 = 9 then some (0) else if v0 = 10 then some (0) else if v0 = 11 then some (1) else if v0 = 12 then some (1) else if v0 = 13 then some (0) else if v0 = 14 then some (4) else if v0 = 15 then some (0) else if v0 = 16 then some (0) else if v0 = 17 then some (0) else if v0 = 18 then some (0) else if v0 = 19 then some (4) else some (0)
theorem r_X2_width {L : Nat} {xs : Nat → Int32} {d : Nat} {μ : bM}  (v0 : Int) (h0 : bR v0) : bD L xs (d + 0) 21 0 [(0, bI v0)] [] μ ((F_X2_width v0 μ).bind (bPc μ)) := by
  have hr : ∀ r, (bPc μ) r = (bPc μ) r := fun _ => rfl
  unfold F_X2_width
  refine bD.ok fun hk => ?_
  refine b_s (pc' := 1) (lv1 := [(0, bI v0)]) (st' := [bI v0]) l21_0 (fun _ => rfl) ?_
  refine b_tsw l21_1 h0 (by decide) (by decide) (by decide) ?_
  refine b_pc (pc' := bTg [(5, 78), (6, 80), (7, 82), (8, 85), (9, 85), (10, 85), (11, 76), (12, 76), (13, 85), (14, 80), (15, 85), (16, 85), (17, 85), (18, 85), (19, 80)] 85 v0) rfl ?_
  refine b_tg (fun c15 => ?_) (fun c15 => ?_)
  · refine b_s (pc' := 79) (lv1 := [(0, bI v0)]) (st' := [bI 2]) l21_78 (fun _ => rfl) ?_
    exact b_reti l21_79 rfl (by decide) (hr _)
  · refine b_tg (fun c14 => ?_) (fun c14 => ?_)
    · refine b_s (pc' := 81) (lv1 := [(0, bI v0)]) (st' := [bI 4]) l21_80 (fun _ => rfl) ?_
      exact b_reti l21_81 rfl (by decide) (hr _)
    · refine b_tg (fun c13 => ?_) (fun c13 => ?_)
      · refine b_bipush l21_82 (by decide) (b_pc (pc' := 84) rfl ?_)
        exact b_reti l21_84 rfl (by decide) (hr _)
      · refine b_tg (fun c12 => ?_) (fun c12 => ?_)
        · refine b_s (pc' := 86) (lv1 := [(0, bI v0)]) (st' := [bI 0]) l21_85 (fun _ => rfl) ?_
          exact b_reti l21_86 rfl (by decide) (hr _)
        · refine b_tg (fun c11 => ?_) (fun c11 => ?_)
          · refine b_s (pc' := 86) (lv1 := [(0, bI v0)]) (st' := [bI 0]) l21_85 (fun _ => rfl) ?_
            exact b_reti l21_86 rfl (by decide) (hr _)
          · refine b_tg (fun c10 => ?_) (fun c10 => ?_)
            · refine b_s (pc' := 86) (lv1 := [(0, bI v0)]) (st' := [bI 0]) l21_85 (fun _ => rfl) ?_
              exact b_reti l21_86 rfl (by decide) (hr _)
            · refine b_tg (fun c9 => ?_) (fun c9 => ?_)
              · refine b_s (pc' := 77) (lv1 := [(0, bI v0)]) (st' := [bI 1]) l21_76 (fun _ => rfl) ?_
                exact b_reti l21_77 rfl (by decide) (hr _)
              · refine b_tg (fun c8 => ?_) (fun c8 => ?_)
                · refine b_s (pc' := 77) (lv1 := [(0, bI v0)]) (st' := [bI 1]) l21_76 (fun _ => rfl) ?_
                  exact b_reti l21_77 rfl (by decide) (hr _)
                · refine b_tg (fun c7 => ?_) (fun c7 => ?_)
                  · refine b_s (pc' := 86) (lv1 := [(0, bI v0)]) (st' := [bI 0]) l21_85 (fun _ => rfl) ?_
                    exact b_reti l21_86 rfl (by decide) (hr _)
                  · refine b_tg (fun c6 => ?_) (fun c6 => ?_)
                    · refine b_s (pc' := 81) (lv1 := [(0, bI v0)]) (st' := [bI 4]) l21_80 (fun _ => rfl) ?_
                      exact b_reti l21_81 rfl (by decide) (hr _)
                    · refine b_tg (fun c5 => ?_) (fun c5 => ?_)
                      · refine b_s (pc' := 86) (lv1 := [(0, bI v0)]) (st' := [bI 0]) l21_85 (fun _ => rfl) ?_
                        exact b_reti l21_86 rfl (by decide) (hr _)
                      · refine b_tg (fun c4 => ?_) (fun c4 => ?_)
                        · refine b_s (pc' := 86) (lv1 := [(0, bI v0)]) (st' := [bI 0]) l21_85 (fun _ => rfl) ?_
                          exact b_reti l21_86 rfl (by decide) (hr _)
                        · refine b_tg (fun c3 => ?_) (fun c3 => ?_)
                          · refine b_s (pc' := 86) (lv1 := [(0, bI v0)]) (st' := [bI 0]) l21_85 (fun _ => rfl) ?_
                            exact b_reti l21_86 rfl (by decide) (hr _)
                          · refine b_tg (fun c2 => ?_) (fun c2 => ?_)
                            · refine b_s (pc' := 86) (lv1 := [(0, bI v0)]) (st' := [bI 0]) l21_85 (fun _ => rfl) ?_
                              exact b_reti l21_86 rfl (by decide) (hr _)
                            · refine b_tg (fun c1 => ?_) (fun c1 => ?_)
                              · refine b_s (pc' := 81) (lv1 := [(0, bI v0)]) (st' := [bI 4]) l21_80 (fun _ => rfl) ?_
                                exact b_reti l21_81 rfl (by decide) (hr _)
                              · refine b_pc (pc' := 85) rfl ?_
                                refine b_s (pc' := 86) (lv1 := [(0, bI v0)]) (st' := [bI 0]) l21_85 (fun _ => rfl) ?_
                                exact b_reti l21_86 rfl (by decide) (hr _)
/-! ET$Store.rowSize -/
theorem l68_0 : (ax_dt (ax_T 68)).lookup 0 = some (.iconst 1, 1, 0, 0, 0) := by decide +kernel
theorem l68_1 : (ax_dt (ax_T 68)).lookup 1 = some (.istore_n 2, 1, 0, 0, 0) := by decide +kernel
theorem l68_2 : (ax_dt (ax_T 68)).lookup 2 = some (.lload_n 0, 1, 0, 0, 0) := by decide +kernel
theorem l68_3 : (ax_dt (ax_T 68)).lookup 3 = some (.bipush 7, 2, 0, 0, 0) := by decide +kernel
theorem l68_5 : (ax_dt (ax_T 68)).lookup 5 = some (.lushr, 1, 0, 0, 0) := by decide +kernel
theorem l68_6 : (ax_dt (ax_T 68)).lookup 6 = some (.lstore_n 3, 1, 0, 0, 0) := by decide +kernel
theorem l68_7 : (ax_dt (ax_T 68)).lookup 7 = some (.lload_n 3, 1, 0, 0, 0) := by decide +kernel
theorem l68_8 : (ax_dt (ax_T 68)).lookup 8 = some (.lconst 0, 1, 0, 0, 0) := by decide +kernel
theorem l68_9 : (ax_dt (ax_T 68)).lookup 9 = some (.lcmp, 1, 0, 0, 0) := by decide +kernel
theorem l68_10 : (ax_dt (ax_T 68)).lookup 10 = some (.ifCond .eq 20, 3, 0, 0, 0) := by decide +kernel
theorem l68_13 : (ax_dt (ax_T 68)).lookup 13 = some (.iload_n 2, 1, 0, 0, 0) := by decide +kernel
theorem l68_14 : (ax_dt (ax_T 68)).lookup 14 = some (.bipush 10, 2, 0, 0, 0) := by decide +kernel
theorem l68_16 : (ax_dt (ax_T 68)).lookup 16 = some (.if_icmp .ge 14, 3, 0, 0, 0) := by decide +kernel
theorem l68_19 : (ax_dt (ax_T 68)).lookup 19 = some (.iinc 2 1, 3, 0, 0, 0) := by decide +kernel
theorem l68_22 : (ax_dt (ax_T 68)).lookup 22 = some (.lload_n 3, 1, 0, 0, 0) := by decide +kernel
theorem l68_23 : (ax_dt (ax_T 68)).lookup 23 = some (.bipush 7, 2, 0, 0, 0) := by decide +kernel
theorem l68_25 : (ax_dt (ax_T 68)).lookup 25 = some (.lushr, 1, 0, 0, 0) := by decide +kernel
theorem l68_26 : (ax_dt (ax_T 68)).lookup 26 = some (.lstore_n 3, 1, 0, 0, 0) := by decide +kernel
theorem l68_27 : (ax_dt (ax_T 68)).lookup 27 = some (.goto (-20), 3, 0, 0, 0) := by decide +kernel
theorem l68_30 : (ax_dt (ax_T 68)).lookup 30 = some (.iload_n 2, 1, 0, 0, 0) := by decide +kernel
theorem l68_31 : (ax_dt (ax_T 68)).lookup 31 = some (.ireturn, 1, 0, 0, 0) := by decide +kernel
noncomputable def F_X6_rowSize_7 (μ : bM) (v2 : Int) (v3 : Int) : Option ((Int × Int) ⊕ (Int)) := if (bCmp v3 0) = 0 then some (.inr (v2)) else if 10 ≤ v2 then some (.inr (v2)) else bG (bR (v2 + 1)) (some (.inl ((v2 + 1), (bUshrL v3 7))))
noncomputable def F_X6_rowSize (v0 : Int) (μ : bM) : Option (Int) := bLoop (fun z => F_X6_rowSize_7 μ z.1 z.2) (1, (bUshrL v0 7))
theorem q_X6_rowSize_7 {L : Nat} {xs : Nat → Int32} {d : Nat} {μ : bM}  {κ : ((Int × Int) ⊕ (Int)) → Option bX} (hr : ∀ r : Int, κ (.inr r) = (bPc μ) r) (H7 : ∀ (v2 : Int) (v3 : Int), bR v2 → bRL v3 → bD L xs (d + 0) 68 7 [(2, bI v2), (3, bLg v3)] [] μ (κ (.inl (v2, v3))))  {v2 : Int} (h2 : bR v2) {v3 : Int} (h3 : bRL v3) : bD L xs (d + 0) 68 7 [(2, bI v2), (3, bLg v3)] [] μ ((F_X6_rowSize_7 μ v2 v3).bind κ) := by
  unfold F_X6_rowSize_7
  refine bD.ok fun hk => ?_
  refine b_s (pc' := 8) (lv1 := [(2, bI v2), (3, bLg v3)]) (st' := [bLg v3]) l68_7 (fun _ => rfl) ?_
  refine b_lconst (e := 0) l68_8 (by decide) (b_pc (pc' := 9) rfl ?_)
  refine b_lcmp l68_9 h3 (by decide) (b_pc (pc' := 10) rfl ?_)
  refine b_zeq (pt := 30) l68_10 (bCmp_R _ _) (by decide) rfl (fun c1 => ?_) (fun c1 => b_pc (pc' := 13) rfl ?_)
  · refine b_s (pc' := 31) (lv1 := [(2, bI v2), (3, bLg v3)]) (st' := [bI v2]) l68_30 (fun _ => rfl) ?_
    exact b_reti l68_31 rfl h2 (hr _)
  · refine b_s (pc' := 14) (lv1 := [(2, bI v2), (3, bLg v3)]) (st' := [bI v2]) l68_13 (fun _ => rfl) ?_
    refine b_bipush l68_14 (by decide) (b_pc (pc' := 16) rfl ?_)
    refine b_ige (pt := 30) l68_16 h2 (by decide) (by decide) rfl (fun c2 => ?_) (fun c2 => b_pc (pc' := 19) rfl ?_)
    · refine b_s (pc' := 31) (lv1 := [(2, bI v2), (3, bLg v3)]) (st' := [bI v2]) l68_30 (fun _ => rfl) ?_
      exact b_reti l68_31 rfl h2 (hr _)
    · refine b_inc (lv' := [(2, bI (v2 + 1)), (3, bLg v3)]) l68_19 rfl (by decide +kernel) (bSb rfl (bSb rfl bSn)) fun g3 => (b_pc (pc' := 22) rfl ?_)
      refine b_s (pc' := 23) (lv1 := [(2, bI (v2 + 1)), (3, bLg v3)]) (st' := [bLg v3]) l68_22 (fun _ => rfl) ?_
      refine b_bipush l68_23 (by decide) (b_pc (pc' := 25) rfl ?_)
      refine b_lushr l68_25 (b_pc (pc' := 26) rfl ?_)
      refine b_w (pc' := 27) (lv1 := ax_st2 [(2, bI (v2 + 1)), (3, bLg v3)] 3 (bLg (bUshrL v3 7))) (lv' := [(2, bI (v2 + 1)), (3, bLg (bUshrL v3 7))]) (st' := []) l68_26 (fun _ => rfl) (bSb rfl (bSb rfl bSn)) ?_
      refine b_s (pc' := 7) (lv1 := [(2, bI (v2 + 1)), (3, bLg (bUshrL v3 7))]) (st' := []) l68_27 (fun _ => rfl) ?_
      refine bD.wk (lv' := [(2, bI (v2 + 1)), (3, bLg (bUshrL v3 7))]) (bSb rfl (bSb rfl bSn)) ?_
      exact H7 (v2 + 1) (bUshrL v3 7) g3 (bl_rg _)
theorem p_X6_rowSize_7 {L : Nat} {xs : Nat → Int32} {d : Nat} {μ : bM}  {κ : (Int) → Option bX} (hr : ∀ r : Int, κ r = (bPc μ) r)  {v2 : Int} (h2 : bR v2) {v3 : Int} (h3 : bRL v3) : bD L xs (d + 0) 68 7 [(2, bI v2), (3, bLg v3)] [] μ ((bLoop (fun z => F_X6_rowSize_7 μ z.1 z.2) (v2, v3)).bind κ) :=
  b_loop (fun z => [(2, bI z.1), (3, bLg z.2)]) (fun z => μ) (fun z => bR z.1 ∧ bRL z.2) (fun κ' hκ HH z hz => q_X6_rowSize_7 (κ := κ') (fun r => (hκ _).trans (hr r)) (fun a2 a3 b2 b3 => HH (a2, a3) ⟨b2, b3⟩)  hz.1 hz.2) (v2, v3) ⟨h2, h3⟩
theorem r_X6_rowSize {L : Nat} {xs : Nat → Int32} {d : Nat} {μ : bM}  (v0 : Int) (h0 : bRL v0) : bD L xs (d + 0) 68 0 [(0, bLg v0)] [] μ ((F_X6_rowSize v0 μ).bind (bPc μ)) := by
  have hr : ∀ r, (bPc μ) r = (bPc μ) r := fun _ => rfl
  unfold F_X6_rowSize
  refine bD.ok fun hk => ?_
  refine b_s (pc' := 1) (lv1 := [(0, bLg v0)]) (st' := [bI 1]) l68_0 (fun _ => rfl) ?_
  refine b_w (pc' := 2) (lv1 := ax_st1 [(0, bLg v0)] 2 (bI 1)) (lv' := [(0, bLg v0), (2, bI 1)]) (st' := []) l68_1 (fun _ => rfl) (bSb rfl (bSb rfl bSn)) ?_
  refine b_s (pc' := 3) (lv1 := [(0, bLg v0), (2, bI 1)]) (st' := [bLg v0]) l68_2 (fun _ => rfl) ?_
  refine b_bipush l68_3 (by decide) (b_pc (pc' := 5) rfl ?_)
  refine b_lushr l68_5 (b_pc (pc' := 6) rfl ?_)
  refine b_w (pc' := 7) (lv1 := ax_st2 [(0, bLg v0), (2, bI 1)] 3 (bLg (bUshrL v0 7))) (lv' := [(2, bI 1), (3, bLg (bUshrL v0 7))]) (st' := []) l68_6 (fun _ => rfl) (bSb rfl (bSb rfl bSn)) ?_
  refine bD.wk (lv' := [(2, bI 1), (3, bLg (bUshrL v0 7))]) (bSb rfl (bSb rfl bSn)) ?_
  exact p_X6_rowSize_7 hr (by decide) (bl_rg _)
/-! ET$Store.same -/
theorem l65_0 : (ax_dt (ax_T 65)).lookup 0 = some (.iconst 0, 1, 0, 0, 0) := by decide +kernel
theorem l65_1 : (ax_dt (ax_T 65)).lookup 1 = some (.istore 5, 2, 0, 0, 0) := by decide +kernel
theorem l65_3 : (ax_dt (ax_T 65)).lookup 3 = some (.iload 5, 2, 0, 0, 0) := by decide +kernel
theorem l65_5 : (ax_dt (ax_T 65)).lookup 5 = some (.iload 4, 2, 0, 0, 0) := by decide +kernel
theorem l65_7 : (ax_dt (ax_T 65)).lookup 7 = some (.if_icmp .ge 30, 3, 0, 0, 0) := by decide +kernel
theorem l65_10 : (ax_dt (ax_T 65)).lookup 10 = some (.aload_n 0, 1, 0, 0, 0) := by decide +kernel
theorem l65_11 : (ax_dt (ax_T 65)).lookup 11 = some (.iload_n 1, 1, 0, 0, 0) := by decide +kernel
theorem l65_12 : (ax_dt (ax_T 65)).lookup 12 = some (.iload 5, 2, 0, 0, 0) := by decide +kernel
theorem l65_14 : (ax_dt (ax_T 65)).lookup 14 = some (.iadd, 1, 0, 0, 0) := by decide +kernel
theorem l65_15 : (ax_dt (ax_T 65)).lookup 15 = some (.invokevirtual 42, 3, 55, 1, 0) := by decide +kernel
theorem l65_18 : (ax_dt (ax_T 65)).lookup 18 = some (.aload_n 2, 1, 0, 0, 0) := by decide +kernel
theorem l65_19 : (ax_dt (ax_T 65)).lookup 19 = some (.iload_n 3, 1, 0, 0, 0) := by decide +kernel
theorem l65_20 : (ax_dt (ax_T 65)).lookup 20 = some (.iload 5, 2, 0, 0, 0) := by decide +kernel
theorem l65_22 : (ax_dt (ax_T 65)).lookup 22 = some (.iadd, 1, 0, 0, 0) := by decide +kernel
theorem l65_23 : (ax_dt (ax_T 65)).lookup 23 = some (.invokevirtual 42, 3, 55, 1, 0) := by decide +kernel
theorem l65_26 : (ax_dt (ax_T 65)).lookup 26 = some (.if_icmp .eq 5, 3, 0, 0, 0) := by decide +kernel
theorem l65_29 : (ax_dt (ax_T 65)).lookup 29 = some (.iconst 0, 1, 0, 0, 0) := by decide +kernel
theorem l65_30 : (ax_dt (ax_T 65)).lookup 30 = some (.ireturn, 1, 0, 0, 0) := by decide +kernel
theorem l65_31 : (ax_dt (ax_T 65)).lookup 31 = some (.iinc 5 1, 3, 0, 0, 0) := by decide +kernel
theorem l65_34 : (ax_dt (ax_T 65)).lookup 34 = some (.goto (-31), 3, 0, 0, 0) := by decide +kernel
theorem l65_37 : (ax_dt (ax_T 65)).lookup 37 = some (.iconst 1, 1, 0, 0, 0) := by decide +kernel
theorem l65_38 : (ax_dt (ax_T 65)).lookup 38 = some (.ireturn, 1, 0, 0, 0) := by decide +kernel
noncomputable def F_X6_same_3 (s : Nat) (s2 : Nat) (v1 : Int) (v3 : Int) (v4 : Int) (μ : bM) (v5 : Int) : Option ((Int) ⊕ (Int)) := if v4 ≤ v5 then some (.inr (1)) else bG (bR (v1 + v5)) ((F_X6_at s (v1 + v5) μ).bind fun w3 => bG (bR (v3 + v5)) ((F_X6_at s2 (v3 + v5) μ).bind fun w5 => if w3 = w5 then bG (bR (v5 + 1)) (some (.inl (v5 + 1))) else some (.inr (0))))
noncomputable def F_X6_same (s : Nat) (s2 : Nat) (v1 : Int) (v3 : Int) (v4 : Int) (μ : bM) : Option (Int) := bLoop (fun z => F_X6_same_3 s s2 v1 v3 v4 μ z) 0
theorem q_X6_same_3 {L : Nat} {xs : Nat → Int32} {d : Nat} {μ : bM} {s : Nat} {s2 : Nat} {v1 : Int} {v3 : Int} {v4 : Int} {κ : ((Int) ⊕ (Int)) → Option bX} (hr : ∀ r : Int, κ (.inr r) = (bPc μ) r) (H3 : ∀ (v5 : Int), bR v5 → bD L xs (d + 1) 65 3 [(0, .ref s), (1, bI v1), (2, .ref s2), (3, bI v3), (4, bI v4), (5, bI v5)] [] μ (κ (.inl v5))) (hs : bStore s) (hs2 : bStore s2) (h1 : bR v1) (h3 : bR v3) (h4 : bR v4) {v5 : Int} (h5 : bR v5) : bD L xs (d + 1) 65 3 [(0, .ref s), (1, bI v1), (2, .ref s2), (3, bI v3), (4, bI v4), (5, bI v5)] [] μ ((F_X6_same_3 s s2 v1 v3 v4 μ v5).bind κ) := by
  unfold F_X6_same_3
  refine bD.ok fun hk => ?_
  refine b_s (pc' := 5) (lv1 := [(0, .ref s), (1, bI v1), (2, .ref s2), (3, bI v3), (4, bI v4), (5, bI v5)]) (st' := [bI v5]) l65_3 (fun _ => rfl) ?_
  refine b_s (pc' := 7) (lv1 := [(0, .ref s), (1, bI v1), (2, .ref s2), (3, bI v3), (4, bI v4), (5, bI v5)]) (st' := [bI v4, bI v5]) l65_5 (fun _ => rfl) ?_
  refine b_ige (pt := 37) l65_7 h5 h4 (by decide) rfl (fun c1 => ?_) (fun c1 => b_pc (pc' := 10) rfl ?_)
  · refine b_s (pc' := 38) (lv1 := [(0, .ref s), (1, bI v1), (2, .ref s2), (3, bI v3), (4, bI v4), (5, bI v5)]) (st' := [bI 1]) l65_37 (fun _ => rfl) ?_
    exact b_retz l65_38 rfl (by decide) (hr _)
  · refine b_s (pc' := 11) (lv1 := [(0, .ref s), (1, bI v1), (2, .ref s2), (3, bI v3), (4, bI v4), (5, bI v5)]) (st' := [.ref s]) l65_10 (fun _ => rfl) ?_
    refine b_s (pc' := 12) (lv1 := [(0, .ref s), (1, bI v1), (2, .ref s2), (3, bI v3), (4, bI v4), (5, bI v5)]) (st' := [bI v1, .ref s]) l65_11 (fun _ => rfl) ?_
    refine b_s (pc' := 14) (lv1 := [(0, .ref s), (1, bI v1), (2, .ref s2), (3, bI v3), (4, bI v4), (5, bI v5)]) (st' := [bI v5, bI v1, .ref s]) l65_12 (fun _ => rfl) ?_
    refine b_iadd l65_14 fun g2 => (b_pc (pc' := 15) rfl ?_)
    refine b_cPi l65_15 rfl (b_rc (ci := 5) hs (by decide) (by decide +kernel)) (Nat.le_of_ble_eq_true rfl) (Nat.le_of_ble_eq_true rfl) rfl (r_X6_at s hs (v1 + v5) g2) fun w3 hw3 => b_pc (pc' := 18) rfl ?_
    refine b_s (pc' := 19) (lv1 := [(0, .ref s), (1, bI v1), (2, .ref s2), (3, bI v3), (4, bI v4), (5, bI v5)]) (st' := [.ref s2, bI w3]) l65_18 (fun _ => rfl) ?_
    refine b_s (pc' := 20) (lv1 := [(0, .ref s), (1, bI v1), (2, .ref s2), (3, bI v3), (4, bI v4), (5, bI v5)]) (st' := [bI v3, .ref s2, bI w3]) l65_19 (fun _ => rfl) ?_
    refine b_s (pc' := 22) (lv1 := [(0, .ref s), (1, bI v1), (2, .ref s2), (3, bI v3), (4, bI v4), (5, bI v5)]) (st' := [bI v5, bI v3, .ref s2, bI w3]) l65_20 (fun _ => rfl) ?_
    refine b_iadd l65_22 fun g4 => (b_pc (pc' := 23) rfl ?_)
    refine b_cPi l65_23 rfl (b_rc (ci := 5) hs2 (by decide) (by decide +kernel)) (Nat.le_of_ble_eq_true rfl) (Nat.le_of_ble_eq_true rfl) rfl (r_X6_at s2 hs2 (v3 + v5) g4) fun w5 hw5 => b_pc (pc' := 26) rfl ?_
    refine b_ieq (pt := 31) l65_26 hw3 hw5 (by decide) rfl (fun c6 => ?_) (fun c6 => b_pc (pc' := 29) rfl ?_)
    · refine b_inc (lv' := [(0, .ref s), (1, bI v1), (2, .ref s2), (3, bI v3), (4, bI v4), (5, bI (v5 + 1))]) l65_31 rfl (by decide +kernel) (bSb rfl (bSb rfl (bSb rfl (bSb rfl (bSb rfl (bSb rfl bSn)))))) fun g7 => (b_pc (pc' := 34) rfl ?_)
      refine b_s (pc' := 3) (lv1 := [(0, .ref s), (1, bI v1), (2, .ref s2), (3, bI v3), (4, bI v4), (5, bI (v5 + 1))]) (st' := []) l65_34 (fun _ => rfl) ?_
      refine bD.wk (lv' := [(0, .ref s), (1, bI v1), (2, .ref s2), (3, bI v3), (4, bI v4), (5, bI (v5 + 1))]) (bSb rfl (bSb rfl (bSb rfl (bSb rfl (bSb rfl (bSb rfl bSn)))))) ?_
      exact H3 (v5 + 1) g7
    · refine b_s (pc' := 30) (lv1 := [(0, .ref s), (1, bI v1), (2, .ref s2), (3, bI v3), (4, bI v4), (5, bI v5)]) (st' := [bI 0]) l65_29 (fun _ => rfl) ?_
      exact b_retz l65_30 rfl (by decide) (hr _)
theorem p_X6_same_3 {L : Nat} {xs : Nat → Int32} {d : Nat} {μ : bM} {s : Nat} {s2 : Nat} {κ : (Int) → Option bX} (hr : ∀ r : Int, κ r = (bPc μ) r) (hs : bStore s) (hs2 : bStore s2) {v1 : Int} (h1 : bR v1) {v3 : Int} (h3 : bR v3) {v4 : Int} (h4 : bR v4) {v5 : Int} (h5 : bR v5) : bD L xs (d + 1) 65 3 [(0, .ref s), (1, bI v1), (2, .ref s2), (3, bI v3), (4, bI v4), (5, bI v5)] [] μ ((bLoop (fun z => F_X6_same_3 s s2 v1 v3 v4 μ z) v5).bind κ) :=
  b_loop (fun z => [(0, .ref s), (1, bI v1), (2, .ref s2), (3, bI v3), (4, bI v4), (5, bI z)]) (fun z => μ) (fun z => bR z) (fun κ' hκ HH z hz => q_X6_same_3 (κ := κ') (fun r => (hκ _).trans (hr r)) (fun a5 b5 => HH a5 b5) hs hs2 h1 h3 h4 hz) v5 h5
theorem r_X6_same {L : Nat} {xs : Nat → Int32} {d : Nat} {μ : bM} (s : Nat) (hs : bStore s) (s2 : Nat) (hs2 : bStore s2) (v1 : Int) (h1 : bR v1) (v3 : Int) (h3 : bR v3) (v4 : Int) (h4 : bR v4) : bD L xs (d + 1) 65 0 [(0, .ref s), (1, bI v1), (2, .ref s2), (3, bI v3), (4, bI v4)] [] μ ((F_X6_same s s2 v1 v3 v4 μ).bind (bPc μ)) := by
  have hr : ∀ r, (bPc μ) r = (bPc μ) r := fun _ => rfl
  unfold F_X6_same
  refine bD.ok fun hk => ?_
  refine b_s (pc' := 1) (lv1 := [(0, .ref s), (1, bI v1), (2, .ref s2), (3, bI v3), (4, bI v4)]) (st' := [bI 0]) l65_0 (fun _ => rfl) ?_
  refine b_w (pc' := 3) (lv1 := ax_st1 [(0, .ref s), (1, bI v1), (2, .ref s2), (3, bI v3), (4, bI v4)] 5 (bI 0)) (lv' := [(0, .ref s), (1, bI v1), (2, .ref s2), (3, bI v3), (4, bI v4), (5, bI 0)]) (st' := []) l65_1 (fun _ => rfl) (bSb rfl (bSb rfl (bSb rfl (bSb rfl (bSb rfl (bSb rfl bSn)))))) ?_
  refine bD.wk (lv' := [(0, .ref s), (1, bI v1), (2, .ref s2), (3, bI v3), (4, bI v4), (5, bI 0)]) (bSb rfl (bSb rfl (bSb rfl (bSb rfl (bSb rfl (bSb rfl bSn)))))) ?_
  exact p_X6_same_3 hr hs hs2 h1 h3 h4 (by decide)
/-! ET$Store.hash -/
theorem l66_0 : (ax_dt (ax_T 66)).lookup 0 = some (.iload_n 2, 1, 0, 0, 0) := by decide +kernel
theorem l66_1 : (ax_dt (ax_T 66)).lookup 1 = some (.istore_n 3, 1, 0, 0, 0) := by decide +kernel
theorem l66_2 : (ax_dt (ax_T 66)).lookup 2 = some (.iconst 0, 1, 0, 0, 0) := by decide +kernel
theorem l66_3 : (ax_dt (ax_T 66)).lookup 3 = some (.istore 4, 2, 0, 0, 0) := by decide +kernel
theorem l66_5 : (ax_dt (ax_T 66)).lookup 5 = some (.iload 4, 2, 0, 0, 0) := by decide +kernel
theorem l66_7 : (ax_dt (ax_T 66)).lookup 7 = some (.iload_n 2, 1, 0, 0, 0) := by decide +kernel
theorem l66_8 : (ax_dt (ax_T 66)).lookup 8 = some (.if_icmp .ge 23, 3, 0, 0, 0) := by decide +kernel
theorem l66_11 : (ax_dt (ax_T 66)).lookup 11 = some (.iload_n 3, 1, 0, 0, 0) := by decide +kernel
theorem l66_12 : (ax_dt (ax_T 66)).lookup 12 = some (.bipush 31, 2, 0, 0, 0) := by decide +kernel
theorem l66_14 : (ax_dt (ax_T 66)).lookup 14 = some (.imul, 1, 0, 0, 0) := by decide +kernel
theorem l66_15 : (ax_dt (ax_T 66)).lookup 15 = some (.aload_n 0, 1, 0, 0, 0) := by decide +kernel
theorem l66_16 : (ax_dt (ax_T 66)).lookup 16 = some (.iload_n 1, 1, 0, 0, 0) := by decide +kernel
theorem l66_17 : (ax_dt (ax_T 66)).lookup 17 = some (.iload 4, 2, 0, 0, 0) := by decide +kernel
theorem l66_19 : (ax_dt (ax_T 66)).lookup 19 = some (.iadd, 1, 0, 0, 0) := by decide +kernel
theorem l66_20 : (ax_dt (ax_T 66)).lookup 20 = some (.invokevirtual 42, 3, 55, 1, 0) := by decide +kernel
theorem l66_23 : (ax_dt (ax_T 66)).lookup 23 = some (.iadd, 1, 0, 0, 0) := by decide +kernel
theorem l66_24 : (ax_dt (ax_T 66)).lookup 24 = some (.istore_n 3, 1, 0, 0, 0) := by decide +kernel
theorem l66_25 : (ax_dt (ax_T 66)).lookup 25 = some (.iinc 4 1, 3, 0, 0, 0) := by decide +kernel
theorem l66_28 : (ax_dt (ax_T 66)).lookup 28 = some (.goto (-23), 3, 0, 0, 0) := by decide +kernel
theorem l66_31 : (ax_dt (ax_T 66)).lookup 31 = some (.iload_n 3, 1, 0, 0, 0) := by decide +kernel
theorem l66_32 : (ax_dt (ax_T 66)).lookup 32 = some (.ireturn, 1, 0, 0, 0) := by decide +kernel
noncomputable def F_X6_hash_5 (s : Nat) (v1 : Int) (v2 : Int) (μ : bM) (v3 : Int) (v4 : Int) : Option ((Int × Int) ⊕ (Int)) := if v2 ≤ v4 then some (.inr (v3)) else (F_X6_at s (b32 (v1 + v4)) μ).bind fun w2 => bG (bR (v4 + 1)) (some (.inl ((b32 ((b32 (v3 * 31)) + w2)), (v4 + 1))))
noncomputable def F_X6_hash (s : Nat) (v1 : Int) (v2 : Int) (μ : bM) : Option (Int) := bLoop (fun z => F_X6_hash_5 s v1 v2 μ z.1 z.2) (v2, 0)
theorem q_X6_hash_5 {L : Nat} {xs : Nat → Int32} {d : Nat} {μ : bM} {s : Nat} {v1 : Int} {v2 : Int} {κ : ((Int × Int) ⊕ (Int)) → Option bX} (hr : ∀ r : Int, κ (.inr r) = (bPc μ) r) (H5 : ∀ (v3 : Int) (v4 : Int), bR v3 → bR v4 → bD L xs (d + 1) 66 5 [(0, .ref s), (1, bI v1), (2, bI v2), (3, bI v3), (4, bI v4)] [] μ (κ (.inl (v3, v4)))) (hs : bStore s) (h1 : bR v1) (h2 : bR v2) {v3 : Int} (h3 : bR v3) {v4 : Int} (h4 : bR v4) : bD L xs (d + 1) 66 5 [(0, .ref s), (1, bI v1), (2, bI v2), (3, bI v3), (4, bI v4)] [] μ ((F_X6_hash_5 s v1 v2 μ v3 v4).bind κ) := by
  unfold F_X6_hash_5
  refine bD.ok fun hk => ?_
  refine b_s (pc' := 7) (lv1 := [(0, .ref s), (1, bI v1), (2, bI v2), (3, bI v3), (4, bI v4)]) (st' := [bI v4]) l66_5 (fun _ => rfl) ?_
  refine b_s (pc' := 8) (lv1 := [(0, .ref s), (1, bI v1), (2, bI v2), (3, bI v3), (4, bI v4)]) (st' := [bI v2, bI v4]) l66_7 (fun _ => rfl) ?_
  refine b_ige (pt := 31) l66_8 h4 h2 (by decide) rfl (fun c1 => ?_) (fun c1 => b_pc (pc' := 11) rfl ?_)
  · refine b_s (pc' := 32) (lv1 := [(0, .ref s), (1, bI v1), (2, bI v2), (3, bI v3), (4, bI v4)]) (st' := [bI v3]) l66_31 (fun _ => rfl) ?_
    exact b_reti l66_32 rfl h3 (hr _)
  · refine b_s (pc' := 12) (lv1 := [(0, .ref s), (1, bI v1), (2, bI v2), (3, bI v3), (4, bI v4)]) (st' := [bI v3]) l66_11 (fun _ => rfl) ?_
    refine b_bipush l66_12 (by decide) (b_pc (pc' := 14) rfl ?_)
    refine b_imulw l66_14 (b_pc (pc' := 15) rfl ?_)
    refine b_s (pc' := 16) (lv1 := [(0, .ref s), (1, bI v1), (2, bI v2), (3, bI v3), (4, bI v4)]) (st' := [.ref s, bI (b32 (v3 * 31))]) l66_15 (fun _ => rfl) ?_
    refine b_s (pc' := 17) (lv1 := [(0, .ref s), (1, bI v1), (2, bI v2), (3, bI v3), (4, bI v4)]) (st' := [bI v1, .ref s, bI (b32 (v3 * 31))]) l66_16 (fun _ => rfl) ?_
    refine b_s (pc' := 19) (lv1 := [(0, .ref s), (1, bI v1), (2, bI v2), (3, bI v3), (4, bI v4)]) (st' := [bI v4, bI v1, .ref s, bI (b32 (v3 * 31))]) l66_17 (fun _ => rfl) ?_
    refine b_iaddw l66_19 (b_pc (pc' := 20) rfl ?_)
    refine b_cPi l66_20 rfl (b_rc (ci := 5) hs (by decide) (by decide +kernel)) (Nat.le_of_ble_eq_true rfl) (Nat.le_of_ble_eq_true rfl) rfl (r_X6_at s hs (b32 (v1 + v4)) (b32_R _)) fun w2 hw2 => b_pc (pc' := 23) rfl ?_
    refine b_iaddw l66_23 (b_pc (pc' := 24) rfl ?_)
    refine b_w (pc' := 25) (lv1 := ax_st1 [(0, .ref s), (1, bI v1), (2, bI v2), (3, bI v3), (4, bI v4)] 3 (bI (b32 ((b32 (v3 * 31)) + w2)))) (lv' := [(0, .ref s), (1, bI v1), (2, bI v2), (3, bI (b32 ((b32 (v3 * 31)) + w2))), (4, bI v4)]) (st' := []) l66_24 (fun _ => rfl) (bSb rfl (bSb rfl (bSb rfl (bSb rfl (bSb rfl bSn))))) ?_
    refine b_inc (lv' := [(0, .ref s), (1, bI v1), (2, bI v2), (3, bI (b32 ((b32 (v3 * 31)) + w2))), (4, bI (v4 + 1))]) l66_25 rfl (by decide +kernel) (bSb rfl (bSb rfl (bSb rfl (bSb rfl (bSb rfl bSn))))) fun g3 => (b_pc (pc' := 28) rfl ?_)
    refine b_s (pc' := 5) (lv1 := [(0, .ref s), (1, bI v1), (2, bI v2), (3, bI (b32 ((b32 (v3 * 31)) + w2))), (4, bI (v4 + 1))]) (st' := []) l66_28 (fun _ => rfl) ?_
    refine bD.wk (lv' := [(0, .ref s), (1, bI v1), (2, bI v2), (3, bI (b32 ((b32 (v3 * 31)) + w2))), (4, bI (v4 + 1))]) (bSb rfl (bSb rfl (bSb rfl (bSb rfl (bSb rfl bSn))))) ?_
    exact H5 (b32 ((b32 (v3 * 31)) + w2)) (v4 + 1) (b32_R _) g3
theorem p_X6_hash_5 {L : Nat} {xs : Nat → Int32} {d : Nat} {μ : bM} {s : Nat} {κ : (Int) → Option bX} (hr : ∀ r : Int, κ r = (bPc μ) r) (hs : bStore s) {v1 : Int} (h1 : bR v1) {v2 : Int} (h2 : bR v2) {v3 : Int} (h3 : bR v3) {v4 : Int} (h4 : bR v4) : bD L xs (d + 1) 66 5 [(0, .ref s), (1, bI v1), (2, bI v2), (3, bI v3), (4, bI v4)] [] μ ((bLoop (fun z => F_X6_hash_5 s v1 v2 μ z.1 z.2) (v3, v4)).bind κ) :=
  b_loop (fun z => [(0, .ref s), (1, bI v1), (2, bI v2), (3, bI z.1), (4, bI z.2)]) (fun z => μ) (fun z => bR z.1 ∧ bR z.2) (fun κ' hκ HH z hz => q_X6_hash_5 (κ := κ') (fun r => (hκ _).trans (hr r)) (fun a3 a4 b3 b4 => HH (a3, a4) ⟨b3, b4⟩) hs h1 h2 hz.1 hz.2) (v3, v4) ⟨h3, h4⟩
theorem r_X6_hash {L : Nat} {xs : Nat → Int32} {d : Nat} {μ : bM} (s : Nat) (hs : bStore s) (v1 : Int) (h1 : bR v1) (v2 : Int) (h2 : bR v2) : bD L xs (d + 1) 66 0 [(0, .ref s), (1, bI v1), (2, bI v2)] [] μ ((F_X6_hash s v1 v2 μ).bind (bPc μ)) := by
  have hr : ∀ r, (bPc μ) r = (bPc μ) r := fun _ => rfl
  unfold F_X6_hash
  refine bD.ok fun hk => ?_
  refine b_s (pc' := 1) (lv1 := [(0, .ref s), (1, bI v1), (2, bI v2)]) (st' := [bI v2]) l66_0 (fun _ => rfl) ?_
  refine b_w (pc' := 2) (lv1 := ax_st1 [(0, .ref s), (1, bI v1), (2, bI v2)] 3 (bI v2)) (lv' := [(0, .ref s), (1, bI v1), (2, bI v2), (3, bI v2)]) (st' := []) l66_1 (fun _ => rfl) (bSb rfl (bSb rfl (bSb rfl (bSb rfl bSn)))) ?_
  refine b_s (pc' := 3) (lv1 := [(0, .ref s), (1, bI v1), (2, bI v2), (3, bI v2)]) (st' := [bI 0]) l66_2 (fun _ => rfl) ?_
  refine b_w (pc' := 5) (lv1 := ax_st1 [(0, .ref s), (1, bI v1), (2, bI v2), (3, bI v2)] 4 (bI 0)) (lv' := [(0, .ref s), (1, bI v1), (2, bI v2), (3, bI v2), (4, bI 0)]) (st' := []) l66_3 (fun _ => rfl) (bSb rfl (bSb rfl (bSb rfl (bSb rfl (bSb rfl bSn))))) ?_
  refine bD.wk (lv' := [(0, .ref s), (1, bI v1), (2, bI v2), (3, bI v2), (4, bI 0)]) (bSb rfl (bSb rfl (bSb rfl (bSb rfl (bSb rfl bSn))))) ?_
  exact p_X6_hash_5 hr hs h1 h2 h2 (by decide)
/-! ET$Store.signedRowSize -/
theorem l69_0 : (ax_dt (ax_T 69)).lookup 0 = some (.iconst 1, 1, 0, 0, 0) := by decide +kernel
theorem l69_1 : (ax_dt (ax_T 69)).lookup 1 = some (.istore_n 2, 1, 0, 0, 0) := by decide +kernel
theorem l69_2 : (ax_dt (ax_T 69)).lookup 2 = some (.lload_n 0, 1, 0, 0, 0) := by decide +kernel
theorem l69_3 : (ax_dt (ax_T 69)).lookup 3 = some (.lstore_n 3, 1, 0, 0, 0) := by decide +kernel
theorem l69_4 : (ax_dt (ax_T 69)).lookup 4 = some (.lload_n 3, 1, 0, 0, 0) := by decide +kernel
theorem l69_5 : (ax_dt (ax_T 69)).lookup 5 = some (.ldc2_w 46, 3, 0, 0, (-64)) := by decide +kernel
theorem l69_8 : (ax_dt (ax_T 69)).lookup 8 = some (.lcmp, 1, 0, 0, 0) := by decide +kernel
theorem l69_9 : (ax_dt (ax_T 69)).lookup 9 = some (.ifCond .lt 11, 3, 0, 0, 0) := by decide +kernel
theorem l69_12 : (ax_dt (ax_T 69)).lookup 12 = some (.lload_n 3, 1, 0, 0, 0) := by decide +kernel
theorem l69_13 : (ax_dt (ax_T 69)).lookup 13 = some (.ldc2_w 48, 3, 0, 0, 63) := by decide +kernel
theorem l69_16 : (ax_dt (ax_T 69)).lookup 16 = some (.lcmp, 1, 0, 0, 0) := by decide +kernel
theorem l69_17 : (ax_dt (ax_T 69)).lookup 17 = some (.ifCond .le 20, 3, 0, 0, 0) := by decide +kernel
theorem l69_20 : (ax_dt (ax_T 69)).lookup 20 = some (.iload_n 2, 1, 0, 0, 0) := by decide +kernel
theorem l69_21 : (ax_dt (ax_T 69)).lookup 21 = some (.bipush 10, 2, 0, 0, 0) := by decide +kernel
theorem l69_23 : (ax_dt (ax_T 69)).lookup 23 = some (.if_icmp .ge 14, 3, 0, 0, 0) := by decide +kernel
theorem l69_26 : (ax_dt (ax_T 69)).lookup 26 = some (.iinc 2 1, 3, 0, 0, 0) := by decide +kernel
theorem l69_29 : (ax_dt (ax_T 69)).lookup 29 = some (.lload_n 3, 1, 0, 0, 0) := by decide +kernel
theorem l69_30 : (ax_dt (ax_T 69)).lookup 30 = some (.bipush 7, 2, 0, 0, 0) := by decide +kernel
theorem l69_32 : (ax_dt (ax_T 69)).lookup 32 = some (.lshr, 1, 0, 0, 0) := by decide +kernel
theorem l69_33 : (ax_dt (ax_T 69)).lookup 33 = some (.lstore_n 3, 1, 0, 0, 0) := by decide +kernel
theorem l69_34 : (ax_dt (ax_T 69)).lookup 34 = some (.goto (-30), 3, 0, 0, 0) := by decide +kernel
theorem l69_37 : (ax_dt (ax_T 69)).lookup 37 = some (.iload_n 2, 1, 0, 0, 0) := by decide +kernel
theorem l69_38 : (ax_dt (ax_T 69)).lookup 38 = some (.ireturn, 1, 0, 0, 0) := by decide +kernel
noncomputable def F_X6_signedRowSize_20 (v2 : Int) (v3 : Int) (μ : bM) : Option ((Int × Int) ⊕ (Int)) := if 10 ≤ v2 then some (.inr (v2)) else bG (bR (v2 + 1)) (some (.inl ((v2 + 1), (bShrL v3 7))))
noncomputable def F_X6_signedRowSize_4 (μ : bM) (v2 : Int) (v3 : Int) : Option ((Int × Int) ⊕ (Int)) := if (bCmp v3 (-64)) < 0 then F_X6_signedRowSize_20 v2 v3 μ else if (bCmp v3 63) ≤ 0 then some (.inr (v2)) else F_X6_signedRowSize_20 v2 v3 μ
noncomputable def F_X6_signedRowSize (v0 : Int) (μ : bM) : Option (Int) := bLoop (fun z => F_X6_signedRowSize_4 μ z.1 z.2) (1, v0)
theorem p_X6_signedRowSize_20 {L : Nat} {xs : Nat → Int32} {d : Nat} {μ : bM}  {κ : ((Int × Int) ⊕ (Int)) → Option bX} (hr : ∀ r : Int, κ (.inr r) = (bPc μ) r) (H4 : ∀ (v2 : Int) (v3 : Int), bR v2 → bRL v3 → bD L xs (d + 0) 69 4 [(2, bI v2), (3, bLg v3)] [] μ (κ (.inl (v2, v3))))  {v2 : Int} (h2 : bR v2) {v3 : Int} (h3 : bRL v3) : bD L xs (d + 0) 69 20 [(2, bI v2), (3, bLg v3)] [] μ ((F_X6_signedRowSize_20 v2 v3 μ).bind κ) := by
  unfold F_X6_signedRowSize_20
  refine bD.ok fun hk => ?_
  refine b_s (pc' := 21) (lv1 := [(2, bI v2), (3, bLg v3)]) (st' := [bI v2]) l69_20 (fun _ => rfl) ?_
  refine b_bipush l69_21 (by decide) (b_pc (pc' := 23) rfl ?_)
  refine b_ige (pt := 37) l69_23 h2 (by decide) (by decide) rfl (fun c1 => ?_) (fun c1 => b_pc (pc' := 26) rfl ?_)
  · refine b_s (pc' := 38) (lv1 := [(2, bI v2), (3, bLg v3)]) (st' := [bI v2]) l69_37 (fun _ => rfl) ?_
    exact b_reti l69_38 rfl h2 (hr _)
  · refine b_inc (lv' := [(2, bI (v2 + 1)), (3, bLg v3)]) l69_26 rfl (by decide +kernel) (bSb rfl (bSb rfl bSn)) fun g2 => (b_pc (pc' := 29) rfl ?_)
    refine b_s (pc' := 30) (lv1 := [(2, bI (v2 + 1)), (3, bLg v3)]) (st' := [bLg v3]) l69_29 (fun _ => rfl) ?_
    refine b_bipush l69_30 (by decide) (b_pc (pc' := 32) rfl ?_)
    refine b_lshr l69_32 (b_pc (pc' := 33) rfl ?_)
    refine b_w (pc' := 34) (lv1 := ax_st2 [(2, bI (v2 + 1)), (3, bLg v3)] 3 (bLg (bShrL v3 7))) (lv' := [(2, bI (v2 + 1)), (3, bLg (bShrL v3 7))]) (st' := []) l69_33 (fun _ => rfl) (bSb rfl (bSb rfl bSn)) ?_
    refine b_s (pc' := 4) (lv1 := [(2, bI (v2 + 1)), (3, bLg (bShrL v3 7))]) (st' := []) l69_34 (fun _ => rfl) ?_
    refine bD.wk (lv' := [(2, bI (v2 + 1)), (3, bLg (bShrL v3 7))]) (bSb rfl (bSb rfl bSn)) ?_
    exact H4 (v2 + 1) (bShrL v3 7) g2 (bl_rg _)
theorem q_X6_signedRowSize_4 {L : Nat} {xs : Nat → Int32} {d : Nat} {μ : bM}  {κ : ((Int × Int) ⊕ (Int)) → Option bX} (hr : ∀ r : Int, κ (.inr r) = (bPc μ) r) (H4 : ∀ (v2 : Int) (v3 : Int), bR v2 → bRL v3 → bD L xs (d + 0) 69 4 [(2, bI v2), (3, bLg v3)] [] μ (κ (.inl (v2, v3))))  {v2 : Int} (h2 : bR v2) {v3 : Int} (h3 : bRL v3) : bD L xs (d + 0) 69 4 [(2, bI v2), (3, bLg v3)] [] μ ((F_X6_signedRowSize_4 μ v2 v3).bind κ) := by
  unfold F_X6_signedRowSize_4
  refine bD.ok fun hk => ?_
  refine b_s (pc' := 5) (lv1 := [(2, bI v2), (3, bLg v3)]) (st' := [bLg v3]) l69_4 (fun _ => rfl) ?_
  refine b_s (pc' := 8) (lv1 := [(2, bI v2), (3, bLg v3)]) (st' := [bLg (-64), bLg v3]) l69_5 (fun _ => rfl) ?_
  refine b_lcmp l69_8 h3 (by decide) (b_pc (pc' := 9) rfl ?_)
  refine b_zlt (pt := 20) l69_9 (bCmp_R _ _) (by decide) rfl (fun c1 => ?_) (fun c1 => b_pc (pc' := 12) rfl ?_)
  · refine bD.wk (lv' := [(2, bI v2), (3, bLg v3)]) (bSb rfl (bSb rfl bSn)) ?_
    exact p_X6_signedRowSize_20 hr H4 h2 h3
  · refine b_s (pc' := 13) (lv1 := [(2, bI v2), (3, bLg v3)]) (st' := [bLg v3]) l69_12 (fun _ => rfl) ?_
    refine b_s (pc' := 16) (lv1 := [(2, bI v2), (3, bLg v3)]) (st' := [bLg 63, bLg v3]) l69_13 (fun _ => rfl) ?_
    refine b_lcmp l69_16 h3 (by decide) (b_pc (pc' := 17) rfl ?_)
    refine b_zle (pt := 37) l69_17 (bCmp_R _ _) (by decide) rfl (fun c2 => ?_) (fun c2 => b_pc (pc' := 20) rfl ?_)
    · refine b_s (pc' := 38) (lv1 := [(2, bI v2), (3, bLg v3)]) (st' := [bI v2]) l69_37 (fun _ => rfl) ?_
      exact b_reti l69_38 rfl h2 (hr _)
    · refine bD.wk (lv' := [(2, bI v2), (3, bLg v3)]) (bSb rfl (bSb rfl bSn)) ?_
      exact p_X6_signedRowSize_20 hr H4 h2 h3
theorem p_X6_signedRowSize_4 {L : Nat} {xs : Nat → Int32} {d : Nat} {μ : bM}  {κ : (Int) → Option bX} (hr : ∀ r : Int, κ r = (bPc μ) r)  {v2 : Int} (h2 : bR v2) {v3 : Int} (h3 : bRL v3) : bD L xs (d + 0) 69 4 [(2, bI v2), (3, bLg v3)] [] μ ((bLoop (fun z => F_X6_signedRowSize_4 μ z.1 z.2) (v2, v3)).bind κ) :=
  b_loop (fun z => [(2, bI z.1), (3, bLg z.2)]) (fun z => μ) (fun z => bR z.1 ∧ bRL z.2) (fun κ' hκ HH z hz => q_X6_signedRowSize_4 (κ := κ') (fun r => (hκ _).trans (hr r)) (fun a2 a3 b2 b3 => HH (a2, a3) ⟨b2, b3⟩)  hz.1 hz.2) (v2, v3) ⟨h2, h3⟩
theorem r_X6_signedRowSize {L : Nat} {xs : Nat → Int32} {d : Nat} {μ : bM}  (v0 : Int) (h0 : bRL v0) : bD L xs (d + 0) 69 0 [(0, bLg v0)] [] μ ((F_X6_signedRowSize v0 μ).bind (bPc μ)) := by
  have hr : ∀ r, (bPc μ) r = (bPc μ) r := fun _ => rfl
  unfold F_X6_signedRowSize
  refine bD.ok fun hk => ?_
  refine b_s (pc' := 1) (lv1 := [(0, bLg v0)]) (st' := [bI 1]) l69_0 (fun _ => rfl) ?_
  refine b_w (pc' := 2) (lv1 := ax_st1 [(0, bLg v0)] 2 (bI 1)) (lv' := [(0, bLg v0), (2, bI 1)]) (st' := []) l69_1 (fun _ => rfl) (bSb rfl (bSb rfl bSn)) ?_
  refine b_s (pc' := 3) (lv1 := [(0, bLg v0), (2, bI 1)]) (st' := [bLg v0]) l69_2 (fun _ => rfl) ?_
  refine b_w (pc' := 4) (lv1 := ax_st2 [(0, bLg v0), (2, bI 1)] 3 (bLg v0)) (lv' := [(2, bI 1), (3, bLg v0)]) (st' := []) l69_3 (fun _ => rfl) (bSb rfl (bSb rfl bSn)) ?_
  refine bD.wk (lv' := [(2, bI 1), (3, bLg v0)]) (bSb rfl (bSb rfl bSn)) ?_
  exact p_X6_signedRowSize_4 hr (by decide) h0
/-! ET$Store.used -/
theorem l52_0 : (ax_dt (ax_T 52)).lookup 0 = some (.aload_n 0, 1, 0, 0, 0) := by decide +kernel
theorem l52_1 : (ax_dt (ax_T 52)).lookup 1 = some (.getfield 21, 3, 5, 1, 0) := by decide +kernel
theorem l52_4 : (ax_dt (ax_T 52)).lookup 4 = some (.ireturn, 1, 0, 0, 0) := by decide +kernel
noncomputable def F_X6_used (s : Nat) (μ : bM) : Option (Int) := some ((μ s 1))
theorem r_X6_used {L : Nat} {xs : Nat → Int32} {d : Nat} {μ : bM} (s : Nat) (hs : bStore s)  : bD L xs (d + 0) 52 0 [(0, .ref s)] [] μ ((F_X6_used s μ).bind (bPc μ)) := by
  have hr : ∀ r, (bPc μ) r = (bPc μ) r := fun _ => rfl
  unfold F_X6_used
  refine bD.ok fun hk => ?_
  refine b_s (pc' := 1) (lv1 := [(0, .ref s)]) (st' := [.ref s]) l52_0 (fun _ => rfl) ?_
  refine b_gi l52_1 hs (by decide) (by decide) rfl (b_pc (pc' := 4) rfl ?_)
  exact b_reti l52_4 rfl (bO_f hk (ci := 5) hs rfl) (hr _)
/-! ET$Store.most -/
theorem l53_0 : (ax_dt (ax_T 53)).lookup 0 = some (.aload_n 0, 1, 0, 0, 0) := by decide +kernel
theorem l53_1 : (ax_dt (ax_T 53)).lookup 1 = some (.getfield 15, 3, 5, 0, 0) := by decide +kernel
theorem l53_4 : (ax_dt (ax_T 53)).lookup 4 = some (.arraylength, 1, 0, 0, 0) := by decide +kernel
theorem l53_5 : (ax_dt (ax_T 53)).lookup 5 = some (.ireturn, 1, 0, 0, 0) := by decide +kernel
noncomputable def F_X6_most (s : Nat) (μ : bM) : Option (Int) := some (((bN (s + 1) : Nat) : Int))
theorem r_X6_most {L : Nat} {xs : Nat → Int32} {d : Nat} {μ : bM} (s : Nat) (hs : bStore s)  : bD L xs (d + 0) 53 0 [(0, .ref s)] [] μ ((F_X6_most s μ).bind (bPc μ)) := by
  have hr : ∀ r, (bPc μ) r = (bPc μ) r := fun _ => rfl
  unfold F_X6_most
  refine bD.ok fun hk => ?_
  refine b_s (pc' := 1) (lv1 := [(0, .ref s)]) (st' := [.ref s]) l53_0 (fun _ => rfl) ?_
  refine b_gp (q' := (s + 1)) (j := 1) l53_1 hs (by decide) (by decide) rfl hk rfl rfl (b_pc (pc' := 4) rfl ?_)
  refine b_len l53_4 (bStore_d hs) (by decide) (b_pc (pc' := 5) rfl ?_)
  exact b_reti l53_5 rfl (bN_R (bStore_d hs) (by decide)) (hr _)
/-! ET$Store.room -/
theorem l54_0 : (ax_dt (ax_T 54)).lookup 0 = some (.aload_n 0, 1, 0, 0, 0) := by decide +kernel
theorem l54_1 : (ax_dt (ax_T 54)).lookup 1 = some (.getfield 15, 3, 5, 0, 0) := by decide +kernel
theorem l54_4 : (ax_dt (ax_T 54)).lookup 4 = some (.arraylength, 1, 0, 0, 0) := by decide +kernel
theorem l54_5 : (ax_dt (ax_T 54)).lookup 5 = some (.aload_n 0, 1, 0, 0, 0) := by decide +kernel
theorem l54_6 : (ax_dt (ax_T 54)).lookup 6 = some (.getfield 21, 3, 5, 1, 0) := by decide +kernel
theorem l54_9 : (ax_dt (ax_T 54)).lookup 9 = some (.isub, 1, 0, 0, 0) := by decide +kernel
theorem l54_10 : (ax_dt (ax_T 54)).lookup 10 = some (.ireturn, 1, 0, 0, 0) := by decide +kernel
noncomputable def F_X6_room (s : Nat) (μ : bM) : Option (Int) := bG (bR (((bN (s + 1) : Nat) : Int) - (μ s 1))) (some ((((bN (s + 1) : Nat) : Int) - (μ s 1))))
theorem r_X6_room {L : Nat} {xs : Nat → Int32} {d : Nat} {μ : bM} (s : Nat) (hs : bStore s)  : bD L xs (d + 0) 54 0 [(0, .ref s)] [] μ ((F_X6_room s μ).bind (bPc μ)) := by
  have hr : ∀ r, (bPc μ) r = (bPc μ) r := fun _ => rfl
  unfold F_X6_room
  refine bD.ok fun hk => ?_
  refine b_s (pc' := 1) (lv1 := [(0, .ref s)]) (st' := [.ref s]) l54_0 (fun _ => rfl) ?_
  refine b_gp (q' := (s + 1)) (j := 1) l54_1 hs (by decide) (by decide) rfl hk rfl rfl (b_pc (pc' := 4) rfl ?_)
  refine b_len l54_4 (bStore_d hs) (by decide) (b_pc (pc' := 5) rfl ?_)
  refine b_s (pc' := 6) (lv1 := [(0, .ref s)]) (st' := [.ref s, bI ((bN (s + 1) : Nat) : Int)]) l54_5 (fun _ => rfl) ?_
  refine b_gi l54_6 hs (by decide) (by decide) rfl (b_pc (pc' := 9) rfl ?_)
  refine b_isub l54_9 fun g1 => (b_pc (pc' := 10) rfl ?_)
  exact b_reti l54_10 rfl g1 (hr _)
/-! ET$Store.change -/
theorem l56_0 : (ax_dt (ax_T 56)).lookup 0 = some (.iload_n 1, 1, 0, 0, 0) := by decide +kernel
theorem l56_1 : (ax_dt (ax_T 56)).lookup 1 = some (.ifCond .lt 26, 3, 0, 0, 0) := by decide +kernel
theorem l56_4 : (ax_dt (ax_T 56)).lookup 4 = some (.iload_n 1, 1, 0, 0, 0) := by decide +kernel
theorem l56_5 : (ax_dt (ax_T 56)).lookup 5 = some (.aload_n 0, 1, 0, 0, 0) := by decide +kernel
theorem l56_6 : (ax_dt (ax_T 56)).lookup 6 = some (.getfield 21, 3, 5, 1, 0) := by decide +kernel
theorem l56_9 : (ax_dt (ax_T 56)).lookup 9 = some (.if_icmp .ge 18, 3, 0, 0, 0) := by decide +kernel
theorem l56_12 : (ax_dt (ax_T 56)).lookup 12 = some (.aload_n 0, 1, 0, 0, 0) := by decide +kernel
theorem l56_13 : (ax_dt (ax_T 56)).lookup 13 = some (.getfield 15, 3, 5, 0, 0) := by decide +kernel
theorem l56_16 : (ax_dt (ax_T 56)).lookup 16 = some (.iload_n 1, 1, 0, 0, 0) := by decide +kernel
theorem l56_17 : (ax_dt (ax_T 56)).lookup 17 = some (.aload_n 0, 1, 0, 0, 0) := by decide +kernel
theorem l56_18 : (ax_dt (ax_T 56)).lookup 18 = some (.getfield 15, 3, 5, 0, 0) := by decide +kernel
theorem l56_21 : (ax_dt (ax_T 56)).lookup 21 = some (.iload_n 1, 1, 0, 0, 0) := by decide +kernel
theorem l56_22 : (ax_dt (ax_T 56)).lookup 22 = some (.baload, 1, 0, 0, 0) := by decide +kernel
theorem l56_23 : (ax_dt (ax_T 56)).lookup 23 = some (.iload_n 2, 1, 0, 0, 0) := by decide +kernel
theorem l56_24 : (ax_dt (ax_T 56)).lookup 24 = some (.ixor, 1, 0, 0, 0) := by decide +kernel
theorem l56_25 : (ax_dt (ax_T 56)).lookup 25 = some (.i2b, 1, 0, 0, 0) := by decide +kernel
theorem l56_26 : (ax_dt (ax_T 56)).lookup 26 = some (.bastore, 1, 0, 0, 0) := by decide +kernel
theorem l56_27 : (ax_dt (ax_T 56)).lookup 27 = some (.return_, 1, 0, 0, 0) := by decide +kernel
noncomputable def F_X6_change (s : Nat) (v1 : Int) (v2 : Int) (μ : bM) : Option (Int × bM) := if v1 < 0 then some (0, μ) else if (μ s 1) ≤ v1 then some (0, μ) else bG (0 ≤ v1 ∧ v1 < ((bN (s + 1) : Nat) : Int)) (bG (0 ≤ v1 ∧ v1 < ((bN (s + 1) : Nat) : Int)) (some (0, (bset μ (s + 1) v1.toNat (b8 (bXor (μ (s + 1) v1.toNat) v2))))))
theorem r_X6_change {L : Nat} {xs : Nat → Int32} {d : Nat} {μ : bM} (s : Nat) (hs : bStore s) (v1 : Int) (h1 : bR v1) (v2 : Int) (h2 : bR v2) : bD L xs (d + 0) 56 0 [(0, .ref s), (1, bI v1), (2, bI v2)] [] μ ((F_X6_change s v1 v2 μ).bind (bMc)) := by
  have hr : ∀ r, (bMc) r = (bMc) r := fun _ => rfl
  unfold F_X6_change
  refine bD.ok fun hk => ?_
  refine b_s (pc' := 1) (lv1 := [(0, .ref s), (1, bI v1), (2, bI v2)]) (st' := [bI v1]) l56_0 (fun _ => rfl) ?_
  refine b_zlt (pt := 27) l56_1 h1 (by decide) rfl (fun c1 => ?_) (fun c1 => b_pc (pc' := 4) rfl ?_)
  · exact b_retv l56_27 rfl (hr _)
  · refine b_s (pc' := 5) (lv1 := [(0, .ref s), (1, bI v1), (2, bI v2)]) (st' := [bI v1]) l56_4 (fun _ => rfl) ?_
    refine b_s (pc' := 6) (lv1 := [(0, .ref s), (1, bI v1), (2, bI v2)]) (st' := [.ref s, bI v1]) l56_5 (fun _ => rfl) ?_
    refine b_gi l56_6 hs (by decide) (by decide) rfl (b_pc (pc' := 9) rfl ?_)
    refine b_ige (pt := 27) l56_9 h1 (bO_f hk (ci := 5) hs rfl) (by decide) rfl (fun c2 => ?_) (fun c2 => b_pc (pc' := 12) rfl ?_)
    · exact b_retv l56_27 rfl (hr _)
    · refine b_s (pc' := 13) (lv1 := [(0, .ref s), (1, bI v1), (2, bI v2)]) (st' := [.ref s]) l56_12 (fun _ => rfl) ?_
      refine b_gp (q' := (s + 1)) (j := 1) l56_13 hs (by decide) (by decide) rfl hk rfl rfl (b_pc (pc' := 16) rfl ?_)
      refine b_s (pc' := 17) (lv1 := [(0, .ref s), (1, bI v1), (2, bI v2)]) (st' := [bI v1, .ref (s + 1)]) l56_16 (fun _ => rfl) ?_
      refine b_s (pc' := 18) (lv1 := [(0, .ref s), (1, bI v1), (2, bI v2)]) (st' := [.ref s, bI v1, .ref (s + 1)]) l56_17 (fun _ => rfl) ?_
      refine b_gp (q' := (s + 1)) (j := 1) l56_18 hs (by decide) (by decide) rfl hk rfl rfl (b_pc (pc' := 21) rfl ?_)
      refine b_s (pc' := 22) (lv1 := [(0, .ref s), (1, bI v1), (2, bI v2)]) (st' := [bI v1, .ref (s + 1), bI v1, .ref (s + 1)]) l56_21 (fun _ => rfl) ?_
      refine b_g fun g5 => ?_
      refine b_bal l56_22 (bStore_d hs) g5 (b_pc (pc' := 23) rfl ?_)
      refine b_s (pc' := 24) (lv1 := [(0, .ref s), (1, bI v1), (2, bI v2)]) (st' := [bI v2, bI (μ (s + 1) v1.toNat), bI v1, .ref (s + 1)]) l56_23 (fun _ => rfl) ?_
      refine b_ixor l56_24 (b_pc (pc' := 25) rfl ?_)
      refine b_i2b l56_25 (b_pc (pc' := 26) rfl ?_)
      refine b_g fun g4 => ?_
      refine b_bas l56_26 (bStore_d hs) g4 (b8_B _) (bD.ok fun hk3 => b_pc (pc' := 27) rfl ?_)
      exact b_retv l56_27 rfl (hr _)
/-! ET$Store.cut -/
theorem l57_0 : (ax_dt (ax_T 57)).lookup 0 = some (.iload_n 1, 1, 0, 0, 0) := by decide +kernel
theorem l57_1 : (ax_dt (ax_T 57)).lookup 1 = some (.ifCond .lt 16, 3, 0, 0, 0) := by decide +kernel
theorem l57_4 : (ax_dt (ax_T 57)).lookup 4 = some (.iload_n 1, 1, 0, 0, 0) := by decide +kernel
theorem l57_5 : (ax_dt (ax_T 57)).lookup 5 = some (.aload_n 0, 1, 0, 0, 0) := by decide +kernel
theorem l57_6 : (ax_dt (ax_T 57)).lookup 6 = some (.getfield 21, 3, 5, 1, 0) := by decide +kernel
theorem l57_9 : (ax_dt (ax_T 57)).lookup 9 = some (.if_icmp .ge 8, 3, 0, 0, 0) := by decide +kernel
theorem l57_12 : (ax_dt (ax_T 57)).lookup 12 = some (.aload_n 0, 1, 0, 0, 0) := by decide +kernel
theorem l57_13 : (ax_dt (ax_T 57)).lookup 13 = some (.iload_n 1, 1, 0, 0, 0) := by decide +kernel
theorem l57_14 : (ax_dt (ax_T 57)).lookup 14 = some (.putfield 21, 3, 5, 1, 0) := by decide +kernel
theorem l57_17 : (ax_dt (ax_T 57)).lookup 17 = some (.return_, 1, 0, 0, 0) := by decide +kernel
noncomputable def F_X6_cut (s : Nat) (v1 : Int) (μ : bM) : Option (Int × bM) := if v1 < 0 then some (0, μ) else if (μ s 1) ≤ v1 then some (0, μ) else some (0, (bset μ s 1 v1))
theorem r_X6_cut {L : Nat} {xs : Nat → Int32} {d : Nat} {μ : bM} (s : Nat) (hs : bStore s) (v1 : Int) (h1 : bR v1) : bD L xs (d + 0) 57 0 [(0, .ref s), (1, bI v1)] [] μ ((F_X6_cut s v1 μ).bind (bMc)) := by
  have hr : ∀ r, (bMc) r = (bMc) r := fun _ => rfl
  unfold F_X6_cut
  refine bD.ok fun hk => ?_
  refine b_s (pc' := 1) (lv1 := [(0, .ref s), (1, bI v1)]) (st' := [bI v1]) l57_0 (fun _ => rfl) ?_
  refine b_zlt (pt := 17) l57_1 h1 (by decide) rfl (fun c1 => ?_) (fun c1 => b_pc (pc' := 4) rfl ?_)
  · exact b_retv l57_17 rfl (hr _)
  · refine b_s (pc' := 5) (lv1 := [(0, .ref s), (1, bI v1)]) (st' := [bI v1]) l57_4 (fun _ => rfl) ?_
    refine b_s (pc' := 6) (lv1 := [(0, .ref s), (1, bI v1)]) (st' := [.ref s, bI v1]) l57_5 (fun _ => rfl) ?_
    refine b_gi l57_6 hs (by decide) (by decide) rfl (b_pc (pc' := 9) rfl ?_)
    refine b_ige (pt := 17) l57_9 h1 (bO_f hk (ci := 5) hs rfl) (by decide) rfl (fun c2 => ?_) (fun c2 => b_pc (pc' := 12) rfl ?_)
    · exact b_retv l57_17 rfl (hr _)
    · refine b_s (pc' := 13) (lv1 := [(0, .ref s), (1, bI v1)]) (st' := [.ref s]) l57_12 (fun _ => rfl) ?_
      refine b_s (pc' := 14) (lv1 := [(0, .ref s), (1, bI v1)]) (st' := [bI v1, .ref s]) l57_13 (fun _ => rfl) ?_
      refine b_pi l57_14 hs (by decide) (by decide) rfl rfl h1 (bD.ok fun hk3 => b_pc (pc' := 17) rfl ?_)
      exact b_retv l57_17 rfl (hr _)
/-! ET$Store.add -/
theorem l58_0 : (ax_dt (ax_T 58)).lookup 0 = some (.aload_n 0, 1, 0, 0, 0) := by decide +kernel
theorem l58_1 : (ax_dt (ax_T 58)).lookup 1 = some (.getfield 21, 3, 5, 1, 0) := by decide +kernel
theorem l58_4 : (ax_dt (ax_T 58)).lookup 4 = some (.aload_n 0, 1, 0, 0, 0) := by decide +kernel
theorem l58_5 : (ax_dt (ax_T 58)).lookup 5 = some (.getfield 15, 3, 5, 0, 0) := by decide +kernel
theorem l58_8 : (ax_dt (ax_T 58)).lookup 8 = some (.arraylength, 1, 0, 0, 0) := by decide +kernel
theorem l58_9 : (ax_dt (ax_T 58)).lookup 9 = some (.if_icmp .ge 24, 3, 0, 0, 0) := by decide +kernel
theorem l58_12 : (ax_dt (ax_T 58)).lookup 12 = some (.aload_n 0, 1, 0, 0, 0) := by decide +kernel
theorem l58_13 : (ax_dt (ax_T 58)).lookup 13 = some (.getfield 15, 3, 5, 0, 0) := by decide +kernel
theorem l58_16 : (ax_dt (ax_T 58)).lookup 16 = some (.aload_n 0, 1, 0, 0, 0) := by decide +kernel
theorem l58_17 : (ax_dt (ax_T 58)).lookup 17 = some (.getfield 21, 3, 5, 1, 0) := by decide +kernel
theorem l58_20 : (ax_dt (ax_T 58)).lookup 20 = some (.iload_n 1, 1, 0, 0, 0) := by decide +kernel
theorem l58_21 : (ax_dt (ax_T 58)).lookup 21 = some (.i2b, 1, 0, 0, 0) := by decide +kernel
theorem l58_22 : (ax_dt (ax_T 58)).lookup 22 = some (.bastore, 1, 0, 0, 0) := by decide +kernel
theorem l58_23 : (ax_dt (ax_T 58)).lookup 23 = some (.aload_n 0, 1, 0, 0, 0) := by decide +kernel
theorem l58_24 : (ax_dt (ax_T 58)).lookup 24 = some (.dup, 1, 0, 0, 0) := by decide +kernel
theorem l58_25 : (ax_dt (ax_T 58)).lookup 25 = some (.getfield 21, 3, 5, 1, 0) := by decide +kernel
theorem l58_28 : (ax_dt (ax_T 58)).lookup 28 = some (.iconst 1, 1, 0, 0, 0) := by decide +kernel
theorem l58_29 : (ax_dt (ax_T 58)).lookup 29 = some (.iadd, 1, 0, 0, 0) := by decide +kernel
theorem l58_30 : (ax_dt (ax_T 58)).lookup 30 = some (.putfield 21, 3, 5, 1, 0) := by decide +kernel
theorem l58_33 : (ax_dt (ax_T 58)).lookup 33 = some (.return_, 1, 0, 0, 0) := by decide +kernel
noncomputable def F_X6_add (s : Nat) (v1 : Int) (μ : bM) : Option (Int × bM) := if ((bN (s + 1) : Nat) : Int) ≤ (μ s 1) then some (0, μ) else bG (0 ≤ (μ s 1) ∧ (μ s 1) < ((bN (s + 1) : Nat) : Int)) (bG (bR (((bset μ (s + 1) (μ s 1).toNat (b8 v1)) s 1) + 1)) (some (0, (bset (bset μ (s + 1) (μ s 1).toNat (b8 v1)) s 1 (((bset μ (s + 1) (μ s 1).toNat (b8 v1)) s 1) + 1)))))
theorem r_X6_add {L : Nat} {xs : Nat → Int32} {d : Nat} {μ : bM} (s : Nat) (hs : bStore s) (v1 : Int) (h1 : bR v1) : bD L xs (d + 0) 58 0 [(0, .ref s), (1, bI v1)] [] μ ((F_X6_add s v1 μ).bind (bMc)) := by
  have hr : ∀ r, (bMc) r = (bMc) r := fun _ => rfl
  unfold F_X6_add
  refine bD.ok fun hk => ?_
  refine b_s (pc' := 1) (lv1 := [(0, .ref s), (1, bI v1)]) (st' := [.ref s]) l58_0 (fun _ => rfl) ?_
  refine b_gi l58_1 hs (by decide) (by decide) rfl (b_pc (pc' := 4) rfl ?_)
  refine b_s (pc' := 5) (lv1 := [(0, .ref s), (1, bI v1)]) (st' := [.ref s, bI (μ s 1)]) l58_4 (fun _ => rfl) ?_
  refine b_gp (q' := (s + 1)) (j := 1) l58_5 hs (by decide) (by decide) rfl hk rfl rfl (b_pc (pc' := 8) rfl ?_)
  refine b_len l58_8 (bStore_d hs) (by decide) (b_pc (pc' := 9) rfl ?_)
  refine b_ige (pt := 33) l58_9 (bO_f hk (ci := 5) hs rfl) (bN_R (bStore_d hs) (by decide)) (by decide) rfl (fun c1 => ?_) (fun c1 => b_pc (pc' := 12) rfl ?_)
  · exact b_retv l58_33 rfl (hr _)
  · refine b_s (pc' := 13) (lv1 := [(0, .ref s), (1, bI v1)]) (st' := [.ref s]) l58_12 (fun _ => rfl) ?_
    refine b_gp (q' := (s + 1)) (j := 1) l58_13 hs (by decide) (by decide) rfl hk rfl rfl (b_pc (pc' := 16) rfl ?_)
    refine b_s (pc' := 17) (lv1 := [(0, .ref s), (1, bI v1)]) (st' := [.ref s, .ref (s + 1)]) l58_16 (fun _ => rfl) ?_
    refine b_gi l58_17 hs (by decide) (by decide) rfl (b_pc (pc' := 20) rfl ?_)
    refine b_s (pc' := 21) (lv1 := [(0, .ref s), (1, bI v1)]) (st' := [bI v1, bI (μ s 1), .ref (s + 1)]) l58_20 (fun _ => rfl) ?_
    refine b_i2b l58_21 (b_pc (pc' := 22) rfl ?_)
    refine b_g fun g5 => ?_
    refine b_bas l58_22 (bStore_d hs) g5 (b8_B _) (bD.ok fun hk2 => b_pc (pc' := 23) rfl ?_)
    refine b_s (pc' := 24) (lv1 := [(0, .ref s), (1, bI v1)]) (st' := [.ref s]) l58_23 (fun _ => rfl) ?_
    refine b_s (pc' := 25) (lv1 := [(0, .ref s), (1, bI v1)]) (st' := [.ref s, .ref s]) l58_24 (fun _ => rfl) ?_
    refine b_gi l58_25 hs (by decide) (by decide) rfl (b_pc (pc' := 28) rfl ?_)
    refine b_s (pc' := 29) (lv1 := [(0, .ref s), (1, bI v1)]) (st' := [bI 1, bI ((bset μ (s + 1) (μ s 1).toNat (b8 v1)) s 1), .ref s]) l58_28 (fun _ => rfl) ?_
    refine b_iadd l58_29 fun g3 => (b_pc (pc' := 30) rfl ?_)
    refine b_pi l58_30 hs (by decide) (by decide) rfl rfl g3 (bD.ok fun hk4 => b_pc (pc' := 33) rfl ?_)
    exact b_retv l58_33 rfl (hr _)
/-! ET$Store.addHighFirst -/
theorem l59_0 : (ax_dt (ax_T 59)).lookup 0 = some (.bipush 24, 2, 0, 0, 0) := by decide +kernel
theorem l59_2 : (ax_dt (ax_T 59)).lookup 2 = some (.istore_n 2, 1, 0, 0, 0) := by decide +kernel
theorem l59_3 : (ax_dt (ax_T 59)).lookup 3 = some (.iload_n 2, 1, 0, 0, 0) := by decide +kernel
theorem l59_4 : (ax_dt (ax_T 59)).lookup 4 = some (.ifCond .lt 16, 3, 0, 0, 0) := by decide +kernel
theorem l59_7 : (ax_dt (ax_T 59)).lookup 7 = some (.aload_n 0, 1, 0, 0, 0) := by decide +kernel
theorem l59_8 : (ax_dt (ax_T 59)).lookup 8 = some (.iload_n 1, 1, 0, 0, 0) := by decide +kernel
theorem l59_9 : (ax_dt (ax_T 59)).lookup 9 = some (.iload_n 2, 1, 0, 0, 0) := by decide +kernel
theorem l59_10 : (ax_dt (ax_T 59)).lookup 10 = some (.ishr, 1, 0, 0, 0) := by decide +kernel
theorem l59_11 : (ax_dt (ax_T 59)).lookup 11 = some (.invokevirtual 25, 3, 58, 1, 0) := by decide +kernel
theorem l59_14 : (ax_dt (ax_T 59)).lookup 14 = some (.iinc 2 (-8), 3, 0, 0, 0) := by decide +kernel
theorem l59_17 : (ax_dt (ax_T 59)).lookup 17 = some (.goto (-14), 3, 0, 0, 0) := by decide +kernel
theorem l59_20 : (ax_dt (ax_T 59)).lookup 20 = some (.return_, 1, 0, 0, 0) := by decide +kernel
noncomputable def F_X6_addHighFirst_3 (s : Nat) (v1 : Int) (v2 : Int) (μ : bM) : Option ((Int × bM) ⊕ (Int × bM)) := if v2 < 0 then some (.inr (0, μ)) else bMm (F_X6_add s (bShr v1 v2) μ) (fun w2 μ3 => bG (bR (v2 + (-8))) (some (.inl ((v2 + (-8)), μ3))))
noncomputable def F_X6_addHighFirst (s : Nat) (v1 : Int) (μ : bM) : Option (Int × bM) := bLoop (fun z => F_X6_addHighFirst_3 s v1 z.1 z.2) (24, μ)
theorem q_X6_addHighFirst_3 {L : Nat} {xs : Nat → Int32} {d : Nat} {μ : bM} {s : Nat} {v1 : Int} {κ : ((Int × bM) ⊕ (Int × bM)) → Option bX} (hr : ∀ r : Int × bM, κ (.inr r) = (bMc) r) (H3 : ∀ (v2 : Int) (μ : bM), bR v2 → bD L xs (d + 1) 59 3 [(0, .ref s), (1, bI v1), (2, bI v2)] [] μ (κ (.inl (v2, μ)))) (hs : bStore s) (h1 : bR v1) {v2 : Int} (h2 : bR v2) : bD L xs (d + 1) 59 3 [(0, .ref s), (1, bI v1), (2, bI v2)] [] μ ((F_X6_addHighFirst_3 s v1 v2 μ).bind κ) := by
  unfold F_X6_addHighFirst_3
  refine bD.ok fun hk => ?_
  refine b_s (pc' := 4) (lv1 := [(0, .ref s), (1, bI v1), (2, bI v2)]) (st' := [bI v2]) l59_3 (fun _ => rfl) ?_
  refine b_zlt (pt := 20) l59_4 h2 (by decide) rfl (fun c1 => ?_) (fun c1 => b_pc (pc' := 7) rfl ?_)
  · exact b_retv l59_20 rfl (hr _)
  · refine b_s (pc' := 8) (lv1 := [(0, .ref s), (1, bI v1), (2, bI v2)]) (st' := [.ref s]) l59_7 (fun _ => rfl) ?_
    refine b_s (pc' := 9) (lv1 := [(0, .ref s), (1, bI v1), (2, bI v2)]) (st' := [bI v1, .ref s]) l59_8 (fun _ => rfl) ?_
    refine b_s (pc' := 10) (lv1 := [(0, .ref s), (1, bI v1), (2, bI v2)]) (st' := [bI v2, bI v1, .ref s]) l59_9 (fun _ => rfl) ?_
    refine b_ishr l59_10 (b_pc (pc' := 11) rfl ?_)
    refine b_cMv l59_11 rfl (b_rc (ci := 5) hs (by decide) (by decide +kernel)) (Nat.le_of_ble_eq_true rfl) (Nat.le_of_ble_eq_true rfl) rfl (r_X6_add s hs (bShr v1 v2) (bi_rg _)) fun w2 μ3 hw2 => bD.ok fun hk4 => b_pc (pc' := 14) rfl ?_
    refine b_inc (lv' := [(0, .ref s), (1, bI v1), (2, bI (v2 + (-8)))]) l59_14 rfl (by decide +kernel) (bSb rfl (bSb rfl (bSb rfl bSn))) fun g5 => (b_pc (pc' := 17) rfl ?_)
    refine b_s (pc' := 3) (lv1 := [(0, .ref s), (1, bI v1), (2, bI (v2 + (-8)))]) (st' := []) l59_17 (fun _ => rfl) ?_
    refine bD.wk (lv' := [(0, .ref s), (1, bI v1), (2, bI (v2 + (-8)))]) (bSb rfl (bSb rfl (bSb rfl bSn))) ?_
    exact H3 (v2 + (-8)) μ3 g5
theorem p_X6_addHighFirst_3 {L : Nat} {xs : Nat → Int32} {d : Nat} {μ : bM} {s : Nat} {κ : (Int × bM) → Option bX} (hr : ∀ r : Int × bM, κ r = (bMc) r) (hs : bStore s) {v1 : Int} (h1 : bR v1) {v2 : Int} (h2 : bR v2) : bD L xs (d + 1) 59 3 [(0, .ref s), (1, bI v1), (2, bI v2)] [] μ ((bLoop (fun z => F_X6_addHighFirst_3 s v1 z.1 z.2) (v2, μ)).bind κ) :=
  b_loop (fun z => [(0, .ref s), (1, bI v1), (2, bI z.1)]) (fun z => z.2) (fun z => bR z.1) (fun κ' hκ HH z hz => q_X6_addHighFirst_3 (κ := κ') (fun r => (hκ _).trans (hr r)) (fun a2 am b2 => HH (a2, am) b2) hs h1 hz) (v2, μ) h2
theorem r_X6_addHighFirst {L : Nat} {xs : Nat → Int32} {d : Nat} {μ : bM} (s : Nat) (hs : bStore s) (v1 : Int) (h1 : bR v1) : bD L xs (d + 1) 59 0 [(0, .ref s), (1, bI v1)] [] μ ((F_X6_addHighFirst s v1 μ).bind (bMc)) := by
  have hr : ∀ r, (bMc) r = (bMc) r := fun _ => rfl
  unfold F_X6_addHighFirst
  refine bD.ok fun hk => ?_
  refine b_bipush l59_0 (by decide) (b_pc (pc' := 2) rfl ?_)
  refine b_w (pc' := 3) (lv1 := ax_st1 [(0, .ref s), (1, bI v1)] 2 (bI 24)) (lv' := [(0, .ref s), (1, bI v1), (2, bI 24)]) (st' := []) l59_2 (fun _ => rfl) (bSb rfl (bSb rfl (bSb rfl bSn))) ?_
  refine bD.wk (lv' := [(0, .ref s), (1, bI v1), (2, bI 24)]) (bSb rfl (bSb rfl (bSb rfl bSn))) ?_
  exact p_X6_addHighFirst_3 hr hs h1 (by decide)
/-! ET$Store.addLowFirst -/
theorem l60_0 : (ax_dt (ax_T 60)).lookup 0 = some (.iconst 0, 1, 0, 0, 0) := by decide +kernel
theorem l60_1 : (ax_dt (ax_T 60)).lookup 1 = some (.istore 4, 2, 0, 0, 0) := by decide +kernel
theorem l60_3 : (ax_dt (ax_T 60)).lookup 3 = some (.iload 4, 2, 0, 0, 0) := by decide +kernel
theorem l60_5 : (ax_dt (ax_T 60)).lookup 5 = some (.iload_n 3, 1, 0, 0, 0) := by decide +kernel
theorem l60_6 : (ax_dt (ax_T 60)).lookup 6 = some (.if_icmp .ge 21, 3, 0, 0, 0) := by decide +kernel
theorem l60_9 : (ax_dt (ax_T 60)).lookup 9 = some (.aload_n 0, 1, 0, 0, 0) := by decide +kernel
theorem l60_10 : (ax_dt (ax_T 60)).lookup 10 = some (.lload_n 1, 1, 0, 0, 0) := by decide +kernel
theorem l60_11 : (ax_dt (ax_T 60)).lookup 11 = some (.bipush 8, 2, 0, 0, 0) := by decide +kernel
theorem l60_13 : (ax_dt (ax_T 60)).lookup 13 = some (.iload 4, 2, 0, 0, 0) := by decide +kernel
theorem l60_15 : (ax_dt (ax_T 60)).lookup 15 = some (.imul, 1, 0, 0, 0) := by decide +kernel
theorem l60_16 : (ax_dt (ax_T 60)).lookup 16 = some (.lshr, 1, 0, 0, 0) := by decide +kernel
theorem l60_17 : (ax_dt (ax_T 60)).lookup 17 = some (.l2i, 1, 0, 0, 0) := by decide +kernel
theorem l60_18 : (ax_dt (ax_T 60)).lookup 18 = some (.invokevirtual 25, 3, 58, 1, 0) := by decide +kernel
theorem l60_21 : (ax_dt (ax_T 60)).lookup 21 = some (.iinc 4 1, 3, 0, 0, 0) := by decide +kernel
theorem l60_24 : (ax_dt (ax_T 60)).lookup 24 = some (.goto (-21), 3, 0, 0, 0) := by decide +kernel
theorem l60_27 : (ax_dt (ax_T 60)).lookup 27 = some (.return_, 1, 0, 0, 0) := by decide +kernel
noncomputable def F_X6_addLowFirst_3 (s : Nat) (v1 : Int) (v3 : Int) (v4 : Int) (μ : bM) : Option ((Int × bM) ⊕ (Int × bM)) := if v3 ≤ v4 then some (.inr (0, μ)) else bG (bR (8 * v4)) (bMm (F_X6_add s (b32 (bShrL v1 (8 * v4))) μ) (fun w3 μ4 => bG (bR (v4 + 1)) (some (.inl ((v4 + 1), μ4)))))
noncomputable def F_X6_addLowFirst (s : Nat) (v1 : Int) (v3 : Int) (μ : bM) : Option (Int × bM) := bLoop (fun z => F_X6_addLowFirst_3 s v1 v3 z.1 z.2) (0, μ)
theorem q_X6_addLowFirst_3 {L : Nat} {xs : Nat → Int32} {d : Nat} {μ : bM} {s : Nat} {v1 : Int} {v3 : Int} {κ : ((Int × bM) ⊕ (Int × bM)) → Option bX} (hr : ∀ r : Int × bM, κ (.inr r) = (bMc) r) (H3 : ∀ (v4 : Int) (μ : bM), bR v4 → bD L xs (d + 1) 60 3 [(0, .ref s), (1, bLg v1), (3, bI v3), (4, bI v4)] [] μ (κ (.inl (v4, μ)))) (hs : bStore s) (h1 : bRL v1) (h3 : bR v3) {v4 : Int} (h4 : bR v4) : bD L xs (d + 1) 60 3 [(0, .ref s), (1, bLg v1), (3, bI v3), (4, bI v4)] [] μ ((F_X6_addLowFirst_3 s v1 v3 v4 μ).bind κ) := by
  unfold F_X6_addLowFirst_3
  refine bD.ok fun hk => ?_
  refine b_s (pc' := 5) (lv1 := [(0, .ref s), (1, bLg v1), (3, bI v3), (4, bI v4)]) (st' := [bI v4]) l60_3 (fun _ => rfl) ?_
  refine b_s (pc' := 6) (lv1 := [(0, .ref s), (1, bLg v1), (3, bI v3), (4, bI v4)]) (st' := [bI v3, bI v4]) l60_5 (fun _ => rfl) ?_
  refine b_ige (pt := 27) l60_6 h4 h3 (by decide) rfl (fun c1 => ?_) (fun c1 => b_pc (pc' := 9) rfl ?_)
  · exact b_retv l60_27 rfl (hr _)
  · refine b_s (pc' := 10) (lv1 := [(0, .ref s), (1, bLg v1), (3, bI v3), (4, bI v4)]) (st' := [.ref s]) l60_9 (fun _ => rfl) ?_
    refine b_s (pc' := 11) (lv1 := [(0, .ref s), (1, bLg v1), (3, bI v3), (4, bI v4)]) (st' := [bLg v1, .ref s]) l60_10 (fun _ => rfl) ?_
    refine b_bipush l60_11 (by decide) (b_pc (pc' := 13) rfl ?_)
    refine b_s (pc' := 15) (lv1 := [(0, .ref s), (1, bLg v1), (3, bI v3), (4, bI v4)]) (st' := [bI v4, bI 8, bLg v1, .ref s]) l60_13 (fun _ => rfl) ?_
    refine b_imul l60_15 fun g2 => (b_pc (pc' := 16) rfl ?_)
    refine b_lshr l60_16 (b_pc (pc' := 17) rfl ?_)
    refine b_l2i l60_17 (b_pc (pc' := 18) rfl ?_)
    refine b_cMv l60_18 rfl (b_rc (ci := 5) hs (by decide) (by decide +kernel)) (Nat.le_of_ble_eq_true rfl) (Nat.le_of_ble_eq_true rfl) rfl (r_X6_add s hs (b32 (bShrL v1 (8 * v4))) (b32_R _)) fun w3 μ4 hw3 => bD.ok fun hk5 => b_pc (pc' := 21) rfl ?_
    refine b_inc (lv' := [(0, .ref s), (1, bLg v1), (3, bI v3), (4, bI (v4 + 1))]) l60_21 rfl (by decide +kernel) (bSb rfl (bSb rfl (bSb rfl (bSb rfl bSn)))) fun g6 => (b_pc (pc' := 24) rfl ?_)
    refine b_s (pc' := 3) (lv1 := [(0, .ref s), (1, bLg v1), (3, bI v3), (4, bI (v4 + 1))]) (st' := []) l60_24 (fun _ => rfl) ?_
    refine bD.wk (lv' := [(0, .ref s), (1, bLg v1), (3, bI v3), (4, bI (v4 + 1))]) (bSb rfl (bSb rfl (bSb rfl (bSb rfl bSn)))) ?_
    exact H3 (v4 + 1) μ4 g6
theorem p_X6_addLowFirst_3 {L : Nat} {xs : Nat → Int32} {d : Nat} {μ : bM} {s : Nat} {κ : (Int × bM) → Option bX} (hr : ∀ r : Int × bM, κ r = (bMc) r) (hs : bStore s) {v1 : Int} (h1 : bRL v1) {v3 : Int} (h3 : bR v3) {v4 : Int} (h4 : bR v4) : bD L xs (d + 1) 60 3 [(0, .ref s), (1, bLg v1), (3, bI v3), (4, bI v4)] [] μ ((bLoop (fun z => F_X6_addLowFirst_3 s v1 v3 z.1 z.2) (v4, μ)).bind κ) :=
  b_loop (fun z => [(0, .ref s), (1, bLg v1), (3, bI v3), (4, bI z.1)]) (fun z => z.2) (fun z => bR z.1) (fun κ' hκ HH z hz => q_X6_addLowFirst_3 (κ := κ') (fun r => (hκ _).trans (hr r)) (fun a4 am b4 => HH (a4, am) b4) hs h1 h3 hz) (v4, μ) h4
theorem r_X6_addLowFirst {L : Nat} {xs : Nat → Int32} {d : Nat} {μ : bM} (s : Nat) (hs : bStore s) (v1 : Int) (h1 : bRL v1) (v3 : Int) (h3 : bR v3) : bD L xs (d + 1) 60 0 [(0, .ref s), (1, bLg v1), (3, bI v3)] [] μ ((F_X6_addLowFirst s v1 v3 μ).bind (bMc)) := by
  have hr : ∀ r, (bMc) r = (bMc) r := fun _ => rfl
  unfold F_X6_addLowFirst
  refine bD.ok fun hk => ?_
  refine b_s (pc' := 1) (lv1 := [(0, .ref s), (1, bLg v1), (3, bI v3)]) (st' := [bI 0]) l60_0 (fun _ => rfl) ?_
  refine b_w (pc' := 3) (lv1 := ax_st1 [(0, .ref s), (1, bLg v1), (3, bI v3)] 4 (bI 0)) (lv' := [(0, .ref s), (1, bLg v1), (3, bI v3), (4, bI 0)]) (st' := []) l60_1 (fun _ => rfl) (bSb rfl (bSb rfl (bSb rfl (bSb rfl bSn)))) ?_
  refine bD.wk (lv' := [(0, .ref s), (1, bLg v1), (3, bI v3), (4, bI 0)]) (bSb rfl (bSb rfl (bSb rfl (bSb rfl bSn)))) ?_
  exact p_X6_addLowFirst_3 hr hs h1 h3 (by decide)
/-! ET$Store.addSevens -/
theorem l63_0 : (ax_dt (ax_T 63)).lookup 0 = some (.lload_n 1, 1, 0, 0, 0) := by decide +kernel
theorem l63_1 : (ax_dt (ax_T 63)).lookup 1 = some (.lstore 4, 2, 0, 0, 0) := by decide +kernel
theorem l63_3 : (ax_dt (ax_T 63)).lookup 3 = some (.iconst 1, 1, 0, 0, 0) := by decide +kernel
theorem l63_4 : (ax_dt (ax_T 63)).lookup 4 = some (.istore 6, 2, 0, 0, 0) := by decide +kernel
theorem l63_6 : (ax_dt (ax_T 63)).lookup 6 = some (.iload 6, 2, 0, 0, 0) := by decide +kernel
theorem l63_8 : (ax_dt (ax_T 63)).lookup 8 = some (.iload_n 3, 1, 0, 0, 0) := by decide +kernel
theorem l63_9 : (ax_dt (ax_T 63)).lookup 9 = some (.if_icmp .gt 46, 3, 0, 0, 0) := by decide +kernel
theorem l63_12 : (ax_dt (ax_T 63)).lookup 12 = some (.lload 4, 2, 0, 0, 0) := by decide +kernel
theorem l63_14 : (ax_dt (ax_T 63)).lookup 14 = some (.ldc2_w 40, 3, 0, 0, 127) := by decide +kernel
theorem l63_17 : (ax_dt (ax_T 63)).lookup 17 = some (.land, 1, 0, 0, 0) := by decide +kernel
theorem l63_18 : (ax_dt (ax_T 63)).lookup 18 = some (.l2i, 1, 0, 0, 0) := by decide +kernel
theorem l63_19 : (ax_dt (ax_T 63)).lookup 19 = some (.istore 7, 2, 0, 0, 0) := by decide +kernel
theorem l63_21 : (ax_dt (ax_T 63)).lookup 21 = some (.aload_n 0, 1, 0, 0, 0) := by decide +kernel
theorem l63_22 : (ax_dt (ax_T 63)).lookup 22 = some (.iload 6, 2, 0, 0, 0) := by decide +kernel
theorem l63_24 : (ax_dt (ax_T 63)).lookup 24 = some (.iload_n 3, 1, 0, 0, 0) := by decide +kernel
theorem l63_25 : (ax_dt (ax_T 63)).lookup 25 = some (.if_icmp .ge 12, 3, 0, 0, 0) := by decide +kernel
theorem l63_28 : (ax_dt (ax_T 63)).lookup 28 = some (.iload 7, 2, 0, 0, 0) := by decide +kernel
theorem l63_30 : (ax_dt (ax_T 63)).lookup 30 = some (.sipush 128, 3, 0, 0, 0) := by decide +kernel
theorem l63_33 : (ax_dt (ax_T 63)).lookup 33 = some (.ior, 1, 0, 0, 0) := by decide +kernel
theorem l63_34 : (ax_dt (ax_T 63)).lookup 34 = some (.goto 5, 3, 0, 0, 0) := by decide +kernel
theorem l63_37 : (ax_dt (ax_T 63)).lookup 37 = some (.iload 7, 2, 0, 0, 0) := by decide +kernel
theorem l63_39 : (ax_dt (ax_T 63)).lookup 39 = some (.invokevirtual 25, 3, 58, 1, 0) := by decide +kernel
theorem l63_42 : (ax_dt (ax_T 63)).lookup 42 = some (.lload 4, 2, 0, 0, 0) := by decide +kernel
theorem l63_44 : (ax_dt (ax_T 63)).lookup 44 = some (.bipush 7, 2, 0, 0, 0) := by decide +kernel
theorem l63_46 : (ax_dt (ax_T 63)).lookup 46 = some (.lshr, 1, 0, 0, 0) := by decide +kernel
theorem l63_47 : (ax_dt (ax_T 63)).lookup 47 = some (.lstore 4, 2, 0, 0, 0) := by decide +kernel
theorem l63_49 : (ax_dt (ax_T 63)).lookup 49 = some (.iinc 6 1, 3, 0, 0, 0) := by decide +kernel
theorem l63_52 : (ax_dt (ax_T 63)).lookup 52 = some (.goto (-46), 3, 0, 0, 0) := by decide +kernel
theorem l63_55 : (ax_dt (ax_T 63)).lookup 55 = some (.return_, 1, 0, 0, 0) := by decide +kernel
noncomputable def F_X6_addSevens_6 (s : Nat) (v3 : Int) (v4 : Int) (v6 : Int) (μ : bM) : Option ((Int × Int × bM) ⊕ (Int × bM)) := if v3 < v6 then some (.inr (0, μ)) else if v3 ≤ v6 then bMm (F_X6_add s (b32 (bAndL v4 127)) μ) (fun w3 μ4 => bG (bR (v6 + 1)) (some (.inl ((bShrL v4 7), (v6 + 1), μ4)))) else bMm (F_X6_add s (bOr (b32 (bAndL v4 127)) 128) μ) (fun w7 μ8 => bG (bR (v6 + 1)) (some (.inl ((bShrL v4 7), (v6 + 1), μ8))))
noncomputable def F_X6_addSevens (s : Nat) (v1 : Int) (v3 : Int) (μ : bM) : Option (Int × bM) := bLoop (fun z => F_X6_addSevens_6 s v3 z.1 z.2.1 z.2.2) (v1, 1, μ)
theorem q_X6_addSevens_6 {L : Nat} {xs : Nat → Int32} {d : Nat} {μ : bM} {s : Nat} {v3 : Int} {κ : ((Int × Int × bM) ⊕ (Int × bM)) → Option bX} (hr : ∀ r : Int × bM, κ (.inr r) = (bMc) r) (H6 : ∀ (v4 : Int) (v6 : Int) (μ : bM), bRL v4 → bR v6 → bD L xs (d + 1) 63 6 [(0, .ref s), (3, bI v3), (4, bLg v4), (6, bI v6)] [] μ (κ (.inl (v4, v6, μ)))) (hs : bStore s) (h3 : bR v3) {v4 : Int} (h4 : bRL v4) {v6 : Int} (h6 : bR v6) : bD L xs (d + 1) 63 6 [(0, .ref s), (3, bI v3), (4, bLg v4), (6, bI v6)] [] μ ((F_X6_addSevens_6 s v3 v4 v6 μ).bind κ) := by
  unfold F_X6_addSevens_6
  refine bD.ok fun hk => ?_
  refine b_s (pc' := 8) (lv1 := [(0, .ref s), (3, bI v3), (4, bLg v4), (6, bI v6)]) (st' := [bI v6]) l63_6 (fun _ => rfl) ?_
  refine b_s (pc' := 9) (lv1 := [(0, .ref s), (3, bI v3), (4, bLg v4), (6, bI v6)]) (st' := [bI v3, bI v6]) l63_8 (fun _ => rfl) ?_
  refine b_igt (pt := 55) l63_9 h6 h3 (by decide) rfl (fun c1 => ?_) (fun c1 => b_pc (pc' := 12) rfl ?_)
  · exact b_retv l63_55 rfl (hr _)
  · refine b_s (pc' := 14) (lv1 := [(0, .ref s), (3, bI v3), (4, bLg v4), (6, bI v6)]) (st' := [bLg v4]) l63_12 (fun _ => rfl) ?_
    refine b_s (pc' := 17) (lv1 := [(0, .ref s), (3, bI v3), (4, bLg v4), (6, bI v6)]) (st' := [bLg 127, bLg v4]) l63_14 (fun _ => rfl) ?_
    refine b_land l63_17 (b_pc (pc' := 18) rfl ?_)
    refine b_l2i l63_18 (b_pc (pc' := 19) rfl ?_)
    refine b_w (pc' := 21) (lv1 := ax_st1 [(0, .ref s), (3, bI v3), (4, bLg v4), (6, bI v6)] 7 (bI (b32 (bAndL v4 127)))) (lv' := [(0, .ref s), (3, bI v3), (4, bLg v4), (6, bI v6), (7, bI (b32 (bAndL v4 127)))]) (st' := []) l63_19 (fun _ => rfl) (bSb rfl (bSb rfl (bSb rfl (bSb rfl (bSb rfl bSn))))) ?_
    refine b_s (pc' := 22) (lv1 := [(0, .ref s), (3, bI v3), (4, bLg v4), (6, bI v6), (7, bI (b32 (bAndL v4 127)))]) (st' := [.ref s]) l63_21 (fun _ => rfl) ?_
    refine b_s (pc' := 24) (lv1 := [(0, .ref s), (3, bI v3), (4, bLg v4), (6, bI v6), (7, bI (b32 (bAndL v4 127)))]) (st' := [bI v6, .ref s]) l63_22 (fun _ => rfl) ?_
    refine b_s (pc' := 25) (lv1 := [(0, .ref s), (3, bI v3), (4, bLg v4), (6, bI v6), (7, bI (b32 (bAndL v4 127)))]) (st' := [bI v3, bI v6, .ref s]) l63_24 (fun _ => rfl) ?_
    refine b_ige (pt := 37) l63_25 h6 h3 (by decide) rfl (fun c2 => ?_) (fun c2 => b_pc (pc' := 28) rfl ?_)
    · refine b_s (pc' := 39) (lv1 := [(0, .ref s), (3, bI v3), (4, bLg v4), (6, bI v6), (7, bI (b32 (bAndL v4 127)))]) (st' := [bI (b32 (bAndL v4 127)), .ref s]) l63_37 (fun _ => rfl) ?_
      refine b_cMv l63_39 rfl (b_rc (ci := 5) hs (by decide) (by decide +kernel)) (Nat.le_of_ble_eq_true rfl) (Nat.le_of_ble_eq_true rfl) rfl (r_X6_add s hs (b32 (bAndL v4 127)) (b32_R _)) fun w3 μ4 hw3 => bD.ok fun hk5 => b_pc (pc' := 42) rfl ?_
      refine b_s (pc' := 44) (lv1 := [(0, .ref s), (3, bI v3), (4, bLg v4), (6, bI v6), (7, bI (b32 (bAndL v4 127)))]) (st' := [bLg v4]) l63_42 (fun _ => rfl) ?_
      refine b_bipush l63_44 (by decide) (b_pc (pc' := 46) rfl ?_)
      refine b_lshr l63_46 (b_pc (pc' := 47) rfl ?_)
      refine b_w (pc' := 49) (lv1 := ax_st2 [(0, .ref s), (3, bI v3), (4, bLg v4), (6, bI v6), (7, bI (b32 (bAndL v4 127)))] 4 (bLg (bShrL v4 7))) (lv' := [(0, .ref s), (3, bI v3), (4, bLg (bShrL v4 7)), (6, bI v6)]) (st' := []) l63_47 (fun _ => rfl) (bSb rfl (bSb rfl (bSb rfl (bSb rfl bSn)))) ?_
      refine b_inc (lv' := [(0, .ref s), (3, bI v3), (4, bLg (bShrL v4 7)), (6, bI (v6 + 1))]) l63_49 rfl (by decide +kernel) (bSb rfl (bSb rfl (bSb rfl (bSb rfl bSn)))) fun g6 => (b_pc (pc' := 52) rfl ?_)
      refine b_s (pc' := 6) (lv1 := [(0, .ref s), (3, bI v3), (4, bLg (bShrL v4 7)), (6, bI (v6 + 1))]) (st' := []) l63_52 (fun _ => rfl) ?_
      refine bD.wk (lv' := [(0, .ref s), (3, bI v3), (4, bLg (bShrL v4 7)), (6, bI (v6 + 1))]) (bSb rfl (bSb rfl (bSb rfl (bSb rfl bSn)))) ?_
      exact H6 (bShrL v4 7) (v6 + 1) μ4 (bl_rg _) g6
    · refine b_s (pc' := 30) (lv1 := [(0, .ref s), (3, bI v3), (4, bLg v4), (6, bI v6), (7, bI (b32 (bAndL v4 127)))]) (st' := [bI (b32 (bAndL v4 127)), .ref s]) l63_28 (fun _ => rfl) ?_
      refine b_sipush l63_30 (by decide) (b_pc (pc' := 33) rfl ?_)
      refine b_ior l63_33 (b_pc (pc' := 34) rfl ?_)
      refine b_s (pc' := 39) (lv1 := [(0, .ref s), (3, bI v3), (4, bLg v4), (6, bI v6), (7, bI (b32 (bAndL v4 127)))]) (st' := [bI (bOr (b32 (bAndL v4 127)) 128), .ref s]) l63_34 (fun _ => rfl) ?_
      refine b_cMv l63_39 rfl (b_rc (ci := 5) hs (by decide) (by decide +kernel)) (Nat.le_of_ble_eq_true rfl) (Nat.le_of_ble_eq_true rfl) rfl (r_X6_add s hs (bOr (b32 (bAndL v4 127)) 128) (bi_rg _)) fun w7 μ8 hw7 => bD.ok fun hk9 => b_pc (pc' := 42) rfl ?_
      refine b_s (pc' := 44) (lv1 := [(0, .ref s), (3, bI v3), (4, bLg v4), (6, bI v6), (7, bI (b32 (bAndL v4 127)))]) (st' := [bLg v4]) l63_42 (fun _ => rfl) ?_
      refine b_bipush l63_44 (by decide) (b_pc (pc' := 46) rfl ?_)
      refine b_lshr l63_46 (b_pc (pc' := 47) rfl ?_)
      refine b_w (pc' := 49) (lv1 := ax_st2 [(0, .ref s), (3, bI v3), (4, bLg v4), (6, bI v6), (7, bI (b32 (bAndL v4 127)))] 4 (bLg (bShrL v4 7))) (lv' := [(0, .ref s), (3, bI v3), (4, bLg (bShrL v4 7)), (6, bI v6)]) (st' := []) l63_47 (fun _ => rfl) (bSb rfl (bSb rfl (bSb rfl (bSb rfl bSn)))) ?_
      refine b_inc (lv' := [(0, .ref s), (3, bI v3), (4, bLg (bShrL v4 7)), (6, bI (v6 + 1))]) l63_49 rfl (by decide +kernel) (bSb rfl (bSb rfl (bSb rfl (bSb rfl bSn)))) fun g10 => (b_pc (pc' := 52) rfl ?_)
      refine b_s (pc' := 6) (lv1 := [(0, .ref s), (3, bI v3), (4, bLg (bShrL v4 7)), (6, bI (v6 + 1))]) (st' := []) l63_52 (fun _ => rfl) ?_
      refine bD.wk (lv' := [(0, .ref s), (3, bI v3), (4, bLg (bShrL v4 7)), (6, bI (v6 + 1))]) (bSb rfl (bSb rfl (bSb rfl (bSb rfl bSn)))) ?_
      exact H6 (bShrL v4 7) (v6 + 1) μ8 (bl_rg _) g10
theorem p_X6_addSevens_6 {L : Nat} {xs : Nat → Int32} {d : Nat} {μ : bM} {s : Nat} {κ : (Int × bM) → Option bX} (hr : ∀ r : Int × bM, κ r = (bMc) r) (hs : bStore s) {v3 : Int} (h3 : bR v3) {v4 : Int} (h4 : bRL v4) {v6 : Int} (h6 : bR v6) : bD L xs (d + 1) 63 6 [(0, .ref s), (3, bI v3), (4, bLg v4), (6, bI v6)] [] μ ((bLoop (fun z => F_X6_addSevens_6 s v3 z.1 z.2.1 z.2.2) (v4, v6, μ)).bind κ) :=
  b_loop (fun z => [(0, .ref s), (3, bI v3), (4, bLg z.1), (6, bI z.2.1)]) (fun z => z.2.2) (fun z => bRL z.1 ∧ bR z.2.1) (fun κ' hκ HH z hz => q_X6_addSevens_6 (κ := κ') (fun r => (hκ _).trans (hr r)) (fun a4 a6 am b4 b6 => HH (a4, a6, am) ⟨b4, b6⟩) hs h3 hz.1 hz.2) (v4, v6, μ) ⟨h4, h6⟩
theorem r_X6_addSevens {L : Nat} {xs : Nat → Int32} {d : Nat} {μ : bM} (s : Nat) (hs : bStore s) (v1 : Int) (h1 : bRL v1) (v3 : Int) (h3 : bR v3) : bD L xs (d + 1) 63 0 [(0, .ref s), (1, bLg v1), (3, bI v3)] [] μ ((F_X6_addSevens s v1 v3 μ).bind (bMc)) := by
  have hr : ∀ r, (bMc) r = (bMc) r := fun _ => rfl
  unfold F_X6_addSevens
  refine bD.ok fun hk => ?_
  refine b_s (pc' := 1) (lv1 := [(0, .ref s), (1, bLg v1), (3, bI v3)]) (st' := [bLg v1]) l63_0 (fun _ => rfl) ?_
  refine b_w (pc' := 3) (lv1 := ax_st2 [(0, .ref s), (1, bLg v1), (3, bI v3)] 4 (bLg v1)) (lv' := [(0, .ref s), (3, bI v3), (4, bLg v1)]) (st' := []) l63_1 (fun _ => rfl) (bSb rfl (bSb rfl (bSb rfl bSn))) ?_
  refine b_s (pc' := 4) (lv1 := [(0, .ref s), (3, bI v3), (4, bLg v1)]) (st' := [bI 1]) l63_3 (fun _ => rfl) ?_
  refine b_w (pc' := 6) (lv1 := ax_st1 [(0, .ref s), (3, bI v3), (4, bLg v1)] 6 (bI 1)) (lv' := [(0, .ref s), (3, bI v3), (4, bLg v1), (6, bI 1)]) (st' := []) l63_4 (fun _ => rfl) (bSb rfl (bSb rfl (bSb rfl (bSb rfl bSn)))) ?_
  refine bD.wk (lv' := [(0, .ref s), (3, bI v3), (4, bLg v1), (6, bI 1)]) (bSb rfl (bSb rfl (bSb rfl (bSb rfl bSn)))) ?_
  exact p_X6_addSevens_6 hr hs h3 h1 (by decide)
/-! ET$Store.addRow -/
theorem l61_0 : (ax_dt (ax_T 61)).lookup 0 = some (.aload_n 0, 1, 0, 0, 0) := by decide +kernel
theorem l61_1 : (ax_dt (ax_T 61)).lookup 1 = some (.lload_n 1, 1, 0, 0, 0) := by decide +kernel
theorem l61_2 : (ax_dt (ax_T 61)).lookup 2 = some (.lload_n 1, 1, 0, 0, 0) := by decide +kernel
theorem l61_3 : (ax_dt (ax_T 61)).lookup 3 = some (.invokestatic 29, 3, 68, 1, 0) := by decide +kernel
theorem l61_6 : (ax_dt (ax_T 61)).lookup 6 = some (.invokevirtual 33, 3, 63, 2, 0) := by decide +kernel
theorem l61_9 : (ax_dt (ax_T 61)).lookup 9 = some (.return_, 1, 0, 0, 0) := by decide +kernel
noncomputable def F_X6_addRow (s : Nat) (v1 : Int) (μ : bM) : Option (Int × bM) := (F_X6_rowSize v1 μ).bind fun w1 => bMm (F_X6_addSevens s v1 w1 μ) (fun w2 μ3 => some (0, μ3))
theorem r_X6_addRow {L : Nat} {xs : Nat → Int32} {d : Nat} {μ : bM} (s : Nat) (hs : bStore s) (v1 : Int) (h1 : bRL v1) : bD L xs (d + 2) 61 0 [(0, .ref s), (1, bLg v1)] [] μ ((F_X6_addRow s v1 μ).bind (bMc)) := by
  have hr : ∀ r, (bMc) r = (bMc) r := fun _ => rfl
  unfold F_X6_addRow
  refine bD.ok fun hk => ?_
  refine b_s (pc' := 1) (lv1 := [(0, .ref s), (1, bLg v1)]) (st' := [.ref s]) l61_0 (fun _ => rfl) ?_
  refine b_s (pc' := 2) (lv1 := [(0, .ref s), (1, bLg v1)]) (st' := [bLg v1, .ref s]) l61_1 (fun _ => rfl) ?_
  refine b_s (pc' := 3) (lv1 := [(0, .ref s), (1, bLg v1)]) (st' := [bLg v1, bLg v1, .ref s]) l61_2 (fun _ => rfl) ?_
  refine b_cPi l61_3 rfl (fun _ => trivial) (Nat.le_of_ble_eq_true rfl) (Nat.le_of_ble_eq_true rfl) rfl (r_X6_rowSize v1 h1) fun w1 hw1 => b_pc (pc' := 6) rfl ?_
  refine b_cMv l61_6 rfl (b_rc (ci := 5) hs (by decide) (by decide +kernel)) (Nat.le_of_ble_eq_true rfl) (Nat.le_of_ble_eq_true rfl) rfl (r_X6_addSevens s hs v1 h1 w1 hw1) fun w2 μ3 hw2 => bD.ok fun hk4 => b_pc (pc' := 9) rfl ?_
  exact b_retv l61_9 rfl (hr _)
/-! ET$Store.addSignedRow -/
theorem l62_0 : (ax_dt (ax_T 62)).lookup 0 = some (.aload_n 0, 1, 0, 0, 0) := by decide +kernel
theorem l62_1 : (ax_dt (ax_T 62)).lookup 1 = some (.lload_n 1, 1, 0, 0, 0) := by decide +kernel
theorem l62_2 : (ax_dt (ax_T 62)).lookup 2 = some (.lload_n 1, 1, 0, 0, 0) := by decide +kernel
theorem l62_3 : (ax_dt (ax_T 62)).lookup 3 = some (.invokestatic 37, 3, 69, 1, 0) := by decide +kernel
theorem l62_6 : (ax_dt (ax_T 62)).lookup 6 = some (.invokevirtual 33, 3, 63, 2, 0) := by decide +kernel
theorem l62_9 : (ax_dt (ax_T 62)).lookup 9 = some (.return_, 1, 0, 0, 0) := by decide +kernel
noncomputable def F_X6_addSignedRow (s : Nat) (v1 : Int) (μ : bM) : Option (Int × bM) := (F_X6_signedRowSize v1 μ).bind fun w1 => bMm (F_X6_addSevens s v1 w1 μ) (fun w2 μ3 => some (0, μ3))
theorem r_X6_addSignedRow {L : Nat} {xs : Nat → Int32} {d : Nat} {μ : bM} (s : Nat) (hs : bStore s) (v1 : Int) (h1 : bRL v1) : bD L xs (d + 2) 62 0 [(0, .ref s), (1, bLg v1)] [] μ ((F_X6_addSignedRow s v1 μ).bind (bMc)) := by
  have hr : ∀ r, (bMc) r = (bMc) r := fun _ => rfl
  unfold F_X6_addSignedRow
  refine bD.ok fun hk => ?_
  refine b_s (pc' := 1) (lv1 := [(0, .ref s), (1, bLg v1)]) (st' := [.ref s]) l62_0 (fun _ => rfl) ?_
  refine b_s (pc' := 2) (lv1 := [(0, .ref s), (1, bLg v1)]) (st' := [bLg v1, .ref s]) l62_1 (fun _ => rfl) ?_
  refine b_s (pc' := 3) (lv1 := [(0, .ref s), (1, bLg v1)]) (st' := [bLg v1, bLg v1, .ref s]) l62_2 (fun _ => rfl) ?_
  refine b_cPi l62_3 rfl (fun _ => trivial) (Nat.le_of_ble_eq_true rfl) (Nat.le_of_ble_eq_true rfl) rfl (r_X6_signedRowSize v1 h1) fun w1 hw1 => b_pc (pc' := 6) rfl ?_
  refine b_cMv l62_6 rfl (b_rc (ci := 5) hs (by decide) (by decide +kernel)) (Nat.le_of_ble_eq_true rfl) (Nat.le_of_ble_eq_true rfl) rfl (r_X6_addSevens s hs v1 h1 w1 hw1) fun w2 μ3 hw2 => bD.ok fun hk4 => b_pc (pc' := 9) rfl ?_
  exact b_retv l62_9 rfl (hr _)
/-! ET$Store.addFrom -/
theorem l64_0 : (ax_dt (ax_T 64)).lookup 0 = some (.iconst 0, 1, 0, 0, 0) := by decide +kernel
theorem l64_1 : (ax_dt (ax_T 64)).lookup 1 = some (.istore 4, 2, 0, 0, 0) := by decide +kernel
theorem l64_3 : (ax_dt (ax_T 64)).lookup 3 = some (.iload 4, 2, 0, 0, 0) := by decide +kernel
theorem l64_5 : (ax_dt (ax_T 64)).lookup 5 = some (.iload_n 3, 1, 0, 0, 0) := by decide +kernel
theorem l64_6 : (ax_dt (ax_T 64)).lookup 6 = some (.if_icmp .ge 21, 3, 0, 0, 0) := by decide +kernel
theorem l64_9 : (ax_dt (ax_T 64)).lookup 9 = some (.aload_n 0, 1, 0, 0, 0) := by decide +kernel
theorem l64_10 : (ax_dt (ax_T 64)).lookup 10 = some (.aload_n 1, 1, 0, 0, 0) := by decide +kernel
theorem l64_11 : (ax_dt (ax_T 64)).lookup 11 = some (.iload_n 2, 1, 0, 0, 0) := by decide +kernel
theorem l64_12 : (ax_dt (ax_T 64)).lookup 12 = some (.iload 4, 2, 0, 0, 0) := by decide +kernel
theorem l64_14 : (ax_dt (ax_T 64)).lookup 14 = some (.iadd, 1, 0, 0, 0) := by decide +kernel
theorem l64_15 : (ax_dt (ax_T 64)).lookup 15 = some (.invokevirtual 42, 3, 55, 1, 0) := by decide +kernel
theorem l64_18 : (ax_dt (ax_T 64)).lookup 18 = some (.invokevirtual 25, 3, 58, 1, 0) := by decide +kernel
theorem l64_21 : (ax_dt (ax_T 64)).lookup 21 = some (.iinc 4 1, 3, 0, 0, 0) := by decide +kernel
theorem l64_24 : (ax_dt (ax_T 64)).lookup 24 = some (.goto (-21), 3, 0, 0, 0) := by decide +kernel
theorem l64_27 : (ax_dt (ax_T 64)).lookup 27 = some (.return_, 1, 0, 0, 0) := by decide +kernel
noncomputable def F_X6_addFrom_3 (s : Nat) (s2 : Nat) (v2 : Int) (v3 : Int) (v4 : Int) (μ : bM) : Option ((Int × bM) ⊕ (Int × bM)) := if v3 ≤ v4 then some (.inr (0, μ)) else bG (bR (v2 + v4)) ((F_X6_at s2 (v2 + v4) μ).bind fun w3 => bMm (F_X6_add s w3 μ) (fun w4 μ5 => bG (bR (v4 + 1)) (some (.inl ((v4 + 1), μ5)))))
noncomputable def F_X6_addFrom (s : Nat) (s2 : Nat) (v2 : Int) (v3 : Int) (μ : bM) : Option (Int × bM) := bLoop (fun z => F_X6_addFrom_3 s s2 v2 v3 z.1 z.2) (0, μ)
theorem q_X6_addFrom_3 {L : Nat} {xs : Nat → Int32} {d : Nat} {μ : bM} {s : Nat} {s2 : Nat} {v2 : Int} {v3 : Int} {κ : ((Int × bM) ⊕ (Int × bM)) → Option bX} (hr : ∀ r : Int × bM, κ (.inr r) = (bMc) r) (H3 : ∀ (v4 : Int) (μ : bM), bR v4 → bD L xs (d + 1) 64 3 [(0, .ref s), (1, .ref s2), (2, bI v2), (3, bI v3), (4, bI v4)] [] μ (κ (.inl (v4, μ)))) (hs : bStore s) (hs2 : bStore s2) (h2 : bR v2) (h3 : bR v3) {v4 : Int} (h4 : bR v4) : bD L xs (d + 1) 64 3 [(0, .ref s), (1, .ref s2), (2, bI v2), (3, bI v3), (4, bI v4)] [] μ ((F_X6_addFrom_3 s s2 v2 v3 v4 μ).bind κ) := by
  unfold F_X6_addFrom_3
  refine bD.ok fun hk => ?_
  refine b_s (pc' := 5) (lv1 := [(0, .ref s), (1, .ref s2), (2, bI v2), (3, bI v3), (4, bI v4)]) (st' := [bI v4]) l64_3 (fun _ => rfl) ?_
  refine b_s (pc' := 6) (lv1 := [(0, .ref s), (1, .ref s2), (2, bI v2), (3, bI v3), (4, bI v4)]) (st' := [bI v3, bI v4]) l64_5 (fun _ => rfl) ?_
  refine b_ige (pt := 27) l64_6 h4 h3 (by decide) rfl (fun c1 => ?_) (fun c1 => b_pc (pc' := 9) rfl ?_)
  · exact b_retv l64_27 rfl (hr _)
  · refine b_s (pc' := 10) (lv1 := [(0, .ref s), (1, .ref s2), (2, bI v2), (3, bI v3), (4, bI v4)]) (st' := [.ref s]) l64_9 (fun _ => rfl) ?_
    refine b_s (pc' := 11) (lv1 := [(0, .ref s), (1, .ref s2), (2, bI v2), (3, bI v3), (4, bI v4)]) (st' := [.ref s2, .ref s]) l64_10 (fun _ => rfl) ?_
    refine b_s (pc' := 12) (lv1 := [(0, .ref s), (1, .ref s2), (2, bI v2), (3, bI v3), (4, bI v4)]) (st' := [bI v2, .ref s2, .ref s]) l64_11 (fun _ => rfl) ?_
    refine b_s (pc' := 14) (lv1 := [(0, .ref s), (1, .ref s2), (2, bI v2), (3, bI v3), (4, bI v4)]) (st' := [bI v4, bI v2, .ref s2, .ref s]) l64_12 (fun _ => rfl) ?_
    refine b_iadd l64_14 fun g2 => (b_pc (pc' := 15) rfl ?_)
    refine b_cPi l64_15 rfl (b_rc (ci := 5) hs2 (by decide) (by decide +kernel)) (Nat.le_of_ble_eq_true rfl) (Nat.le_of_ble_eq_true rfl) rfl (r_X6_at s2 hs2 (v2 + v4) g2) fun w3 hw3 => b_pc (pc' := 18) rfl ?_
    refine b_cMv l64_18 rfl (b_rc (ci := 5) hs (by decide) (by decide +kernel)) (Nat.le_of_ble_eq_true rfl) (Nat.le_of_ble_eq_true rfl) rfl (r_X6_add s hs w3 hw3) fun w4 μ5 hw4 => bD.ok fun hk6 => b_pc (pc' := 21) rfl ?_
    refine b_inc (lv' := [(0, .ref s), (1, .ref s2), (2, bI v2), (3, bI v3), (4, bI (v4 + 1))]) l64_21 rfl (by decide +kernel) (bSb rfl (bSb rfl (bSb rfl (bSb rfl (bSb rfl bSn))))) fun g7 => (b_pc (pc' := 24) rfl ?_)
    refine b_s (pc' := 3) (lv1 := [(0, .ref s), (1, .ref s2), (2, bI v2), (3, bI v3), (4, bI (v4 + 1))]) (st' := []) l64_24 (fun _ => rfl) ?_
    refine bD.wk (lv' := [(0, .ref s), (1, .ref s2), (2, bI v2), (3, bI v3), (4, bI (v4 + 1))]) (bSb rfl (bSb rfl (bSb rfl (bSb rfl (bSb rfl bSn))))) ?_
    exact H3 (v4 + 1) μ5 g7
theorem p_X6_addFrom_3 {L : Nat} {xs : Nat → Int32} {d : Nat} {μ : bM} {s : Nat} {s2 : Nat} {κ : (Int × bM) → Option bX} (hr : ∀ r : Int × bM, κ r = (bMc) r) (hs : bStore s) (hs2 : bStore s2) {v2 : Int} (h2 : bR v2) {v3 : Int} (h3 : bR v3) {v4 : Int} (h4 : bR v4) : bD L xs (d + 1) 64 3 [(0, .ref s), (1, .ref s2), (2, bI v2), (3, bI v3), (4, bI v4)] [] μ ((bLoop (fun z => F_X6_addFrom_3 s s2 v2 v3 z.1 z.2) (v4, μ)).bind κ) :=
  b_loop (fun z => [(0, .ref s), (1, .ref s2), (2, bI v2), (3, bI v3), (4, bI z.1)]) (fun z => z.2) (fun z => bR z.1) (fun κ' hκ HH z hz => q_X6_addFrom_3 (κ := κ') (fun r => (hκ _).trans (hr r)) (fun a4 am b4 => HH (a4, am) b4) hs hs2 h2 h3 hz) (v4, μ) h4
theorem r_X6_addFrom {L : Nat} {xs : Nat → Int32} {d : Nat} {μ : bM} (s : Nat) (hs : bStore s) (s2 : Nat) (hs2 : bStore s2) (v2 : Int) (h2 : bR v2) (v3 : Int) (h3 : bR v3) : bD L xs (d + 1) 64 0 [(0, .ref s), (1, .ref s2), (2, bI v2), (3, bI v3)] [] μ ((F_X6_addFrom s s2 v2 v3 μ).bind (bMc)) := by
  have hr : ∀ r, (bMc) r = (bMc) r := fun _ => rfl
  unfold F_X6_addFrom
  refine bD.ok fun hk => ?_
  refine b_s (pc' := 1) (lv1 := [(0, .ref s), (1, .ref s2), (2, bI v2), (3, bI v3)]) (st' := [bI 0]) l64_0 (fun _ => rfl) ?_
  refine b_w (pc' := 3) (lv1 := ax_st1 [(0, .ref s), (1, .ref s2), (2, bI v2), (3, bI v3)] 4 (bI 0)) (lv' := [(0, .ref s), (1, .ref s2), (2, bI v2), (3, bI v3), (4, bI 0)]) (st' := []) l64_1 (fun _ => rfl) (bSb rfl (bSb rfl (bSb rfl (bSb rfl (bSb rfl bSn))))) ?_
  refine bD.wk (lv' := [(0, .ref s), (1, .ref s2), (2, bI v2), (3, bI v3), (4, bI 0)]) (bSb rfl (bSb rfl (bSb rfl (bSb rfl (bSb rfl bSn))))) ?_
  exact p_X6_addFrom_3 hr hs hs2 h2 h3 (by decide)
end
